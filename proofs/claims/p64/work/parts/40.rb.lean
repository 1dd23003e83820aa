/-! THE REFERENCE'S CELLS: what each may hold -/
abbrev FREE : Int × Int := (-2147483648, 2147483647)
def bdF (j : Nat) : Int × Int :=
  if j = 0 then (0, 6) else if j = 1 then (0, 40) else if j = 2 then (0, 6) else if j = 3 then (0, 80) else if j = 4 then (0, 4)
  else if j = 6 then (-1, 5) else if j = 7 then (0, 8) else if j = 8 then (0, 3) else if j = 15 then (0, 10)
  else if j < 16 then FREE
  else if j < 22 then (-1, (j : Int) - 17)
  else if j < 30 then (-1, 5)
  else if j < 34 then FREE
  else if j < 154 then (if (j - 34) % 3 = 1 then (-1, 5) else FREE)
  else if j < 184 then (if (j - 154) % 5 = 0 then (0, 4) else FREE)
  else if j < 744 then (if (j - 184) % 7 = 1 then (0, 39) else if (j - 184) % 7 = 2 then (0, 4) else FREE)
  else if j < 856 then FREE
  else (if (j - 856) % 5 = 0 then (0, 4) else FREE)
def bd (k : Nat) : Int × Int := if k = 922 ∨ k = 1828 ∨ k = 2734 then (1, 0) else if k < 3624 then bdF (k % 906) else if k = 3624 ∨ k = 3629 then (0, 4) else FREE
/-- ph: what the first parent of a block that may lie bare holds -/
def INV (ph f : Nat → Int32) : Prop := ∀ k, k < 3640 → (¬ bd k = (1, 0) → (bd k).1 ≤ (f k).toInt ∧ (f k).toInt ≤ (bd k).2) ∧ (bd k = (1, 0) → f k = ph k)
def gN (f : Nat → Int32) (k : Nat) : Nat := (f k).toNatClampNeg
theorem INV_b {ph f : Nat → Int32} (h : INV ph f) {k : Nat} {a b : Int} (hk : k < 3640) (hb : bd k = (a, b)) (ha : a ≠ 1) : a ≤ (f k).toInt ∧ (f k).toInt ≤ b := by
  have h1 := (h k hk).1 (by
    rw [hb]
    intro z
    exact ha (congrArg Prod.fst z))
  rw [hb] at h1
  exact h1
theorem gN_eq {ph f : Nat → Int32} (h : INV ph f) {k N : Nat} (hk : k < 3640) (hb : bd k = (0, (N : Int))) : f k = nI (gN f k) := by
  have h1 := (INV_b h hk hb (by decide)).1
  obtain ⟨j, hj, e⟩ := nI_of (x := f k) (fun z => by
    have := Int32.lt_iff_toInt_lt.mp z
    have e0 : (0 : Int32).toInt = 0 := by decide
    omega)
  unfold gN
  rw [e, nI_clamp hj]
theorem gN_le {ph f : Nat → Int32} (h : INV ph f) {k N : Nat} (hk : k < 3640) (hb : bd k = (0, (N : Int))) : gN f k ≤ N := by
  have h2 := (INV_b h hk hb (by decide)).2
  have e : gN f k = (f k).toInt.toNat := rfl
  omega
theorem INV_lo {ph f : Nat → Int32} (h : INV ph f) {k : Nat} {a b : Int} (hk : k < 3640) (hb : bd k = (a, b)) (ha : a ≠ 1 := by decide) : a ≤ (f k).toInt := (INV_b h hk hb ha).1
theorem INV_hi {ph f : Nat → Int32} (h : INV ph f) {k : Nat} {a b : Int} (hk : k < 3640) (hb : bd k = (a, b)) (ha : a ≠ 1 := by decide) : (f k).toInt ≤ b := (INV_b h hk hb ha).2
theorem INV_upd {ph f : Nat → Int32} (h : INV ph f) {k : Nat} {v : Int32} {a b : Int} (hb : bd k = (a, b)) (h1 : a ≤ v.toInt) (h2 : v.toInt ≤ b) : INV ph (upd f k v) := by
  intro j hj
  unfold upd
  by_cases e : j = k
  · subst e
    rw [if_pos rfl, hb]
    refine ⟨fun _ => ⟨h1, h2⟩, fun z => ?_⟩
    have z1 : a = 1 := congrArg Prod.fst z
    have z2 : b = 0 := congrArg Prod.snd z
    omega
  · rw [if_neg e]
    exact h j hj
theorem INV_free {ph f : Nat → Int32} (h : INV ph f) {k : Nat} {v : Int32} (hb : bd k = FREE) : INV ph (upd f k v) := INV_upd h hb (i_lo v) (i_hi v)
theorem INV_nat {ph f : Nat → Int32} (h : INV ph f) {k v N : Nat} (hb : bd k = (0, (N : Int))) (hv : v ≤ N) (hN : N < 2 ^ 31) : INV ph (upd f k (nI v)) := INV_upd h hb (by rw [nI_toInt (by omega)]; omega) (by rw [nI_toInt (by omega)]; omega)
theorem upd_ne {f : Nat → Int32} {k j : Nat} {v : Int32} (h : j ≠ k) : upd f k v j = f j := by
  unfold upd
  rw [if_neg h]
theorem upd_at {f : Nat → Int32} {k : Nat} {v : Int32} : upd f k v k = v := by
  unfold upd
  rw [if_pos rfl]
theorem nI_addE {a b c : Nat} (h : a + b = c) : nI a + nI b = nI c := by rw [nI_add, h]
theorem nI_mulE {a b c : Nat} (h : a * b = c) : nI a * nI b = nI c := by rw [pk_mul, h]
theorem nI_subE {a b c : Nat} (h : c + b = a) : nI a - nI b = nI c := by
  subst h
  rw [← nI_add]
  exact Int32.add_sub_cancel _ _
theorem nI_subT {a b : Nat} (ha : a < 2 ^ 31) (hb : b < 2 ^ 31) : (nI a - nI b).toInt = (a : Int) - b := by
  rw [Int32.toInt_sub, nI_toInt ha, nI_toInt hb]
  exact Int.bmod_eq_of_le (by omega) (by omega)
theorem n_lt {a b : Nat} (k : nI a < nI b) (ha : a < 2 ^ 31) (hb : b < 2 ^ 31) : a < b := (nI_ltI ha hb).mp k
theorem n_nlt {a b : Nat} (k : ¬ nI a < nI b) (ha : a < 2 ^ 31) (hb : b < 2 ^ 31) : b ≤ a := Nat.le_of_not_lt (fun z => k ((nI_ltI ha hb).mpr z))
theorem n_le {a b : Nat} (k : nI a ≤ nI b) (ha : a < 2 ^ 31) (hb : b < 2 ^ 31) : a ≤ b := (nI_leI ha hb).mp k
theorem n_nle {a b : Nat} (k : ¬ nI a ≤ nI b) (ha : a < 2 ^ 31) (hb : b < 2 ^ 31) : b < a := Nat.lt_of_not_le (fun z => k ((nI_leI ha hb).mpr z))
theorem n_eq {a b : Nat} (k : nI a = nI b) (ha : a < 2 ^ 31) (hb : b < 2 ^ 31) : a = b := (nI_eq ha hb).mp k
theorem n_ne {a b : Nat} (k : ¬ nI a = nI b) : a ≠ b := fun z => k (by rw [z])
theorem x_lt {x y : Int32} (k : x < y) : x.toInt < y.toInt := Int32.lt_iff_toInt_lt.mp k
theorem x_nlt {x y : Int32} (k : ¬ x < y) : y.toInt ≤ x.toInt := Int32.le_iff_toInt_le.mp (Int32.not_lt.mp k)
theorem x_le {x y : Int32} (k : x ≤ y) : x.toInt ≤ y.toInt := Int32.le_iff_toInt_le.mp k
theorem x_nle {x y : Int32} (k : ¬ x ≤ y) : y.toInt < x.toInt := Int32.lt_iff_toInt_lt.mp (Int32.not_le.mp k)
theorem x_eq {x y : Int32} (k : x = y) : x.toInt = y.toInt := by rw [k]
theorem x_ne {x y : Int32} (k : ¬ x = y) : ¬ x.toInt = y.toInt := fun z => k (Int32.toInt_inj.mp z)
theorem nat_of {x : Int32} {n : Nat} (h1 : 0 ≤ x.toInt) (h2 : x.toInt ≤ n) : ∃ k : Nat, k ≤ n ∧ x = nI k := by
  obtain ⟨j, hj, e⟩ := nI_of (x := x) (fun z => by
    have := Int32.lt_iff_toInt_lt.mp z
    have e0 : (0 : Int32).toInt = 0 := by decide
    omega)
  refine ⟨j, ?_, e⟩
  rw [e, nI_toInt hj] at h2
  omega
theorem and255_lo (x : Int32) : (0 : Int) ≤ (x &&& 255).toInt := by
  obtain ⟨j, hj, e⟩ := pk_andE x (m := 255) 8 (by decide +kernel)
  rw [e, nI_toInt (by omega)]
  omega
theorem and255_hi (x : Int32) : (x &&& 255).toInt ≤ 255 := by
  obtain ⟨j, hj, e⟩ := pk_andE x (m := 255) 8 (by decide +kernel)
  rw [e, nI_toInt (by omega)]
  omega
/-- a place where a sequence begins -/
def SQ (k : Nat) : Prop := k + 4 < 3640 ∧ bd k = (0, ((4 : Nat) : Int)) ∧ ∀ i, i < 4 → bd (k + 1 + i) = FREE
theorem SQ.fr {k : Nat} (h : SQ k) {j : Nat} (h1 : k + 1 ≤ j) (h2 : j ≤ k + 4) : bd j = FREE := by
  have := h.2.2 (j - (k + 1)) (by omega)
  rw [show k + 1 + (j - (k + 1)) = j by omega] at this
  exact this
/-- rows of play: where their strokes begin, and how many -/
def PLV (f : Nat → Int32) : Prop := ∀ r, r < 40 → (0 ≤ (f (5 * r + 3)).toInt ∧ (f (5 * r + 3)).toInt ≤ 160) ∧ (0 ≤ (f (5 * r + 4)).toInt ∧ (f (5 * r + 4)).toInt ≤ 4)
abbrev WU : Type := (Nat → Nat) × UU
abbrev mkW (n : List Nat) (a : List Int32) (b : List Int64) (c : List (Nat → Int32)) (d : List (Nat → Int64)) (e : List UInt32) : WU := (lk 0 n, mkU a b c d e)
/-- Range by three longs -/
theorem lc_ltL {x a : Int64} (h : lg_cmp x a < 0) : x.toInt < a.toInt := Int64.lt_iff_toInt_lt.mp ((lg_cmp_lt _ _).mp h)
theorem lc_nltL {x a : Int64} (h : ¬ lg_cmp x a < 0) : a.toInt ≤ x.toInt := by
  have h2 : ¬ x < a := fun z => h ((lg_cmp_lt _ _).mpr z)
  rw [Int64.lt_iff_toInt_lt] at h2
  omega
theorem lc_gtL {x a : Int64} (h : 0 < lg_cmp x a) : a.toInt < x.toInt := Int64.lt_iff_toInt_lt.mp ((lg_cmp_gt _ _).mp h)
theorem lc_ngtL {x a : Int64} (h : ¬ 0 < lg_cmp x a) : x.toInt ≤ a.toInt := by
  have h2 : ¬ a < x := fun z => h ((lg_cmp_gt _ _).mpr z)
  rw [Int64.lt_iff_toInt_lt] at h2
  omega
theorem fmet_of {l : Launch} {y : MethodName} {cc : ByteArray} {maxL : Nat} {ret : Option FieldType} {rm : Room} {D : va_G} {Y : Nat → ClassId} {As : List Value} {wc : va_W} {sz mc ms : Nat} {Qc : Array Value → State → Outcome → State → Prop}
    (hy : plainFor y = true) (hlen : (lg_sl As).length ≤ maxL)
    (body : ∀ (p : Program) (e : Env) (s : State) (m : MethodId) (args : Array Value) (below : List Frame) (meth : Method) (c : Code), VB p s m args meth c D Y (va_A wc sz) cc maxL y.cls ret → meth.name = y.name → s.heap.size = sz →
      V p l e rm s m args below meth c D (va_A wc sz) maxL 0 0 (MQ below Qc args s mc ms (va_A wc sz)) 0 (lv_args 0 As) [] wc) :
    Met l y (WSm y cc maxL ret) rm (PreC D Y As wc sz) Qc mc ms (va_A wc sz) := by
  refine va_MetF (cc := cc) (maxL := maxL) (ret := ret) hy rfl ?_
  intro p e s m args below meth c s₁ B hml hv
  obtain ⟨rfl, hsz, hP, hK, hD0⟩ := hv
  have hl := lv_entry As hlen
  rw [lg_entry_eq]
  exact body p e s m _ below meth c (VB_of B hml hK (fun q h => Or.inr (by omega))) (name_of_methodNamed B.named B.method).1 hsz s.heap [] _ hl hP hD0.self va_S.rf
def kmG (f : Nat → Int32) (a b m : Nat) : Nat → Nat
  | 0 => m
  | j + 1 => if f (1 + (m - (j + 1)) + a) = f (1 + (m - (j + 1)) + b) then kmG f a b m j else m - (j + 1)
theorem kmG_le (f : Nat → Int32) (a b m : Nat) : ∀ j, kmG f a b m j ≤ m := by
  intro j
  induction j with
  | zero => exact Nat.le_refl _
  | succ j ih =>
    unfold kmG
    by_cases h : f (1 + (m - (j + 1)) + a) = f (1 + (m - (j + 1)) + b)
    · rw [if_pos h]
      exact ih
    · rw [if_neg h]
      omega
def kmV (f : Nat → Int32) (a b : Nat) : Nat := kmG f a b (min (gN f a) (gN f b)) (min (gN f a) (gN f b))
theorem kmV_le (f : Nat → Int32) (a b : Nat) : kmV f a b ≤ min (gN f a) (gN f b) := kmG_le _ _ _ _ _
theorem km_end {f : Nat → Int32} {a b m i : Nat} (h : kmG f a b m (m - i) = kmG f a b m m) (h1 : m ≤ i) (h2 : i ≤ m) : nI i = nI (kmG f a b m m) := by
  obtain rfl : i = m := by omega
  rw [← h, Nat.sub_self]
  rfl
theorem km_neq {f : Nat → Int32} {a b m i : Nat} (h : kmG f a b m (m - i) = kmG f a b m m) (h1 : i < m) (e : ¬ f (1 + i + a) = f (1 + i + b)) : nI i = nI (kmG f a b m m) := by
  obtain ⟨j, hj⟩ : ∃ j, m - i = j + 1 := ⟨m - i - 1, by omega⟩
  rw [← h, hj, kmG, show m - (j + 1) = i by omega, if_neg e]
theorem km_eq {f : Nat → Int32} {a b m i : Nat} (h : kmG f a b m (m - i) = kmG f a b m m) (h1 : i < m) (e : f (1 + i + a) = f (1 + i + b)) : kmG f a b m (m - (1 + i)) = kmG f a b m m := by
  obtain ⟨j, hj⟩ : ∃ j, m - i = j + 1 := ⟨m - i - 1, by omega⟩
  rw [← h, hj, kmG, show m - (j + 1) = i by omega, if_pos e, show m - (1 + i) = j by omega]
def DC (f : Nat → Int32) (a b : Nat) : Prop := kmV f a b = min (gN f a) (gN f b)
def CL (f : Nat → Int32) (mode : Int32) (b a : Nat) : Prop := (mode = -1 ∨ f (184 + 7 * b) = mode) ∧ DC f (186 + 7 * b) a
def CLI (f : Nat → Int32) (mode but : Int32) (i a : Nat) : Prop := but = -1 → ∀ b, b < i → ¬ CL f mode b a
theorem nI_m1 {b : Nat} (h : b < 2 ^ 31) : ¬ nI b = -1 := fun z => by
  have h2 := nI_toInt h
  rw [z] at h2
  have h3 : (-1 : Int32).toInt = -1 := by decide
  omega
theorem cl_but {f : Nat → Int32} {mode but : Int32} {i a : Nat} (_ : CLI f mode but i a) (k : nI i = but) (hi : i < 1000) : CLI f mode but (1 + i) a := fun e => absurd (k.trans e) (nI_m1 (by omega))
theorem cl_mode {f : Nat → Int32} {mode but : Int32} {i a : Nat} (h : CLI f mode but i a) (k1 : ¬ mode = -1) (k2 : ¬ f (184 + 7 * i) = mode) : CLI f mode but (1 + i) a := fun e b hb hc => by
  rcases Nat.lt_or_ge b i with q | q
  · exact h e b q hc
  · obtain rfl : b = i := by omega
    rcases hc.1 with z | z
    · exact k1 z
    · exact k2 z
theorem cl_dc {f : Nat → Int32} {mode but : Int32} {i a : Nat} (h : CLI f mode but i a) (k : ¬ DC f (186 + 7 * i) a) : CLI f mode but (1 + i) a := fun e b hb hc => by
  rcases Nat.lt_or_ge b i with q | q
  · exact h e b q hc
  · obtain rfl : b = i := by omega
    exact k hc.2
theorem fo_lem {f : Nat → Int32} {mode : Int32} {a n : Nat} {j o : Int32} (h : j = 0 ∨ ∃ b : Nat, b < n ∧ CL f mode b a) (hn : CLI f mode (-1) n a) (e : o = nI n - j) (k : ¬ o = 80) (hle : n ≤ 80) : n < 80 := by
  rcases h with rfl | ⟨b, h1, h2⟩
  · rcases Nat.lt_or_ge n 80 with q | q
    · exact q
    · obtain rfl : n = 80 := by omega
      exact absurd e k
  · exact absurd h2 (hn rfl b h1)
theorem gN_ne {f : Nat → Int32} {k j : Nat} {v : Int32} (h : j ≠ k) : gN (upd f k v) j = gN f j := by
  unfold gN
  rw [upd_ne h]
theorem gN_at {f : Nat → Int32} {k v : Nat} (h : v < 2 ^ 31) : gN (upd f k (nI v)) k = v := by
  unfold gN
  rw [upd_at, nI_clamp h]
theorem gN_fr {f g : Nat → Int32} {a b k : Nat} (h : ∀ j, (j < a ∨ b ≤ j) → g j = f j) (h1 : k < a ∨ b ≤ k) : gN g k = gN f k := by
  unfold gN
  rw [h k h1]
theorem bd_sh : ∀ i, i < 737 → 184 ≤ i → bd (7 + i) = bd i := by decide +kernel
theorem bd_sh2 : ∀ i, i < 737 → 184 ≤ i → ¬ bd (7 + i) = (1, 0) := by decide +kernel
theorem INV_sh {ph f : Nat → Int32} (h : INV ph f) {i : Nat} (h1 : 184 ≤ i) (h2 : i < 737) : INV ph (upd f i (f (7 + i))) := by
  have q := (h (7 + i) (by omega)).1 (bd_sh2 i h2 h1)
  rw [bd_sh i h2 h1] at q
  exact INV_upd h (a := (bd i).1) (b := (bd i).2) rfl q.1 q.2
theorem nat_lt {x : Int32} {n : Nat} (h1 : 0 ≤ x.toInt) (h2 : x.toInt < n) : ∃ m : Nat, x = nI m ∧ m < n := by
  obtain ⟨j, hj, e⟩ := nI_of (x := x) (fun z => by
    have := Int32.lt_iff_toInt_lt.mp z
    have e0 : (0 : Int32).toInt = 0 := by decide
    omega)
  rw [e, nI_toInt hj] at h2
  exact ⟨j, e, by omega⟩
theorem half_dec {x : Int32} (h : 1 ≤ x.toInt) : 0 ≤ (x / 2).toInt ∧ (x / 2).toInt < x.toInt := by
  have e : (x / 2).toInt = x.toInt / 2 := by
    rw [Int32.toInt_div]
    rw [show (2 : Int32).toInt = 2 by decide]
    rw [Int.tdiv_eq_ediv_of_nonneg (by omega)]
    have := Int32.toInt_lt x
    exact Int.bmod_eq_of_le (by omega) (by omega)
  omega
theorem SQ_d : SQ 3624 := by unfold SQ; decide +kernel
theorem fr_upd {f g : Nat → Int32} {a b k : Nat} {v : Int32} (h : ∀ j, (j < a ∨ b ≤ j) → g j = f j) (h1 : a ≤ k) (h2 : k < b) : ∀ j, (j < a ∨ b ≤ j) → upd g k v j = f j := by
  intro j hj
  rw [upd_ne (by omega)]
  exact h j hj
def mkM (a : Int32) (p : Nat) : Nat := if a = 0 then 0 else if p = 0 then 1 else 2
theorem mk0 {a : Int32} {p q : Nat} (h : a = 1) : mkM 0 q < mkM a p := by
  subst h
  unfold mkM
  rw [if_pos rfl, if_neg (by decide)]
  by_cases hp : p = 0
  · rw [if_pos hp]
    omega
  · rw [if_neg hp]
    omega
theorem mk1 {a : Int32} {p q : Nat} (h : a = 1) (hp : 0 < p) (hq : q = 0) : mkM 1 q < mkM a p := by
  subst h
  unfold mkM
  rw [if_neg (by decide), if_pos hq, if_neg (by decide), if_neg (by omega)]
  omega
theorem gN_z {f : Nat → Int32} {k : Nat} : gN (upd f k 0) k = 0 := by
  unfold gN
  rw [upd_at]
  rfl
def BY (f : Nat → Int32) (L i : Nat) : Int32 := if i < L then f i &&& 255 else -1
theorem BY_rng (f : Nat → Int32) (L i : Nat) : -1 ≤ (BY f L i).toInt ∧ (BY f L i).toInt ≤ 255 := by
  unfold BY
  by_cases h : i < L
  · rw [if_pos h]
    have := and255_lo (f i)
    have := and255_hi (f i)
    omega
  · rw [if_neg h]
    decide
theorem BY_lt {f : Nat → Int32} {L i : Nat} {r : Int32} (e : r = BY f L i) (h : 0 ≤ r.toInt) : i < L := by
  rcases Nat.lt_or_ge i L with q | q
  · exact q
  · rw [e] at h
    unfold BY at h
    rw [if_neg (by omega), show (-1 : Int32).toInt = -1 by decide] at h
    omega
def LET (x : Int32) : Prop := (97 ≤ x.toInt ∧ x.toInt ≤ 122) ∨ (65 ≤ x.toInt ∧ x.toInt ≤ 90)
def DIG (x : Int32) : Prop := 48 ≤ x.toInt ∧ x.toInt ≤ 57
theorem LET_0 {x : Int32} (h : LET x) : 0 ≤ x.toInt := by
  unfold LET at h
  omega
theorem DIG_0 {x : Int32} (h : DIG x) : 0 ≤ x.toInt := by
  unfold DIG at h
  omega
theorem adv_lem {P : Int32 → Prop} {f : Nat → Int32} {L S x : Nat} {r : Int32} (e : r = BY f L x) (hn : ¬ P r) (h : x = S → P (BY f L S)) (hle : S ≤ x) : S < x := by
  rcases Nat.lt_or_ge S x with q | q
  · exact q
  · obtain rfl : x = S := by omega
    rw [e] at hn
    exact absurd (h rfl) hn
theorem l2i_rng {v : Int64} {h : Int} (h0 : 0 ≤ v.toInt) (h1 : v.toInt ≤ h) (hh : h ≤ 2147483647) : v.toInt32.toInt = v.toInt := by
  rw [Int64.toInt_toInt32]
  exact Int.bmod_eq_of_le (by omega) (by omega)
def VISn (f : Nat → Int32) (k : Nat) : Nat → Int32 → Prop
  | 0, x => x = f (184 + 7 * k)
  | n + 1, x => x = f (184 + 7 * k) ∨ (¬ x = -1 ∧ (∀ b, b < gN f 3 → ¬ CL f x b (186 + 7 * k)) ∧ VISn f k n (f (16 + x.toNatClampNeg)))
def VIS (f : Nat → Int32) (x : Int32) (k : Nat) : Prop := VISn f k 7 x
theorem vis_eq {f : Nat → Int32} {k m : Nat} {x : Int32} (h : x = f (184 + 7 * k)) : VISn f k m x := by
  cases m with
  | zero => exact h
  | succ m => exact Or.inl h
theorem vis_m1 {f : Nat → Int32} {k m : Nat} (h : ¬ (-1 : Int32) = f (184 + 7 * k)) : ¬ VISn f k m (-1) := by
  cases m with
  | zero => exact h
  | succ m =>
    intro z
    rcases z with z | z
    · exact h z
    · exact z.1 rfl
theorem vis_cl {f : Nat → Int32} {k m b : Nat} {x : Int32} (h : ¬ x = f (184 + 7 * k)) (hc : CL f x b (186 + 7 * k)) (hb : b < gN f 3) : ¬ VISn f k m x := by
  cases m with
  | zero => exact h
  | succ m =>
    intro z
    rcases z with z | z
    · exact h z
    · exact z.2.1 b hb hc
theorem vis_step {f : Nat → Int32} {k m n : Nat} {s y : Int32} (hm : (nI n).toInt + 1 ≤ m ∧ (VISn f k m (nI n) ↔ VIS f s k)) (hn : n < 6) (h : ¬ nI n = f (184 + 7 * k)) (hc : ∀ b, b < gN f 3 → ¬ CL f (nI n) b (186 + 7 * k)) (e : y = f (16 + n)) (hy : y.toInt ≤ (n : Int) - 1) : ∃ m : Nat, y.toInt + 1 ≤ m ∧ (VISn f k m y ↔ VIS f s k) := by
  rw [nI_toInt (by omega)] at hm
  obtain ⟨j, hj⟩ : ∃ j, m = j + 1 := ⟨m - 1, by omega⟩
  subst hj
  refine ⟨j, by omega, ?_⟩
  rw [← hm.2, e]
  constructor
  · intro z
    refine Or.inr ⟨nI_m1 (by omega), hc, ?_⟩
    rw [nI_clamp (by omega)]
    exact z
  · intro z
    rcases z with z | z
    · exact absurd z h
    · have z2 := z.2.2
      rw [nI_clamp (by omega)] at z2
      exact z2
theorem vc_y {f : Nat → Int32} {s : Int32} {c i : Nat} (h : c ≤ i ∧ (0 < c ↔ ∃ b : Nat, b < i ∧ VIS f s b)) (hv : VIS f s i) : 1 + c ≤ 1 + i ∧ (0 < 1 + c ↔ ∃ b : Nat, b < 1 + i ∧ VIS f s b) := ⟨by omega, ⟨fun _ => ⟨i, by omega, hv⟩, fun _ => by omega⟩⟩
theorem vc_n {f : Nat → Int32} {s : Int32} {c i : Nat} (h : c ≤ i ∧ (0 < c ↔ ∃ b : Nat, b < i ∧ VIS f s b)) (hv : ¬ VIS f s i) : c ≤ 1 + i ∧ (0 < c ↔ ∃ b : Nat, b < 1 + i ∧ VIS f s b) := by
  refine ⟨by omega, ?_⟩
  rw [h.2]
  constructor
  · rintro ⟨b, h1, h2⟩
    exact ⟨b, by omega, h2⟩
  · rintro ⟨b, h1, h2⟩
    rcases Nat.lt_or_ge b i with q | q
    · exact ⟨b, q, h2⟩
    · obtain rfl : b = i := by omega
      exact absurd h2 hv
theorem vc_end {f : Nat → Int32} {s : Int32} {c i n : Nat} (h : 0 < c ↔ ∃ b : Nat, b < i ∧ VIS f s b) (h1 : n ≤ i) (h2 : i ≤ n) : 0 < c ↔ ∃ b : Nat, b < n ∧ VIS f s b := by
  obtain rfl : i = n := by omega
  exact h
theorem bd_blk {j : Nat} (h : j < 906) (b : Nat) (hb : b ≤ 3) (hs : j = 16 → b = 0) : bd (906 * b + j) = bdF j := by
  unfold bd
  rw [if_neg (by omega), if_pos (by omega), show (906 * b + j) % 906 = j by omega]
