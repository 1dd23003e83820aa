/-! bounds of open numbers, small rows -/
theorem b_lt {x a : Int32} (h : x < a) {n : Int} (e : a.toInt - 1 = n) : x.toInt ≤ n := by
  have := Int32.lt_iff_toInt_lt.mp h
  omega
theorem b_nlt {x a : Int32} (h : ¬ x < a) {n : Int} (e : a.toInt = n) : n ≤ x.toInt := by
  have := mt Int32.lt_iff_toInt_lt.mpr h
  omega
theorem b_ge {x a : Int32} (h : a ≤ x) {n : Int} (e : a.toInt = n) : n ≤ x.toInt := by
  have := Int32.le_iff_toInt_le.mp h
  omega
theorem b_nge {x a : Int32} (h : ¬ a ≤ x) {n : Int} (e : a.toInt - 1 = n) : x.toInt ≤ n := by
  have := mt Int32.le_iff_toInt_le.mpr h
  omega
theorem b_gt {x a : Int32} (h : a < x) {n : Int} (e : a.toInt + 1 = n) : n ≤ x.toInt := by
  have := Int32.lt_iff_toInt_lt.mp h
  omega
theorem b_ngt {x a : Int32} (h : ¬ a < x) {n : Int} (e : a.toInt = n) : x.toInt ≤ n := by
  have := mt Int32.lt_iff_toInt_lt.mpr h
  omega
theorem b_le {x a : Int32} (h : x ≤ a) {n : Int} (e : a.toInt = n) : x.toInt ≤ n := by
  have := Int32.le_iff_toInt_le.mp h
  omega
theorem b_nle {x a : Int32} (h : ¬ x ≤ a) {n : Int} (e : a.toInt + 1 = n) : n ≤ x.toInt := by
  have := mt Int32.le_iff_toInt_le.mpr h
  omega
theorem q_lt {x a : Int32} {n : Int} (h : x.toInt ≤ n) (e : n < a.toInt) : x < a := Int32.lt_iff_toInt_lt.mpr (by omega)
theorem q_nlt {x a : Int32} {n : Int} (h : n ≤ x.toInt) (e : a.toInt ≤ n) : ¬ x < a := mt Int32.lt_iff_toInt_lt.mp (by omega)
theorem q_ge {x a : Int32} {n : Int} (h : n ≤ x.toInt) (e : a.toInt ≤ n) : a ≤ x := Int32.le_iff_toInt_le.mpr (by omega)
theorem q_nge {x a : Int32} {n : Int} (h : x.toInt ≤ n) (e : n < a.toInt) : ¬ a ≤ x := mt Int32.le_iff_toInt_le.mp (by omega)
theorem q_gt {x a : Int32} {n : Int} (h : n ≤ x.toInt) (e : a.toInt < n) : a < x := Int32.lt_iff_toInt_lt.mpr (by omega)
theorem q_ngt {x a : Int32} {n : Int} (h : x.toInt ≤ n) (e : n ≤ a.toInt) : ¬ a < x := mt Int32.lt_iff_toInt_lt.mp (by omega)
theorem q_le {x a : Int32} {n : Int} (h : x.toInt ≤ n) (e : n ≤ a.toInt) : x ≤ a := Int32.le_iff_toInt_le.mpr (by omega)
theorem q_nle {x a : Int32} {n : Int} (h : n ≤ x.toInt) (e : a.toInt < n) : ¬ x ≤ a := mt Int32.le_iff_toInt_le.mp (by omega)
theorem q_nel {x a : Int32} {n : Int} (h : n ≤ x.toInt) (e : a.toInt < n) : ¬ x = a := fun z => by
  subst z
  omega
theorem q_neh {x a : Int32} {n : Int} (h : x.toInt ≤ n) (e : n < a.toInt) : ¬ x = a := fun z => by
  subst z
  omega
theorem q_eq {x a : Int32} {n : Int} (h1 : n ≤ x.toInt) (h2 : x.toInt ≤ n) (e : a.toInt = n) : x = a := Int32.toInt_inj.mp (by omega)
theorem q_abs {x : Int32} {n m : Int} (h1 : n ≤ x.toInt) (h2 : x.toInt ≤ m) (e : m < n) : False := by omega
theorem q_bump {x a : Int32} {n : Int} (h1 : n ≤ x.toInt) (h2 : ¬ x = a) (e : a.toInt = n) {k : Int} (ek : n + 1 = k) : k ≤ x.toInt := by
  have := mt Int32.toInt_inj.mp h2
  omega
theorem neT {x a : Int32} {n : Int} (h : ¬ x = a) (e : a.toInt = n) : ¬ x.toInt = n := fun z => h (Int32.toInt_inj.mp (by omega))
theorem zshr (y : Int32) : (0 : Int64) >>> (y.toInt64 &&& 63) = 0 := by simp
theorem zshl (y : Int32) : (0 : Int64) <<< (y.toInt64 &&& 63) = 0 := by simp
theorem vpin (i : Int32) (n : Nat) (h : decide (¬ (i < 0 ∨ n ≤ i.toNatClampNeg)) = true) : vp_in i n := by
  unfold vp_in
  exact of_decide_eq_true h
def GM (own : String) (index : Nat) (y : MethodName) (code : ByteArray) : Prop := Cond.methodLink own index y ∈ lw_good ∧ Cond.static y ∈ lw_good ∧ Cond.initialized "java/lang/Math" ∈ lw_good ∧ Cond.code y code 2 (some .int) ∈ lw_good
section VM0
variable {p : Program} {l : Launch} {e : Env} {R : Room} {s : State} {m : MethodId} {args : Array Value} {below : List Frame} {meth : Method} {c : Code} {cells slots : Nat} {Q : State → Prop} {D : va_G} {Y : Nat → ClassId} {A : Nat → Prop} {cc : ByteArray} {nL : Nat} {own : String} {ret : Option FieldType} {lv : List (Nat × Value)} {st : List Value} {ws : va_W}
theorem V_mmax (pc : Nat) (B : VB p s m args meth c D Y A cc nL own ret) {index : Nat} {x y v : Int32} (g : GM own index Lib.Math.max.name Lib.Math.max.code) (d : decode cc pc = .ok (.invokestatic index, 3)) (hf : 1 ≤ R.frames) (hlo : (st.map fun v => v.category).sum + 13 ≤ R.locals) (hc : cells ≤ R.cells) (hs : slots ≤ R.slots) (hv : (if x < y then y else x) = v) (k : V p l e R s m args below meth c D A nL cells slots Q (pc + 3) lv (.int v :: st) ws) : V p l e R s m args below meth c D A nL cells slots Q pc lv (.int y :: .int x :: st) ws := fun H locs ls hl hP hD hS => by
  subst hv
  exact va_mmax B.1.1 B.1.2.1 (by rw [B.1.2.2.1]; exact hl.1.symm) B.1.2.2.2.1 (B.1.2.2.2.2 _ g.1) (B.1.2.2.2.2 _ g.2.1) (B.1.2.2.2.2 _ g.2.2.1) (B.1.2.2.2.2 _ g.2.2.2) hf hlo hc hs d (k H locs ls hl hP hD hS)
theorem V_mmin (pc : Nat) (B : VB p s m args meth c D Y A cc nL own ret) {index : Nat} {x y v : Int32} (g : GM own index Lib.Math.min.name Lib.Math.min.code) (d : decode cc pc = .ok (.invokestatic index, 3)) (hf : 1 ≤ R.frames) (hlo : (st.map fun v => v.category).sum + 13 ≤ R.locals) (hc : cells ≤ R.cells) (hs : slots ≤ R.slots) (hv : (if y < x then y else x) = v) (k : V p l e R s m args below meth c D A nL cells slots Q (pc + 3) lv (.int v :: st) ws) : V p l e R s m args below meth c D A nL cells slots Q pc lv (.int y :: .int x :: st) ws := fun H locs ls hl hP hD hS => by
  subst hv
  exact va_mmin B.1.1 B.1.2.1 (by rw [B.1.2.2.1]; exact hl.1.symm) B.1.2.2.2.1 (B.1.2.2.2.2 _ g.1) (B.1.2.2.2.2 _ g.2.1) (B.1.2.2.2.2 _ g.2.2.1) (B.1.2.2.2.2 _ g.2.2.2) hf hlo hc hs d (k H locs ls hl hP hD hS)
theorem V_ws (ws2 : va_W) (h : ws = ws2) {pc : Nat} (k : V p l e R s m args below meth c D A nL cells slots Q pc lv st ws2) : V p l e R s m args below meth c D A nL cells slots Q pc lv st ws := by
  subst h
  exact k
end VM0
