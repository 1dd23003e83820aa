/-! WORLDS AFTER A CALL: the callee's cells are put back at their places, new ones behind -/
def rep (ws : va_W) : List Nat → va_W → va_W
  | [], xs => ws ++ xs
  | _ :: _, [] => ws
  | i :: is, x :: xs => rep (ws.set i x) is xs
theorem rep_nil (ws : va_W) (xs : va_W) : rep ws [] xs = ws ++ xs := by rw [rep]
theorem rep_P {D : va_G} {cl : List vw_C} {H1 : Heap} : ∀ (is : List Nat) (w1 ws : va_W), is.length ≤ w1.length → (∀ (k : Nat) (q : Nat × va_E), ws[k]? = some q → k ∉ is → va_at D cl q H1) → (∀ q ∈ w1, va_at D cl q H1) → va_P D cl (rep ws is w1) H1
  | [], w1, ws, _, h, h1 => by
    rw [rep_nil]
    exact va_P.app (fun k q hk => h k q hk (by simp)) (fun k q hk => h1 q (List.mem_of_getElem? hk))
  | i :: is, [], ws, hl, _, _ => by simp at hl
  | i :: is, x :: xs, ws, hl, h, h1 => by
    rw [rep]
    refine rep_P is xs (ws.set i x) (by simpa using hl) (fun k q hk hn => ?_) (fun q hq => h1 q (List.mem_cons_of_mem _ hq))
    by_cases hki : k = i
    · subst hki
      have hlt : k < ws.length := by
        have := (List.getElem?_eq_some_iff.mp hk).1
        simpa using this
      rw [List.getElem?_set_self hlt] at hk
      cases hk
      exact h1 _ List.mem_cons_self
    · rw [List.getElem?_set_ne (Ne.symm hki)] at hk
      exact h k q hk (by simp [hki, hn])
/-- places of ws, each with the address that stands there: setting them keeps the addresses -/
def repA (ws : va_W) : List Nat → va_W → Prop
  | [], _ => True
  | _ :: _, [] => False
  | i :: is, x :: xs => (∃ e0, ws[i]? = some (x.1, e0)) ∧ repA ws is xs
theorem repA_set {ws : va_W} {i : Nat} {x : Nat × va_E} : ∀ (is : List Nat) (xs : va_W), i ∉ is → repA ws is xs → repA (ws.set i x) is xs
  | [], _, _, _ => trivial
  | _ :: _, [], _, h => h
  | j :: js, y :: ys, hn, h => by
    obtain ⟨⟨e0, h0⟩, h2⟩ := h
    refine ⟨⟨e0, ?_⟩, repA_set js ys (fun z => hn (List.mem_cons_of_mem _ z)) h2⟩
    rw [List.getElem?_set_ne (fun z => hn (by rw [z]; exact List.mem_cons_self))]
    exact h0
theorem rep_D {A : Nat → Prop} : ∀ (is : List Nat) (w1 ws : va_W), va_nd is = true → va_D A ws → repA ws is w1 → va_D A (w1.drop is.length) → (∀ (i j : Nat) (p q : Nat × va_E), ws[i]? = some p → (w1.drop is.length)[j]? = some q → p.1 ≠ q.1) → va_D A (rep ws is w1)
  | [], w1, ws, _, hD, _, h1, hx => by
    rw [rep_nil]
    exact hD.app h1 hx
  | i :: is, [], ws, _, _, h, _, _ => h.elim
  | i :: is, x :: xs, ws, hn, hD, h, h1, hx => by
    simp only [va_nd, Bool.and_eq_true, decide_eq_true_eq] at hn
    obtain ⟨⟨e0, h0⟩, h2⟩ := h
    rw [rep]
    have hD2 : va_D A (ws.set i x) := by
      have := hD.set (e := x.2) h0
      exact this
    refine rep_D is xs (ws.set i x) hn.2 hD2 (repA_set is xs hn.1 h2) h1 (fun a b p q ha hb => ?_)
    by_cases hai : a = i
    · subst hai
      have hlt : a < ws.length := (List.getElem?_eq_some_iff.mp h0).1
      rw [List.getElem?_set_self hlt] at ha
      cases ha
      exact hx a b (x.1, e0) q h0 hb
    · rw [List.getElem?_set_ne (Ne.symm hai)] at ha
      exact hx a b p q ha hb
theorem map_at {is : List Nat} {ws w : va_W} (hs : is.map (fun i => ws[i]?) = w.map some) (k : Nat) (q : Nat × va_E) (hk : w[k]? = some q) : ∃ i, is[k]? = some i ∧ ws[i]? = some q := by
  have h1 : (is.map (fun i => ws[i]?))[k]? = some (some q) := by rw [hs, List.getElem?_map, hk]; rfl
  rw [List.getElem?_map] at h1
  cases hi : is[k]? with
  | none => rw [hi] at h1; cases h1
  | some i => rw [hi] at h1; exact ⟨i, rfl, Option.some.inj h1⟩
theorem map_at2 {is : List Nat} {ws w : va_W} (hs : is.map (fun i => ws[i]?) = w.map some) (i : Nat) (hi : i ∈ is) : ∃ (k : Nat) (q : Nat × va_E), w[k]? = some q ∧ ws[i]? = some q := by
  obtain ⟨k, hk⟩ := List.getElem?_of_mem hi
  have h1 : (is.map (fun i => ws[i]?))[k]? = some ws[i]? := by rw [List.getElem?_map, hk]; rfl
  rw [hs, List.getElem?_map] at h1
  cases hw : w[k]? with
  | none => rw [hw] at h1; cases h1
  | some q =>
    rw [hw] at h1
    exact ⟨k, q, hw, (Option.some.inj h1).symm⟩
theorem repA_of {ws : va_W} : ∀ (is : List Nat) (wc w1 : va_W), is.map (fun i => ws[i]?) = wc.map some → (w1.map Prod.fst).take wc.length = wc.map Prod.fst → repA ws is w1
  | [], _, _, _, _ => trivial
  | i :: is, [], _, h, _ => by simp at h
  | i :: is, x :: xs, [], _, h => by simp at h
  | i :: is, x :: xs, y :: ys, h, h2 => by
    simp only [List.map_cons, List.cons.injEq, List.length_cons, List.take_succ_cons] at h h2
    exact ⟨⟨x.2, by rw [h.1, h2.1]⟩, repA_of is xs ys h.2 h2.2⟩
theorem rep_ok {A0 : Nat → Prop} {D : va_G} {cl : List vw_C} {ws wc w1 : va_W} {H H1 : Heap} (hP : va_P D cl ws H) (hD : va_D A0 ws) (isC : List Nat) (hC : isC.map (fun i => ws[i]?) = wc.map some) (hn : va_nd isC = true)
    (hadr : (w1.map Prod.fst).take wc.length = wc.map Prod.fst) (hk : ∀ q : Nat, q < H.size → ¬ va_A wc H.size q → H1[q]? = H[q]?) (hF : ∀ q, va_A wc H.size q → A0 q) (hP1 : va_P D cl w1 H1) (hD1 : va_D (va_A wc H.size) w1) : va_P D cl (rep ws isC w1) H1 ∧ va_D A0 (rep ws isC w1) := by
  have hlen : isC.length = wc.length := by
    have := congrArg List.length hC
    simpa using this
  have hlen1 : wc.length ≤ w1.length := by
    have := congrArg List.length hadr
    simp at this
    omega
  refine ⟨rep_P isC w1 ws (by omega) (fun k q hq hni => ?_) (fun q hq => ?_), rep_D isC w1 ws hn hD (repA_of isC wc w1 hC hadr) ?_ ?_⟩
  · refine (hP k q hq).kept (hk q.1 ((hP k q hq).lt) (fun h => ?_))
    rcases h with ⟨k2, e, h⟩ | h
    · obtain ⟨j, h3, h4⟩ := map_at hC k2 (q.1, e) h
      have hij := hD.1 k j q (q.1, e) hq h4 rfl
      exact hni (by rw [hij]; exact List.mem_of_getElem? h3)
    · have := (hP k q hq).lt
      omega
  · obtain ⟨k, hk2⟩ := List.getElem?_of_mem hq
    exact hP1 k q hk2
  · refine ⟨fun i j p q hi hj hpq => ?_, fun k q hk2 => ?_⟩
    · rw [List.getElem?_drop] at hi hj
      have := hD1.1 _ _ p q hi hj hpq
      omega
    · rw [List.getElem?_drop] at hk2
      exact hF q.1 (hD1.2 _ q hk2)
  · intro i j p q hi hj hpq
    rw [List.getElem?_drop, hlen] at hj
    have h2 := hD1.2 _ q hj
    rcases h2 with ⟨k2, e, h⟩ | h
    · have hk2 : k2 < wc.length := (List.getElem?_eq_some_iff.mp h).1
      have h5 : ((w1.map Prod.fst).take wc.length)[k2]? = some q.1 := by
        rw [hadr, List.getElem?_map, h]; rfl
      rw [List.getElem?_take, if_pos hk2, List.getElem?_map] at h5
      cases h6 : w1[k2]? with
      | none => rw [h6] at h5; cases h5
      | some z =>
        rw [h6] at h5
        have := hD1.1 k2 _ z q h6 hj (Option.some.inj h5)
        omega
    · have := (hP i p hi).lt
      omega
/-! a callee's cells stand in the caller's order: gaps between their places, one pass puts them back -/
def plc : Nat → List Nat → List Nat
  | _, [] => []
  | k, g :: gs => (k + g) :: plc (k + g + 1) gs
def mrg : List Nat → va_W → va_W → va_W
  | [], ws, xs => ws ++ xs
  | _ :: _, [], xs => xs
  | 0 :: gs, _ :: cs, x :: xs => x :: mrg gs cs xs
  | 0 :: _, c :: cs, [] => c :: cs
  | (g + 1) :: gs, c :: cs, xs => c :: mrg (g :: gs) cs xs
theorem plc_le : ∀ (gs : List Nat) (k i : Nat), i ∈ plc k gs → k ≤ i
  | [], _, _, h => by simp [plc] at h
  | g :: gs, k, i, h => by
    rw [plc] at h
    rcases List.mem_cons.mp h with rfl | h
    · omega
    · have := plc_le gs _ _ h
      omega
theorem plc_nd : ∀ (gs : List Nat) (k : Nat), va_nd (plc k gs) = true
  | [], _ => rfl
  | g :: gs, k => by
    rw [plc, va_nd, Bool.and_eq_true, decide_eq_true_eq]
    refine ⟨fun h => ?_, plc_nd gs _⟩
    have := plc_le gs _ _ h
    omega
theorem rep_mrg : ∀ (gs : List Nat) (pre ws xs : va_W), gs.length ≤ xs.length → (∀ i ∈ plc pre.length gs, i < (pre ++ ws).length) → rep (pre ++ ws) (plc pre.length gs) xs = pre ++ mrg gs ws xs
  | [], pre, ws, xs, _, _ => by rw [plc, rep_nil, mrg, List.append_assoc]
  | g :: gs, pre, ws, xs, hl, hb => by
    induction g generalizing pre ws with
    | zero =>
      cases ws with
      | nil =>
        have := hb pre.length (by rw [plc]; exact List.mem_cons_self)
        simp at this
      | cons c cs =>
        cases xs with
        | nil => simp at hl
        | cons x xs =>
          have hset : (pre ++ c :: cs).set pre.length x = (pre ++ [x]) ++ cs := by
            rw [List.set_append_right _ _ (Nat.le_refl _), Nat.sub_self, List.set_cons_zero, List.append_assoc]
            rfl
          have hlen : (pre ++ [x]).length = pre.length + 0 + 1 := by simp
          rw [plc, rep, mrg, Nat.add_zero, hset]
          have hb2 : ∀ i ∈ plc (pre ++ [x]).length gs, i < ((pre ++ [x]) ++ cs).length := fun i hi => by
            have := hb i (by rw [plc]; exact List.mem_cons_of_mem _ (by rw [← hlen]; exact hi))
            simp at this ⊢
            omega
          have K := rep_mrg gs (pre ++ [x]) cs xs (by simpa using hl) hb2
          rw [hlen, Nat.add_zero] at K
          rw [K, List.append_assoc]
          rfl
    | succ g ih =>
      cases ws with
      | nil =>
        have := hb (pre.length + (g + 1)) (by rw [plc]; exact List.mem_cons_self)
        simp at this
        omega
      | cons c cs =>
        have hlen : (pre ++ [c]).length = pre.length + 1 := by simp
        have hp : plc pre.length ((g + 1) :: gs) = plc (pre ++ [c]).length (g :: gs) := by
          rw [hlen, plc, plc, show pre.length + (g + 1) = pre.length + 1 + g by omega]
        have he : pre ++ c :: cs = (pre ++ [c]) ++ cs := by simp
        rw [hp, he, ih (pre ++ [c]) cs (by simpa using hl) (fun i hi => by rw [← he]; exact hb i (by rw [hp]; exact hi)), mrg, List.append_assoc]
        rfl
theorem mrg_ok {A0 : Nat → Prop} {D : va_G} {cl : List vw_C} {ws wc w1 : va_W} {H H1 : Heap} (hP : va_P D cl ws H) (hD : va_D A0 ws) (gs : List Nat) (hC : (plc 0 gs).map (fun i => ws[i]?) = wc.map some)
    (hadr : (w1.map Prod.fst).take wc.length = wc.map Prod.fst) (hk : ∀ q : Nat, q < H.size → ¬ va_A wc H.size q → H1[q]? = H[q]?) (hF : ∀ q, va_A wc H.size q → A0 q) (hP1 : va_P D cl w1 H1) (hD1 : va_D (va_A wc H.size) w1) : va_P D cl (mrg gs ws w1) H1 ∧ va_D A0 (mrg gs ws w1) := by
  have h := rep_ok hP hD (plc 0 gs) hC (plc_nd gs 0) hadr hk hF hP1 hD1
  have hplen : ∀ (gs : List Nat) (k : Nat), (plc k gs).length = gs.length := by
    intro gs
    induction gs with
    | nil => intro k; rfl
    | cons g gs ih => intro k; rw [plc, List.length_cons, List.length_cons, ih]
  have hlen : gs.length = wc.length := by
    have := congrArg List.length hC
    simp only [List.length_map] at this
    rw [hplen] at this
    exact this
  have hlen1 : wc.length ≤ w1.length := by
    have := congrArg List.length hadr
    simp at this
    omega
  have e := rep_mrg gs [] ws w1 (by omega) (fun i hi => by
    obtain ⟨k, q, -, hq⟩ := map_at2 hC i hi
    exact (List.getElem?_eq_some_iff.mp hq).1)
  simp only [List.nil_append, List.length_nil] at e
  rw [e] at h
  exact h
/-- the callee gives its cells back as they were -/
theorem rep_same : ∀ (is : List Nat) (wc ws : va_W), is.map (fun i => ws[i]?) = wc.map some → va_nd is = true → rep ws is wc = ws
  | [], wc, ws, h, _ => by
    have : wc = [] := by simpa using h.symm
    subst this
    rw [rep_nil, List.append_nil]
  | i :: is, [], ws, h, _ => by simp at h
  | i :: is, x :: xs, ws, h, hn => by
    simp only [List.map_cons, List.cons.injEq] at h
    simp only [va_nd, Bool.and_eq_true, decide_eq_true_eq] at hn
    have h9 : ws.set i x = ws := by
      obtain ⟨hlt, he⟩ := List.getElem?_eq_some_iff.mp h.1
      rw [← he]
      exact List.set_getElem_self hlt
    rw [rep, h9]
    exact rep_same is xs ws h.2 hn.2
/-! CONTRACTS -/
abbrev PreC (D : va_G) (Y : Nat → ClassId) (As : List Value) (wc : va_W) (sz : Nat) : Array Value → State → Prop := va_Pc As (fun U => U.heap.size = sz ∧ va_P D vwCl wc U.heap ∧ va_K D vwCl (tysA Y) U ∧ va_D (fun _ => True) wc)
theorem PreC_blind {D : va_G} {Y : Nat → ClassId} {As : List Value} {wc : va_W} {sz : Nat} : FrameBlind (PreC D Y As wc sz) := fun a U g mk q => by
  obtain ⟨q0, q1, qP, qK, qD⟩ := q
  exact ⟨q0, q1, qP, va_K.moved (u := U) (U := U.calling g mk a) (Vm.Alike.refl U.vm) qK, qD⟩
abbrev AtC {S : Type} (D : va_G) (A : Nat → Prop) (wf : S → va_W) : S → State → Prop := fun u t => va_P D vwCl (wf u) t.heap ∧ va_D A (wf u)
abbrev QI {S : Type} (D : va_G) (post : Int32 → S → Prop) (wf : S → va_W) (A : Nat → Prop) := va_Qi post (AtC D A wf) A
abbrev QJ {S : Type} (D : va_G) (post : Int64 → S → Prop) (wf : S → va_W) (A : Nat → Prop) := va_Ql post (AtC D A wf) A
abbrev QV {S : Type} (D : va_G) (post : S → Prop) (wf : S → va_W) (A : Nat → Prop) := va_Qv post (AtC D A wf) A
def mkR (frames cells slots locals : Nat) : Room := { frames := frames, cells := cells, slots := slots, locals := locals }
theorem VB_of {p : Program} {l : Launch} {y : MethodName} {cc : ByteArray} {maxL : Nat} {ret : Option FieldType} {rm : Room} {e : Env} {s : State} {m : MethodId} {args : Array Value} {below : List Frame} {meth : Method} {c : Code} {s₁ : State} {D : va_G} {Y : Nat → ClassId} {A : Nat → Prop}
    (B : BodyLoose p l y (headSpec (WSm y cc maxL ret) rm) cc maxL ret e s m args below meth c s₁) (hml : c.maxLocals = maxL) (hK : va_K D vwCl (tysA Y) s) (hA : ∀ q : Nat, s.heap.size ≤ q → A q) : VB p s m args meth c D Y A cc maxL y.cls ret :=
  ⟨⟨B.exec, B.bytes, hml, findClass_of_methodNamed B.named, fun w hw => atoms_spec (ws := WSm y cc maxL ret) B.pre w (List.mem_cons_of_mem _ hw)⟩, hK, B.notSynchronized, hA, B.returns⟩
theorem met_of {l : Launch} {y : MethodName} {cc : ByteArray} {maxL : Nat} {ret : Option FieldType} {rm : Room} {D : va_G} {Y : Nat → ClassId} {As : List Value} {wc : va_W} {sz mc ms : Nat} {Qc : Array Value → State → Outcome → State → Prop}
    (hy : plainName y.cls = true) (hlen : (lg_sl As).length ≤ maxL)
    (body : ∀ (p : Program) (e : Env) (s : State) (m : MethodId) (args : Array Value) (below : List Frame) (meth : Method) (c : Code), VB p s m args meth c D Y (va_A wc sz) cc maxL y.cls ret → meth.name = y.name → s.heap.size = sz →
      V p l e rm s m args below meth c D (va_A wc sz) maxL 0 0 (MQ below Qc args s mc ms (va_A wc sz)) 0 (lv_args 0 As) [] wc) :
    Met l y (WSm y cc maxL ret) rm (PreC D Y As wc sz) Qc mc ms (va_A wc sz) := by
  refine Met.ofW (cc := cc) (maxL := maxL) (ret := ret) hy rfl ?_
  intro p e s m args below meth c s₁ B hml hv
  obtain ⟨rfl, hsz, hP, hK, hD0⟩ := hv
  have hl := lv_entry As hlen
  rw [lg_entry_eq]
  exact body p e s m _ below meth c (VB_of B hml hK (fun q h => Or.inr (by omega))) (name_of_methodNamed B.named B.method).1 hsz s.heap [] _ hl hP hD0.self va_S.rf
section VR
variable {p : Program} {l : Launch} {e : Env} {R : Room} {s : State} {m : MethodId} {args : Array Value} {below : List Frame} {meth : Method} {c : Code} {cells slots : Nat} {Q : State → Prop} {D : va_G} {Y : Nat → ClassId} {A : Nat → Prop} {cc : ByteArray} {nL : Nat} {own : String} {ret : Option FieldType} {lv : List (Nat × Value)} {st : List Value} {ws : va_W}
theorem V_iret (pc : Nat) (B : VB p s m args meth c D Y A cc nL own (some .int)) {S : Type} {post : Int32 → S → Prop} {wf : S → va_W} {v : Int32} (d : decode cc pc = .ok (.ireturn, 1)) (u : S) (hp : post v u) (hws : wf u = ws) : V p l e R s m args below meth c D A nL cells slots (MQ below (QI D post wf A) args s cells slots A) pc lv [.int v] ws := fun H locs ls hl hP hD hS => W.iret B.1.1 B.1.2.1 B.2.2.2.2 (fun t ht hW => ⟨⟨v, u, rfl, hp, by rw [ht, hws]; exact hP, by rw [hws]; exact hD⟩, hS.F ht⟩) hS.2.2 d B.2.2.1
theorem V_lret (pc : Nat) (B : VB p s m args meth c D Y A cc nL own (some .long)) {S : Type} {post : Int64 → S → Prop} {wf : S → va_W} {v : Int64} (d : decode cc pc = .ok (.lreturn, 1)) (u : S) (hp : post v u) (hws : wf u = ws) : V p l e R s m args below meth c D A nL cells slots (MQ below (QJ D post wf A) args s cells slots A) pc lv [.long v] ws := fun H locs ls hl hP hD hS => W.lret B.1.1 B.1.2.1 B.2.2.2.2 (fun t ht hW => ⟨⟨v, u, rfl, hp, by rw [ht, hws]; exact hP, by rw [hws]; exact hD⟩, hS.F ht⟩) hS.2.2 d B.2.2.1
theorem V_zret (pc : Nat) (B : VB p s m args meth c D Y A cc nL own (some .boolean)) {S : Type} {post : Int32 → S → Prop} {wf : S → va_W} {v : Int32} (hn : narrow .boolean (.int v) = .int v) (d : decode cc pc = .ok (.ireturn, 1)) (u : S) (hp : post v u) (hws : wf u = ws) : V p l e R s m args below meth c D A nL cells slots (MQ below (QI D post wf A) args s cells slots A) pc lv [.int v] ws := fun H locs ls hl hP hD hS => W.zret B.1.1 B.1.2.1 B.2.2.2.2 hn (fun t ht hW => ⟨⟨v, u, rfl, hp, by rw [ht, hws]; exact hP, by rw [hws]; exact hD⟩, hS.F ht⟩) hS.2.2 d B.2.2.1
theorem V_vret (pc : Nat) (B : VB p s m args meth c D Y A cc nL own none) {S : Type} {post : S → Prop} {wf : S → va_W} (d : decode cc pc = .ok (.return_, 1)) (u : S) (hp : post u) (hws : wf u = ws) : V p l e R s m args below meth c D A nL cells slots (MQ below (QV D post wf A) args s cells slots A) pc lv [] ws := fun H locs ls hl hP hD hS => W.vret B.1.1 B.1.2.1 B.2.2.2.2 (fun t ht hW => ⟨⟨u, rfl, hp, by rw [ht, hws]; exact hP, by rw [hws]; exact hD⟩, hS.F ht⟩) hS.2.2 d B.2.2.1
def GLV (own : String) (index : Nat) (y : MethodName) (C : String) (bytes : ByteArray) (maxL : Nat) (ret : Option FieldType) (n : Nat) : Prop := (Cond.methodLink own index y ∈ lw_good ∧ Cond.instanceMethod y ∈ lw_good ∧ Cond.selects C y y ∈ lw_good ∧ Cond.initialized C ∈ lw_good ∧ Cond.code y bytes maxL ret ∈ lw_good) ∧ (y.cls = C ∧ y.cls ≠ "java/lang/invoke/MethodHandle" ∧ y.cls ≠ "java/lang/invoke/VarHandle" ∧ (parseMethodDescriptor y.desc).map (fun d => d.parameters.length) = some n)
def GLS (own : String) (index : Nat) (y : MethodName) (bytes : ByteArray) (maxL : Nat) (ret : Option FieldType) (n : Nat) : Prop := (Cond.methodLink own index y ∈ lw_good ∧ Cond.static y ∈ lw_good ∧ Cond.initialized y.cls ∈ lw_good ∧ Cond.code y bytes maxL ret ∈ lw_good) ∧ (y.cls ≠ "java/lang/invoke/MethodHandle" ∧ y.cls ≠ "java/lang/invoke/VarHandle" ∧ (parseMethodDescriptor y.desc).map (fun d => d.parameters.length) = some n)
def GLI (own : String) (index : Nat) (y : MethodName) (bytes : ByteArray) (maxL : Nat) (n : Nat) : Prop := (Cond.methodLink own index y ∈ lw_good ∧ Cond.instanceMethod y ∈ lw_good ∧ Cond.initialized y.cls ∈ lw_good ∧ Cond.code y bytes maxL none ∈ lw_good) ∧ (y.name = "<init>" ∧ y.cls ≠ "java/lang/invoke/MethodHandle" ∧ y.cls ≠ "java/lang/invoke/VarHandle" ∧ (parseMethodDescriptor y.desc).map (fun d => d.parameters.length) = some n)
theorem WSm_good {y : MethodName} {cc : ByteArray} {maxL : Nat} {ret : Option FieldType} (h : Cond.code y cc maxL ret ∈ lw_good) : GoodIn lw_good (WSm y cc maxL ret) := fun w hw => by
  rcases List.mem_cons.mp hw with rfl | hw
  · exact ⟨h, good_of_word (mg_of h)⟩
  · exact ⟨hw, good_of_word (mg_of hw)⟩
theorem V_cvi (pc : Nat) (B : VB p s m args meth c D Y A cc nL own ret) {Sg : Type} {post : Int32 → Sg → Prop} {wf : Sg → va_W} {rm : Room} {mc ms n index : Nat} {y : MethodName} {C : String} {bytes : ByteArray} {maxL : Nat} {rt : Option FieldType} {b : Nat} {As : List Value} {wc : va_W} {st0 : List Value} {fs : List Value} (hM : ∀ sz : Nat, Met l y (WSm y bytes maxL rt) rm (PreC D Y (.ref b :: As) wc sz) (QI D post wf (va_A wc sz)) mc ms (va_A wc sz)) (g : GLV own index y C bytes maxL rt n) (hrm : rm.cells = mc ∧ rm.slots = ms) (hR : rm.frames + 1 ≤ R.frames ∧ 8 + (maxL + 11) + rm.locals ≤ R.locals) (hcs : cells + mc ≤ R.cells ∧ slots + ms ≤ R.slots) (gs : List Nat) (hC : (plc 0 gs).map (fun i => ws[i]?) = wc.map some) (ci rj : Nat) {q : vw_C} (hrec : wc[rj]? = some (b, .inr (ci, fs))) (hcl : vwCl[ci]? = some q) (hq : q.1 = C) (hst : st0 = As.reverse ++ .ref b :: st) (hcat : (st.map fun v => v.category).sum ≤ 8) (hn : As.length = n) (hadr : ∀ (r : Int32) (u : Sg), post r u → ((wf u).map Prod.fst).take wc.length = wc.map Prod.fst) (d : decode cc pc = .ok (.invokevirtual index, 3)) (kk : ∀ (r : Int32) (u : Sg), post r u → V p l e R s m args below meth c D A nL (cells + mc) (slots + ms) Q (pc + 3) lv (.int r :: st) (mrg gs ws (wf u))) : V p l e R s m args below meth c D A nL cells slots Q pc lv st0 ws := fun H locs ls hl hP hD hS => by
  subst hst
  have hPc : va_P D vwCl wc H := fun k q hk => by
    obtain ⟨i, -, hi⟩ := map_at hC k q hk
    exact hP i q hi
  have hDc : va_D A wc := hD.sub (plc 0 gs) (plc_nd gs 0) hC
  have hFc := va_free hD hS B.2.2.2.1 (plc 0 gs) hC
  subst hq
  refine va_calli (va_runV (As := As) (rest := st) ⟨B.1.1, B.1.2.1, B.1.2.2.1, B.1.2.2.2.1, B.1.2.2.2.2⟩ (hM H.size) (cwV n B.1.2.2.2.2 (fun w hw => by
      rcases List.mem_append.mp hw with hw | hw
      · simp only [List.mem_cons, List.not_mem_nil, or_false] at hw
        rcases hw with rfl | rfl | rfl | rfl
        · exact ⟨g.1.1, good_of_word (mg_of g.1.1)⟩
        · exact ⟨g.1.2.1, good_of_word (mg_of g.1.2.1)⟩
        · exact ⟨g.1.2.2.1, good_of_word (mg_of g.1.2.2.1)⟩
        · exact ⟨g.1.2.2.2.1, good_of_word (mg_of g.1.2.2.2.1)⟩
      · exact WSm_good g.1.2.2.2.2 w hw) rfl hrm.1 hrm.2 g.2 hR) ⟨fun a U g mk q => PreC_blind a U g mk q, va_recv B.2.1 hPc (ci := ci) (q0 := rj) hcl hrec, fun U hU hW => ⟨rfl, by rw [hU], by rw [hU]; exact hPc, va_K.moved hW.alike B.2.1, hDc.weaken (fun _ _ _ _ => trivial)⟩⟩ rfl hn hl.1 rfl (by show 2 * 0 + (st.map fun v => v.category).sum ≤ 8; omega) d hcs) hS (fun q _ h => hFc q h) hFc (fun r u t H1 locs ht hvm hw hB hz1 hk1 hS => ?_)
  obtain ⟨hP1, hD1⟩ := hB
  rw [ht] at hP1
  obtain ⟨hP, hD⟩ := mrg_ok hP hD gs hC (hadr r u hw) hk1 hFc hP1 hD1
  exact kk r u hw H1 locs ls hl hP hD hS
theorem V_cvl (pc : Nat) (B : VB p s m args meth c D Y A cc nL own ret) {Sg : Type} {post : Int64 → Sg → Prop} {wf : Sg → va_W} {rm : Room} {mc ms n index : Nat} {y : MethodName} {C : String} {bytes : ByteArray} {maxL : Nat} {rt : Option FieldType} {b : Nat} {As : List Value} {wc : va_W} {st0 : List Value} {fs : List Value} (hM : ∀ sz : Nat, Met l y (WSm y bytes maxL rt) rm (PreC D Y (.ref b :: As) wc sz) (QJ D post wf (va_A wc sz)) mc ms (va_A wc sz)) (g : GLV own index y C bytes maxL rt n) (hrm : rm.cells = mc ∧ rm.slots = ms) (hR : rm.frames + 1 ≤ R.frames ∧ 8 + (maxL + 11) + rm.locals ≤ R.locals) (hcs : cells + mc ≤ R.cells ∧ slots + ms ≤ R.slots) (gs : List Nat) (hC : (plc 0 gs).map (fun i => ws[i]?) = wc.map some) (ci rj : Nat) {q : vw_C} (hrec : wc[rj]? = some (b, .inr (ci, fs))) (hcl : vwCl[ci]? = some q) (hq : q.1 = C) (hst : st0 = As.reverse ++ .ref b :: st) (hcat : (st.map fun v => v.category).sum ≤ 8) (hn : As.length = n) (hadr : ∀ (r : Int64) (u : Sg), post r u → ((wf u).map Prod.fst).take wc.length = wc.map Prod.fst) (d : decode cc pc = .ok (.invokevirtual index, 3)) (kk : ∀ (r : Int64) (u : Sg), post r u → V p l e R s m args below meth c D A nL (cells + mc) (slots + ms) Q (pc + 3) lv (.long r :: st) (mrg gs ws (wf u))) : V p l e R s m args below meth c D A nL cells slots Q pc lv st0 ws := fun H locs ls hl hP hD hS => by
  subst hst
  have hPc : va_P D vwCl wc H := fun k q hk => by
    obtain ⟨i, -, hi⟩ := map_at hC k q hk
    exact hP i q hi
  have hDc : va_D A wc := hD.sub (plc 0 gs) (plc_nd gs 0) hC
  have hFc := va_free hD hS B.2.2.2.1 (plc 0 gs) hC
  subst hq
  refine va_calll (va_runV (As := As) (rest := st) ⟨B.1.1, B.1.2.1, B.1.2.2.1, B.1.2.2.2.1, B.1.2.2.2.2⟩ (hM H.size) (cwV n B.1.2.2.2.2 (fun w hw => by
      rcases List.mem_append.mp hw with hw | hw
      · simp only [List.mem_cons, List.not_mem_nil, or_false] at hw
        rcases hw with rfl | rfl | rfl | rfl
        · exact ⟨g.1.1, good_of_word (mg_of g.1.1)⟩
        · exact ⟨g.1.2.1, good_of_word (mg_of g.1.2.1)⟩
        · exact ⟨g.1.2.2.1, good_of_word (mg_of g.1.2.2.1)⟩
        · exact ⟨g.1.2.2.2.1, good_of_word (mg_of g.1.2.2.2.1)⟩
      · exact WSm_good g.1.2.2.2.2 w hw) rfl hrm.1 hrm.2 g.2 hR) ⟨fun a U g mk q => PreC_blind a U g mk q, va_recv B.2.1 hPc (ci := ci) (q0 := rj) hcl hrec, fun U hU hW => ⟨rfl, by rw [hU], by rw [hU]; exact hPc, va_K.moved hW.alike B.2.1, hDc.weaken (fun _ _ _ _ => trivial)⟩⟩ rfl hn hl.1 rfl (by show 2 * 0 + (st.map fun v => v.category).sum ≤ 8; omega) d hcs) hS (fun q _ h => hFc q h) hFc (fun r u t H1 locs ht hvm hw hB hz1 hk1 hS => ?_)
  obtain ⟨hP1, hD1⟩ := hB
  rw [ht] at hP1
  obtain ⟨hP, hD⟩ := mrg_ok hP hD gs hC (hadr r u hw) hk1 hFc hP1 hD1
  exact kk r u hw H1 locs ls hl hP hD hS
theorem V_cvv (pc : Nat) (B : VB p s m args meth c D Y A cc nL own ret) {Sg : Type} {post : Sg → Prop} {wf : Sg → va_W} {rm : Room} {mc ms n index : Nat} {y : MethodName} {C : String} {bytes : ByteArray} {maxL : Nat} {rt : Option FieldType} {b : Nat} {As : List Value} {wc : va_W} {st0 : List Value} {fs : List Value} (hM : ∀ sz : Nat, Met l y (WSm y bytes maxL rt) rm (PreC D Y (.ref b :: As) wc sz) (QV D post wf (va_A wc sz)) mc ms (va_A wc sz)) (g : GLV own index y C bytes maxL rt n) (hrm : rm.cells = mc ∧ rm.slots = ms) (hR : rm.frames + 1 ≤ R.frames ∧ 8 + (maxL + 11) + rm.locals ≤ R.locals) (hcs : cells + mc ≤ R.cells ∧ slots + ms ≤ R.slots) (gs : List Nat) (hC : (plc 0 gs).map (fun i => ws[i]?) = wc.map some) (ci rj : Nat) {q : vw_C} (hrec : wc[rj]? = some (b, .inr (ci, fs))) (hcl : vwCl[ci]? = some q) (hq : q.1 = C) (hst : st0 = As.reverse ++ .ref b :: st) (hcat : (st.map fun v => v.category).sum ≤ 8) (hn : As.length = n) (hadr : ∀ (u : Sg), post u → ((wf u).map Prod.fst).take wc.length = wc.map Prod.fst) (d : decode cc pc = .ok (.invokevirtual index, 3)) (kk : ∀ (u : Sg), post u → V p l e R s m args below meth c D A nL (cells + mc) (slots + ms) Q (pc + 3) lv st (mrg gs ws (wf u))) : V p l e R s m args below meth c D A nL cells slots Q pc lv st0 ws := fun H locs ls hl hP hD hS => by
  subst hst
  have hPc : va_P D vwCl wc H := fun k q hk => by
    obtain ⟨i, -, hi⟩ := map_at hC k q hk
    exact hP i q hi
  have hDc : va_D A wc := hD.sub (plc 0 gs) (plc_nd gs 0) hC
  have hFc := va_free hD hS B.2.2.2.1 (plc 0 gs) hC
  subst hq
  refine va_callv (va_runV (As := As) (rest := st) ⟨B.1.1, B.1.2.1, B.1.2.2.1, B.1.2.2.2.1, B.1.2.2.2.2⟩ (hM H.size) (cwV n B.1.2.2.2.2 (fun w hw => by
      rcases List.mem_append.mp hw with hw | hw
      · simp only [List.mem_cons, List.not_mem_nil, or_false] at hw
        rcases hw with rfl | rfl | rfl | rfl
        · exact ⟨g.1.1, good_of_word (mg_of g.1.1)⟩
        · exact ⟨g.1.2.1, good_of_word (mg_of g.1.2.1)⟩
        · exact ⟨g.1.2.2.1, good_of_word (mg_of g.1.2.2.1)⟩
        · exact ⟨g.1.2.2.2.1, good_of_word (mg_of g.1.2.2.2.1)⟩
      · exact WSm_good g.1.2.2.2.2 w hw) rfl hrm.1 hrm.2 g.2 hR) ⟨fun a U g mk q => PreC_blind a U g mk q, va_recv B.2.1 hPc (ci := ci) (q0 := rj) hcl hrec, fun U hU hW => ⟨rfl, by rw [hU], by rw [hU]; exact hPc, va_K.moved hW.alike B.2.1, hDc.weaken (fun _ _ _ _ => trivial)⟩⟩ rfl hn hl.1 rfl (by show 2 * 0 + (st.map fun v => v.category).sum ≤ 8; omega) d hcs) hS (fun q _ h => hFc q h) hFc (fun u t H1 locs ht hvm hw hB hz1 hk1 hS => ?_)
  obtain ⟨hP1, hD1⟩ := hB
  rw [ht] at hP1
  obtain ⟨hP, hD⟩ := mrg_ok hP hD gs hC (hadr u hw) hk1 hFc hP1 hD1
  exact kk u hw H1 locs ls hl hP hD hS
theorem V_csi (pc : Nat) (B : VB p s m args meth c D Y A cc nL own ret) {Sg : Type} {post : Int32 → Sg → Prop} {wf : Sg → va_W} {rm : Room} {mc ms n index : Nat} {y : MethodName} {bytes : ByteArray} {maxL : Nat} {rt : Option FieldType} {As : List Value} {wc : va_W} {st0 : List Value} (hM : ∀ sz : Nat, Met l y (WSm y bytes maxL rt) rm (PreC D Y As wc sz) (QI D post wf (va_A wc sz)) mc ms (va_A wc sz)) (g : GLS own index y bytes maxL rt n) (hrm : rm.cells = mc ∧ rm.slots = ms) (hR : rm.frames + 1 ≤ R.frames ∧ 8 + (maxL + 11) + rm.locals ≤ R.locals) (hcs : cells + mc ≤ R.cells ∧ slots + ms ≤ R.slots) (gs : List Nat) (hC : (plc 0 gs).map (fun i => ws[i]?) = wc.map some) (hst : st0 = As.reverse ++ st) (hcat : (st.map fun v => v.category).sum ≤ 8) (hn : As.length = n) (hadr : ∀ (r : Int32) (u : Sg), post r u → ((wf u).map Prod.fst).take wc.length = wc.map Prod.fst) (d : decode cc pc = .ok (.invokestatic index, 3)) (kk : ∀ (r : Int32) (u : Sg), post r u → V p l e R s m args below meth c D A nL (cells + mc) (slots + ms) Q (pc + 3) lv (.int r :: st) (mrg gs ws (wf u))) : V p l e R s m args below meth c D A nL cells slots Q pc lv st0 ws := fun H locs ls hl hP hD hS => by
  subst hst
  have hPc : va_P D vwCl wc H := fun k q hk => by
    obtain ⟨i, -, hi⟩ := map_at hC k q hk
    exact hP i q hi
  have hDc : va_D A wc := hD.sub (plc 0 gs) (plc_nd gs 0) hC
  have hFc := va_free hD hS B.2.2.2.1 (plc 0 gs) hC
  refine va_calli (va_runS (As := As) (rest := st) ⟨B.1.1, B.1.2.1, B.1.2.2.1, B.1.2.2.2.1, B.1.2.2.2.2⟩ (hM H.size) ⟨callB_of n B.1.2.2.2.2 (WSm_good g.1.2.2.2) rfl hrm.1 hrm.2 (B.1.2.2.2.2 _ g.1.2.2.1) (B.1.2.2.2.2 _ g.1.1) g.2 hR, B.1.2.2.2.2 _ g.1.2.1⟩ ⟨fun a U g mk q => PreC_blind a U g mk q, fun U hU hW => ⟨rfl, by rw [hU], by rw [hU]; exact hPc, va_K.moved hW.alike B.2.1, hDc.weaken (fun _ _ _ _ => trivial)⟩⟩ rfl hn hl.1 rfl (by show 2 * 0 + (st.map fun v => v.category).sum ≤ 8; omega) d hcs) hS (fun q _ h => hFc q h) hFc (fun r u t H1 locs ht hvm hw hB hz1 hk1 hS => ?_)
  obtain ⟨hP1, hD1⟩ := hB
  rw [ht] at hP1
  obtain ⟨hP, hD⟩ := mrg_ok hP hD gs hC (hadr r u hw) hk1 hFc hP1 hD1
  exact kk r u hw H1 locs ls hl hP hD hS
theorem V_csl (pc : Nat) (B : VB p s m args meth c D Y A cc nL own ret) {Sg : Type} {post : Int64 → Sg → Prop} {wf : Sg → va_W} {rm : Room} {mc ms n index : Nat} {y : MethodName} {bytes : ByteArray} {maxL : Nat} {rt : Option FieldType} {As : List Value} {wc : va_W} {st0 : List Value} (hM : ∀ sz : Nat, Met l y (WSm y bytes maxL rt) rm (PreC D Y As wc sz) (QJ D post wf (va_A wc sz)) mc ms (va_A wc sz)) (g : GLS own index y bytes maxL rt n) (hrm : rm.cells = mc ∧ rm.slots = ms) (hR : rm.frames + 1 ≤ R.frames ∧ 8 + (maxL + 11) + rm.locals ≤ R.locals) (hcs : cells + mc ≤ R.cells ∧ slots + ms ≤ R.slots) (gs : List Nat) (hC : (plc 0 gs).map (fun i => ws[i]?) = wc.map some) (hst : st0 = As.reverse ++ st) (hcat : (st.map fun v => v.category).sum ≤ 8) (hn : As.length = n) (hadr : ∀ (r : Int64) (u : Sg), post r u → ((wf u).map Prod.fst).take wc.length = wc.map Prod.fst) (d : decode cc pc = .ok (.invokestatic index, 3)) (kk : ∀ (r : Int64) (u : Sg), post r u → V p l e R s m args below meth c D A nL (cells + mc) (slots + ms) Q (pc + 3) lv (.long r :: st) (mrg gs ws (wf u))) : V p l e R s m args below meth c D A nL cells slots Q pc lv st0 ws := fun H locs ls hl hP hD hS => by
  subst hst
  have hPc : va_P D vwCl wc H := fun k q hk => by
    obtain ⟨i, -, hi⟩ := map_at hC k q hk
    exact hP i q hi
  have hDc : va_D A wc := hD.sub (plc 0 gs) (plc_nd gs 0) hC
  have hFc := va_free hD hS B.2.2.2.1 (plc 0 gs) hC
  refine va_calll (va_runS (As := As) (rest := st) ⟨B.1.1, B.1.2.1, B.1.2.2.1, B.1.2.2.2.1, B.1.2.2.2.2⟩ (hM H.size) ⟨callB_of n B.1.2.2.2.2 (WSm_good g.1.2.2.2) rfl hrm.1 hrm.2 (B.1.2.2.2.2 _ g.1.2.2.1) (B.1.2.2.2.2 _ g.1.1) g.2 hR, B.1.2.2.2.2 _ g.1.2.1⟩ ⟨fun a U g mk q => PreC_blind a U g mk q, fun U hU hW => ⟨rfl, by rw [hU], by rw [hU]; exact hPc, va_K.moved hW.alike B.2.1, hDc.weaken (fun _ _ _ _ => trivial)⟩⟩ rfl hn hl.1 rfl (by show 2 * 0 + (st.map fun v => v.category).sum ≤ 8; omega) d hcs) hS (fun q _ h => hFc q h) hFc (fun r u t H1 locs ht hvm hw hB hz1 hk1 hS => ?_)
  obtain ⟨hP1, hD1⟩ := hB
  rw [ht] at hP1
  obtain ⟨hP, hD⟩ := mrg_ok hP hD gs hC (hadr r u hw) hk1 hFc hP1 hD1
  exact kk r u hw H1 locs ls hl hP hD hS
theorem V_csv (pc : Nat) (B : VB p s m args meth c D Y A cc nL own ret) {Sg : Type} {post : Sg → Prop} {wf : Sg → va_W} {rm : Room} {mc ms n index : Nat} {y : MethodName} {bytes : ByteArray} {maxL : Nat} {rt : Option FieldType} {As : List Value} {wc : va_W} {st0 : List Value} (hM : ∀ sz : Nat, Met l y (WSm y bytes maxL rt) rm (PreC D Y As wc sz) (QV D post wf (va_A wc sz)) mc ms (va_A wc sz)) (g : GLS own index y bytes maxL rt n) (hrm : rm.cells = mc ∧ rm.slots = ms) (hR : rm.frames + 1 ≤ R.frames ∧ 8 + (maxL + 11) + rm.locals ≤ R.locals) (hcs : cells + mc ≤ R.cells ∧ slots + ms ≤ R.slots) (gs : List Nat) (hC : (plc 0 gs).map (fun i => ws[i]?) = wc.map some) (hst : st0 = As.reverse ++ st) (hcat : (st.map fun v => v.category).sum ≤ 8) (hn : As.length = n) (hadr : ∀ (u : Sg), post u → ((wf u).map Prod.fst).take wc.length = wc.map Prod.fst) (d : decode cc pc = .ok (.invokestatic index, 3)) (kk : ∀ (u : Sg), post u → V p l e R s m args below meth c D A nL (cells + mc) (slots + ms) Q (pc + 3) lv st (mrg gs ws (wf u))) : V p l e R s m args below meth c D A nL cells slots Q pc lv st0 ws := fun H locs ls hl hP hD hS => by
  subst hst
  have hPc : va_P D vwCl wc H := fun k q hk => by
    obtain ⟨i, -, hi⟩ := map_at hC k q hk
    exact hP i q hi
  have hDc : va_D A wc := hD.sub (plc 0 gs) (plc_nd gs 0) hC
  have hFc := va_free hD hS B.2.2.2.1 (plc 0 gs) hC
  refine va_callv (va_runS (As := As) (rest := st) ⟨B.1.1, B.1.2.1, B.1.2.2.1, B.1.2.2.2.1, B.1.2.2.2.2⟩ (hM H.size) ⟨callB_of n B.1.2.2.2.2 (WSm_good g.1.2.2.2) rfl hrm.1 hrm.2 (B.1.2.2.2.2 _ g.1.2.2.1) (B.1.2.2.2.2 _ g.1.1) g.2 hR, B.1.2.2.2.2 _ g.1.2.1⟩ ⟨fun a U g mk q => PreC_blind a U g mk q, fun U hU hW => ⟨rfl, by rw [hU], by rw [hU]; exact hPc, va_K.moved hW.alike B.2.1, hDc.weaken (fun _ _ _ _ => trivial)⟩⟩ rfl hn hl.1 rfl (by show 2 * 0 + (st.map fun v => v.category).sum ≤ 8; omega) d hcs) hS (fun q _ h => hFc q h) hFc (fun u t H1 locs ht hvm hw hB hz1 hk1 hS => ?_)
  obtain ⟨hP1, hD1⟩ := hB
  rw [ht] at hP1
  obtain ⟨hP, hD⟩ := mrg_ok hP hD gs hC (hadr u hw) hk1 hFc hP1 hD1
  exact kk u hw H1 locs ls hl hP hD hS
theorem V_civ (pc : Nat) (B : VB p s m args meth c D Y A cc nL own ret) {Sg : Type} {post : Sg → Prop} {wf : Sg → va_W} {rm : Room} {mc ms n index : Nat} {y : MethodName} {bytes : ByteArray} {maxL : Nat} {b : Nat} {As : List Value} {wc : va_W} {st0 : List Value} (hM : ∀ sz : Nat, Met l y (WSm y bytes maxL none) rm (PreC D Y (.ref b :: As) wc sz) (QV D post wf (va_A wc sz)) mc ms (va_A wc sz)) (g : GLI own index y bytes maxL n) (hrm : rm.cells = mc ∧ rm.slots = ms) (hR : rm.frames + 1 ≤ R.frames ∧ 8 + (maxL + 11) + rm.locals ≤ R.locals) (hcs : cells + mc ≤ R.cells ∧ slots + ms ≤ R.slots) (gs : List Nat) (hC : (plc 0 gs).map (fun i => ws[i]?) = wc.map some) (hst : st0 = As.reverse ++ .ref b :: st) (hcat : (st.map fun v => v.category).sum ≤ 8) (hn : As.length = n) (hadr : ∀ (u : Sg), post u → ((wf u).map Prod.fst).take wc.length = wc.map Prod.fst) (d : decode cc pc = .ok (.invokespecial index, 3)) (kk : ∀ (u : Sg), post u → V p l e R s m args below meth c D A nL (cells + mc) (slots + ms) Q (pc + 3) lv st (mrg gs ws (wf u))) : V p l e R s m args below meth c D A nL cells slots Q pc lv st0 ws := fun H locs ls hl hP hD hS => by
  subst hst
  have hPc : va_P D vwCl wc H := fun k q hk => by
    obtain ⟨i, -, hi⟩ := map_at hC k q hk
    exact hP i q hi
  have hDc : va_D A wc := hD.sub (plc 0 gs) (plc_nd gs 0) hC
  have hFc := va_free hD hS B.2.2.2.1 (plc 0 gs) hC
  refine va_callv (va_runI (As := As) (rest := st) ⟨B.1.1, B.1.2.1, B.1.2.2.1, B.1.2.2.2.1, B.1.2.2.2.2⟩ (hM H.size) (cwI n B.1.2.2.2.2 (WSm_good g.1.2.2.2) rfl hrm.1 hrm.2 (B.1.2.2.2.2 _ g.1.2.2.1) (B.1.2.2.2.2 _ g.1.1) (B.1.2.2.2.2 _ g.1.2.1) g.2.1 ⟨g.2.2.1, g.2.2.2.1, g.2.2.2.2⟩ hR) ⟨fun a U g mk q => PreC_blind a U g mk q, fun U hU hW => ⟨rfl, by rw [hU], by rw [hU]; exact hPc, va_K.moved hW.alike B.2.1, hDc.weaken (fun _ _ _ _ => trivial)⟩⟩ rfl hn hl.1 rfl (by show 2 * 0 + (st.map fun v => v.category).sum ≤ 8; omega) d hcs) hS (fun q _ h => hFc q h) hFc (fun u t H1 locs ht hvm hw hB hz1 hk1 hS => ?_)
  obtain ⟨hP1, hD1⟩ := hB
  rw [ht] at hP1
  obtain ⟨hP, hD⟩ := mrg_ok hP hD gs hC (hadr u hw) hk1 hFc hP1 hD1
  exact kk u hw H1 locs ls hl hP hD hS
end VR
