/-! bounds of open numbers, small rows -/
theorem b_lt {x a : Int32} (h : x < a) {n : Int} (e : a.toInt - 1 = n) : x.toInt ≤ n := by
  have := Int32.lt_iff_toInt_lt.mp h
  omega
theorem b_nlt {x a : Int32} (h : ¬ x < a) {n : Int} (e : a.toInt = n) : n ≤ x.toInt := by
  have := mt Int32.lt_iff_toInt_lt.mpr h
  omega
theorem b_ge {x a : Int32} (h : a ≤ x) {n : Int} (e : a.toInt = n) : n ≤ x.toInt := by
  have := Int32.le_iff_toInt_le.mp h
  omega
theorem b_nge {x a : Int32} (h : ¬ a ≤ x) {n : Int} (e : a.toInt - 1 = n) : x.toInt ≤ n := by
  have := mt Int32.le_iff_toInt_le.mpr h
  omega
theorem b_gt {x a : Int32} (h : a < x) {n : Int} (e : a.toInt + 1 = n) : n ≤ x.toInt := by
  have := Int32.lt_iff_toInt_lt.mp h
  omega
theorem b_ngt {x a : Int32} (h : ¬ a < x) {n : Int} (e : a.toInt = n) : x.toInt ≤ n := by
  have := mt Int32.lt_iff_toInt_lt.mpr h
  omega
theorem b_le {x a : Int32} (h : x ≤ a) {n : Int} (e : a.toInt = n) : x.toInt ≤ n := by
  have := Int32.le_iff_toInt_le.mp h
  omega
theorem b_nle {x a : Int32} (h : ¬ x ≤ a) {n : Int} (e : a.toInt + 1 = n) : n ≤ x.toInt := by
  have := mt Int32.le_iff_toInt_le.mpr h
  omega
theorem q_lt {x a : Int32} {n : Int} (h : x.toInt ≤ n) (e : n < a.toInt) : x < a := Int32.lt_iff_toInt_lt.mpr (by omega)
theorem q_nlt {x a : Int32} {n : Int} (h : n ≤ x.toInt) (e : a.toInt ≤ n) : ¬ x < a := mt Int32.lt_iff_toInt_lt.mp (by omega)
theorem q_ge {x a : Int32} {n : Int} (h : n ≤ x.toInt) (e : a.toInt ≤ n) : a ≤ x := Int32.le_iff_toInt_le.mpr (by omega)
theorem q_nge {x a : Int32} {n : Int} (h : x.toInt ≤ n) (e : n < a.toInt) : ¬ a ≤ x := mt Int32.le_iff_toInt_le.mp (by omega)
theorem q_gt {x a : Int32} {n : Int} (h : n ≤ x.toInt) (e : a.toInt < n) : a < x := Int32.lt_iff_toInt_lt.mpr (by omega)
theorem q_ngt {x a : Int32} {n : Int} (h : x.toInt ≤ n) (e : n ≤ a.toInt) : ¬ a < x := mt Int32.lt_iff_toInt_lt.mp (by omega)
theorem q_le {x a : Int32} {n : Int} (h : x.toInt ≤ n) (e : n ≤ a.toInt) : x ≤ a := Int32.le_iff_toInt_le.mpr (by omega)
theorem q_nle {x a : Int32} {n : Int} (h : n ≤ x.toInt) (e : a.toInt < n) : ¬ x ≤ a := mt Int32.le_iff_toInt_le.mp (by omega)
theorem q_nel {x a : Int32} {n : Int} (h : n ≤ x.toInt) (e : a.toInt < n) : ¬ x = a := fun z => by
  subst z
  omega
theorem q_neh {x a : Int32} {n : Int} (h : x.toInt ≤ n) (e : n < a.toInt) : ¬ x = a := fun z => by
  subst z
  omega
theorem q_eq {x a : Int32} {n : Int} (h1 : n ≤ x.toInt) (h2 : x.toInt ≤ n) (e : a.toInt = n) : x = a := Int32.toInt_inj.mp (by omega)
theorem q_abs {x : Int32} {n m : Int} (h1 : n ≤ x.toInt) (h2 : x.toInt ≤ m) (e : m < n) : False := by omega
theorem q_bump {x a : Int32} {n : Int} (h1 : n ≤ x.toInt) (h2 : ¬ x = a) (e : a.toInt = n) {k : Int} (ek : n + 1 = k) : k ≤ x.toInt := by
  have := mt Int32.toInt_inj.mp h2
  omega
theorem neT {x a : Int32} {n : Int} (h : ¬ x = a) (e : a.toInt = n) : ¬ x.toInt = n := fun z => h (Int32.toInt_inj.mp (by omega))
theorem zshr (y : Int32) : (0 : Int64) >>> (y.toInt64 &&& 63) = 0 := by simp
theorem zshl (y : Int32) : (0 : Int64) <<< (y.toInt64 &&& 63) = 0 := by simp
theorem vpin (i : Int32) (n : Nat) (h : decide (¬ (i < 0 ∨ n ≤ i.toNatClampNeg)) = true) : vp_in i n := by
  unfold vp_in
  exact of_decide_eq_true h
def GM (own : String) (index : Nat) (y : MethodName) (code : ByteArray) : Prop := Cond.methodLink own index y ∈ lw_good ∧ Cond.static y ∈ lw_good ∧ Cond.initialized "java/lang/Math" ∈ lw_good ∧ Cond.code y code 2 (some .int) ∈ lw_good
section VM0
variable {p : Program} {l : Launch} {e : Env} {R : Room} {s : State} {m : MethodId} {args : Array Value} {below : List Frame} {meth : Method} {c : Code} {cells slots : Nat} {Q : State → Prop} {D : va_G} {Y : Nat → ClassId} {A : Nat → Prop} {cc : ByteArray} {nL : Nat} {own : String} {ret : Option FieldType} {lv : List (Nat × Value)} {st : List Value} {ws : va_W}
theorem V_mmax (pc : Nat) (B : VB p s m args meth c D Y A cc nL own ret) {index : Nat} {x y v : Int32} (g : GM own index Lib.Math.max.name Lib.Math.max.code) (d : decode cc pc = .ok (.invokestatic index, 3)) (hf : 1 ≤ R.frames) (hlo : (st.map fun v => v.category).sum + 13 ≤ R.locals) (hc : cells ≤ R.cells) (hs : slots ≤ R.slots) (hv : (if x < y then y else x) = v) (k : V p l e R s m args below meth c D A nL cells slots Q (pc + 3) lv (.int v :: st) ws) : V p l e R s m args below meth c D A nL cells slots Q pc lv (.int y :: .int x :: st) ws := fun H locs ls hl hP hD hS => by
  subst hv
  exact va_mmax B.1.1 B.1.2.1 (by rw [B.1.2.2.1]; exact hl.1.symm) B.1.2.2.2.1 (B.1.2.2.2.2 _ g.1) (B.1.2.2.2.2 _ g.2.1) (B.1.2.2.2.2 _ g.2.2.1) (B.1.2.2.2.2 _ g.2.2.2) hf hlo hc hs d (k H locs ls hl hP hD hS)
theorem V_mmin (pc : Nat) (B : VB p s m args meth c D Y A cc nL own ret) {index : Nat} {x y v : Int32} (g : GM own index Lib.Math.min.name Lib.Math.min.code) (d : decode cc pc = .ok (.invokestatic index, 3)) (hf : 1 ≤ R.frames) (hlo : (st.map fun v => v.category).sum + 13 ≤ R.locals) (hc : cells ≤ R.cells) (hs : slots ≤ R.slots) (hv : (if y < x then y else x) = v) (k : V p l e R s m args below meth c D A nL cells slots Q (pc + 3) lv (.int v :: st) ws) : V p l e R s m args below meth c D A nL cells slots Q pc lv (.int y :: .int x :: st) ws := fun H locs ls hl hP hD hS => by
  subst hv
  exact va_mmin B.1.1 B.1.2.1 (by rw [B.1.2.2.1]; exact hl.1.symm) B.1.2.2.2.1 (B.1.2.2.2.2 _ g.1) (B.1.2.2.2.2 _ g.2.1) (B.1.2.2.2.2 _ g.2.2.1) (B.1.2.2.2.2 _ g.2.2.2) hf hlo hc hs d (k H locs ls hl hP hD hS)
theorem V_ws (ws2 : va_W) (h : ws = ws2) {pc : Nat} (k : V p l e R s m args below meth c D A nL cells slots Q pc lv st ws2) : V p l e R s m args below meth c D A nL cells slots Q pc lv st ws := by
  subst h
  exact k
end VM0

/-! CALLS THAT CARRY AN ENVIRONMENT -/
def EnvOK (Ex : (Nat → Prop) → State → Heap → Prop) : Prop := (∀ (A A1 : Nat → Prop) (s U : State) (H : Heap) (locs : List Loc), Ex A s s.heap → va_S A s.heap H locs → (∀ q, A1 q → A q) → U.heap = H → s.WarmedH U.vm → Ex A1 U U.heap) ∧ ∀ (A : Nat → Prop) (u U : State) (H : Heap), U.vm = u.vm → Ex A u H → Ex A U H
abbrev PreG (Ex : (Nat → Prop) → State → Heap → Prop) (D : va_G) (Y : Nat → ClassId) (As : List Value) (wc : va_W) (sz : Nat) : Array Value → State → Prop := va_Pc As (fun U => U.heap.size = sz ∧ va_P D vwCl wc U.heap ∧ va_K D vwCl (tysA Y) U ∧ va_D (fun _ => True) wc ∧ Ex (va_A wc sz) U U.heap)
theorem PreG_blind {Ex : (Nat → Prop) → State → Heap → Prop} (hx : EnvOK Ex) {D : va_G} {Y : Nat → ClassId} {As : List Value} {wc : va_W} {sz : Nat} : FrameBlind (PreG Ex D Y As wc sz) := fun a U g mk q => by
  obtain ⟨q0, q1, qP, qK, qD, qE⟩ := q
  exact ⟨q0, q1, qP, va_K.moved (u := U) (U := U.calling g mk a) (Vm.Alike.refl U.vm) qK, qD, hx.2 _ U (U.calling g mk a) _ rfl qE⟩
theorem EX.same {A : Nat → Prop} {u U : State} {H : Heap} (hv : U.vm = u.vm) (h : EX A u H) : EX A U H := by
  have ha : u.vm.Alike U.vm := by
    rw [hv]
    exact Vm.Alike.refl u.vm
  obtain ⟨h1, h2, h3, h4, h5, h6, ⟨t, h7, h8⟩, h9⟩ := h
  exact ⟨vx_Zq.moved ha h1, vx_Zq.moved ha h2, fun q hq => by
    obtain ⟨a9, hb⟩ := h3 q hq
    exact ⟨a9, vk_R.same hv hb⟩, fun E hE => va_Nw.same rfl hv.symm (h4 E hE), fun q hq => va_Nc.moved ha (h5 q hq), fun y hy => va_Nw.same rfl hv.symm (h6 y hy), ⟨t, va_Z.moved ha h7, va_T.moved ha h8⟩, ST.same hv h9⟩
theorem SFb.same {t b n : Nat} {f : Nat → Int32} {A : Nat → Prop} {u U : State} {H : Heap} (hv : U.vm = u.vm) (h : SFb t b n f A u H) : SFb t b n f A U H := by
  have ha : u.vm.Alike U.vm := by
    rw [hv]
    exact Vm.Alike.refl u.vm
  exact h.moved ha
theorem envX : EnvOK EX := ⟨fun _ _ _ _ _ _ h hS hA hU hW => h.call hS hA hU hW, fun _ _ _ _ hv h => h.same hv⟩
abbrev EXS (t b n : Nat) (f : Nat → Int32) : (Nat → Prop) → State → Heap → Prop := fun A U H => EX A U H ∧ SFb t b n f A U H
theorem envS (t b n : Nat) (f : Nat → Int32) : EnvOK (EXS t b n f) := ⟨fun _ _ _ _ _ _ h hS hA hU hW => ⟨h.1.call hS hA hU hW, h.2.call hS hA hU hW⟩, fun _ _ _ _ hv h => ⟨h.1.same hv, h.2.same hv⟩⟩
theorem gmet_of {Ex : (Nat → Prop) → State → Heap → Prop} {l : Launch} {y : MethodName} {cc : ByteArray} {maxL : Nat} {ret : Option FieldType} {rm : Room} {D : va_G} {Y : Nat → ClassId} {As : List Value} {wc : va_W} {sz mc ms : Nat} {Qc : Array Value → State → Outcome → State → Prop}
    (hy : plainName y.cls = true) (hlen : (lg_sl As).length ≤ maxL)
    (body : ∀ (p : Program) (e : Env) (s : State) (m : MethodId) (args : Array Value) (below : List Frame) (meth : Method) (c : Code), VB p s m args meth c D Y (va_A wc sz) cc maxL y.cls ret → Ex (va_A wc sz) s s.heap → s.heap.size = sz →
      V p l e rm s m args below meth c D (va_A wc sz) maxL 0 0 (MQ below Qc args s mc ms (va_A wc sz)) 0 (lv_args 0 As) [] wc) :
    Met l y (WSm y cc maxL ret) rm (PreG Ex D Y As wc sz) Qc mc ms (va_A wc sz) := by
  refine Met.ofW (cc := cc) (maxL := maxL) (ret := ret) hy rfl ?_
  intro p e s m args below meth c s₁ B hml hv
  obtain ⟨rfl, hsz, hP, hK, hD0, hE⟩ := hv
  have hl := lv_entry As hlen
  rw [lg_entry_eq]
  exact body p e s m _ below meth c (VB_of B hml hK (fun q h => Or.inr (by omega))) hE hsz s.heap [] _ hl hP hD0.self va_S.rf
section VG
variable {p : Program} {l : Launch} {e : Env} {R : Room} {s : State} {m : MethodId} {args : Array Value} {below : List Frame} {meth : Method} {c : Code} {cells slots : Nat} {Q : State → Prop} {D : va_G} {Y : Nat → ClassId} {A : Nat → Prop} {cc : ByteArray} {nL : Nat} {own : String} {ret : Option FieldType} {lv : List (Nat × Value)} {st : List Value} {ws : va_W}
theorem V_gvi (pc : Nat) (B : VB p s m args meth c D Y A cc nL own ret) {Ex : (Nat → Prop) → State → Heap → Prop} (hx : EnvOK Ex) (EB : Ex A s s.heap) {Sg : Type} {post : Int32 → Sg → Prop} {wf : Sg → va_W} {rm : Room} {mc ms n index : Nat} {y : MethodName} {C : String} {bytes : ByteArray} {maxL : Nat} {rt : Option FieldType} {b : Nat} {As : List Value} {wc : va_W} {st0 : List Value} {fs : List Value} (hM : ∀ sz : Nat, Met l y (WSm y bytes maxL rt) rm (PreG Ex D Y (.ref b :: As) wc sz) (QI D post wf (va_A wc sz)) mc ms (va_A wc sz)) (g : GLV own index y C bytes maxL rt n) (hrm : rm.cells = mc ∧ rm.slots = ms) (hR : rm.frames + 1 ≤ R.frames ∧ 8 + (maxL + 11) + rm.locals ≤ R.locals) (hcs : cells + mc ≤ R.cells ∧ slots + ms ≤ R.slots) (gs : List Nat) (hC : (plc 0 gs).map (fun i => ws[i]?) = wc.map some) (ci rj : Nat) {q : vw_C} (hrec : wc[rj]? = some (b, .inr (ci, fs))) (hcl : vwCl[ci]? = some q) (hq : q.1 = C) (hst : st0 = As.reverse ++ .ref b :: st) (hcat : (st.map fun v => v.category).sum ≤ 8) (hn : As.length = n) (hadr : ∀ (r : Int32) (u : Sg), post r u → ((wf u).map Prod.fst).take wc.length = wc.map Prod.fst) (d : decode cc pc = .ok (.invokevirtual index, 3)) (kk : ∀ (r : Int32) (u : Sg), post r u → V p l e R s m args below meth c D A nL (cells + mc) (slots + ms) Q (pc + 3) lv (.int r :: st) (mrg gs ws (wf u))) : V p l e R s m args below meth c D A nL cells slots Q pc lv st0 ws := fun H locs ls hl hP hD hS => by
  subst hst
  have hPc : va_P D vwCl wc H := fun k q hk => by
    obtain ⟨i, -, hi⟩ := map_at hC k q hk
    exact hP i q hi
  have hDc : va_D A wc := hD.sub (plc 0 gs) (plc_nd gs 0) hC
  have hFc := va_free hD hS B.2.2.2.1 (plc 0 gs) hC
  subst hq
  refine va_calli (va_runV (As := As) (rest := st) ⟨B.1.1, B.1.2.1, B.1.2.2.1, B.1.2.2.2.1, B.1.2.2.2.2⟩ (hM H.size) (cwV n B.1.2.2.2.2 (fun w hw => by
      rcases List.mem_append.mp hw with hw | hw
      · simp only [List.mem_cons, List.not_mem_nil, or_false] at hw
        rcases hw with rfl | rfl | rfl | rfl
        · exact ⟨g.1.1, good_of_word (mg_of g.1.1)⟩
        · exact ⟨g.1.2.1, good_of_word (mg_of g.1.2.1)⟩
        · exact ⟨g.1.2.2.1, good_of_word (mg_of g.1.2.2.1)⟩
        · exact ⟨g.1.2.2.2.1, good_of_word (mg_of g.1.2.2.2.1)⟩
      · exact WSm_good g.1.2.2.2.2 w hw) rfl hrm.1 hrm.2 g.2 hR) ⟨fun a U g mk q => PreG_blind hx a U g mk q, va_recv B.2.1 hPc (ci := ci) (q0 := rj) hcl hrec, fun U hU hW => ⟨rfl, by rw [hU], by rw [hU]; exact hPc, va_K.moved hW.alike B.2.1, hDc.weaken (fun _ _ _ _ => trivial), hx.1 _ _ _ _ _ _ EB hS hFc hU hW⟩⟩ rfl hn hl.1 rfl (by show 2 * 0 + (st.map fun v => v.category).sum ≤ 8; omega) d hcs) hS (fun q _ h => hFc q h) hFc (fun r u t H1 locs ht hvm hw hB hz1 hk1 hS => ?_)
  obtain ⟨hP1, hD1⟩ := hB
  rw [ht] at hP1
  obtain ⟨hP, hD⟩ := mrg_ok hP hD gs hC (hadr r u hw) hk1 hFc hP1 hD1
  exact kk r u hw H1 locs ls hl hP hD hS
theorem V_gvl (pc : Nat) (B : VB p s m args meth c D Y A cc nL own ret) {Ex : (Nat → Prop) → State → Heap → Prop} (hx : EnvOK Ex) (EB : Ex A s s.heap) {Sg : Type} {post : Int64 → Sg → Prop} {wf : Sg → va_W} {rm : Room} {mc ms n index : Nat} {y : MethodName} {C : String} {bytes : ByteArray} {maxL : Nat} {rt : Option FieldType} {b : Nat} {As : List Value} {wc : va_W} {st0 : List Value} {fs : List Value} (hM : ∀ sz : Nat, Met l y (WSm y bytes maxL rt) rm (PreG Ex D Y (.ref b :: As) wc sz) (QJ D post wf (va_A wc sz)) mc ms (va_A wc sz)) (g : GLV own index y C bytes maxL rt n) (hrm : rm.cells = mc ∧ rm.slots = ms) (hR : rm.frames + 1 ≤ R.frames ∧ 8 + (maxL + 11) + rm.locals ≤ R.locals) (hcs : cells + mc ≤ R.cells ∧ slots + ms ≤ R.slots) (gs : List Nat) (hC : (plc 0 gs).map (fun i => ws[i]?) = wc.map some) (ci rj : Nat) {q : vw_C} (hrec : wc[rj]? = some (b, .inr (ci, fs))) (hcl : vwCl[ci]? = some q) (hq : q.1 = C) (hst : st0 = As.reverse ++ .ref b :: st) (hcat : (st.map fun v => v.category).sum ≤ 8) (hn : As.length = n) (hadr : ∀ (r : Int64) (u : Sg), post r u → ((wf u).map Prod.fst).take wc.length = wc.map Prod.fst) (d : decode cc pc = .ok (.invokevirtual index, 3)) (kk : ∀ (r : Int64) (u : Sg), post r u → V p l e R s m args below meth c D A nL (cells + mc) (slots + ms) Q (pc + 3) lv (.long r :: st) (mrg gs ws (wf u))) : V p l e R s m args below meth c D A nL cells slots Q pc lv st0 ws := fun H locs ls hl hP hD hS => by
  subst hst
  have hPc : va_P D vwCl wc H := fun k q hk => by
    obtain ⟨i, -, hi⟩ := map_at hC k q hk
    exact hP i q hi
  have hDc : va_D A wc := hD.sub (plc 0 gs) (plc_nd gs 0) hC
  have hFc := va_free hD hS B.2.2.2.1 (plc 0 gs) hC
  subst hq
  refine va_calll (va_runV (As := As) (rest := st) ⟨B.1.1, B.1.2.1, B.1.2.2.1, B.1.2.2.2.1, B.1.2.2.2.2⟩ (hM H.size) (cwV n B.1.2.2.2.2 (fun w hw => by
      rcases List.mem_append.mp hw with hw | hw
      · simp only [List.mem_cons, List.not_mem_nil, or_false] at hw
        rcases hw with rfl | rfl | rfl | rfl
        · exact ⟨g.1.1, good_of_word (mg_of g.1.1)⟩
        · exact ⟨g.1.2.1, good_of_word (mg_of g.1.2.1)⟩
        · exact ⟨g.1.2.2.1, good_of_word (mg_of g.1.2.2.1)⟩
        · exact ⟨g.1.2.2.2.1, good_of_word (mg_of g.1.2.2.2.1)⟩
      · exact WSm_good g.1.2.2.2.2 w hw) rfl hrm.1 hrm.2 g.2 hR) ⟨fun a U g mk q => PreG_blind hx a U g mk q, va_recv B.2.1 hPc (ci := ci) (q0 := rj) hcl hrec, fun U hU hW => ⟨rfl, by rw [hU], by rw [hU]; exact hPc, va_K.moved hW.alike B.2.1, hDc.weaken (fun _ _ _ _ => trivial), hx.1 _ _ _ _ _ _ EB hS hFc hU hW⟩⟩ rfl hn hl.1 rfl (by show 2 * 0 + (st.map fun v => v.category).sum ≤ 8; omega) d hcs) hS (fun q _ h => hFc q h) hFc (fun r u t H1 locs ht hvm hw hB hz1 hk1 hS => ?_)
  obtain ⟨hP1, hD1⟩ := hB
  rw [ht] at hP1
  obtain ⟨hP, hD⟩ := mrg_ok hP hD gs hC (hadr r u hw) hk1 hFc hP1 hD1
  exact kk r u hw H1 locs ls hl hP hD hS
theorem V_gvv (pc : Nat) (B : VB p s m args meth c D Y A cc nL own ret) {Ex : (Nat → Prop) → State → Heap → Prop} (hx : EnvOK Ex) (EB : Ex A s s.heap) {Sg : Type} {post : Sg → Prop} {wf : Sg → va_W} {rm : Room} {mc ms n index : Nat} {y : MethodName} {C : String} {bytes : ByteArray} {maxL : Nat} {rt : Option FieldType} {b : Nat} {As : List Value} {wc : va_W} {st0 : List Value} {fs : List Value} (hM : ∀ sz : Nat, Met l y (WSm y bytes maxL rt) rm (PreG Ex D Y (.ref b :: As) wc sz) (QV D post wf (va_A wc sz)) mc ms (va_A wc sz)) (g : GLV own index y C bytes maxL rt n) (hrm : rm.cells = mc ∧ rm.slots = ms) (hR : rm.frames + 1 ≤ R.frames ∧ 8 + (maxL + 11) + rm.locals ≤ R.locals) (hcs : cells + mc ≤ R.cells ∧ slots + ms ≤ R.slots) (gs : List Nat) (hC : (plc 0 gs).map (fun i => ws[i]?) = wc.map some) (ci rj : Nat) {q : vw_C} (hrec : wc[rj]? = some (b, .inr (ci, fs))) (hcl : vwCl[ci]? = some q) (hq : q.1 = C) (hst : st0 = As.reverse ++ .ref b :: st) (hcat : (st.map fun v => v.category).sum ≤ 8) (hn : As.length = n) (hadr : ∀ (u : Sg), post u → ((wf u).map Prod.fst).take wc.length = wc.map Prod.fst) (d : decode cc pc = .ok (.invokevirtual index, 3)) (kk : ∀ (u : Sg), post u → V p l e R s m args below meth c D A nL (cells + mc) (slots + ms) Q (pc + 3) lv st (mrg gs ws (wf u))) : V p l e R s m args below meth c D A nL cells slots Q pc lv st0 ws := fun H locs ls hl hP hD hS => by
  subst hst
  have hPc : va_P D vwCl wc H := fun k q hk => by
    obtain ⟨i, -, hi⟩ := map_at hC k q hk
    exact hP i q hi
  have hDc : va_D A wc := hD.sub (plc 0 gs) (plc_nd gs 0) hC
  have hFc := va_free hD hS B.2.2.2.1 (plc 0 gs) hC
  subst hq
  refine va_callv (va_runV (As := As) (rest := st) ⟨B.1.1, B.1.2.1, B.1.2.2.1, B.1.2.2.2.1, B.1.2.2.2.2⟩ (hM H.size) (cwV n B.1.2.2.2.2 (fun w hw => by
      rcases List.mem_append.mp hw with hw | hw
      · simp only [List.mem_cons, List.not_mem_nil, or_false] at hw
        rcases hw with rfl | rfl | rfl | rfl
        · exact ⟨g.1.1, good_of_word (mg_of g.1.1)⟩
        · exact ⟨g.1.2.1, good_of_word (mg_of g.1.2.1)⟩
        · exact ⟨g.1.2.2.1, good_of_word (mg_of g.1.2.2.1)⟩
        · exact ⟨g.1.2.2.2.1, good_of_word (mg_of g.1.2.2.2.1)⟩
      · exact WSm_good g.1.2.2.2.2 w hw) rfl hrm.1 hrm.2 g.2 hR) ⟨fun a U g mk q => PreG_blind hx a U g mk q, va_recv B.2.1 hPc (ci := ci) (q0 := rj) hcl hrec, fun U hU hW => ⟨rfl, by rw [hU], by rw [hU]; exact hPc, va_K.moved hW.alike B.2.1, hDc.weaken (fun _ _ _ _ => trivial), hx.1 _ _ _ _ _ _ EB hS hFc hU hW⟩⟩ rfl hn hl.1 rfl (by show 2 * 0 + (st.map fun v => v.category).sum ≤ 8; omega) d hcs) hS (fun q _ h => hFc q h) hFc (fun u t H1 locs ht hvm hw hB hz1 hk1 hS => ?_)
  obtain ⟨hP1, hD1⟩ := hB
  rw [ht] at hP1
  obtain ⟨hP, hD⟩ := mrg_ok hP hD gs hC (hadr u hw) hk1 hFc hP1 hD1
  exact kk u hw H1 locs ls hl hP hD hS
theorem V_gsi (pc : Nat) (B : VB p s m args meth c D Y A cc nL own ret) {Ex : (Nat → Prop) → State → Heap → Prop} (hx : EnvOK Ex) (EB : Ex A s s.heap) {Sg : Type} {post : Int32 → Sg → Prop} {wf : Sg → va_W} {rm : Room} {mc ms n index : Nat} {y : MethodName} {bytes : ByteArray} {maxL : Nat} {rt : Option FieldType} {As : List Value} {wc : va_W} {st0 : List Value} (hM : ∀ sz : Nat, Met l y (WSm y bytes maxL rt) rm (PreG Ex D Y As wc sz) (QI D post wf (va_A wc sz)) mc ms (va_A wc sz)) (g : GLS own index y bytes maxL rt n) (hrm : rm.cells = mc ∧ rm.slots = ms) (hR : rm.frames + 1 ≤ R.frames ∧ 8 + (maxL + 11) + rm.locals ≤ R.locals) (hcs : cells + mc ≤ R.cells ∧ slots + ms ≤ R.slots) (gs : List Nat) (hC : (plc 0 gs).map (fun i => ws[i]?) = wc.map some) (hst : st0 = As.reverse ++ st) (hcat : (st.map fun v => v.category).sum ≤ 8) (hn : As.length = n) (hadr : ∀ (r : Int32) (u : Sg), post r u → ((wf u).map Prod.fst).take wc.length = wc.map Prod.fst) (d : decode cc pc = .ok (.invokestatic index, 3)) (kk : ∀ (r : Int32) (u : Sg), post r u → V p l e R s m args below meth c D A nL (cells + mc) (slots + ms) Q (pc + 3) lv (.int r :: st) (mrg gs ws (wf u))) : V p l e R s m args below meth c D A nL cells slots Q pc lv st0 ws := fun H locs ls hl hP hD hS => by
  subst hst
  have hPc : va_P D vwCl wc H := fun k q hk => by
    obtain ⟨i, -, hi⟩ := map_at hC k q hk
    exact hP i q hi
  have hDc : va_D A wc := hD.sub (plc 0 gs) (plc_nd gs 0) hC
  have hFc := va_free hD hS B.2.2.2.1 (plc 0 gs) hC
  refine va_calli (va_runS (As := As) (rest := st) ⟨B.1.1, B.1.2.1, B.1.2.2.1, B.1.2.2.2.1, B.1.2.2.2.2⟩ (hM H.size) ⟨callB_of n B.1.2.2.2.2 (WSm_good g.1.2.2.2) rfl hrm.1 hrm.2 (B.1.2.2.2.2 _ g.1.2.2.1) (B.1.2.2.2.2 _ g.1.1) g.2 hR, B.1.2.2.2.2 _ g.1.2.1⟩ ⟨fun a U g mk q => PreG_blind hx a U g mk q, fun U hU hW => ⟨rfl, by rw [hU], by rw [hU]; exact hPc, va_K.moved hW.alike B.2.1, hDc.weaken (fun _ _ _ _ => trivial), hx.1 _ _ _ _ _ _ EB hS hFc hU hW⟩⟩ rfl hn hl.1 rfl (by show 2 * 0 + (st.map fun v => v.category).sum ≤ 8; omega) d hcs) hS (fun q _ h => hFc q h) hFc (fun r u t H1 locs ht hvm hw hB hz1 hk1 hS => ?_)
  obtain ⟨hP1, hD1⟩ := hB
  rw [ht] at hP1
  obtain ⟨hP, hD⟩ := mrg_ok hP hD gs hC (hadr r u hw) hk1 hFc hP1 hD1
  exact kk r u hw H1 locs ls hl hP hD hS
theorem V_gsl (pc : Nat) (B : VB p s m args meth c D Y A cc nL own ret) {Ex : (Nat → Prop) → State → Heap → Prop} (hx : EnvOK Ex) (EB : Ex A s s.heap) {Sg : Type} {post : Int64 → Sg → Prop} {wf : Sg → va_W} {rm : Room} {mc ms n index : Nat} {y : MethodName} {bytes : ByteArray} {maxL : Nat} {rt : Option FieldType} {As : List Value} {wc : va_W} {st0 : List Value} (hM : ∀ sz : Nat, Met l y (WSm y bytes maxL rt) rm (PreG Ex D Y As wc sz) (QJ D post wf (va_A wc sz)) mc ms (va_A wc sz)) (g : GLS own index y bytes maxL rt n) (hrm : rm.cells = mc ∧ rm.slots = ms) (hR : rm.frames + 1 ≤ R.frames ∧ 8 + (maxL + 11) + rm.locals ≤ R.locals) (hcs : cells + mc ≤ R.cells ∧ slots + ms ≤ R.slots) (gs : List Nat) (hC : (plc 0 gs).map (fun i => ws[i]?) = wc.map some) (hst : st0 = As.reverse ++ st) (hcat : (st.map fun v => v.category).sum ≤ 8) (hn : As.length = n) (hadr : ∀ (r : Int64) (u : Sg), post r u → ((wf u).map Prod.fst).take wc.length = wc.map Prod.fst) (d : decode cc pc = .ok (.invokestatic index, 3)) (kk : ∀ (r : Int64) (u : Sg), post r u → V p l e R s m args below meth c D A nL (cells + mc) (slots + ms) Q (pc + 3) lv (.long r :: st) (mrg gs ws (wf u))) : V p l e R s m args below meth c D A nL cells slots Q pc lv st0 ws := fun H locs ls hl hP hD hS => by
  subst hst
  have hPc : va_P D vwCl wc H := fun k q hk => by
    obtain ⟨i, -, hi⟩ := map_at hC k q hk
    exact hP i q hi
  have hDc : va_D A wc := hD.sub (plc 0 gs) (plc_nd gs 0) hC
  have hFc := va_free hD hS B.2.2.2.1 (plc 0 gs) hC
  refine va_calll (va_runS (As := As) (rest := st) ⟨B.1.1, B.1.2.1, B.1.2.2.1, B.1.2.2.2.1, B.1.2.2.2.2⟩ (hM H.size) ⟨callB_of n B.1.2.2.2.2 (WSm_good g.1.2.2.2) rfl hrm.1 hrm.2 (B.1.2.2.2.2 _ g.1.2.2.1) (B.1.2.2.2.2 _ g.1.1) g.2 hR, B.1.2.2.2.2 _ g.1.2.1⟩ ⟨fun a U g mk q => PreG_blind hx a U g mk q, fun U hU hW => ⟨rfl, by rw [hU], by rw [hU]; exact hPc, va_K.moved hW.alike B.2.1, hDc.weaken (fun _ _ _ _ => trivial), hx.1 _ _ _ _ _ _ EB hS hFc hU hW⟩⟩ rfl hn hl.1 rfl (by show 2 * 0 + (st.map fun v => v.category).sum ≤ 8; omega) d hcs) hS (fun q _ h => hFc q h) hFc (fun r u t H1 locs ht hvm hw hB hz1 hk1 hS => ?_)
  obtain ⟨hP1, hD1⟩ := hB
  rw [ht] at hP1
  obtain ⟨hP, hD⟩ := mrg_ok hP hD gs hC (hadr r u hw) hk1 hFc hP1 hD1
  exact kk r u hw H1 locs ls hl hP hD hS
theorem V_gsv (pc : Nat) (B : VB p s m args meth c D Y A cc nL own ret) {Ex : (Nat → Prop) → State → Heap → Prop} (hx : EnvOK Ex) (EB : Ex A s s.heap) {Sg : Type} {post : Sg → Prop} {wf : Sg → va_W} {rm : Room} {mc ms n index : Nat} {y : MethodName} {bytes : ByteArray} {maxL : Nat} {rt : Option FieldType} {As : List Value} {wc : va_W} {st0 : List Value} (hM : ∀ sz : Nat, Met l y (WSm y bytes maxL rt) rm (PreG Ex D Y As wc sz) (QV D post wf (va_A wc sz)) mc ms (va_A wc sz)) (g : GLS own index y bytes maxL rt n) (hrm : rm.cells = mc ∧ rm.slots = ms) (hR : rm.frames + 1 ≤ R.frames ∧ 8 + (maxL + 11) + rm.locals ≤ R.locals) (hcs : cells + mc ≤ R.cells ∧ slots + ms ≤ R.slots) (gs : List Nat) (hC : (plc 0 gs).map (fun i => ws[i]?) = wc.map some) (hst : st0 = As.reverse ++ st) (hcat : (st.map fun v => v.category).sum ≤ 8) (hn : As.length = n) (hadr : ∀ (u : Sg), post u → ((wf u).map Prod.fst).take wc.length = wc.map Prod.fst) (d : decode cc pc = .ok (.invokestatic index, 3)) (kk : ∀ (u : Sg), post u → V p l e R s m args below meth c D A nL (cells + mc) (slots + ms) Q (pc + 3) lv st (mrg gs ws (wf u))) : V p l e R s m args below meth c D A nL cells slots Q pc lv st0 ws := fun H locs ls hl hP hD hS => by
  subst hst
  have hPc : va_P D vwCl wc H := fun k q hk => by
    obtain ⟨i, -, hi⟩ := map_at hC k q hk
    exact hP i q hi
  have hDc : va_D A wc := hD.sub (plc 0 gs) (plc_nd gs 0) hC
  have hFc := va_free hD hS B.2.2.2.1 (plc 0 gs) hC
  refine va_callv (va_runS (As := As) (rest := st) ⟨B.1.1, B.1.2.1, B.1.2.2.1, B.1.2.2.2.1, B.1.2.2.2.2⟩ (hM H.size) ⟨callB_of n B.1.2.2.2.2 (WSm_good g.1.2.2.2) rfl hrm.1 hrm.2 (B.1.2.2.2.2 _ g.1.2.2.1) (B.1.2.2.2.2 _ g.1.1) g.2 hR, B.1.2.2.2.2 _ g.1.2.1⟩ ⟨fun a U g mk q => PreG_blind hx a U g mk q, fun U hU hW => ⟨rfl, by rw [hU], by rw [hU]; exact hPc, va_K.moved hW.alike B.2.1, hDc.weaken (fun _ _ _ _ => trivial), hx.1 _ _ _ _ _ _ EB hS hFc hU hW⟩⟩ rfl hn hl.1 rfl (by show 2 * 0 + (st.map fun v => v.category).sum ≤ 8; omega) d hcs) hS (fun q _ h => hFc q h) hFc (fun u t H1 locs ht hvm hw hB hz1 hk1 hS => ?_)
  obtain ⟨hP1, hD1⟩ := hB
  rw [ht] at hP1
  obtain ⟨hP, hD⟩ := mrg_ok hP hD gs hC (hadr u hw) hk1 hFc hP1 hD1
  exact kk u hw H1 locs ls hl hP hD hS
theorem V_gri (pc : Nat) (B : VB p s m args meth c D Y A cc nL own ret) {Ex : (Nat → Prop) → State → Heap → Prop} (hx : EnvOK Ex) (EB : Ex A s s.heap) {Sg : Type} {post : Int32 → Sg → Prop} {wf : Sg → va_W} {rm : Room} {mc ms n index : Nat} {y : MethodName} {C : String} {bytes : ByteArray} {maxL : Nat} {rt : Option FieldType} {b : Nat} {As : List Value} {wc : va_W} {st0 : List Value} (hM : ∀ sz : Nat, Met l y (WSm y bytes maxL rt) rm (PreG Ex D Y (.ref b :: As) wc sz) (QI D post wf (va_A wc sz)) mc ms (va_A wc sz)) (g : GLV own index y C bytes maxL rt n) (hrm : rm.cells = mc ∧ rm.slots = ms) (hR : rm.frames + 1 ≤ R.frames ∧ 8 + (maxL + 11) + rm.locals ≤ R.locals) (hcs : cells + mc ≤ R.cells ∧ slots + ms ≤ R.slots) (gs : List Nat) (hC : (plc 0 gs).map (fun i => ws[i]?) = wc.map some) (hrO : va_O C b A s s.heap) (hst : st0 = As.reverse ++ .ref b :: st) (hcat : (st.map fun v => v.category).sum ≤ 8) (hn : As.length = n) (hadr : ∀ (r : Int32) (u : Sg), post r u → ((wf u).map Prod.fst).take wc.length = wc.map Prod.fst) (d : decode cc pc = .ok (.invokevirtual index, 3)) (kk : ∀ (r : Int32) (u : Sg), post r u → V p l e R s m args below meth c D A nL (cells + mc) (slots + ms) Q (pc + 3) lv (.int r :: st) (mrg gs ws (wf u))) : V p l e R s m args below meth c D A nL cells slots Q pc lv st0 ws := fun H locs ls hl hP hD hS => by
  subst hst
  have hPc : va_P D vwCl wc H := fun k q hk => by
    obtain ⟨i, -, hi⟩ := map_at hC k q hk
    exact hP i q hi
  have hDc : va_D A wc := hD.sub (plc 0 gs) (plc_nd gs 0) hC
  have hFc := va_free hD hS B.2.2.2.1 (plc 0 gs) hC
  refine va_calli (va_runV (As := As) (rest := st) ⟨B.1.1, B.1.2.1, B.1.2.2.1, B.1.2.2.2.1, B.1.2.2.2.2⟩ (hM H.size) (cwV n B.1.2.2.2.2 (fun w hw => by
      rcases List.mem_append.mp hw with hw | hw
      · simp only [List.mem_cons, List.not_mem_nil, or_false] at hw
        rcases hw with rfl | rfl | rfl | rfl
        · exact ⟨g.1.1, good_of_word (mg_of g.1.1)⟩
        · exact ⟨g.1.2.1, good_of_word (mg_of g.1.2.1)⟩
        · exact ⟨g.1.2.2.1, good_of_word (mg_of g.1.2.2.1)⟩
        · exact ⟨g.1.2.2.2.1, good_of_word (mg_of g.1.2.2.2.1)⟩
      · exact WSm_good g.1.2.2.2.2 w hw) rfl hrm.1 hrm.2 g.2 hR) ⟨fun a U g mk q => PreG_blind hx a U g mk q, (by
      obtain ⟨cell, h1, h2, h3, -⟩ := hrO.kept hS.2.1
      exact ⟨cell, h1, h2, h3⟩), fun U hU hW => ⟨rfl, by rw [hU], by rw [hU]; exact hPc, va_K.moved hW.alike B.2.1, hDc.weaken (fun _ _ _ _ => trivial), hx.1 _ _ _ _ _ _ EB hS hFc hU hW⟩⟩ rfl hn hl.1 rfl (by show 2 * 0 + (st.map fun v => v.category).sum ≤ 8; omega) d hcs) hS (fun q _ h => hFc q h) hFc (fun r u t H1 locs ht hvm hw hB hz1 hk1 hS => ?_)
  obtain ⟨hP1, hD1⟩ := hB
  rw [ht] at hP1
  obtain ⟨hP, hD⟩ := mrg_ok hP hD gs hC (hadr r u hw) hk1 hFc hP1 hD1
  exact kk r u hw H1 locs ls hl hP hD hS
theorem V_lv (lv2 : List (Nat × Value)) (ks : List Nat) (h : lv_pick lv ks = lv2) {pc : Nat} (k : V p l e R s m args below meth c D A nL cells slots Q pc lv2 st ws) : V p l e R s m args below meth c D A nL cells slots Q pc lv st ws := fun H locs ls hl hP hD hS => k H locs ls (lv_sub hl ks h) hP hD hS
theorem V_wloop {α : Type} (μ : α → Nat) (I : α → Prop) (lvf : α → List (Nat × Value)) (wsf : α → va_W) (a0 : α) (h0 : I a0) (e1 : lvf a0 = lv) (e2 : wsf a0 = ws) {pc : Nat} (step : ∀ a : α, I a → (∀ b : α, I b → μ b < μ a → V p l e R s m args below meth c D A nL cells slots Q pc (lvf b) st (wsf b)) → V p l e R s m args below meth c D A nL cells slots Q pc (lvf a) st (wsf a)) : V p l e R s m args below meth c D A nL cells slots Q pc lv st ws := by
  subst e1
  subst e2
  have K : ∀ (n : Nat) (a : α), μ a < n → I a → V p l e R s m args below meth c D A nL cells slots Q pc (lvf a) st (wsf a) := by
    intro n
    induction n with
    | zero =>
      intro a h
      exact absurd h (Nat.not_lt_zero _)
    | succ n ih =>
      intro a h hI
      exact step a hI (fun b hb hm => ih b (by omega) hb)
  exact K _ a0 (Nat.lt_succ_self _) h0
theorem V_kget (pc : Nat) (B : VB p s m args meth c D Y A cc nL "ShortcutBook$Sequences" ret) (EB : EX A s s.heap) {index : Nat} (hw : Cond.fieldLink "ShortcutBook$Sequences" index "ShortcutBook$Sequences" "KEY_COSTS" "[I" ∈ lw_good) (d : decode cc pc = .ok (.getstatic index, 3)) (kk : ∀ t : Nat, va_T .int t 26 (fun j => .int (kci j)) A s s.heap → V p l e R s m args below meth c D A nL cells slots Q (pc + 3) lv (.ref t :: st) ws) : V p l e R s m args below meth c D A nL cells slots Q pc lv st ws := fun H locs ls hl hP hD hS => by
  obtain ⟨t, hZ, hT⟩ := EB.2.2.2.2.2.2.1
  exact va_gets B.1.1 B.1.2.1 hZ hS B.1.2.2.2.1 (B.1.2.2.2.2 _ hw) (fun _ h => h) d (kk t hT H locs ls hl hP hD hS)
theorem V_klen (pc : Nat) (B : VB p s m args meth c D Y A cc nL own ret) {t : Nat} (hT : va_T .int t 26 (fun j => .int (kci j)) A s s.heap) (d : decode cc pc = .ok (.arraylength, 1)) (kk : V p l e R s m args below meth c D A nL cells slots Q (pc + 1) lv (.int 26 :: st) ws) : V p l e R s m args below meth c D A nL cells slots Q pc lv (.ref t :: st) ws := fun H locs ls hl hP hD hS => va_tlen B.1.1 B.1.2.1 hT hS (by decide +kernel) d (kk H locs ls hl hP hD hS)
theorem V_kld (pc : Nat) (B : VB p s m args meth c D Y A cc nL own ret) {t : Nat} (hT : va_T .int t 26 (fun j => .int (kci j)) A s s.heap) {i v : Int32} (hin : vp_in i 26) (hv : kci i.toNatClampNeg = v) (d : decode cc pc = .ok (.iaload, 1)) (kk : V p l e R s m args below meth c D A nL cells slots Q (pc + 1) lv (.int v :: st) ws) : V p l e R s m args below meth c D A nL cells slots Q pc lv (.int i :: .ref t :: st) ws := fun H locs ls hl hP hD hS => va_ti B.1.1 B.1.2.1 hT hS hin (by rw [hv]) d (kk H locs ls hl hP hD hS)
theorem V_ldcw (pc : Nat) (B : VB p s m args meth c D Y A cc nL own ret) {index : Nat} {v : Int32} (d : decode cc pc = .ok (.ldc_w index, 3)) (hw : Cond.constant own index v ∈ lw_good) (kk : V p l e R s m args below meth c D A nL cells slots Q (pc + 3) lv (.int v :: st) ws) : V p l e R s m args below meth c D A nL cells slots Q pc lv st ws := fun H locs ls hl hP hD hS => lv_ldcw B.1.1 B.1.2.1 B.1.2.2.2.1 (B.1.2.2.2.2 _ hw) d (kk H locs ls hl hP hD hS)
theorem V_ldcs (pc : Nat) (B : VB p s m args meth c D Y A cc nL own ret) (EB : EX A s s.heap) {index : Nat} {tx : String} (hq : (own, index, tx) ∈ rstrs) (d : decode cc pc = .ok (.ldc index, 2)) (kk : ∀ (t b n : Nat) (f : Nat → Int32), SFb t b n f A s s.heap → V p l e R s m args below meth c D A nL cells slots Q (pc + 2) lv (.ref t :: st) ws) : V p l e R s m args below meth c D A nL cells slots Q pc lv st ws := fun H locs ls hl hP hD hS => by
  obtain ⟨t, b, n, f, hR, hT⟩ := EB.2.2.2.2.2.2.2.1 _ hq
  exact va_ldcS B.1.1 B.1.2.1 B.1.2.2.2.1 hR d (kk t b n f hT H locs ls hl hP hD hS)
/-- a field of a String that is not ours -/
theorem V_sget (pc : Nat) (B : VB p s m args meth c D Y A cc nL own ret) {index q : Nat} {n d0 : String} {v : Value} (hE : va_OF tSt n d0 v q A s s.heap) (hw : Cond.fieldLink own index tSt n d0 ∈ lw_good) (d : decode cc pc = .ok (.getfield index, 3)) (kk : V p l e R s m args below meth c D A nL cells slots Q (pc + 3) lv (v :: st) ws) : V p l e R s m args below meth c D A nL cells slots Q pc lv (.ref q :: st) ws := fun H locs ls hl hP hD hS => vk_getf B.1.1 B.1.2.1 hE hS B.1.2.2.2.1 (B.1.2.2.2.2 _ hw) (fun _ h => h) d (kk H locs ls hl hP hD hS)
theorem V_tlen (pc : Nat) (B : VB p s m args meth c D Y A cc nL own ret) {t n : Nat} {ty : FieldType} {f : Nat → Value} (hT : va_T ty t n f A s s.heap) {v : Int32} (hv : Int32.ofNat n = v) (d : decode cc pc = .ok (.arraylength, 1)) (kk : V p l e R s m args below meth c D A nL cells slots Q (pc + 1) lv (.int v :: st) ws) : V p l e R s m args below meth c D A nL cells slots Q pc lv (.ref t :: st) ws := fun H locs ls hl hP hD hS => va_tlen B.1.1 B.1.2.1 hT hS hv d (kk H locs ls hl hP hD hS)
theorem V_tbld (pc : Nat) (B : VB p s m args meth c D Y A cc nL own ret) {t n : Nat} {f : Nat → Int32} (hT : va_T .byte t n (fun j => .int (f j)) A s s.heap) {i v : Int32} (hin : vp_in i n) (hv : f i.toNatClampNeg = v) (d : decode cc pc = .ok (.baload, 1)) (kk : V p l e R s m args below meth c D A nL cells slots Q (pc + 1) lv (.int v :: st) ws) : V p l e R s m args below meth c D A nL cells slots Q pc lv (.int i :: .ref t :: st) ws := fun H locs ls hl hP hD hS => va_tb B.1.1 B.1.2.1 hT hS hin (by rw [hv]) d (kk H locs ls hl hP hD hS)
/-- String.COMPACT_STRINGS is 1 -/
theorem V_cget (pc : Nat) (B : VB p s m args meth c D Y A cc nL own ret) (EB : EX A s s.heap) {index : Nat} (hw : Cond.fieldLink own index tSt "COMPACT_STRINGS" "Z" ∈ lw_good) (d : decode cc pc = .ok (.getstatic index, 3)) (kk : V p l e R s m args below meth c D A nL cells slots Q (pc + 3) lv (.int 1 :: st) ws) : V p l e R s m args below meth c D A nL cells slots Q pc lv st ws := fun H locs ls hl hP hD hS => va_gets B.1.1 B.1.2.1 EB.2.2.2.2.2.2.2.2.1 hS B.1.2.2.2.1 (B.1.2.2.2.2 _ hw) (fun _ h => h) d (kk H locs ls hl hP hD hS)
/-- Preconditions.SIOOBE_FORMATTER: null or a reference -/
theorem V_qget (pc : Nat) (B : VB p s m args meth c D Y A cc nL own ret) (EB : EX A s s.heap) {index : Nat} (hw : Cond.fieldLink own index "jdk/internal/util/Preconditions" "SIOOBE_FORMATTER" "Ljava/util/function/BiFunction;" ∈ lw_good) (d : decode cc pc = .ok (.getstatic index, 3)) (k0 : V p l e R s m args below meth c D A nL cells slots Q (pc + 3) lv (.null :: st) ws) (k1 : ∀ t : Nat, V p l e R s m args below meth c D A nL cells slots Q (pc + 3) lv (.ref t :: st) ws) : V p l e R s m args below meth c D A nL cells slots Q pc lv st ws := fun H locs ls hl hP hD hS => by
  rcases EB.2.2.2.2.2.2.2.2.2 with hZ | ⟨t, hZ⟩
  · exact va_gets B.1.1 B.1.2.1 hZ hS B.1.2.2.2.1 (B.1.2.2.2.2 _ hw) (fun _ h => h) d (k0 H locs ls hl hP hD hS)
  · exact va_gets B.1.1 B.1.2.1 hZ hS B.1.2.2.2.1 (B.1.2.2.2.2 _ hw) (fun _ h => h) d (k1 t H locs ls hl hP hD hS)
/-- a byte or a char is answered -/
theorem V_nret (pc : Nat) {ty : FieldType} (B : VB p s m args meth c D Y A cc nL own (some ty)) {S : Type} {post : Int32 → S → Prop} {wf : S → va_W} {v : Int32} (hn : narrow ty (.int v) = .int v) (d : decode cc pc = .ok (.ireturn, 1)) (u : S) (hp : post v u) (hws : wf u = ws) : V p l e R s m args below meth c D A nL cells slots (MQ below (QI D post wf A) args s cells slots A) pc lv [.int v] ws := fun H locs ls hl hP hD hS => W.zret B.1.1 B.1.2.1 B.2.2.2.2 hn (fun t ht hW => ⟨⟨v, u, rfl, hp, by rw [ht, hws]; exact hP, by rw [hws]; exact hD⟩, hS.F ht⟩) hS.2.2 d B.2.2.1
end VG
/-! WHAT A CALL LEAVES BEHIND: numbers by their places -/
abbrev UU : Type := (Nat → Int32) × (Nat → Int64) × (Nat → Nat → Int32) × (Nat → Nat → Int64) × (Nat → UInt32)
def lk {α : Type} (z : α) : List α → Nat → α
  | [], _ => z
  | a :: _, 0 => a
  | _ :: l, n + 1 => lk z l n
abbrev mkU (a : List Int32) (b : List Int64) (c : List (Nat → Int32)) (d : List (Nat → Int64)) (e : List UInt32) : UU := (lk 0 a, lk 0 b, lk (fun _ => 0) c, lk (fun _ => 0) d, lk 0 e)
theorem i_hi (x : Int32) : x.toInt ≤ 2147483647 := by
  have := Int32.toInt_lt x
  omega
theorem i_lo (x : Int32) : -2147483648 ≤ x.toInt := by
  have := Int32.le_toInt x
  omega
theorem o_lt_hi {x y : Int32} (h : x < y) {n : Int} (hy : y.toInt ≤ n) {k : Int} (e : n - 1 = k) : x.toInt ≤ k := by
  have := Int32.lt_iff_toInt_lt.mp h
  omega
theorem o_lt_lo {x y : Int32} (h : x < y) {n : Int} (hx : n ≤ x.toInt) {k : Int} (e : n + 1 = k) : k ≤ y.toInt := by
  have := Int32.lt_iff_toInt_lt.mp h
  omega
theorem o_le_hi {x y : Int32} (h : x ≤ y) {n : Int} (hy : y.toInt ≤ n) : x.toInt ≤ n := by
  have := Int32.le_iff_toInt_le.mp h
  omega
theorem o_le_lo {x y : Int32} (h : x ≤ y) {n : Int} (hx : n ≤ x.toInt) : n ≤ y.toInt := by
  have := Int32.le_iff_toInt_le.mp h
  omega
theorem o_nlt {x y : Int32} (h : ¬ x < y) : y ≤ x := Int32.not_lt.mp h
theorem o_nle {x y : Int32} (h : ¬ x ≤ y) : y < x := Int32.not_le.mp h
theorem o_add {x c : Int32} {lo hi : Int} (h1 : lo ≤ x.toInt) (h2 : x.toInt ≤ hi) (o1 : -2147483648 ≤ lo + c.toInt) (o2 : hi + c.toInt ≤ 2147483647) : (x + c).toInt = x.toInt + c.toInt := by
  rw [Int32.toInt_add]
  exact Int.bmod_eq_of_le (by omega) (by omega)
theorem o_sub {x c : Int32} {lo hi : Int} (h1 : lo ≤ x.toInt) (h2 : x.toInt ≤ hi) (o1 : -2147483648 ≤ lo - c.toInt) (o2 : hi - c.toInt ≤ 2147483647) : (x - c).toInt = x.toInt - c.toInt := by
  rw [Int32.toInt_sub]
  exact Int.bmod_eq_of_le (by omega) (by omega)
theorem o_add_lo {x c : Int32} {lo hi k : Int} (h1 : lo ≤ x.toInt) (h2 : x.toInt ≤ hi) (o1 : -2147483648 ≤ lo + c.toInt) (o2 : hi + c.toInt ≤ 2147483647) (e : lo + c.toInt = k) : k ≤ (x + c).toInt := by
  rw [o_add h1 h2 o1 o2]
  omega
theorem o_add_hi {x c : Int32} {lo hi k : Int} (h1 : lo ≤ x.toInt) (h2 : x.toInt ≤ hi) (o1 : -2147483648 ≤ lo + c.toInt) (o2 : hi + c.toInt ≤ 2147483647) (e : hi + c.toInt = k) : (x + c).toInt ≤ k := by
  rw [o_add h1 h2 o1 o2]
  omega
theorem o_sub_lo {x c : Int32} {lo hi k : Int} (h1 : lo ≤ x.toInt) (h2 : x.toInt ≤ hi) (o1 : -2147483648 ≤ lo - c.toInt) (o2 : hi - c.toInt ≤ 2147483647) (e : lo - c.toInt = k) : k ≤ (x - c).toInt := by
  rw [o_sub h1 h2 o1 o2]
  omega
theorem o_sub_hi {x c : Int32} {lo hi k : Int} (h1 : lo ≤ x.toInt) (h2 : x.toInt ≤ hi) (o1 : -2147483648 ≤ lo - c.toInt) (o2 : hi - c.toInt ≤ 2147483647) (e : hi - c.toInt = k) : (x - c).toInt ≤ k := by
  rw [o_sub h1 h2 o1 o2]
  omega
theorem o_min1 {x y : Int32} {n : Int} (h : x.toInt ≤ n) : (if y < x then y else x).toInt ≤ n := by
  by_cases hh : y < x
  · rw [if_pos hh]
    have := Int32.lt_iff_toInt_lt.mp hh
    omega
  · rw [if_neg hh]
    exact h
theorem o_min2 {x y : Int32} {n : Int} (h : y.toInt ≤ n) : (if y < x then y else x).toInt ≤ n := by
  by_cases hh : y < x
  · rw [if_pos hh]
    exact h
  · rw [if_neg hh]
    have h2 := Int32.le_iff_toInt_le.mp (Int32.not_lt.mp hh)
    omega
theorem vpin_b {x : Int32} {n : Nat} {k : Int} (h0 : (0 : Int) ≤ x.toInt) (h1 : x.toInt ≤ k) (e : k < (n : Int)) : vp_in x n := by
  unfold vp_in
  intro q
  rcases q with q | q
  · have := Int32.lt_iff_toInt_lt.mp q
    have e0 : (0 : Int32).toInt = 0 := by decide
    omega
  · have : x.toNatClampNeg = x.toInt.toNat := rfl
    omega
theorem and31_lo (x : Int32) : (0 : Int) ≤ (x &&& 31).toInt := by
  obtain ⟨j, hj, e⟩ := pk_andE x (m := 31) 5 (by decide +kernel)
  rw [e, nI_toInt (by omega)]
  omega
theorem up_dec {x c : Int32} {lo : Int} (hc : c.toInt = 1) (h1 : lo ≤ x.toInt) (h2 : x.toInt ≤ 2147483646) (h0 : -2147483648 ≤ lo) : (2147483647 - (x + c).toInt).toNat < (2147483647 - x.toInt).toNat := by
  rw [o_add h1 h2 (by omega) (by omega)]
  omega
/-- x falls by k -/
theorem dn_dec {x c : Int32} {k lo hi : Int} (hc : c.toInt = -k) (hk : 0 < k) (hk2 : k < 1000) (h1 : lo ≤ x.toInt) (h0 : 0 ≤ lo) (h2 : x.toInt ≤ hi) (h3 : hi ≤ 2147483647) : ((x + c).toInt + k).toNat < (x.toInt + k).toNat := by
  rw [o_add (lo := lo) (hi := hi) h1 h2 (by omega) (by omega)]
  omega
