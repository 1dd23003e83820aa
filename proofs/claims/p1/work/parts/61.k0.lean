/-! THE TABLE OF COSTS -/
theorem kmet_of {l : Launch} {y : MethodName} {cc : ByteArray} {maxL : Nat} {ret : Option FieldType} {rm : Room} {D : va_G} {Y : Nat → ClassId} {As : List Value} {wc : va_W} {sz mc ms : Nat} {Qc : Array Value → State → Outcome → State → Prop}
    (hy : plainName y.cls = true) (hlen : (lg_sl As).length ≤ maxL)
    (body : ∀ (p : Program) (e : Env) (s : State) (m : MethodId) (args : Array Value) (below : List Frame) (meth : Method) (c : Code), VB p s m args meth c D Y (va_A wc sz) cc maxL y.cls ret → EX (va_A wc sz) s s.heap → s.heap.size = sz →
      V p l e rm s m args below meth c D (va_A wc sz) maxL 0 0 (MQ below Qc args s mc ms (va_A wc sz)) 0 (lv_args 0 As) [] wc) :
    Met l y (WSm y cc maxL ret) rm (PreX D Y As wc sz) Qc mc ms (va_A wc sz) := by
  refine Met.ofW (cc := cc) (maxL := maxL) (ret := ret) hy rfl ?_
  intro p e s m args below meth c s₁ B hml hv
  obtain ⟨rfl, hsz, hP, hK, hD0, hE⟩ := hv
  have hl := lv_entry As hlen
  rw [lg_entry_eq]
  exact body p e s m _ below meth c (VB_of B hml hK (fun q h => Or.inr (by omega))) hE hsz s.heap [] _ hl hP hD0.self va_S.rf
section VK
variable {p : Program} {l : Launch} {e : Env} {R : Room} {s : State} {m : MethodId} {args : Array Value} {below : List Frame} {meth : Method} {c : Code} {cells slots : Nat} {Q : State → Prop} {D : va_G} {Y : Nat → ClassId} {A : Nat → Prop} {cc : ByteArray} {nL : Nat} {own : String} {ret : Option FieldType} {lv : List (Nat × Value)} {st : List Value} {ws : va_W}
theorem V_kvl (pc : Nat) (B : VB p s m args meth c D Y A cc nL own ret) (EB : EX A s s.heap) {Sg : Type} {post : Int64 → Sg → Prop} {wf : Sg → va_W} {rm : Room} {mc ms n index : Nat} {y : MethodName} {C : String} {bytes : ByteArray} {maxL : Nat} {rt : Option FieldType} {b : Nat} {As : List Value} {wc : va_W} {st0 : List Value} {fs : List Value} (hM : ∀ sz : Nat, Met l y (WSm y bytes maxL rt) rm (PreX D Y (.ref b :: As) wc sz) (QJ D post wf (va_A wc sz)) mc ms (va_A wc sz)) (g : GLV own index y C bytes maxL rt n) (hrm : rm.cells = mc ∧ rm.slots = ms) (hR : rm.frames + 1 ≤ R.frames ∧ 8 + (maxL + 11) + rm.locals ≤ R.locals) (hcs : cells + mc ≤ R.cells ∧ slots + ms ≤ R.slots) (gs : List Nat) (hC : (plc 0 gs).map (fun i => ws[i]?) = wc.map some) (ci rj : Nat) {q : vw_C} (hrec : wc[rj]? = some (b, .inr (ci, fs))) (hcl : vwCl[ci]? = some q) (hq : q.1 = C) (hst : st0 = As.reverse ++ .ref b :: st) (hcat : (st.map fun v => v.category).sum ≤ 8) (hn : As.length = n) (hadr : ∀ (r : Int64) (u : Sg), post r u → ((wf u).map Prod.fst).take wc.length = wc.map Prod.fst) (d : decode cc pc = .ok (.invokevirtual index, 3)) (kk : ∀ (r : Int64) (u : Sg), post r u → V p l e R s m args below meth c D A nL (cells + mc) (slots + ms) Q (pc + 3) lv (.long r :: st) (mrg gs ws (wf u))) : V p l e R s m args below meth c D A nL cells slots Q pc lv st0 ws := fun H locs ls hl hP hD hS => by
  subst hst
  have hPc : va_P D vwCl wc H := fun k q hk => by
    obtain ⟨i, -, hi⟩ := map_at hC k q hk
    exact hP i q hi
  have hDc : va_D A wc := hD.sub (plc 0 gs) (plc_nd gs 0) hC
  have hFc := va_free hD hS B.2.2.2.1 (plc 0 gs) hC
  subst hq
  refine va_calll (va_runV (As := As) (rest := st) ⟨B.1.1, B.1.2.1, B.1.2.2.1, B.1.2.2.2.1, B.1.2.2.2.2⟩ (hM H.size) (cwV n B.1.2.2.2.2 (fun w hw => by
      rcases List.mem_append.mp hw with hw | hw
      · simp only [List.mem_cons, List.not_mem_nil, or_false] at hw
        rcases hw with rfl | rfl | rfl | rfl
        · exact ⟨g.1.1, good_of_word (mg_of g.1.1)⟩
        · exact ⟨g.1.2.1, good_of_word (mg_of g.1.2.1)⟩
        · exact ⟨g.1.2.2.1, good_of_word (mg_of g.1.2.2.1)⟩
        · exact ⟨g.1.2.2.2.1, good_of_word (mg_of g.1.2.2.2.1)⟩
      · exact WSm_good g.1.2.2.2.2 w hw) rfl hrm.1 hrm.2 g.2 hR) ⟨fun a U g mk q => PreX_blind a U g mk q, va_recv B.2.1 hPc (ci := ci) (q0 := rj) hcl hrec, fun U hU hW => ⟨rfl, by rw [hU], by rw [hU]; exact hPc, va_K.moved hW.alike B.2.1, hDc.weaken (fun _ _ _ _ => trivial), EB.call hS hFc hU hW⟩⟩ rfl hn hl.1 rfl (by show 2 * 0 + (st.map fun v => v.category).sum ≤ 8; omega) d hcs) hS (fun q _ h => hFc q h) hFc (fun r u t H1 locs ht hvm hw hB hz1 hk1 hS => ?_)
  obtain ⟨hP1, hD1⟩ := hB
  rw [ht] at hP1
  obtain ⟨hP, hD⟩ := mrg_ok hP hD gs hC (hadr r u hw) hk1 hFc hP1 hD1
  exact kk r u hw H1 locs ls hl hP hD hS
theorem V_ksi (pc : Nat) (B : VB p s m args meth c D Y A cc nL own ret) (EB : EX A s s.heap) {Sg : Type} {post : Int32 → Sg → Prop} {wf : Sg → va_W} {rm : Room} {mc ms n index : Nat} {y : MethodName} {bytes : ByteArray} {maxL : Nat} {rt : Option FieldType} {As : List Value} {wc : va_W} {st0 : List Value} (hM : ∀ sz : Nat, Met l y (WSm y bytes maxL rt) rm (PreX D Y As wc sz) (QI D post wf (va_A wc sz)) mc ms (va_A wc sz)) (g : GLS own index y bytes maxL rt n) (hrm : rm.cells = mc ∧ rm.slots = ms) (hR : rm.frames + 1 ≤ R.frames ∧ 8 + (maxL + 11) + rm.locals ≤ R.locals) (hcs : cells + mc ≤ R.cells ∧ slots + ms ≤ R.slots) (gs : List Nat) (hC : (plc 0 gs).map (fun i => ws[i]?) = wc.map some) (hst : st0 = As.reverse ++ st) (hcat : (st.map fun v => v.category).sum ≤ 8) (hn : As.length = n) (hadr : ∀ (r : Int32) (u : Sg), post r u → ((wf u).map Prod.fst).take wc.length = wc.map Prod.fst) (d : decode cc pc = .ok (.invokestatic index, 3)) (kk : ∀ (r : Int32) (u : Sg), post r u → V p l e R s m args below meth c D A nL (cells + mc) (slots + ms) Q (pc + 3) lv (.int r :: st) (mrg gs ws (wf u))) : V p l e R s m args below meth c D A nL cells slots Q pc lv st0 ws := fun H locs ls hl hP hD hS => by
  subst hst
  have hPc : va_P D vwCl wc H := fun k q hk => by
    obtain ⟨i, -, hi⟩ := map_at hC k q hk
    exact hP i q hi
  have hDc : va_D A wc := hD.sub (plc 0 gs) (plc_nd gs 0) hC
  have hFc := va_free hD hS B.2.2.2.1 (plc 0 gs) hC
  refine va_calli (va_runS (As := As) (rest := st) ⟨B.1.1, B.1.2.1, B.1.2.2.1, B.1.2.2.2.1, B.1.2.2.2.2⟩ (hM H.size) ⟨callB_of n B.1.2.2.2.2 (WSm_good g.1.2.2.2) rfl hrm.1 hrm.2 (B.1.2.2.2.2 _ g.1.2.2.1) (B.1.2.2.2.2 _ g.1.1) g.2 hR, B.1.2.2.2.2 _ g.1.2.1⟩ ⟨fun a U g mk q => PreX_blind a U g mk q, fun U hU hW => ⟨rfl, by rw [hU], by rw [hU]; exact hPc, va_K.moved hW.alike B.2.1, hDc.weaken (fun _ _ _ _ => trivial), EB.call hS hFc hU hW⟩⟩ rfl hn hl.1 rfl (by show 2 * 0 + (st.map fun v => v.category).sum ≤ 8; omega) d hcs) hS (fun q _ h => hFc q h) hFc (fun r u t H1 locs ht hvm hw hB hz1 hk1 hS => ?_)
  obtain ⟨hP1, hD1⟩ := hB
  rw [ht] at hP1
  obtain ⟨hP, hD⟩ := mrg_ok hP hD gs hC (hadr r u hw) hk1 hFc hP1 hD1
  exact kk r u hw H1 locs ls hl hP hD hS
theorem V_ksl (pc : Nat) (B : VB p s m args meth c D Y A cc nL own ret) (EB : EX A s s.heap) {Sg : Type} {post : Int64 → Sg → Prop} {wf : Sg → va_W} {rm : Room} {mc ms n index : Nat} {y : MethodName} {bytes : ByteArray} {maxL : Nat} {rt : Option FieldType} {As : List Value} {wc : va_W} {st0 : List Value} (hM : ∀ sz : Nat, Met l y (WSm y bytes maxL rt) rm (PreX D Y As wc sz) (QJ D post wf (va_A wc sz)) mc ms (va_A wc sz)) (g : GLS own index y bytes maxL rt n) (hrm : rm.cells = mc ∧ rm.slots = ms) (hR : rm.frames + 1 ≤ R.frames ∧ 8 + (maxL + 11) + rm.locals ≤ R.locals) (hcs : cells + mc ≤ R.cells ∧ slots + ms ≤ R.slots) (gs : List Nat) (hC : (plc 0 gs).map (fun i => ws[i]?) = wc.map some) (hst : st0 = As.reverse ++ st) (hcat : (st.map fun v => v.category).sum ≤ 8) (hn : As.length = n) (hadr : ∀ (r : Int64) (u : Sg), post r u → ((wf u).map Prod.fst).take wc.length = wc.map Prod.fst) (d : decode cc pc = .ok (.invokestatic index, 3)) (kk : ∀ (r : Int64) (u : Sg), post r u → V p l e R s m args below meth c D A nL (cells + mc) (slots + ms) Q (pc + 3) lv (.long r :: st) (mrg gs ws (wf u))) : V p l e R s m args below meth c D A nL cells slots Q pc lv st0 ws := fun H locs ls hl hP hD hS => by
  subst hst
  have hPc : va_P D vwCl wc H := fun k q hk => by
    obtain ⟨i, -, hi⟩ := map_at hC k q hk
    exact hP i q hi
  have hDc : va_D A wc := hD.sub (plc 0 gs) (plc_nd gs 0) hC
  have hFc := va_free hD hS B.2.2.2.1 (plc 0 gs) hC
  refine va_calll (va_runS (As := As) (rest := st) ⟨B.1.1, B.1.2.1, B.1.2.2.1, B.1.2.2.2.1, B.1.2.2.2.2⟩ (hM H.size) ⟨callB_of n B.1.2.2.2.2 (WSm_good g.1.2.2.2) rfl hrm.1 hrm.2 (B.1.2.2.2.2 _ g.1.2.2.1) (B.1.2.2.2.2 _ g.1.1) g.2 hR, B.1.2.2.2.2 _ g.1.2.1⟩ ⟨fun a U g mk q => PreX_blind a U g mk q, fun U hU hW => ⟨rfl, by rw [hU], by rw [hU]; exact hPc, va_K.moved hW.alike B.2.1, hDc.weaken (fun _ _ _ _ => trivial), EB.call hS hFc hU hW⟩⟩ rfl hn hl.1 rfl (by show 2 * 0 + (st.map fun v => v.category).sum ≤ 8; omega) d hcs) hS (fun q _ h => hFc q h) hFc (fun r u t H1 locs ht hvm hw hB hz1 hk1 hS => ?_)
  obtain ⟨hP1, hD1⟩ := hB
  rw [ht] at hP1
  obtain ⟨hP, hD⟩ := mrg_ok hP hD gs hC (hadr r u hw) hk1 hFc hP1 hD1
  exact kk r u hw H1 locs ls hl hP hD hS
theorem V_kget (pc : Nat) (B : VB p s m args meth c D Y A cc nL "ShortcutBook$Sequences" ret) (EB : EX A s s.heap) {index : Nat} (hw : Cond.fieldLink "ShortcutBook$Sequences" index "ShortcutBook$Sequences" "KEY_COSTS" "[I" ∈ lw_good) (d : decode cc pc = .ok (.getstatic index, 3)) (kk : ∀ t : Nat, va_T .int t 26 (fun j => .int (kci j)) A s s.heap → V p l e R s m args below meth c D A nL cells slots Q (pc + 3) lv (.ref t :: st) ws) : V p l e R s m args below meth c D A nL cells slots Q pc lv st ws := fun H locs ls hl hP hD hS => by
  obtain ⟨t, hZ, hT⟩ := EB.2.2.2.2.2.2
  exact va_gets B.1.1 B.1.2.1 hZ hS B.1.2.2.2.1 (B.1.2.2.2.2 _ hw) (fun _ h => h) d (kk t hT H locs ls hl hP hD hS)
theorem V_klen (pc : Nat) (B : VB p s m args meth c D Y A cc nL own ret) {t : Nat} (hT : va_T .int t 26 (fun j => .int (kci j)) A s s.heap) (d : decode cc pc = .ok (.arraylength, 1)) (kk : V p l e R s m args below meth c D A nL cells slots Q (pc + 1) lv (.int 26 :: st) ws) : V p l e R s m args below meth c D A nL cells slots Q pc lv (.ref t :: st) ws := fun H locs ls hl hP hD hS => va_tlen B.1.1 B.1.2.1 hT hS (by decide +kernel) d (kk H locs ls hl hP hD hS)
theorem V_kld (pc : Nat) (B : VB p s m args meth c D Y A cc nL own ret) {t : Nat} (hT : va_T .int t 26 (fun j => .int (kci j)) A s s.heap) {i v : Int32} (hin : vp_in i 26) (hv : kci i.toNatClampNeg = v) (d : decode cc pc = .ok (.iaload, 1)) (kk : V p l e R s m args below meth c D A nL cells slots Q (pc + 1) lv (.int v :: st) ws) : V p l e R s m args below meth c D A nL cells slots Q pc lv (.int i :: .ref t :: st) ws := fun H locs ls hl hP hD hS => va_ti B.1.1 B.1.2.1 hT hS hin (by rw [hv]) d (kk H locs ls hl hP hD hS)
theorem V_ldcw (pc : Nat) (B : VB p s m args meth c D Y A cc nL own ret) {index : Nat} {v : Int32} (d : decode cc pc = .ok (.ldc_w index, 3)) (hw : Cond.constant own index v ∈ lw_good) (kk : V p l e R s m args below meth c D A nL cells slots Q (pc + 3) lv (.int v :: st) ws) : V p l e R s m args below meth c D A nL cells slots Q pc lv st ws := fun H locs ls hl hP hD hS => lv_ldcw B.1.1 B.1.2.1 B.1.2.2.2.1 (B.1.2.2.2.2 _ hw) d (kk H locs ls hl hP hD hS)
end VK
theorem vpin_b {x : Int32} {n k : Nat} (h0 : (0 : Int) ≤ x.toInt) (h1 : x.toInt ≤ (k : Int)) (e : k < n) : vp_in x n := by
  unfold vp_in
  intro q
  rcases q with q | q
  · have := Int32.lt_iff_toInt_lt.mp q
    have e0 : (0 : Int32).toInt = 0 := by decide
    omega
  · have : x.toNatClampNeg = x.toInt.toNat := rfl
    omega
theorem and31_lo (x : Int32) : (0 : Int) ≤ (x &&& 31).toInt := by
  obtain ⟨j, hj, e⟩ := pk_andE x (m := 31) 5 (by decide +kernel)
  rw [e, nI_toInt (by omega)]
  omega
theorem eq_lo {x a : Int32} (h : x = a) {n : Int} (e : a.toInt = n) : n ≤ x.toInt := by
  subst h
  omega
theorem eq_hi {x a : Int32} (h : x = a) {n : Int} (e : a.toInt = n) : x.toInt ≤ n := by
  subst h
  omega
def bstF : Nat → Int64
  | 0 => 0
  | _ + 1 => 134217728
def bstP : Nat → Int64
  | 0 => 0
  | _ + 1 => 134479872
theorem bstF_pos : ∀ {n : Nat}, ¬ n = 0 → bstF n = 134217728
  | 0, h => absurd rfl h
  | _ + 1, _ => rfl
theorem bstP_pos : ∀ {n : Nat}, ¬ n = 0 → bstP n = 134479872
  | 0, h => absurd rfl h
  | _ + 1, _ => rfl

def lenF (p0 : Int64) : Int32 := (if (lg_cmp (p0 &&& 511) 0) = 0 then (if (lg_cmp ((p0 >>> ((9 : Int32).toInt64 &&& 63)) &&& 511) 0) = 0 then (if (lg_cmp ((p0 >>> ((18 : Int32).toInt64 &&& 63)) &&& 511) 0) = 0 then (if (lg_cmp p0 0) = 0 then 0 else 1) else 2) else 3) else 4)
theorem dX6_lengthOf_48 : decode cX6_lengthOf 48 = .ok (.iconst 1, 1) := by decide +kernel
theorem dX6_lengthOf_49 : decode cX6_lengthOf 49 = .ok (.goto 4, 3) := by decide +kernel
theorem dX6_lengthOf_40 : decode cX6_lengthOf 40 = .ok (.iconst 2, 1) := by decide +kernel
theorem dX6_lengthOf_41 : decode cX6_lengthOf 41 = .ok (.ireturn, 1) := by decide +kernel
theorem dX6_lengthOf_25 : decode cX6_lengthOf 25 = .ok (.iconst 3, 1) := by decide +kernel
theorem dX6_lengthOf_26 : decode cX6_lengthOf 26 = .ok (.ireturn, 1) := by decide +kernel
theorem dX6_lengthOf_10 : decode cX6_lengthOf 10 = .ok (.iconst 4, 1) := by decide +kernel
theorem dX6_lengthOf_11 : decode cX6_lengthOf 11 = .ok (.ireturn, 1) := by decide +kernel
set_option maxRecDepth 100000 in
set_option maxHeartbeats 4000000 in
theorem mX6_lengthOf_lenF (l : Launch) (D : va_G) (Y : Nat → ClassId) (p0 : Int64)  (sz : Nat) : Met l yX6_lengthOf (WSm yX6_lengthOf cX6_lengthOf 2 (some .int)) (mkR 0 0 0 0) (PreC D Y [.long p0] [] sz) (QI D (fun (r : Int32) (u : Unit) => lenF p0 = r) (fun (_ : Unit) => []) (va_A [] sz)) 0 0 (va_A [] sz) :=
  met_of (by decide +kernel) (Nat.le_of_ble_eq_true rfl) (fun p e s m args below meth c B hin hsz => by
    have B : VB p s m args meth c D Y (va_A [] sz) cX6_lengthOf 2 RX6 (some .int) := B
    refine V_lload_n 0 B dX6_lengthOf_0 0 rfl ?_
    refine V_ldc2 1 B (v := 511) dX6_lengthOf_1 (mT3 101 rfl rfl) ?_
    refine V_land 4 B dX6_lengthOf_4 rfl ?_
    refine V_lconst 5 B (v := 0) dX6_lengthOf_5 (by decide +kernel) ?_
    refine V_lcmp 6 B dX6_lengthOf_6 rfl ?_
    refine V_if_eq 7 B 12 dX6_lengthOf_7 (by decide) (fun k0 => ?_) (fun k0 => ?_)
    ·
      refine V_lload_n 12 B dX6_lengthOf_12 0 rfl ?_
      refine V_bipush 13 B (v := 9) dX6_lengthOf_13 (by decide +kernel) ?_
      refine V_lshr 15 B dX6_lengthOf_15 rfl ?_
      refine V_ldc2 16 B (v := 511) dX6_lengthOf_16 (mT3 101 rfl rfl) ?_
      refine V_land 19 B dX6_lengthOf_19 rfl ?_
      refine V_lconst 20 B (v := 0) dX6_lengthOf_20 (by decide +kernel) ?_
      refine V_lcmp 21 B dX6_lengthOf_21 rfl ?_
      refine V_if_eq 22 B 27 dX6_lengthOf_22 (by decide) (fun k1 => ?_) (fun k1 => ?_)
      ·
        refine V_lload_n 27 B dX6_lengthOf_27 0 rfl ?_
        refine V_bipush 28 B (v := 18) dX6_lengthOf_28 (by decide +kernel) ?_
        refine V_lshr 30 B dX6_lengthOf_30 rfl ?_
        refine V_ldc2 31 B (v := 511) dX6_lengthOf_31 (mT3 101 rfl rfl) ?_
        refine V_land 34 B dX6_lengthOf_34 rfl ?_
        refine V_lconst 35 B (v := 0) dX6_lengthOf_35 (by decide +kernel) ?_
        refine V_lcmp 36 B dX6_lengthOf_36 rfl ?_
        refine V_if_eq 37 B 42 dX6_lengthOf_37 (by decide) (fun k2 => ?_) (fun k2 => ?_)
        ·
          refine V_lload_n 42 B dX6_lengthOf_42 0 rfl ?_
          refine V_lconst 43 B (v := 0) dX6_lengthOf_43 (by decide +kernel) ?_
          refine V_lcmp 44 B dX6_lengthOf_44 rfl ?_
          refine V_if_eq 45 B 52 dX6_lengthOf_45 (by decide) (fun k3 => ?_) (fun k3 => ?_)
          ·
            refine V_iconst 52 B (v := 0) dX6_lengthOf_52 (by decide +kernel) ?_
            exact V_iret 53 B dX6_lengthOf_53 () (by
      unfold lenF
      rw [if_pos k0, if_pos k1, if_pos k2, if_pos k3]) rfl
          ·
            refine V_iconst 48 B (v := 1) dX6_lengthOf_48 (by decide +kernel) ?_
            refine V_goto 49 B 53 dX6_lengthOf_49 (by decide) ?_
            exact V_iret 53 B dX6_lengthOf_53 () (by
      unfold lenF
      rw [if_pos k0, if_pos k1, if_pos k2, if_neg k3]) rfl
        ·
          refine V_iconst 40 B (v := 2) dX6_lengthOf_40 (by decide +kernel) ?_
          exact V_iret 41 B dX6_lengthOf_41 () (by
      unfold lenF
      rw [if_pos k0, if_pos k1, if_neg k2]) rfl
      ·
        refine V_iconst 25 B (v := 3) dX6_lengthOf_25 (by decide +kernel) ?_
        exact V_iret 26 B dX6_lengthOf_26 () (by
      unfold lenF
      rw [if_pos k0, if_neg k1]) rfl
    ·
      refine V_iconst 10 B (v := 4) dX6_lengthOf_10 (by decide +kernel) ?_
      exact V_iret 11 B dX6_lengthOf_11 () (by
      unfold lenF
      rw [if_neg k0]) rfl)
def sa0F (p0 : Int64) : Int32 := (((p0 >>> ((27 : Int32).toInt64 &&& 63)) &&& 511).toInt32 - 1)
set_option maxRecDepth 100000 in
set_option maxHeartbeats 4000000 in
theorem mX6_strokeAt_sa0F (l : Launch) (D : va_G) (Y : Nat → ClassId) (p0 : Int64)  (sz : Nat) : Met l yX6_strokeAt (WSm yX6_strokeAt cX6_strokeAt 3 (some .int)) (mkR 0 0 0 0) (PreC D Y [.long p0, .int 0] [] sz) (QI D (fun (r : Int32) (u : Unit) => sa0F p0 = r) (fun (_ : Unit) => []) (va_A [] sz)) 0 0 (va_A [] sz) :=
  met_of (by decide +kernel) (Nat.le_of_ble_eq_true rfl) (fun p e s m args below meth c B hin hsz => by
    have B : VB p s m args meth c D Y (va_A [] sz) cX6_strokeAt 3 RX6 (some .int) := B
    refine V_iload_n 0 B dX6_strokeAt_0 1 rfl ?_
    refine V_if_lt_f 1 B 9 dX6_strokeAt_1 (by decide) (by decide +kernel) ?_
    refine V_iload_n 4 B dX6_strokeAt_4 1 rfl ?_
    refine V_iconst 5 B (v := 4) dX6_strokeAt_5 (by decide +kernel) ?_
    refine V_icmp_lt_t 6 B 11 dX6_strokeAt_6 (by decide) (by decide +kernel) ?_
    refine V_lload_n 11 B dX6_strokeAt_11 0 rfl ?_
    refine V_bipush 12 B (v := 9) dX6_strokeAt_12 (by decide +kernel) ?_
    refine V_iconst 14 B (v := 3) dX6_strokeAt_14 (by decide +kernel) ?_
    refine V_iload_n 15 B dX6_strokeAt_15 1 rfl ?_
    refine V_isub 16 B (v := 3) dX6_strokeAt_16 (by decide +kernel) ?_
    refine V_imul 17 B (v := 27) dX6_strokeAt_17 (by decide +kernel) ?_
    refine V_lshr 18 B dX6_strokeAt_18 rfl ?_
    refine V_ldc2 19 B (v := 511) dX6_strokeAt_19 (mT3 101 rfl rfl) ?_
    refine V_land 22 B dX6_strokeAt_22 rfl ?_
    refine V_l2i 23 B dX6_strokeAt_23 rfl ?_
    refine V_iconst 24 B (v := 1) dX6_strokeAt_24 (by decide +kernel) ?_
    refine V_isub 25 B dX6_strokeAt_25 rfl ?_
    exact V_iret 26 B dX6_strokeAt_26 () rfl rfl)
def bcF (p0 : Int32) : Int32 := ((((((((p0 - ((((p0).toUInt32 >>> ((1 : Int32).toUInt32 &&& Int32.toUInt32 31)).toInt32) &&& 1431655765)) &&& 858993459) + (((((p0 - ((((p0).toUInt32 >>> ((1 : Int32).toUInt32 &&& Int32.toUInt32 31)).toInt32) &&& 1431655765))).toUInt32 >>> ((2 : Int32).toUInt32 &&& Int32.toUInt32 31)).toInt32) &&& 858993459)) + ((((((p0 - ((((p0).toUInt32 >>> ((1 : Int32).toUInt32 &&& Int32.toUInt32 31)).toInt32) &&& 1431655765)) &&& 858993459) + (((((p0 - ((((p0).toUInt32 >>> ((1 : Int32).toUInt32 &&& Int32.toUInt32 31)).toInt32) &&& 1431655765))).toUInt32 >>> ((2 : Int32).toUInt32 &&& Int32.toUInt32 31)).toInt32) &&& 858993459))).toUInt32 >>> ((4 : Int32).toUInt32 &&& Int32.toUInt32 31)).toInt32)) &&& 252645135) + ((((((((p0 - ((((p0).toUInt32 >>> ((1 : Int32).toUInt32 &&& Int32.toUInt32 31)).toInt32) &&& 1431655765)) &&& 858993459) + (((((p0 - ((((p0).toUInt32 >>> ((1 : Int32).toUInt32 &&& Int32.toUInt32 31)).toInt32) &&& 1431655765))).toUInt32 >>> ((2 : Int32).toUInt32 &&& Int32.toUInt32 31)).toInt32) &&& 858993459)) + ((((((p0 - ((((p0).toUInt32 >>> ((1 : Int32).toUInt32 &&& Int32.toUInt32 31)).toInt32) &&& 1431655765)) &&& 858993459) + (((((p0 - ((((p0).toUInt32 >>> ((1 : Int32).toUInt32 &&& Int32.toUInt32 31)).toInt32) &&& 1431655765))).toUInt32 >>> ((2 : Int32).toUInt32 &&& Int32.toUInt32 31)).toInt32) &&& 858993459))).toUInt32 >>> ((4 : Int32).toUInt32 &&& Int32.toUInt32 31)).toInt32)) &&& 252645135)).toUInt32 >>> ((8 : Int32).toUInt32 &&& Int32.toUInt32 31)).toInt32)) + (((((((((p0 - ((((p0).toUInt32 >>> ((1 : Int32).toUInt32 &&& Int32.toUInt32 31)).toInt32) &&& 1431655765)) &&& 858993459) + (((((p0 - ((((p0).toUInt32 >>> ((1 : Int32).toUInt32 &&& Int32.toUInt32 31)).toInt32) &&& 1431655765))).toUInt32 >>> ((2 : Int32).toUInt32 &&& Int32.toUInt32 31)).toInt32) &&& 858993459)) + ((((((p0 - ((((p0).toUInt32 >>> ((1 : Int32).toUInt32 &&& Int32.toUInt32 31)).toInt32) &&& 1431655765)) &&& 858993459) + (((((p0 - ((((p0).toUInt32 >>> ((1 : Int32).toUInt32 &&& Int32.toUInt32 31)).toInt32) &&& 1431655765))).toUInt32 >>> ((2 : Int32).toUInt32 &&& Int32.toUInt32 31)).toInt32) &&& 858993459))).toUInt32 >>> ((4 : Int32).toUInt32 &&& Int32.toUInt32 31)).toInt32)) &&& 252645135) + ((((((((p0 - ((((p0).toUInt32 >>> ((1 : Int32).toUInt32 &&& Int32.toUInt32 31)).toInt32) &&& 1431655765)) &&& 858993459) + (((((p0 - ((((p0).toUInt32 >>> ((1 : Int32).toUInt32 &&& Int32.toUInt32 31)).toInt32) &&& 1431655765))).toUInt32 >>> ((2 : Int32).toUInt32 &&& Int32.toUInt32 31)).toInt32) &&& 858993459)) + ((((((p0 - ((((p0).toUInt32 >>> ((1 : Int32).toUInt32 &&& Int32.toUInt32 31)).toInt32) &&& 1431655765)) &&& 858993459) + (((((p0 - ((((p0).toUInt32 >>> ((1 : Int32).toUInt32 &&& Int32.toUInt32 31)).toInt32) &&& 1431655765))).toUInt32 >>> ((2 : Int32).toUInt32 &&& Int32.toUInt32 31)).toInt32) &&& 858993459))).toUInt32 >>> ((4 : Int32).toUInt32 &&& Int32.toUInt32 31)).toInt32)) &&& 252645135)).toUInt32 >>> ((8 : Int32).toUInt32 &&& Int32.toUInt32 31)).toInt32))).toUInt32 >>> ((16 : Int32).toUInt32 &&& Int32.toUInt32 31)).toInt32)) &&& 63)
theorem dJ6_bitCount_0f7a4_0 : decode cJ6_bitCount_0f7a4 0 = .ok (.iload_n 0, 1) := by decide +kernel
theorem dJ6_bitCount_0f7a4_1 : decode cJ6_bitCount_0f7a4 1 = .ok (.iload_n 0, 1) := by decide +kernel
theorem dJ6_bitCount_0f7a4_2 : decode cJ6_bitCount_0f7a4 2 = .ok (.iconst 1, 1) := by decide +kernel
theorem dJ6_bitCount_0f7a4_3 : decode cJ6_bitCount_0f7a4 3 = .ok (.iushr, 1) := by decide +kernel
theorem dJ6_bitCount_0f7a4_4 : decode cJ6_bitCount_0f7a4 4 = .ok (.ldc_w 265, 3) := by decide +kernel
theorem dJ6_bitCount_0f7a4_7 : decode cJ6_bitCount_0f7a4 7 = .ok (.iand, 1) := by decide +kernel
theorem dJ6_bitCount_0f7a4_8 : decode cJ6_bitCount_0f7a4 8 = .ok (.isub, 1) := by decide +kernel
theorem dJ6_bitCount_0f7a4_9 : decode cJ6_bitCount_0f7a4 9 = .ok (.istore_n 0, 1) := by decide +kernel
theorem dJ6_bitCount_0f7a4_10 : decode cJ6_bitCount_0f7a4 10 = .ok (.iload_n 0, 1) := by decide +kernel
theorem dJ6_bitCount_0f7a4_11 : decode cJ6_bitCount_0f7a4 11 = .ok (.ldc_w 266, 3) := by decide +kernel
theorem dJ6_bitCount_0f7a4_14 : decode cJ6_bitCount_0f7a4 14 = .ok (.iand, 1) := by decide +kernel
theorem dJ6_bitCount_0f7a4_15 : decode cJ6_bitCount_0f7a4 15 = .ok (.iload_n 0, 1) := by decide +kernel
theorem dJ6_bitCount_0f7a4_16 : decode cJ6_bitCount_0f7a4 16 = .ok (.iconst 2, 1) := by decide +kernel
theorem dJ6_bitCount_0f7a4_17 : decode cJ6_bitCount_0f7a4 17 = .ok (.iushr, 1) := by decide +kernel
theorem dJ6_bitCount_0f7a4_18 : decode cJ6_bitCount_0f7a4 18 = .ok (.ldc_w 266, 3) := by decide +kernel
theorem dJ6_bitCount_0f7a4_21 : decode cJ6_bitCount_0f7a4 21 = .ok (.iand, 1) := by decide +kernel
theorem dJ6_bitCount_0f7a4_22 : decode cJ6_bitCount_0f7a4 22 = .ok (.iadd, 1) := by decide +kernel
theorem dJ6_bitCount_0f7a4_23 : decode cJ6_bitCount_0f7a4 23 = .ok (.istore_n 0, 1) := by decide +kernel
theorem dJ6_bitCount_0f7a4_24 : decode cJ6_bitCount_0f7a4 24 = .ok (.iload_n 0, 1) := by decide +kernel
theorem dJ6_bitCount_0f7a4_25 : decode cJ6_bitCount_0f7a4 25 = .ok (.iload_n 0, 1) := by decide +kernel
theorem dJ6_bitCount_0f7a4_26 : decode cJ6_bitCount_0f7a4 26 = .ok (.iconst 4, 1) := by decide +kernel
theorem dJ6_bitCount_0f7a4_27 : decode cJ6_bitCount_0f7a4 27 = .ok (.iushr, 1) := by decide +kernel
theorem dJ6_bitCount_0f7a4_28 : decode cJ6_bitCount_0f7a4 28 = .ok (.iadd, 1) := by decide +kernel
theorem dJ6_bitCount_0f7a4_29 : decode cJ6_bitCount_0f7a4 29 = .ok (.ldc_w 267, 3) := by decide +kernel
theorem dJ6_bitCount_0f7a4_32 : decode cJ6_bitCount_0f7a4 32 = .ok (.iand, 1) := by decide +kernel
theorem dJ6_bitCount_0f7a4_33 : decode cJ6_bitCount_0f7a4 33 = .ok (.istore_n 0, 1) := by decide +kernel
theorem dJ6_bitCount_0f7a4_34 : decode cJ6_bitCount_0f7a4 34 = .ok (.iload_n 0, 1) := by decide +kernel
theorem dJ6_bitCount_0f7a4_35 : decode cJ6_bitCount_0f7a4 35 = .ok (.iload_n 0, 1) := by decide +kernel
theorem dJ6_bitCount_0f7a4_36 : decode cJ6_bitCount_0f7a4 36 = .ok (.bipush 8, 2) := by decide +kernel
theorem dJ6_bitCount_0f7a4_38 : decode cJ6_bitCount_0f7a4 38 = .ok (.iushr, 1) := by decide +kernel
theorem dJ6_bitCount_0f7a4_39 : decode cJ6_bitCount_0f7a4 39 = .ok (.iadd, 1) := by decide +kernel
theorem dJ6_bitCount_0f7a4_40 : decode cJ6_bitCount_0f7a4 40 = .ok (.istore_n 0, 1) := by decide +kernel
theorem dJ6_bitCount_0f7a4_41 : decode cJ6_bitCount_0f7a4 41 = .ok (.iload_n 0, 1) := by decide +kernel
theorem dJ6_bitCount_0f7a4_42 : decode cJ6_bitCount_0f7a4 42 = .ok (.iload_n 0, 1) := by decide +kernel
theorem dJ6_bitCount_0f7a4_43 : decode cJ6_bitCount_0f7a4 43 = .ok (.bipush 16, 2) := by decide +kernel
theorem dJ6_bitCount_0f7a4_45 : decode cJ6_bitCount_0f7a4 45 = .ok (.iushr, 1) := by decide +kernel
theorem dJ6_bitCount_0f7a4_46 : decode cJ6_bitCount_0f7a4 46 = .ok (.iadd, 1) := by decide +kernel
theorem dJ6_bitCount_0f7a4_47 : decode cJ6_bitCount_0f7a4 47 = .ok (.istore_n 0, 1) := by decide +kernel
theorem dJ6_bitCount_0f7a4_48 : decode cJ6_bitCount_0f7a4 48 = .ok (.iload_n 0, 1) := by decide +kernel
theorem dJ6_bitCount_0f7a4_49 : decode cJ6_bitCount_0f7a4 49 = .ok (.bipush 63, 2) := by decide +kernel
theorem dJ6_bitCount_0f7a4_51 : decode cJ6_bitCount_0f7a4 51 = .ok (.iand, 1) := by decide +kernel
theorem dJ6_bitCount_0f7a4_52 : decode cJ6_bitCount_0f7a4 52 = .ok (.ireturn, 1) := by decide +kernel
set_option maxRecDepth 100000 in
set_option maxHeartbeats 4000000 in
theorem mJ6_bitCount_0f7a4_bcF (l : Launch) (D : va_G) (Y : Nat → ClassId) (p0 : Int32)  (sz : Nat) : Met l yJ6_bitCount_0f7a4 (WSm yJ6_bitCount_0f7a4 cJ6_bitCount_0f7a4 1 (some .int)) (mkR 0 0 0 0) (PreC D Y [.int p0] [] sz) (QI D (fun (r : Int32) (u : Unit) => bcF p0 = r) (fun (_ : Unit) => []) (va_A [] sz)) 0 0 (va_A [] sz) :=
  met_of (by decide +kernel) (Nat.le_of_ble_eq_true rfl) (fun p e s m args below meth c B hin hsz => by
    have B : VB p s m args meth c D Y (va_A [] sz) cJ6_bitCount_0f7a4 1 RJ6 (some .int) := B
    refine V_iload_n 0 B dJ6_bitCount_0f7a4_0 0 rfl ?_
    refine V_iload_n 1 B dJ6_bitCount_0f7a4_1 0 rfl ?_
    refine V_iconst 2 B (v := 1) dJ6_bitCount_0f7a4_2 (by decide +kernel) ?_
    refine V_iushr 3 B dJ6_bitCount_0f7a4_3 rfl ?_
    refine V_ldcw 4 B (v := 1431655765) dJ6_bitCount_0f7a4_4 (mT4 8 rfl rfl) ?_
    refine V_iand 7 B dJ6_bitCount_0f7a4_7 rfl ?_
    refine V_isub 8 B dJ6_bitCount_0f7a4_8 rfl ?_
    refine V_istore_n 9 B (lv2 := [(0, .int (p0 - ((((p0).toUInt32 >>> ((1 : Int32).toUInt32 &&& Int32.toUInt32 31)).toInt32) &&& 1431655765)))]) dJ6_bitCount_0f7a4_9 (by decide) rfl ?_
    refine V_iload_n 10 B dJ6_bitCount_0f7a4_10 0 rfl ?_
    refine V_ldcw 11 B (v := 858993459) dJ6_bitCount_0f7a4_11 (mT4 9 rfl rfl) ?_
    refine V_iand 14 B dJ6_bitCount_0f7a4_14 rfl ?_
    refine V_iload_n 15 B dJ6_bitCount_0f7a4_15 0 rfl ?_
    refine V_iconst 16 B (v := 2) dJ6_bitCount_0f7a4_16 (by decide +kernel) ?_
    refine V_iushr 17 B dJ6_bitCount_0f7a4_17 rfl ?_
    refine V_ldcw 18 B (v := 858993459) dJ6_bitCount_0f7a4_18 (mT4 9 rfl rfl) ?_
    refine V_iand 21 B dJ6_bitCount_0f7a4_21 rfl ?_
    refine V_iadd 22 B dJ6_bitCount_0f7a4_22 rfl ?_
    refine V_istore_n 23 B (lv2 := [(0, .int (((p0 - ((((p0).toUInt32 >>> ((1 : Int32).toUInt32 &&& Int32.toUInt32 31)).toInt32) &&& 1431655765)) &&& 858993459) + (((((p0 - ((((p0).toUInt32 >>> ((1 : Int32).toUInt32 &&& Int32.toUInt32 31)).toInt32) &&& 1431655765))).toUInt32 >>> ((2 : Int32).toUInt32 &&& Int32.toUInt32 31)).toInt32) &&& 858993459)))]) dJ6_bitCount_0f7a4_23 (by decide) rfl ?_
    refine V_iload_n 24 B dJ6_bitCount_0f7a4_24 0 rfl ?_
    refine V_iload_n 25 B dJ6_bitCount_0f7a4_25 0 rfl ?_
    refine V_iconst 26 B (v := 4) dJ6_bitCount_0f7a4_26 (by decide +kernel) ?_
    refine V_iushr 27 B dJ6_bitCount_0f7a4_27 rfl ?_
    refine V_iadd 28 B dJ6_bitCount_0f7a4_28 rfl ?_
    refine V_ldcw 29 B (v := 252645135) dJ6_bitCount_0f7a4_29 (mT4 10 rfl rfl) ?_
    refine V_iand 32 B dJ6_bitCount_0f7a4_32 rfl ?_
    refine V_istore_n 33 B (lv2 := [(0, .int (((((p0 - ((((p0).toUInt32 >>> ((1 : Int32).toUInt32 &&& Int32.toUInt32 31)).toInt32) &&& 1431655765)) &&& 858993459) + (((((p0 - ((((p0).toUInt32 >>> ((1 : Int32).toUInt32 &&& Int32.toUInt32 31)).toInt32) &&& 1431655765))).toUInt32 >>> ((2 : Int32).toUInt32 &&& Int32.toUInt32 31)).toInt32) &&& 858993459)) + ((((((p0 - ((((p0).toUInt32 >>> ((1 : Int32).toUInt32 &&& Int32.toUInt32 31)).toInt32) &&& 1431655765)) &&& 858993459) + (((((p0 - ((((p0).toUInt32 >>> ((1 : Int32).toUInt32 &&& Int32.toUInt32 31)).toInt32) &&& 1431655765))).toUInt32 >>> ((2 : Int32).toUInt32 &&& Int32.toUInt32 31)).toInt32) &&& 858993459))).toUInt32 >>> ((4 : Int32).toUInt32 &&& Int32.toUInt32 31)).toInt32)) &&& 252645135))]) dJ6_bitCount_0f7a4_33 (by decide) rfl ?_
    refine V_iload_n 34 B dJ6_bitCount_0f7a4_34 0 rfl ?_
    refine V_iload_n 35 B dJ6_bitCount_0f7a4_35 0 rfl ?_
    refine V_bipush 36 B (v := 8) dJ6_bitCount_0f7a4_36 (by decide +kernel) ?_
    refine V_iushr 38 B dJ6_bitCount_0f7a4_38 rfl ?_
    refine V_iadd 39 B dJ6_bitCount_0f7a4_39 rfl ?_
    refine V_istore_n 40 B (lv2 := [(0, .int ((((((p0 - ((((p0).toUInt32 >>> ((1 : Int32).toUInt32 &&& Int32.toUInt32 31)).toInt32) &&& 1431655765)) &&& 858993459) + (((((p0 - ((((p0).toUInt32 >>> ((1 : Int32).toUInt32 &&& Int32.toUInt32 31)).toInt32) &&& 1431655765))).toUInt32 >>> ((2 : Int32).toUInt32 &&& Int32.toUInt32 31)).toInt32) &&& 858993459)) + ((((((p0 - ((((p0).toUInt32 >>> ((1 : Int32).toUInt32 &&& Int32.toUInt32 31)).toInt32) &&& 1431655765)) &&& 858993459) + (((((p0 - ((((p0).toUInt32 >>> ((1 : Int32).toUInt32 &&& Int32.toUInt32 31)).toInt32) &&& 1431655765))).toUInt32 >>> ((2 : Int32).toUInt32 &&& Int32.toUInt32 31)).toInt32) &&& 858993459))).toUInt32 >>> ((4 : Int32).toUInt32 &&& Int32.toUInt32 31)).toInt32)) &&& 252645135) + ((((((((p0 - ((((p0).toUInt32 >>> ((1 : Int32).toUInt32 &&& Int32.toUInt32 31)).toInt32) &&& 1431655765)) &&& 858993459) + (((((p0 - ((((p0).toUInt32 >>> ((1 : Int32).toUInt32 &&& Int32.toUInt32 31)).toInt32) &&& 1431655765))).toUInt32 >>> ((2 : Int32).toUInt32 &&& Int32.toUInt32 31)).toInt32) &&& 858993459)) + ((((((p0 - ((((p0).toUInt32 >>> ((1 : Int32).toUInt32 &&& Int32.toUInt32 31)).toInt32) &&& 1431655765)) &&& 858993459) + (((((p0 - ((((p0).toUInt32 >>> ((1 : Int32).toUInt32 &&& Int32.toUInt32 31)).toInt32) &&& 1431655765))).toUInt32 >>> ((2 : Int32).toUInt32 &&& Int32.toUInt32 31)).toInt32) &&& 858993459))).toUInt32 >>> ((4 : Int32).toUInt32 &&& Int32.toUInt32 31)).toInt32)) &&& 252645135)).toUInt32 >>> ((8 : Int32).toUInt32 &&& Int32.toUInt32 31)).toInt32)))]) dJ6_bitCount_0f7a4_40 (by decide) rfl ?_
    refine V_iload_n 41 B dJ6_bitCount_0f7a4_41 0 rfl ?_
    refine V_iload_n 42 B dJ6_bitCount_0f7a4_42 0 rfl ?_
    refine V_bipush 43 B (v := 16) dJ6_bitCount_0f7a4_43 (by decide +kernel) ?_
    refine V_iushr 45 B dJ6_bitCount_0f7a4_45 rfl ?_
    refine V_iadd 46 B dJ6_bitCount_0f7a4_46 rfl ?_
    refine V_istore_n 47 B (lv2 := [(0, .int (((((((p0 - ((((p0).toUInt32 >>> ((1 : Int32).toUInt32 &&& Int32.toUInt32 31)).toInt32) &&& 1431655765)) &&& 858993459) + (((((p0 - ((((p0).toUInt32 >>> ((1 : Int32).toUInt32 &&& Int32.toUInt32 31)).toInt32) &&& 1431655765))).toUInt32 >>> ((2 : Int32).toUInt32 &&& Int32.toUInt32 31)).toInt32) &&& 858993459)) + ((((((p0 - ((((p0).toUInt32 >>> ((1 : Int32).toUInt32 &&& Int32.toUInt32 31)).toInt32) &&& 1431655765)) &&& 858993459) + (((((p0 - ((((p0).toUInt32 >>> ((1 : Int32).toUInt32 &&& Int32.toUInt32 31)).toInt32) &&& 1431655765))).toUInt32 >>> ((2 : Int32).toUInt32 &&& Int32.toUInt32 31)).toInt32) &&& 858993459))).toUInt32 >>> ((4 : Int32).toUInt32 &&& Int32.toUInt32 31)).toInt32)) &&& 252645135) + ((((((((p0 - ((((p0).toUInt32 >>> ((1 : Int32).toUInt32 &&& Int32.toUInt32 31)).toInt32) &&& 1431655765)) &&& 858993459) + (((((p0 - ((((p0).toUInt32 >>> ((1 : Int32).toUInt32 &&& Int32.toUInt32 31)).toInt32) &&& 1431655765))).toUInt32 >>> ((2 : Int32).toUInt32 &&& Int32.toUInt32 31)).toInt32) &&& 858993459)) + ((((((p0 - ((((p0).toUInt32 >>> ((1 : Int32).toUInt32 &&& Int32.toUInt32 31)).toInt32) &&& 1431655765)) &&& 858993459) + (((((p0 - ((((p0).toUInt32 >>> ((1 : Int32).toUInt32 &&& Int32.toUInt32 31)).toInt32) &&& 1431655765))).toUInt32 >>> ((2 : Int32).toUInt32 &&& Int32.toUInt32 31)).toInt32) &&& 858993459))).toUInt32 >>> ((4 : Int32).toUInt32 &&& Int32.toUInt32 31)).toInt32)) &&& 252645135)).toUInt32 >>> ((8 : Int32).toUInt32 &&& Int32.toUInt32 31)).toInt32)) + (((((((((p0 - ((((p0).toUInt32 >>> ((1 : Int32).toUInt32 &&& Int32.toUInt32 31)).toInt32) &&& 1431655765)) &&& 858993459) + (((((p0 - ((((p0).toUInt32 >>> ((1 : Int32).toUInt32 &&& Int32.toUInt32 31)).toInt32) &&& 1431655765))).toUInt32 >>> ((2 : Int32).toUInt32 &&& Int32.toUInt32 31)).toInt32) &&& 858993459)) + ((((((p0 - ((((p0).toUInt32 >>> ((1 : Int32).toUInt32 &&& Int32.toUInt32 31)).toInt32) &&& 1431655765)) &&& 858993459) + (((((p0 - ((((p0).toUInt32 >>> ((1 : Int32).toUInt32 &&& Int32.toUInt32 31)).toInt32) &&& 1431655765))).toUInt32 >>> ((2 : Int32).toUInt32 &&& Int32.toUInt32 31)).toInt32) &&& 858993459))).toUInt32 >>> ((4 : Int32).toUInt32 &&& Int32.toUInt32 31)).toInt32)) &&& 252645135) + ((((((((p0 - ((((p0).toUInt32 >>> ((1 : Int32).toUInt32 &&& Int32.toUInt32 31)).toInt32) &&& 1431655765)) &&& 858993459) + (((((p0 - ((((p0).toUInt32 >>> ((1 : Int32).toUInt32 &&& Int32.toUInt32 31)).toInt32) &&& 1431655765))).toUInt32 >>> ((2 : Int32).toUInt32 &&& Int32.toUInt32 31)).toInt32) &&& 858993459)) + ((((((p0 - ((((p0).toUInt32 >>> ((1 : Int32).toUInt32 &&& Int32.toUInt32 31)).toInt32) &&& 1431655765)) &&& 858993459) + (((((p0 - ((((p0).toUInt32 >>> ((1 : Int32).toUInt32 &&& Int32.toUInt32 31)).toInt32) &&& 1431655765))).toUInt32 >>> ((2 : Int32).toUInt32 &&& Int32.toUInt32 31)).toInt32) &&& 858993459))).toUInt32 >>> ((4 : Int32).toUInt32 &&& Int32.toUInt32 31)).toInt32)) &&& 252645135)).toUInt32 >>> ((8 : Int32).toUInt32 &&& Int32.toUInt32 31)).toInt32))).toUInt32 >>> ((16 : Int32).toUInt32 &&& Int32.toUInt32 31)).toInt32)))]) dJ6_bitCount_0f7a4_47 (by decide) rfl ?_
    refine V_iload_n 48 B dJ6_bitCount_0f7a4_48 0 rfl ?_
    refine V_bipush 49 B (v := 63) dJ6_bitCount_0f7a4_49 (by decide +kernel) ?_
    refine V_iand 51 B dJ6_bitCount_0f7a4_51 rfl ?_
    exact V_iret 52 B dJ6_bitCount_0f7a4_52 () rfl rfl)
def scF (p0 : Int32) : Int32 := (if 26 ≤ (p0 &&& 31) then (2 * (bcF (p0 >>> ((5 : Int32) &&& 31)))) else ((kci ((p0 &&& 31)).toNatClampNeg) + (2 * (bcF (p0 >>> ((5 : Int32) &&& 31))))))
theorem dX6_strokeCost_0 : decode cX6_strokeCost 0 = .ok (.iload_n 0, 1) := by decide +kernel
theorem dX6_strokeCost_1 : decode cX6_strokeCost 1 = .ok (.bipush 31, 2) := by decide +kernel
theorem dX6_strokeCost_3 : decode cX6_strokeCost 3 = .ok (.iand, 1) := by decide +kernel
theorem dX6_strokeCost_4 : decode cX6_strokeCost 4 = .ok (.istore_n 1, 1) := by decide +kernel
theorem dX6_strokeCost_5 : decode cX6_strokeCost 5 = .ok (.iload_n 1, 1) := by decide +kernel
theorem dX6_strokeCost_6 : decode cX6_strokeCost 6 = .ok (.getstatic 35, 3) := by decide +kernel
theorem dX6_strokeCost_9 : decode cX6_strokeCost 9 = .ok (.arraylength, 1) := by decide +kernel
theorem dX6_strokeCost_10 : decode cX6_strokeCost 10 = .ok (.if_icmp .ge 11, 3) := by decide +kernel
theorem dX6_strokeCost_21 : decode cX6_strokeCost 21 = .ok (.iconst 0, 1) := by decide +kernel
theorem dX6_strokeCost_22 : decode cX6_strokeCost 22 = .ok (.istore_n 2, 1) := by decide +kernel
theorem dX6_strokeCost_23 : decode cX6_strokeCost 23 = .ok (.iload_n 2, 1) := by decide +kernel
theorem dX6_strokeCost_24 : decode cX6_strokeCost 24 = .ok (.iconst 2, 1) := by decide +kernel
theorem dX6_strokeCost_25 : decode cX6_strokeCost 25 = .ok (.iload_n 0, 1) := by decide +kernel
theorem dX6_strokeCost_26 : decode cX6_strokeCost 26 = .ok (.iconst 5, 1) := by decide +kernel
theorem dX6_strokeCost_27 : decode cX6_strokeCost 27 = .ok (.ishr, 1) := by decide +kernel
theorem dX6_strokeCost_28 : decode cX6_strokeCost 28 = .ok (.invokestatic 39, 3) := by decide +kernel
theorem glS_RX6_39 : GLS RX6 39 yJ6_bitCount_0f7a4 cJ6_bitCount_0f7a4 1 (some .int) 1 := ⟨⟨(mT4 5 rfl rfl), (mT4 6 rfl rfl), (mT1 25 rfl rfl), (mT4 7 rfl rfl)⟩, by decide +kernel⟩
theorem dX6_strokeCost_31 : decode cX6_strokeCost 31 = .ok (.imul, 1) := by decide +kernel
theorem dX6_strokeCost_32 : decode cX6_strokeCost 32 = .ok (.iadd, 1) := by decide +kernel
theorem dX6_strokeCost_33 : decode cX6_strokeCost 33 = .ok (.ireturn, 1) := by decide +kernel
theorem dX6_strokeCost_13 : decode cX6_strokeCost 13 = .ok (.getstatic 35, 3) := by decide +kernel
theorem dX6_strokeCost_16 : decode cX6_strokeCost 16 = .ok (.iload_n 1, 1) := by decide +kernel
theorem dX6_strokeCost_17 : decode cX6_strokeCost 17 = .ok (.iaload, 1) := by decide +kernel
theorem dX6_strokeCost_18 : decode cX6_strokeCost 18 = .ok (.goto 4, 3) := by decide +kernel
set_option maxRecDepth 100000 in
set_option maxHeartbeats 4000000 in
theorem mX6_strokeCost_scF (l : Launch) (D : va_G) (Y : Nat → ClassId) (p0 : Int32)  (sz : Nat) : Met l yX6_strokeCost (WSm yX6_strokeCost cX6_strokeCost 3 (some .int)) (mkR 1 0 0 20) (PreX D Y [.int p0] [] sz) (QI D (fun (r : Int32) (u : Unit) => scF p0 = r) (fun (_ : Unit) => []) (va_A [] sz)) 0 0 (va_A [] sz) :=
  kmet_of (by decide +kernel) (Nat.le_of_ble_eq_true rfl) (fun p e s m args below meth c B EB hsz => by
    have B : VB p s m args meth c D Y (va_A [] sz) cX6_strokeCost 3 RX6 (some .int) := B
    refine V_iload_n 0 B dX6_strokeCost_0 0 rfl ?_
    refine V_bipush 1 B (v := 31) dX6_strokeCost_1 (by decide +kernel) ?_
    refine V_iand 3 B dX6_strokeCost_3 rfl ?_
    refine V_istore_n 4 B (lv2 := [(1, .int (p0 &&& 31)), (0, .int p0)]) dX6_strokeCost_4 (by decide) rfl ?_
    refine V_iload_n 5 B dX6_strokeCost_5 0 rfl ?_
    refine V_kget 6 B EB (mT4 3 rfl rfl) dX6_strokeCost_6 (fun tk0 htk0 => ?_)
    refine V_klen 9 B htk0 dX6_strokeCost_9 ?_
    refine V_icmp_ge 10 B 21 dX6_strokeCost_10 (by decide) (fun k1 => ?_) (fun k1 => ?_)
    ·
      refine V_iconst 21 B (v := 0) dX6_strokeCost_21 (by decide +kernel) ?_
      refine V_istore_n 22 B (lv2 := [(2, .int 0), (1, .int (p0 &&& 31)), (0, .int p0)]) dX6_strokeCost_22 (by decide) rfl ?_
      refine V_iload_n 23 B dX6_strokeCost_23 0 rfl ?_
      refine V_iconst 24 B (v := 2) dX6_strokeCost_24 (by decide +kernel) ?_
      refine V_iload_n 25 B dX6_strokeCost_25 2 rfl ?_
      refine V_iconst 26 B (v := 5) dX6_strokeCost_26 (by decide +kernel) ?_
      refine V_ishr 27 B dX6_strokeCost_27 rfl ?_
      refine V_csi 28 B (st := [.int 2, .int 0]) (As := [.int (p0 >>> ((5 : Int32) &&& 31))]) (fun sz => mJ6_bitCount_0f7a4_bcF l D Y ((p0 >>> ((5 : Int32) &&& 31))) sz) glS_RX6_39 ⟨rfl, rfl⟩ ⟨(Nat.le_of_ble_eq_true rfl), (Nat.le_of_ble_eq_true rfl)⟩ ⟨(Nat.le_of_ble_eq_true rfl), (Nat.le_of_ble_eq_true rfl)⟩ [] rfl rfl (Nat.le_of_ble_eq_true rfl) rfl (fun _ _ _ => rfl) dX6_strokeCost_28 (fun r2 u2 w2 => ?_)
      obtain rfl := w2
      refine V_ws [] rfl ?_
      refine V_imul 31 B dX6_strokeCost_31 rfl ?_
      refine V_iadd 32 B dX6_strokeCost_32 (Int32.zero_add _) ?_
      exact V_iret 33 B dX6_strokeCost_33 () (by
      unfold scF
      rw [if_pos k1]) rfl
    ·
      refine V_kget 13 B EB (mT4 3 rfl rfl) dX6_strokeCost_13 (fun tk3 htk3 => ?_)
      refine V_iload_n 16 B dX6_strokeCost_16 0 rfl ?_
      refine V_kld 17 B htk3 (vpin_b (k := 25) (and31_lo _) (b_nge k1 (n := 25) (by decide +kernel)) (by decide)) rfl dX6_strokeCost_17 ?_
      refine V_goto 18 B 22 dX6_strokeCost_18 (by decide) ?_
      refine V_istore_n 22 B (lv2 := [(2, .int (kci ((p0 &&& 31)).toNatClampNeg)), (1, .int (p0 &&& 31)), (0, .int p0)]) dX6_strokeCost_22 (by decide) rfl ?_
      refine V_iload_n 23 B dX6_strokeCost_23 0 rfl ?_
      refine V_iconst 24 B (v := 2) dX6_strokeCost_24 (by decide +kernel) ?_
      refine V_iload_n 25 B dX6_strokeCost_25 2 rfl ?_
      refine V_iconst 26 B (v := 5) dX6_strokeCost_26 (by decide +kernel) ?_
      refine V_ishr 27 B dX6_strokeCost_27 rfl ?_
      refine V_csi 28 B (st := [.int 2, .int (kci ((p0 &&& 31)).toNatClampNeg)]) (As := [.int (p0 >>> ((5 : Int32) &&& 31))]) (fun sz => mJ6_bitCount_0f7a4_bcF l D Y ((p0 >>> ((5 : Int32) &&& 31))) sz) glS_RX6_39 ⟨rfl, rfl⟩ ⟨(Nat.le_of_ble_eq_true rfl), (Nat.le_of_ble_eq_true rfl)⟩ ⟨(Nat.le_of_ble_eq_true rfl), (Nat.le_of_ble_eq_true rfl)⟩ [] rfl rfl (Nat.le_of_ble_eq_true rfl) rfl (fun _ _ _ => rfl) dX6_strokeCost_28 (fun r4 u4 w4 => ?_)
      obtain rfl := w4
      refine V_ws [] rfl ?_
      refine V_imul 31 B dX6_strokeCost_31 rfl ?_
      refine V_iadd 32 B dX6_strokeCost_32 rfl ?_
      exact V_iret 33 B dX6_strokeCost_33 () (by
      unfold scF
      rw [if_neg k1]) rfl)
def cost1F (p0 : Int64) : Int32 := (scF (sa0F p0))
theorem dX6_costOf_16 : decode cX6_costOf 16 = .ok (.iload_n 2, 1) := by decide +kernel
theorem dX6_costOf_17 : decode cX6_costOf 17 = .ok (.lload_n 0, 1) := by decide +kernel
theorem dX6_costOf_18 : decode cX6_costOf 18 = .ok (.iload 4, 2) := by decide +kernel
theorem dX6_costOf_20 : decode cX6_costOf 20 = .ok (.invokestatic 27, 3) := by decide +kernel
theorem glS_RX6_27 : GLS RX6 27 yX6_strokeAt cX6_strokeAt 3 (some .int) 2 := ⟨⟨(mT3 239 rfl rfl), (mT3 230 rfl rfl), (mT1 18 rfl rfl), (mT3 231 rfl rfl)⟩, by decide +kernel⟩
theorem dX6_costOf_23 : decode cX6_costOf 23 = .ok (.invokestatic 31, 3) := by decide +kernel
theorem glS_RX6_31 : GLS RX6 31 yX6_strokeCost cX6_strokeCost 3 (some .int) 1 := ⟨⟨(mT4 0 rfl rfl), (mT4 1 rfl rfl), (mT1 18 rfl rfl), (mT4 2 rfl rfl)⟩, by decide +kernel⟩
theorem dX6_costOf_26 : decode cX6_costOf 26 = .ok (.iadd, 1) := by decide +kernel
theorem dX6_costOf_27 : decode cX6_costOf 27 = .ok (.istore_n 2, 1) := by decide +kernel
theorem dX6_costOf_28 : decode cX6_costOf 28 = .ok (.iinc 4 1, 3) := by decide +kernel
theorem dX6_costOf_31 : decode cX6_costOf 31 = .ok (.goto (-21), 3) := by decide +kernel
set_option maxRecDepth 100000 in
set_option maxHeartbeats 4000000 in
theorem mX6_costOf_cost1F (l : Launch) (D : va_G) (Y : Nat → ClassId) (p0 : Int64) (hl : lenF p0 = 1) (sz : Nat) : Met l yX6_costOf (WSm yX6_costOf cX6_costOf 5 (some .int)) (mkR 2 0 0 42) (PreX D Y [.long p0] [] sz) (QI D (fun (r : Int32) (u : Unit) => cost1F p0 = r) (fun (_ : Unit) => []) (va_A [] sz)) 0 0 (va_A [] sz) :=
  kmet_of (by decide +kernel) (Nat.le_of_ble_eq_true rfl) (fun p e s m args below meth c B EB hsz => by
    have B : VB p s m args meth c D Y (va_A [] sz) cX6_costOf 5 RX6 (some .int) := B
    refine V_iconst 0 B (v := 0) dX6_costOf_0 (by decide +kernel) ?_
    refine V_istore_n 1 B (lv2 := [(2, .int 0), (0, .long p0)]) dX6_costOf_1 (by decide) rfl ?_
    refine V_lload_n 2 B dX6_costOf_2 1 rfl ?_
    refine V_csi 3 B (st := []) (As := [.long p0]) (fun sz => mX6_lengthOf_lenF l D Y (p0) sz) glS_RX6_13 ⟨rfl, rfl⟩ ⟨(Nat.le_of_ble_eq_true rfl), (Nat.le_of_ble_eq_true rfl)⟩ ⟨(Nat.le_of_ble_eq_true rfl), (Nat.le_of_ble_eq_true rfl)⟩ [] rfl rfl (Nat.le_of_ble_eq_true rfl) rfl (fun _ _ _ => rfl) dX6_costOf_3 (fun r0 u0 w0 => ?_)
    obtain rfl := w0
    refine V_ws [] rfl ?_
    refine V_istore_n 6 B (lv2 := [(3, .int (lenF p0)), (2, .int 0), (0, .long p0)]) dX6_costOf_6 (by decide) rfl ?_
    refine V_iconst 7 B (v := 0) dX6_costOf_7 (by decide +kernel) ?_
    refine V_istore 8 B (lv2 := [(4, .int 0), (3, .int (lenF p0)), (2, .int 0), (0, .long p0)]) dX6_costOf_8 (by decide) rfl ?_
    refine V_iload 10 B dX6_costOf_10 0 rfl ?_
    refine V_iload_n 12 B dX6_costOf_12 1 rfl ?_
    refine V_icmp_ge_f 13 B 34 dX6_costOf_13 (by decide) (q_nle (eq_lo hl (n := 1) (by decide +kernel)) (by decide +kernel)) ?_
    refine V_iload_n 16 B dX6_costOf_16 2 rfl ?_
    refine V_lload_n 17 B dX6_costOf_17 3 rfl ?_
    refine V_iload 18 B dX6_costOf_18 0 rfl ?_
    refine V_csi 20 B (st := [.int 0]) (As := [.long p0, .int 0]) (fun sz => mX6_strokeAt_sa0F l D Y (p0) sz) glS_RX6_27 ⟨rfl, rfl⟩ ⟨(Nat.le_of_ble_eq_true rfl), (Nat.le_of_ble_eq_true rfl)⟩ ⟨(Nat.le_of_ble_eq_true rfl), (Nat.le_of_ble_eq_true rfl)⟩ [] rfl rfl (Nat.le_of_ble_eq_true rfl) rfl (fun _ _ _ => rfl) dX6_costOf_20 (fun r1 u1 w1 => ?_)
    obtain rfl := w1
    refine V_ws [] rfl ?_
    refine V_ksi 23 B EB (st := [.int 0]) (As := [.int (sa0F p0)]) (fun sz => mX6_strokeCost_scF l D Y ((sa0F p0)) sz) glS_RX6_31 ⟨rfl, rfl⟩ ⟨(Nat.le_of_ble_eq_true rfl), (Nat.le_of_ble_eq_true rfl)⟩ ⟨(Nat.le_of_ble_eq_true rfl), (Nat.le_of_ble_eq_true rfl)⟩ [] rfl rfl (Nat.le_of_ble_eq_true rfl) rfl (fun _ _ _ => rfl) dX6_costOf_23 (fun r2 u2 w2 => ?_)
    obtain rfl := w2
    refine V_ws [] rfl ?_
    refine V_iadd 26 B dX6_costOf_26 (Int32.zero_add _) ?_
    refine V_istore_n 27 B (lv2 := [(2, .int (scF (sa0F p0))), (4, .int 0), (3, .int (lenF p0)), (0, .long p0)]) dX6_costOf_27 (by decide) rfl ?_
    refine V_iinc 28 B (v := 1) (lv2 := [(4, .int 1), (2, .int (scF (sa0F p0))), (3, .int (lenF p0)), (0, .long p0)]) dX6_costOf_28 1 rfl (by decide +kernel) (by decide) rfl ?_
    refine V_goto 31 B 10 dX6_costOf_31 (by decide) ?_
    refine V_iload 10 B dX6_costOf_10 0 rfl ?_
    refine V_iload_n 12 B dX6_costOf_12 2 rfl ?_
    refine V_icmp_ge_t 13 B 34 dX6_costOf_13 (by decide) (q_le (eq_hi hl (n := 1) (by decide +kernel)) (by decide +kernel)) ?_
    refine V_iload_n 34 B dX6_costOf_34 1 rfl ?_
    exact V_iret 35 B dX6_costOf_35 () rfl rfl)
def sa1F (p0 : Int64) : Int32 := (((p0 >>> ((18 : Int32).toInt64 &&& 63)) &&& 511).toInt32 - 1)
set_option maxRecDepth 100000 in
set_option maxHeartbeats 4000000 in
theorem mX6_strokeAt_sa1F (l : Launch) (D : va_G) (Y : Nat → ClassId) (p0 : Int64)  (sz : Nat) : Met l yX6_strokeAt (WSm yX6_strokeAt cX6_strokeAt 3 (some .int)) (mkR 0 0 0 0) (PreC D Y [.long p0, .int 1] [] sz) (QI D (fun (r : Int32) (u : Unit) => sa1F p0 = r) (fun (_ : Unit) => []) (va_A [] sz)) 0 0 (va_A [] sz) :=
  met_of (by decide +kernel) (Nat.le_of_ble_eq_true rfl) (fun p e s m args below meth c B hin hsz => by
    have B : VB p s m args meth c D Y (va_A [] sz) cX6_strokeAt 3 RX6 (some .int) := B
    refine V_iload_n 0 B dX6_strokeAt_0 1 rfl ?_
    refine V_if_lt_f 1 B 9 dX6_strokeAt_1 (by decide) (by decide +kernel) ?_
    refine V_iload_n 4 B dX6_strokeAt_4 1 rfl ?_
    refine V_iconst 5 B (v := 4) dX6_strokeAt_5 (by decide +kernel) ?_
    refine V_icmp_lt_t 6 B 11 dX6_strokeAt_6 (by decide) (by decide +kernel) ?_
    refine V_lload_n 11 B dX6_strokeAt_11 0 rfl ?_
    refine V_bipush 12 B (v := 9) dX6_strokeAt_12 (by decide +kernel) ?_
    refine V_iconst 14 B (v := 3) dX6_strokeAt_14 (by decide +kernel) ?_
    refine V_iload_n 15 B dX6_strokeAt_15 1 rfl ?_
    refine V_isub 16 B (v := 2) dX6_strokeAt_16 (by decide +kernel) ?_
    refine V_imul 17 B (v := 18) dX6_strokeAt_17 (by decide +kernel) ?_
    refine V_lshr 18 B dX6_strokeAt_18 rfl ?_
    refine V_ldc2 19 B (v := 511) dX6_strokeAt_19 (mT3 101 rfl rfl) ?_
    refine V_land 22 B dX6_strokeAt_22 rfl ?_
    refine V_l2i 23 B dX6_strokeAt_23 rfl ?_
    refine V_iconst 24 B (v := 1) dX6_strokeAt_24 (by decide +kernel) ?_
    refine V_isub 25 B dX6_strokeAt_25 rfl ?_
    exact V_iret 26 B dX6_strokeAt_26 () rfl rfl)
def cost2F (p0 : Int64) : Int32 := ((scF (sa0F p0)) + (scF (sa1F p0)))
set_option maxRecDepth 100000 in
set_option maxHeartbeats 4000000 in
theorem mX6_costOf_cost2F (l : Launch) (D : va_G) (Y : Nat → ClassId) (p0 : Int64) (hl : lenF p0 = 2) (sz : Nat) : Met l yX6_costOf (WSm yX6_costOf cX6_costOf 5 (some .int)) (mkR 2 0 0 42) (PreX D Y [.long p0] [] sz) (QI D (fun (r : Int32) (u : Unit) => cost2F p0 = r) (fun (_ : Unit) => []) (va_A [] sz)) 0 0 (va_A [] sz) :=
  kmet_of (by decide +kernel) (Nat.le_of_ble_eq_true rfl) (fun p e s m args below meth c B EB hsz => by
    have B : VB p s m args meth c D Y (va_A [] sz) cX6_costOf 5 RX6 (some .int) := B
    refine V_iconst 0 B (v := 0) dX6_costOf_0 (by decide +kernel) ?_
    refine V_istore_n 1 B (lv2 := [(2, .int 0), (0, .long p0)]) dX6_costOf_1 (by decide) rfl ?_
    refine V_lload_n 2 B dX6_costOf_2 1 rfl ?_
    refine V_csi 3 B (st := []) (As := [.long p0]) (fun sz => mX6_lengthOf_lenF l D Y (p0) sz) glS_RX6_13 ⟨rfl, rfl⟩ ⟨(Nat.le_of_ble_eq_true rfl), (Nat.le_of_ble_eq_true rfl)⟩ ⟨(Nat.le_of_ble_eq_true rfl), (Nat.le_of_ble_eq_true rfl)⟩ [] rfl rfl (Nat.le_of_ble_eq_true rfl) rfl (fun _ _ _ => rfl) dX6_costOf_3 (fun r0 u0 w0 => ?_)
    obtain rfl := w0
    refine V_ws [] rfl ?_
    refine V_istore_n 6 B (lv2 := [(3, .int (lenF p0)), (2, .int 0), (0, .long p0)]) dX6_costOf_6 (by decide) rfl ?_
    refine V_iconst 7 B (v := 0) dX6_costOf_7 (by decide +kernel) ?_
    refine V_istore 8 B (lv2 := [(4, .int 0), (3, .int (lenF p0)), (2, .int 0), (0, .long p0)]) dX6_costOf_8 (by decide) rfl ?_
    refine V_iload 10 B dX6_costOf_10 0 rfl ?_
    refine V_iload_n 12 B dX6_costOf_12 1 rfl ?_
    refine V_icmp_ge_f 13 B 34 dX6_costOf_13 (by decide) (q_nle (eq_lo hl (n := 2) (by decide +kernel)) (by decide +kernel)) ?_
    refine V_iload_n 16 B dX6_costOf_16 2 rfl ?_
    refine V_lload_n 17 B dX6_costOf_17 3 rfl ?_
    refine V_iload 18 B dX6_costOf_18 0 rfl ?_
    refine V_csi 20 B (st := [.int 0]) (As := [.long p0, .int 0]) (fun sz => mX6_strokeAt_sa0F l D Y (p0) sz) glS_RX6_27 ⟨rfl, rfl⟩ ⟨(Nat.le_of_ble_eq_true rfl), (Nat.le_of_ble_eq_true rfl)⟩ ⟨(Nat.le_of_ble_eq_true rfl), (Nat.le_of_ble_eq_true rfl)⟩ [] rfl rfl (Nat.le_of_ble_eq_true rfl) rfl (fun _ _ _ => rfl) dX6_costOf_20 (fun r1 u1 w1 => ?_)
    obtain rfl := w1
    refine V_ws [] rfl ?_
    refine V_ksi 23 B EB (st := [.int 0]) (As := [.int (sa0F p0)]) (fun sz => mX6_strokeCost_scF l D Y ((sa0F p0)) sz) glS_RX6_31 ⟨rfl, rfl⟩ ⟨(Nat.le_of_ble_eq_true rfl), (Nat.le_of_ble_eq_true rfl)⟩ ⟨(Nat.le_of_ble_eq_true rfl), (Nat.le_of_ble_eq_true rfl)⟩ [] rfl rfl (Nat.le_of_ble_eq_true rfl) rfl (fun _ _ _ => rfl) dX6_costOf_23 (fun r2 u2 w2 => ?_)
    obtain rfl := w2
    refine V_ws [] rfl ?_
    refine V_iadd 26 B dX6_costOf_26 (Int32.zero_add _) ?_
    refine V_istore_n 27 B (lv2 := [(2, .int (scF (sa0F p0))), (4, .int 0), (3, .int (lenF p0)), (0, .long p0)]) dX6_costOf_27 (by decide) rfl ?_
    refine V_iinc 28 B (v := 1) (lv2 := [(4, .int 1), (2, .int (scF (sa0F p0))), (3, .int (lenF p0)), (0, .long p0)]) dX6_costOf_28 1 rfl (by decide +kernel) (by decide) rfl ?_
    refine V_goto 31 B 10 dX6_costOf_31 (by decide) ?_
    refine V_iload 10 B dX6_costOf_10 0 rfl ?_
    refine V_iload_n 12 B dX6_costOf_12 2 rfl ?_
    refine V_icmp_ge_f 13 B 34 dX6_costOf_13 (by decide) (q_nle (eq_lo hl (n := 2) (by decide +kernel)) (by decide +kernel)) ?_
    refine V_iload_n 16 B dX6_costOf_16 1 rfl ?_
    refine V_lload_n 17 B dX6_costOf_17 3 rfl ?_
    refine V_iload 18 B dX6_costOf_18 0 rfl ?_
    refine V_csi 20 B (st := [.int (scF (sa0F p0))]) (As := [.long p0, .int 1]) (fun sz => mX6_strokeAt_sa1F l D Y (p0) sz) glS_RX6_27 ⟨rfl, rfl⟩ ⟨(Nat.le_of_ble_eq_true rfl), (Nat.le_of_ble_eq_true rfl)⟩ ⟨(Nat.le_of_ble_eq_true rfl), (Nat.le_of_ble_eq_true rfl)⟩ [] rfl rfl (Nat.le_of_ble_eq_true rfl) rfl (fun _ _ _ => rfl) dX6_costOf_20 (fun r3 u3 w3 => ?_)
    obtain rfl := w3
    refine V_ws [] rfl ?_
    refine V_ksi 23 B EB (st := [.int (scF (sa0F p0))]) (As := [.int (sa1F p0)]) (fun sz => mX6_strokeCost_scF l D Y ((sa1F p0)) sz) glS_RX6_31 ⟨rfl, rfl⟩ ⟨(Nat.le_of_ble_eq_true rfl), (Nat.le_of_ble_eq_true rfl)⟩ ⟨(Nat.le_of_ble_eq_true rfl), (Nat.le_of_ble_eq_true rfl)⟩ [] rfl rfl (Nat.le_of_ble_eq_true rfl) rfl (fun _ _ _ => rfl) dX6_costOf_23 (fun r4 u4 w4 => ?_)
    obtain rfl := w4
    refine V_ws [] rfl ?_
    refine V_iadd 26 B dX6_costOf_26 rfl ?_
    refine V_istore_n 27 B (lv2 := [(2, .int ((scF (sa0F p0)) + (scF (sa1F p0)))), (4, .int 1), (3, .int (lenF p0)), (0, .long p0)]) dX6_costOf_27 (by decide) rfl ?_
    refine V_iinc 28 B (v := 2) (lv2 := [(4, .int 2), (2, .int ((scF (sa0F p0)) + (scF (sa1F p0)))), (3, .int (lenF p0)), (0, .long p0)]) dX6_costOf_28 1 rfl (by decide +kernel) (by decide) rfl ?_
    refine V_goto 31 B 10 dX6_costOf_31 (by decide) ?_
    refine V_iload 10 B dX6_costOf_10 0 rfl ?_
    refine V_iload_n 12 B dX6_costOf_12 2 rfl ?_
    refine V_icmp_ge_t 13 B 34 dX6_costOf_13 (by decide) (q_le (eq_hi hl (n := 2) (by decide +kernel)) (by decide +kernel)) ?_
    refine V_iload_n 34 B dX6_costOf_34 1 rfl ?_
    exact V_iret 35 B dX6_costOf_35 () rfl rfl)
def ext0F (p0 : Int32) : Int64 := (0 ||| ((p0 + 1).toInt64 <<< ((27 : Int32).toInt64 &&& 63)))
set_option maxRecDepth 100000 in
set_option maxHeartbeats 4000000 in
theorem mX6_extended_ext0F (l : Launch) (D : va_G) (Y : Nat → ClassId) (p0 : Int32)  (sz : Nat) : Met l yX6_extended (WSm yX6_extended cX6_extended 4 (some .long)) (mkR 1 0 0 21) (PreC D Y [.long 0, .int p0] [] sz) (QJ D (fun (r : Int64) (u : Unit) => ext0F p0 = r) (fun (_ : Unit) => []) (va_A [] sz)) 0 0 (va_A [] sz) :=
  met_of (by decide +kernel) (Nat.le_of_ble_eq_true rfl) (fun p e s m args below meth c B hin hsz => by
    have B : VB p s m args meth c D Y (va_A [] sz) cX6_extended 4 RX6 (some .long) := B
    refine V_lload_n 0 B dX6_extended_0 0 rfl ?_
    refine V_csi 1 B (st := []) (As := [.long 0]) (fun sz => mX6_lengthOf_1 l D Y  sz) glS_RX6_13 ⟨rfl, rfl⟩ ⟨(Nat.le_of_ble_eq_true rfl), (Nat.le_of_ble_eq_true rfl)⟩ ⟨(Nat.le_of_ble_eq_true rfl), (Nat.le_of_ble_eq_true rfl)⟩ [] rfl rfl (Nat.le_of_ble_eq_true rfl) rfl (fun _ _ _ => rfl) dX6_extended_1 (fun r0 u0 w0 => ?_)
    obtain rfl := w0
    refine V_ws [] rfl ?_
    refine V_istore_n 4 B (lv2 := [(3, .int 0), (0, .long 0), (2, .int p0)]) dX6_extended_4 (by decide) rfl ?_
    refine V_iload_n 5 B dX6_extended_5 0 rfl ?_
    refine V_iconst 6 B (v := 4) dX6_extended_6 (by decide +kernel) ?_
    refine V_icmp_lt_t 7 B 12 dX6_extended_7 (by decide) (by decide +kernel) ?_
    refine V_lload_n 12 B dX6_extended_12 1 rfl ?_
    refine V_iload_n 13 B dX6_extended_13 2 rfl ?_
    refine V_iconst 14 B (v := 1) dX6_extended_14 (by decide +kernel) ?_
    refine V_iadd 15 B dX6_extended_15 rfl ?_
    refine V_i2l 16 B dX6_extended_16 rfl ?_
    refine V_bipush 17 B (v := 9) dX6_extended_17 (by decide +kernel) ?_
    refine V_iconst 19 B (v := 3) dX6_extended_19 (by decide +kernel) ?_
    refine V_iload_n 20 B dX6_extended_20 0 rfl ?_
    refine V_isub 21 B (v := 3) dX6_extended_21 (by decide +kernel) ?_
    refine V_imul 22 B (v := 27) dX6_extended_22 (by decide +kernel) ?_
    refine V_lshl 23 B dX6_extended_23 rfl ?_
    refine V_lor 24 B dX6_extended_24 rfl ?_
    exact V_lret 25 B dX6_extended_25 () rfl rfl)
def oneF (p0 : Int32) (p1 : Int32) : Int64 := (if p0 = 0 then (ext0F p1) else (ext0F ((32 * ((1 : Int32) <<< ((p0 - 1) &&& 31))) + p1)))
set_option maxRecDepth 100000 in
set_option maxHeartbeats 4000000 in
theorem mX10_oneStroke_oneF (l : Launch) (D : va_G) (Y : Nat → ClassId) (p0 : Int32) (p1 : Int32)  (sz : Nat) : Met l yX10_oneStroke (WSm yX10_oneStroke cX10_oneStroke 3 (some .long)) (mkR 2 0 0 44) (PreC D Y [.int p0, .int p1] [] sz) (QJ D (fun (r : Int64) (u : Unit) => oneF p0 p1 = r) (fun (_ : Unit) => []) (va_A [] sz)) 0 0 (va_A [] sz) :=
  met_of (by decide +kernel) (Nat.le_of_ble_eq_true rfl) (fun p e s m args below meth c B hin hsz => by
    have B : VB p s m args meth c D Y (va_A [] sz) cX10_oneStroke 3 RX10 (some .long) := B
    refine V_iload_n 0 B dX10_oneStroke_0 0 rfl ?_
    refine V_if_ne 1 B 8 dX10_oneStroke_1 (by decide) (fun k0 => ?_) (fun k0 => ?_)
    ·
      refine V_iconst 8 B (v := 1) dX10_oneStroke_8 (by decide +kernel) ?_
      refine V_iload_n 9 B dX10_oneStroke_9 0 rfl ?_
      refine V_iconst 10 B (v := 1) dX10_oneStroke_10 (by decide +kernel) ?_
      refine V_isub 11 B dX10_oneStroke_11 rfl ?_
      refine V_ishl 12 B dX10_oneStroke_12 rfl ?_
      refine V_istore_n 13 B (lv2 := [(2, .int ((1 : Int32) <<< ((p0 - 1) &&& 31))), (0, .int p0), (1, .int p1)]) dX10_oneStroke_13 (by decide) rfl ?_
      refine V_lconst 14 B (v := 0) dX10_oneStroke_14 (by decide +kernel) ?_
      refine V_bipush 15 B (v := 32) dX10_oneStroke_15 (by decide +kernel) ?_
      refine V_iload_n 17 B dX10_oneStroke_17 0 rfl ?_
      refine V_imul 18 B dX10_oneStroke_18 rfl ?_
      refine V_iload_n 19 B dX10_oneStroke_19 2 rfl ?_
      refine V_iadd 20 B dX10_oneStroke_20 rfl ?_
      refine V_csl 21 B (st := []) (As := [.long 0, .int ((32 * ((1 : Int32) <<< ((p0 - 1) &&& 31))) + p1)]) (fun sz => mX6_extended_ext0F l D Y (((32 * ((1 : Int32) <<< ((p0 - 1) &&& 31))) + p1)) sz) glS_RX10_115 ⟨rfl, rfl⟩ ⟨(Nat.le_of_ble_eq_true rfl), (Nat.le_of_ble_eq_true rfl)⟩ ⟨(Nat.le_of_ble_eq_true rfl), (Nat.le_of_ble_eq_true rfl)⟩ [] rfl rfl (Nat.le_of_ble_eq_true rfl) rfl (fun _ _ _ => rfl) dX10_oneStroke_21 (fun r1 u1 w1 => ?_)
      obtain rfl := w1
      refine V_ws [] rfl ?_
      exact V_lret 24 B dX10_oneStroke_24 () (by
      unfold oneF
      rw [if_neg k0]) rfl
    ·
      obtain rfl : p0 = 0 := k0
      refine V_iconst 4 B (v := 0) dX10_oneStroke_4 (by decide +kernel) ?_
      refine V_goto 5 B 13 dX10_oneStroke_5 (by decide) ?_
      refine V_istore_n 13 B (lv2 := [(2, .int 0), (0, .int 0), (1, .int p1)]) dX10_oneStroke_13 (by decide) rfl ?_
      refine V_lconst 14 B (v := 0) dX10_oneStroke_14 (by decide +kernel) ?_
      refine V_bipush 15 B (v := 32) dX10_oneStroke_15 (by decide +kernel) ?_
      refine V_iload_n 17 B dX10_oneStroke_17 0 rfl ?_
      refine V_imul 18 B (v := 0) dX10_oneStroke_18 (by decide +kernel) ?_
      refine V_iload_n 19 B dX10_oneStroke_19 2 rfl ?_
      refine V_iadd 20 B dX10_oneStroke_20 (Int32.zero_add _) ?_
      refine V_csl 21 B (st := []) (As := [.long 0, .int p1]) (fun sz => mX6_extended_ext0F l D Y (p1) sz) glS_RX10_115 ⟨rfl, rfl⟩ ⟨(Nat.le_of_ble_eq_true rfl), (Nat.le_of_ble_eq_true rfl)⟩ ⟨(Nat.le_of_ble_eq_true rfl), (Nat.le_of_ble_eq_true rfl)⟩ [] rfl rfl (Nat.le_of_ble_eq_true rfl) rfl (fun _ _ _ => rfl) dX10_oneStroke_21 (fun r2 u2 w2 => ?_)
      obtain rfl := w2
      refine V_ws [] rfl ?_
      exact V_lret 24 B dX10_oneStroke_24 () (by
      unfold oneF
      rw [if_pos rfl]) rfl)
def extF (p0 : Int64) (p1 : Int32) : Int64 := (if (lenF p0) < 4 then (p0 ||| ((p1 + 1).toInt64 <<< (((9 * (3 - (lenF p0))) : Int32).toInt64 &&& 63))) else p0)
theorem dX6_extended_10 : decode cX6_extended 10 = .ok (.lload_n 0, 1) := by decide +kernel
theorem dX6_extended_11 : decode cX6_extended 11 = .ok (.lreturn, 1) := by decide +kernel
set_option maxRecDepth 100000 in
set_option maxHeartbeats 4000000 in
theorem mX6_extended_extF (l : Launch) (D : va_G) (Y : Nat → ClassId) (p0 : Int64) (p1 : Int32)  (sz : Nat) : Met l yX6_extended (WSm yX6_extended cX6_extended 4 (some .long)) (mkR 1 0 0 21) (PreC D Y [.long p0, .int p1] [] sz) (QJ D (fun (r : Int64) (u : Unit) => extF p0 p1 = r) (fun (_ : Unit) => []) (va_A [] sz)) 0 0 (va_A [] sz) :=
  met_of (by decide +kernel) (Nat.le_of_ble_eq_true rfl) (fun p e s m args below meth c B hin hsz => by
    have B : VB p s m args meth c D Y (va_A [] sz) cX6_extended 4 RX6 (some .long) := B
    refine V_lload_n 0 B dX6_extended_0 0 rfl ?_
    refine V_csi 1 B (st := []) (As := [.long p0]) (fun sz => mX6_lengthOf_lenF l D Y (p0) sz) glS_RX6_13 ⟨rfl, rfl⟩ ⟨(Nat.le_of_ble_eq_true rfl), (Nat.le_of_ble_eq_true rfl)⟩ ⟨(Nat.le_of_ble_eq_true rfl), (Nat.le_of_ble_eq_true rfl)⟩ [] rfl rfl (Nat.le_of_ble_eq_true rfl) rfl (fun _ _ _ => rfl) dX6_extended_1 (fun r0 u0 w0 => ?_)
    obtain rfl := w0
    refine V_ws [] rfl ?_
    refine V_istore_n 4 B (lv2 := [(3, .int (lenF p0)), (0, .long p0), (2, .int p1)]) dX6_extended_4 (by decide) rfl ?_
    refine V_iload_n 5 B dX6_extended_5 0 rfl ?_
    refine V_iconst 6 B (v := 4) dX6_extended_6 (by decide +kernel) ?_
    refine V_icmp_lt 7 B 12 dX6_extended_7 (by decide) (fun k1 => ?_) (fun k1 => ?_)
    ·
      refine V_lload_n 12 B dX6_extended_12 1 rfl ?_
      refine V_iload_n 13 B dX6_extended_13 2 rfl ?_
      refine V_iconst 14 B (v := 1) dX6_extended_14 (by decide +kernel) ?_
      refine V_iadd 15 B dX6_extended_15 rfl ?_
      refine V_i2l 16 B dX6_extended_16 rfl ?_
      refine V_bipush 17 B (v := 9) dX6_extended_17 (by decide +kernel) ?_
      refine V_iconst 19 B (v := 3) dX6_extended_19 (by decide +kernel) ?_
      refine V_iload_n 20 B dX6_extended_20 0 rfl ?_
      refine V_isub 21 B dX6_extended_21 rfl ?_
      refine V_imul 22 B dX6_extended_22 rfl ?_
      refine V_lshl 23 B dX6_extended_23 rfl ?_
      refine V_lor 24 B dX6_extended_24 rfl ?_
      exact V_lret 25 B dX6_extended_25 () (by
      unfold extF
      rw [if_pos k1]) rfl
    ·
      refine V_lload_n 10 B dX6_extended_10 1 rfl ?_
      exact V_lret 11 B dX6_extended_11 () (by
      unfold extF
      rw [if_neg k1]) rfl)
set_option maxRecDepth 100000 in
set_option maxHeartbeats 4000000 in
theorem mX6_lengthOf_2 (l : Launch) (D : va_G) (Y : Nat → ClassId)  (sz : Nat) : Met l yX6_lengthOf (WSm yX6_lengthOf cX6_lengthOf 2 (some .int)) (mkR 0 0 0 0) (PreC D Y [.long 134217728] [] sz) (QI D (fun (r : Int32) (u : Unit) => 1 = r) (fun (_ : Unit) => []) (va_A [] sz)) 0 0 (va_A [] sz) :=
  met_of (by decide +kernel) (Nat.le_of_ble_eq_true rfl) (fun p e s m args below meth c B hin hsz => by
    have B : VB p s m args meth c D Y (va_A [] sz) cX6_lengthOf 2 RX6 (some .int) := B
    refine V_lload_n 0 B dX6_lengthOf_0 0 rfl ?_
    refine V_ldc2 1 B (v := 511) dX6_lengthOf_1 (mT3 101 rfl rfl) ?_
    refine V_land 4 B (v := 0) dX6_lengthOf_4 (by decide +kernel) ?_
    refine V_lconst 5 B (v := 0) dX6_lengthOf_5 (by decide +kernel) ?_
    refine V_lcmp 6 B (v := 0) dX6_lengthOf_6 (by decide +kernel) ?_
    refine V_if_eq_t 7 B 12 dX6_lengthOf_7 (by decide) (by decide +kernel) ?_
    refine V_lload_n 12 B dX6_lengthOf_12 0 rfl ?_
    refine V_bipush 13 B (v := 9) dX6_lengthOf_13 (by decide +kernel) ?_
    refine V_lshr 15 B (v := 262144) dX6_lengthOf_15 (by decide +kernel) ?_
    refine V_ldc2 16 B (v := 511) dX6_lengthOf_16 (mT3 101 rfl rfl) ?_
    refine V_land 19 B (v := 0) dX6_lengthOf_19 (by decide +kernel) ?_
    refine V_lconst 20 B (v := 0) dX6_lengthOf_20 (by decide +kernel) ?_
    refine V_lcmp 21 B (v := 0) dX6_lengthOf_21 (by decide +kernel) ?_
    refine V_if_eq_t 22 B 27 dX6_lengthOf_22 (by decide) (by decide +kernel) ?_
    refine V_lload_n 27 B dX6_lengthOf_27 0 rfl ?_
    refine V_bipush 28 B (v := 18) dX6_lengthOf_28 (by decide +kernel) ?_
    refine V_lshr 30 B (v := 512) dX6_lengthOf_30 (by decide +kernel) ?_
    refine V_ldc2 31 B (v := 511) dX6_lengthOf_31 (mT3 101 rfl rfl) ?_
    refine V_land 34 B (v := 0) dX6_lengthOf_34 (by decide +kernel) ?_
    refine V_lconst 35 B (v := 0) dX6_lengthOf_35 (by decide +kernel) ?_
    refine V_lcmp 36 B (v := 0) dX6_lengthOf_36 (by decide +kernel) ?_
    refine V_if_eq_t 37 B 42 dX6_lengthOf_37 (by decide) (by decide +kernel) ?_
    refine V_lload_n 42 B dX6_lengthOf_42 0 rfl ?_
    refine V_lconst 43 B (v := 0) dX6_lengthOf_43 (by decide +kernel) ?_
    refine V_lcmp 44 B (v := 1) dX6_lengthOf_44 (by decide +kernel) ?_
    refine V_if_eq_f 45 B 52 dX6_lengthOf_45 (by decide) (by decide +kernel) ?_
    refine V_iconst 48 B (v := 1) dX6_lengthOf_48 (by decide +kernel) ?_
    refine V_goto 49 B 53 dX6_lengthOf_49 (by decide) ?_
    exact V_iret 53 B dX6_lengthOf_53 () rfl rfl)
def ext134217728F (p0 : Int32) : Int64 := (134217728 ||| ((p0 + 1).toInt64 <<< ((18 : Int32).toInt64 &&& 63)))
set_option maxRecDepth 100000 in
set_option maxHeartbeats 4000000 in
theorem mX6_extended_ext134217728F (l : Launch) (D : va_G) (Y : Nat → ClassId) (p0 : Int32)  (sz : Nat) : Met l yX6_extended (WSm yX6_extended cX6_extended 4 (some .long)) (mkR 1 0 0 21) (PreC D Y [.long 134217728, .int p0] [] sz) (QJ D (fun (r : Int64) (u : Unit) => ext134217728F p0 = r) (fun (_ : Unit) => []) (va_A [] sz)) 0 0 (va_A [] sz) :=
  met_of (by decide +kernel) (Nat.le_of_ble_eq_true rfl) (fun p e s m args below meth c B hin hsz => by
    have B : VB p s m args meth c D Y (va_A [] sz) cX6_extended 4 RX6 (some .long) := B
    refine V_lload_n 0 B dX6_extended_0 0 rfl ?_
    refine V_csi 1 B (st := []) (As := [.long 134217728]) (fun sz => mX6_lengthOf_2 l D Y  sz) glS_RX6_13 ⟨rfl, rfl⟩ ⟨(Nat.le_of_ble_eq_true rfl), (Nat.le_of_ble_eq_true rfl)⟩ ⟨(Nat.le_of_ble_eq_true rfl), (Nat.le_of_ble_eq_true rfl)⟩ [] rfl rfl (Nat.le_of_ble_eq_true rfl) rfl (fun _ _ _ => rfl) dX6_extended_1 (fun r0 u0 w0 => ?_)
    obtain rfl := w0
    refine V_ws [] rfl ?_
    refine V_istore_n 4 B (lv2 := [(3, .int 1), (0, .long 134217728), (2, .int p0)]) dX6_extended_4 (by decide) rfl ?_
    refine V_iload_n 5 B dX6_extended_5 0 rfl ?_
    refine V_iconst 6 B (v := 4) dX6_extended_6 (by decide +kernel) ?_
    refine V_icmp_lt_t 7 B 12 dX6_extended_7 (by decide) (by decide +kernel) ?_
    refine V_lload_n 12 B dX6_extended_12 1 rfl ?_
    refine V_iload_n 13 B dX6_extended_13 2 rfl ?_
    refine V_iconst 14 B (v := 1) dX6_extended_14 (by decide +kernel) ?_
    refine V_iadd 15 B dX6_extended_15 rfl ?_
    refine V_i2l 16 B dX6_extended_16 rfl ?_
    refine V_bipush 17 B (v := 9) dX6_extended_17 (by decide +kernel) ?_
    refine V_iconst 19 B (v := 3) dX6_extended_19 (by decide +kernel) ?_
    refine V_iload_n 20 B dX6_extended_20 0 rfl ?_
    refine V_isub 21 B (v := 2) dX6_extended_21 (by decide +kernel) ?_
    refine V_imul 22 B (v := 18) dX6_extended_22 (by decide +kernel) ?_
    refine V_lshl 23 B dX6_extended_23 rfl ?_
    refine V_lor 24 B dX6_extended_24 rfl ?_
    exact V_lret 25 B dX6_extended_25 () rfl rfl)
theorem len1_a : ∀ m, m < 5 → ∀ k, k < 26 → lenF (oneF (nI m) (nI k)) = 1 := by decide +kernel
theorem len1 {m k : Nat} (hm : m < 5) (hk : k < 26) : lenF (oneF (nI m) (nI k)) = 1 := len1_a m hm k hk
theorem cost1_a : ∀ m, m < 5 → ∀ k, k < 26 → (1 : Int) ≤ (cost1F (oneF (nI m) (nI k))).toInt := by decide +kernel
theorem cost1 {m k : Nat} (hm : m < 5) (hk : k < 26) : (1 : Int) ≤ (cost1F (oneF (nI m) (nI k))).toInt := cost1_a m hm k hk
theorem len2a_a : ∀ m, m < 5 → ∀ k, k < 26 → lenF (ext134217728F (sa0F (oneF (nI m) (nI k)))) = 2 := by decide +kernel
theorem len2a {m k : Nat} (hm : m < 5) (hk : k < 26) : lenF (ext134217728F (sa0F (oneF (nI m) (nI k)))) = 2 := len2a_a m hm k hk
theorem cost2a_a : ∀ m, m < 5 → ∀ k, k < 26 → (2 : Int) ≤ (cost2F (ext134217728F (sa0F (oneF (nI m) (nI k))))).toInt := by decide +kernel
theorem cost2a {m k : Nat} (hm : m < 5) (hk : k < 26) : (2 : Int) ≤ (cost2F (ext134217728F (sa0F (oneF (nI m) (nI k))))).toInt := cost2a_a m hm k hk
theorem len2_a : ∀ m, m < 5 → ∀ k, k < 26 → ∀ c, c < 5 → ∀ d, d < 26 → lenF (extF (oneF (nI m) (nI k)) (sa0F (oneF (nI c) (nI d)))) = 2 := by decide +kernel
theorem len2 {m k c d : Nat} (hm : m < 5) (hk : k < 26) (hc : c < 5) (hd : d < 26) : lenF (extF (oneF (nI m) (nI k)) (sa0F (oneF (nI c) (nI d)))) = 2 := len2_a m hm k hk c hc d hd
theorem sa02_a : ∀ m, m < 5 → ∀ k, k < 26 → ∀ c, c < 5 → ∀ d, d < 26 → sa0F (extF (oneF (nI m) (nI k)) (sa0F (oneF (nI c) (nI d)))) = sa0F (oneF (nI m) (nI k)) := by decide +kernel
theorem sa12_a : ∀ m, m < 5 → ∀ k, k < 26 → ∀ c, c < 5 → ∀ d, d < 26 → sa1F (extF (oneF (nI m) (nI k)) (sa0F (oneF (nI c) (nI d)))) = sa0F (oneF (nI c) (nI d)) := by decide +kernel
theorem sc_a : ∀ m, m < 5 → ∀ k, k < 26 → ¬ scF (sa0F (oneF (nI m) (nI k))) < 0 ∧ (1 : Int) ≤ (scF (sa0F (oneF (nI m) (nI k)))).toInt ∧ (scF (sa0F (oneF (nI m) (nI k)))).toInt ≤ 100 := by decide +kernel
theorem cost2_a (m : Nat) (hm : m < 5) (k : Nat) (hk : k < 26) (c : Nat) (hc : c < 5) (d : Nat) (hd : d < 26) : (2 : Int) ≤ (cost2F (extF (oneF (nI m) (nI k)) (sa0F (oneF (nI c) (nI d))))).toInt := by
  unfold cost2F
  rw [sa02_a m hm k hk c hc d hd, sa12_a m hm k hk c hc d hd]
  obtain ⟨a0, a1, a2⟩ := sc_a m hm k hk
  obtain ⟨b0, b1, b2⟩ := sc_a c hc d hd
  obtain ⟨x, hx, ex⟩ := nI_of a0
  obtain ⟨y, hy, ey⟩ := nI_of b0
  rw [ex, nI_toInt hx] at a1 a2
  rw [ey, nI_toInt hy] at b1 b2
  rw [ex, ey, nI_add, nI_toInt (by omega)]
  omega
theorem cost2 {m k c d : Nat} (hm : m < 5) (hk : k < 26) (hc : c < 5) (hd : d < 26) : (2 : Int) ≤ (cost2F (extF (oneF (nI m) (nI k)) (sa0F (oneF (nI c) (nI d))))).toInt := cost2_a m hm k hk c hc d hd

theorem dX10_barFor_86 : decode cX10_barFor 86 = .ok (.iload_n 3, 1) := by decide +kernel
theorem dX10_barFor_87 : decode cX10_barFor 87 = .ok (.iconst (-1), 1) := by decide +kernel
theorem dX10_barFor_88 : decode cX10_barFor 88 = .ok (.if_icmp .ne 4, 3) := by decide +kernel
set_option maxRecDepth 100000 in
set_option maxHeartbeats 4000000 in
theorem mX10_barFor_2 (l : Launch) (D : va_G) (Y : Nat → ClassId) (h6 : Nat) (h0 : Nat) (h1 : Nat) (g0 : Nat) (g1 : Nat) (g2 : Nat) (h3 : Nat) (h5 : Nat) (g3 : Nat) (g4 : Nat) (g5 : Nat) (g6 : Nat) (g7 : Nat) (h2 : Nat) (h4 : Nat) (g8 : Nat) (g9 : Nat) (g10 : Nat) (h7 : Nat) (g11 : Nat) (h8 : Nat) (p0 : Int32) (sz : Nat) : Met l yX10_barFor (WSm yX10_barFor cX10_barFor 5 none) (mkR 2 0 0 36) (PreC D Y [.ref h6, .int 0, .int p0] [(h0, oC 2 [.ref h1, .ref g0, .ref g1, .ref g2, .ref h3, .ref h5, .ref g3, .ref g4, .ref g5, .ref g6, .ref g7, .int 0]), (h1, oC 3 [.ref h2, .int 1]), (h2, aI Y 6 (upd (fun _ => 0) 0 (-1))), (h3, oC 7 [.ref h4, .int 0]), (h4, aJ Y 6 (fun _ => 0)), (h5, oC 3 [.ref g8, .int 0]), (h6, oC 11 [.ref h0, .ref g9, .ref g10, .ref h7, .ref g11]), (h7, oC 7 [.ref h8, .int 0]), (h8, aJ Y 86 (fun _ => 0))] sz) (QV D (fun (u : Unit) => (¬ p0 = 0) ∨ (p0 = 0)) (fun (_ : Unit) => [(h0, oC 2 [.ref h1, .ref g0, .ref g1, .ref g2, .ref h3, .ref h5, .ref g3, .ref g4, .ref g5, .ref g6, .ref g7, .int 0]), (h1, oC 3 [.ref h2, .int 1]), (h2, aI Y 6 (upd (fun _ => 0) 0 (-1))), (h3, oC 7 [.ref h4, .int 0]), (h4, aJ Y 6 (fun _ => 0)), (h5, oC 3 [.ref g8, .int 0]), (h6, oC 11 [.ref h0, .ref g9, .ref g10, .ref h7, .ref g11]), (h7, oC 7 [.ref h8, .int 0]), (h8, aJ Y 86 (fun _ => 0))]) (va_A [(h0, oC 2 [.ref h1, .ref g0, .ref g1, .ref g2, .ref h3, .ref h5, .ref g3, .ref g4, .ref g5, .ref g6, .ref g7, .int 0]), (h1, oC 3 [.ref h2, .int 1]), (h2, aI Y 6 (upd (fun _ => 0) 0 (-1))), (h3, oC 7 [.ref h4, .int 0]), (h4, aJ Y 6 (fun _ => 0)), (h5, oC 3 [.ref g8, .int 0]), (h6, oC 11 [.ref h0, .ref g9, .ref g10, .ref h7, .ref g11]), (h7, oC 7 [.ref h8, .int 0]), (h8, aJ Y 86 (fun _ => 0))] sz)) 0 0 (va_A [(h0, oC 2 [.ref h1, .ref g0, .ref g1, .ref g2, .ref h3, .ref h5, .ref g3, .ref g4, .ref g5, .ref g6, .ref g7, .int 0]), (h1, oC 3 [.ref h2, .int 1]), (h2, aI Y 6 (upd (fun _ => 0) 0 (-1))), (h3, oC 7 [.ref h4, .int 0]), (h4, aJ Y 6 (fun _ => 0)), (h5, oC 3 [.ref g8, .int 0]), (h6, oC 11 [.ref h0, .ref g9, .ref g10, .ref h7, .ref g11]), (h7, oC 7 [.ref h8, .int 0]), (h8, aJ Y 86 (fun _ => 0))] sz) :=
  met_of (by decide +kernel) (Nat.le_of_ble_eq_true rfl) (fun p e s m args below meth c B hin hsz => by
    have B : VB p s m args meth c D Y (va_A [(h0, oC 2 [.ref h1, .ref g0, .ref g1, .ref g2, .ref h3, .ref h5, .ref g3, .ref g4, .ref g5, .ref g6, .ref g7, .int 0]), (h1, oC 3 [.ref h2, .int 1]), (h2, aI Y 6 (upd (fun _ => 0) 0 (-1))), (h3, oC 7 [.ref h4, .int 0]), (h4, aJ Y 6 (fun _ => 0)), (h5, oC 3 [.ref g8, .int 0]), (h6, oC 11 [.ref h0, .ref g9, .ref g10, .ref h7, .ref g11]), (h7, oC 7 [.ref h8, .int 0]), (h8, aJ Y 86 (fun _ => 0))] sz) cX10_barFor 5 RX10 none := B
    refine V_aload_n 0 B dX10_barFor_0 0 rfl ?_
    refine V_get 1 B gf_RX10_30 6 rfl rfl dX10_barFor_1 ?_
    refine V_aload_n 4 B dX10_barFor_4 0 rfl ?_
    refine V_get 5 B gf_RX10_9 6 rfl rfl dX10_barFor_5 ?_
    refine V_get 8 B gf_RX10_102 0 rfl rfl dX10_barFor_8 ?_
    refine V_cvv 11 B (st := []) (As := [.ref h3]) (fun sz => mX5_copyFrom_7 l D Y (h7) (h3) (h4) (h8) sz) glV_RX10_105 ⟨rfl, rfl⟩ ⟨(Nat.le_of_ble_eq_true rfl), (Nat.le_of_ble_eq_true rfl)⟩ ⟨(Nat.le_of_ble_eq_true rfl), (Nat.le_of_ble_eq_true rfl)⟩ [3, 0, 2, 0] rfl 7 2 rfl rfl rfl rfl (Nat.le_of_ble_eq_true rfl) rfl (fun _ _ => rfl) dX10_barFor_11 (fun u0 w0 => ?_)
    refine V_ws [(h0, oC 2 [.ref h1, .ref g0, .ref g1, .ref g2, .ref h3, .ref h5, .ref g3, .ref g4, .ref g5, .ref g6, .ref g7, .int 0]), (h1, oC 3 [.ref h2, .int 1]), (h2, aI Y 6 (upd (fun _ => 0) 0 (-1))), (h3, oC 7 [.ref h4, .int 0]), (h4, aJ Y 6 (fun _ => 0)), (h5, oC 3 [.ref g8, .int 0]), (h6, oC 11 [.ref h0, .ref g9, .ref g10, .ref h7, .ref g11]), (h7, oC 7 [.ref h8, .int 0]), (h8, aJ Y 86 (fun _ => 0))] rfl ?_
    refine V_iconst 14 B (v := 0) dX10_barFor_14 (by decide +kernel) ?_
    refine V_istore_n 15 B (lv2 := [(3, .int 0), (0, .ref h6), (1, .int 0), (2, .int p0)]) dX10_barFor_15 (by decide) rfl ?_
    refine V_iload_n 16 B dX10_barFor_16 0 rfl ?_
    refine V_aload_n 17 B dX10_barFor_17 1 rfl ?_
    refine V_get 18 B gf_RX10_9 6 rfl rfl dX10_barFor_18 ?_
    refine V_get 21 B gf_RX10_53 0 rfl rfl dX10_barFor_21 ?_
    refine V_cvi 24 B (st := [.int 0]) (As := []) (fun sz => mX1_size_1 l D Y (h5) (g8) sz) glV_RX10_62 ⟨rfl, rfl⟩ ⟨(Nat.le_of_ble_eq_true rfl), (Nat.le_of_ble_eq_true rfl)⟩ ⟨(Nat.le_of_ble_eq_true rfl), (Nat.le_of_ble_eq_true rfl)⟩ [5] rfl 3 0 rfl rfl rfl rfl (Nat.le_of_ble_eq_true rfl) rfl (fun _ _ _ => rfl) dX10_barFor_24 (fun r1 u1 w1 => ?_)
    obtain rfl := w1
    refine V_ws [(h0, oC 2 [.ref h1, .ref g0, .ref g1, .ref g2, .ref h3, .ref h5, .ref g3, .ref g4, .ref g5, .ref g6, .ref g7, .int 0]), (h1, oC 3 [.ref h2, .int 1]), (h2, aI Y 6 (upd (fun _ => 0) 0 (-1))), (h3, oC 7 [.ref h4, .int 0]), (h4, aJ Y 6 (fun _ => 0)), (h5, oC 3 [.ref g8, .int 0]), (h6, oC 11 [.ref h0, .ref g9, .ref g10, .ref h7, .ref g11]), (h7, oC 7 [.ref h8, .int 0]), (h8, aJ Y 86 (fun _ => 0))] rfl ?_
    refine V_icmp_ge_t 27 B 70 dX10_barFor_27 (by decide) (by decide +kernel) ?_
    refine V_aload_n 70 B dX10_barFor_70 1 rfl ?_
    refine V_get 71 B gf_RX10_9 6 rfl rfl dX10_barFor_71 ?_
    refine V_get 74 B gf_RX10_44 0 rfl rfl dX10_barFor_74 ?_
    refine V_iload_n 77 B dX10_barFor_77 2 rfl ?_
    refine V_cvi 78 B (st := []) (As := [.int 0]) (fun sz => mX1_at_1 l D Y (h1) (h2) sz) glV_RX10_49 ⟨rfl, rfl⟩ ⟨(Nat.le_of_ble_eq_true rfl), (Nat.le_of_ble_eq_true rfl)⟩ ⟨(Nat.le_of_ble_eq_true rfl), (Nat.le_of_ble_eq_true rfl)⟩ [1, 0] rfl 3 0 rfl rfl rfl rfl (Nat.le_of_ble_eq_true rfl) rfl (fun _ _ _ => rfl) dX10_barFor_78 (fun r2 u2 w2 => ?_)
    obtain rfl := w2
    refine V_ws [(h0, oC 2 [.ref h1, .ref g0, .ref g1, .ref g2, .ref h3, .ref h5, .ref g3, .ref g4, .ref g5, .ref g6, .ref g7, .int 0]), (h1, oC 3 [.ref h2, .int 1]), (h2, aI Y 6 (upd (fun _ => 0) 0 (-1))), (h3, oC 7 [.ref h4, .int 0]), (h4, aJ Y 6 (fun _ => 0)), (h5, oC 3 [.ref g8, .int 0]), (h6, oC 11 [.ref h0, .ref g9, .ref g10, .ref h7, .ref g11]), (h7, oC 7 [.ref h8, .int 0]), (h8, aJ Y 86 (fun _ => 0))] rfl ?_
    refine V_istore_n 81 B (lv2 := [(3, .int (-1)), (0, .ref h6), (1, .int 0), (2, .int p0)]) dX10_barFor_81 (by decide) rfl ?_
    refine V_iload_n 82 B dX10_barFor_82 3 rfl ?_
    refine V_if_ne 83 B 91 dX10_barFor_83 (by decide) (fun k3 => ?_) (fun k3 => ?_)
    ·
      exact V_vret 91 B dX10_barFor_91 () (Or.inl k3) rfl
    ·
      obtain rfl : p0 = 0 := k3
      refine V_iload_n 86 B dX10_barFor_86 0 rfl ?_
      refine V_iconst 87 B (v := (-1)) dX10_barFor_87 (by decide +kernel) ?_
      refine V_icmp_ne_f 88 B 92 dX10_barFor_88 (by decide) (by decide +kernel) ?_
      exact V_vret 91 B dX10_barFor_91 () (Or.inr rfl) rfl)
set_option maxRecDepth 100000 in
set_option maxHeartbeats 4000000 in
theorem mX6_extended_2 (l : Launch) (D : va_G) (Y : Nat → ClassId)  (sz : Nat) : Met l yX6_extended (WSm yX6_extended cX6_extended 4 (some .long)) (mkR 1 0 0 21) (PreC D Y [.long 0, .int 0] [] sz) (QJ D (fun (r : Int64) (u : Unit) => 134217728 = r) (fun (_ : Unit) => []) (va_A [] sz)) 0 0 (va_A [] sz) :=
  met_of (by decide +kernel) (Nat.le_of_ble_eq_true rfl) (fun p e s m args below meth c B hin hsz => by
    have B : VB p s m args meth c D Y (va_A [] sz) cX6_extended 4 RX6 (some .long) := B
    refine V_lload_n 0 B dX6_extended_0 0 rfl ?_
    refine V_csi 1 B (st := []) (As := [.long 0]) (fun sz => mX6_lengthOf_1 l D Y  sz) glS_RX6_13 ⟨rfl, rfl⟩ ⟨(Nat.le_of_ble_eq_true rfl), (Nat.le_of_ble_eq_true rfl)⟩ ⟨(Nat.le_of_ble_eq_true rfl), (Nat.le_of_ble_eq_true rfl)⟩ [] rfl rfl (Nat.le_of_ble_eq_true rfl) rfl (fun _ _ _ => rfl) dX6_extended_1 (fun r0 u0 w0 => ?_)
    obtain rfl := w0
    refine V_ws [] rfl ?_
    refine V_istore_n 4 B (lv2 := [(3, .int 0), (0, .long 0), (2, .int 0)]) dX6_extended_4 (by decide) rfl ?_
    refine V_iload_n 5 B dX6_extended_5 0 rfl ?_
    refine V_iconst 6 B (v := 4) dX6_extended_6 (by decide +kernel) ?_
    refine V_icmp_lt_t 7 B 12 dX6_extended_7 (by decide) (by decide +kernel) ?_
    refine V_lload_n 12 B dX6_extended_12 1 rfl ?_
    refine V_iload_n 13 B dX6_extended_13 2 rfl ?_
    refine V_iconst 14 B (v := 1) dX6_extended_14 (by decide +kernel) ?_
    refine V_iadd 15 B (v := 1) dX6_extended_15 (by decide +kernel) ?_
    refine V_i2l 16 B (v := 1) dX6_extended_16 (by decide +kernel) ?_
    refine V_bipush 17 B (v := 9) dX6_extended_17 (by decide +kernel) ?_
    refine V_iconst 19 B (v := 3) dX6_extended_19 (by decide +kernel) ?_
    refine V_iload_n 20 B dX6_extended_20 0 rfl ?_
    refine V_isub 21 B (v := 3) dX6_extended_21 (by decide +kernel) ?_
    refine V_imul 22 B (v := 27) dX6_extended_22 (by decide +kernel) ?_
    refine V_lshl 23 B (v := 134217728) dX6_extended_23 (by decide +kernel) ?_
    refine V_lor 24 B (v := 134217728) dX6_extended_24 (by decide +kernel) ?_
    exact V_lret 25 B dX6_extended_25 () rfl rfl)
set_option maxRecDepth 100000 in
set_option maxHeartbeats 4000000 in
theorem mX10_oneStroke_2 (l : Launch) (D : va_G) (Y : Nat → ClassId)  (sz : Nat) : Met l yX10_oneStroke (WSm yX10_oneStroke cX10_oneStroke 3 (some .long)) (mkR 2 0 0 44) (PreC D Y [.int 0, .int 0] [] sz) (QJ D (fun (r : Int64) (u : Unit) => 134217728 = r) (fun (_ : Unit) => []) (va_A [] sz)) 0 0 (va_A [] sz) :=
  met_of (by decide +kernel) (Nat.le_of_ble_eq_true rfl) (fun p e s m args below meth c B hin hsz => by
    have B : VB p s m args meth c D Y (va_A [] sz) cX10_oneStroke 3 RX10 (some .long) := B
    refine V_iload_n 0 B dX10_oneStroke_0 0 rfl ?_
    refine V_if_ne_f 1 B 8 dX10_oneStroke_1 (by decide) (by decide +kernel) ?_
    refine V_iconst 4 B (v := 0) dX10_oneStroke_4 (by decide +kernel) ?_
    refine V_goto 5 B 13 dX10_oneStroke_5 (by decide) ?_
    refine V_istore_n 13 B (lv2 := [(2, .int 0), (0, .int 0), (1, .int 0)]) dX10_oneStroke_13 (by decide) rfl ?_
    refine V_lconst 14 B (v := 0) dX10_oneStroke_14 (by decide +kernel) ?_
    refine V_bipush 15 B (v := 32) dX10_oneStroke_15 (by decide +kernel) ?_
    refine V_iload_n 17 B dX10_oneStroke_17 0 rfl ?_
    refine V_imul 18 B (v := 0) dX10_oneStroke_18 (by decide +kernel) ?_
    refine V_iload_n 19 B dX10_oneStroke_19 2 rfl ?_
    refine V_iadd 20 B (v := 0) dX10_oneStroke_20 (by decide +kernel) ?_
    refine V_csl 21 B (st := []) (As := [.long 0, .int 0]) (fun sz => mX6_extended_2 l D Y  sz) glS_RX10_115 ⟨rfl, rfl⟩ ⟨(Nat.le_of_ble_eq_true rfl), (Nat.le_of_ble_eq_true rfl)⟩ ⟨(Nat.le_of_ble_eq_true rfl), (Nat.le_of_ble_eq_true rfl)⟩ [] rfl rfl (Nat.le_of_ble_eq_true rfl) rfl (fun _ _ _ => rfl) dX10_oneStroke_21 (fun r0 u0 w0 => ?_)
    obtain rfl := w0
    refine V_ws [] rfl ?_
    exact V_lret 24 B dX10_oneStroke_24 () rfl rfl)
theorem dX10_isCheaper_0 : decode cX10_isCheaper 0 = .ok (.lload_n 2, 1) := by decide +kernel
theorem dX10_isCheaper_1 : decode cX10_isCheaper 1 = .ok (.lconst 0, 1) := by decide +kernel
theorem dX10_isCheaper_2 : decode cX10_isCheaper 2 = .ok (.lcmp, 1) := by decide +kernel
theorem dX10_isCheaper_3 : decode cX10_isCheaper 3 = .ok (.ifCond .eq 14, 3) := by decide +kernel
theorem dX10_isCheaper_17 : decode cX10_isCheaper 17 = .ok (.iconst 1, 1) := by decide +kernel
theorem dX10_isCheaper_18 : decode cX10_isCheaper 18 = .ok (.goto 4, 3) := by decide +kernel
theorem dX10_isCheaper_22 : decode cX10_isCheaper 22 = .ok (.ireturn, 1) := by decide +kernel
set_option maxRecDepth 100000 in
set_option maxHeartbeats 4000000 in
theorem mX10_isCheaper_1 (l : Launch) (D : va_G) (Y : Nat → ClassId)  (sz : Nat) : Met l yX10_isCheaper (WSm yX10_isCheaper cX10_isCheaper 4 (some .boolean)) (mkR 0 0 0 0) (PreX D Y [.long 134217728, .long 0] [] sz) (QI D (fun (r : Int32) (u : Unit) => 1 = r) (fun (_ : Unit) => []) (va_A [] sz)) 0 0 (va_A [] sz) :=
  kmet_of (by decide +kernel) (Nat.le_of_ble_eq_true rfl) (fun p e s m args below meth c B EB hsz => by
    have B : VB p s m args meth c D Y (va_A [] sz) cX10_isCheaper 4 RX10 (some .boolean) := B
    refine V_lload_n 0 B dX10_isCheaper_0 1 rfl ?_
    refine V_lconst 1 B (v := 0) dX10_isCheaper_1 (by decide +kernel) ?_
    refine V_lcmp 2 B (v := 0) dX10_isCheaper_2 (by decide +kernel) ?_
    refine V_if_eq_t 3 B 17 dX10_isCheaper_3 (by decide) (by decide +kernel) ?_
    refine V_iconst 17 B (v := 1) dX10_isCheaper_17 (by decide +kernel) ?_
    refine V_goto 18 B 22 dX10_isCheaper_18 (by decide) ?_
    exact V_zret 22 B rfl dX10_isCheaper_22 () rfl rfl)
theorem dX5_contains_0 : decode cX5_contains 0 = .ok (.iconst 0, 1) := by decide +kernel
theorem dX5_contains_1 : decode cX5_contains 1 = .ok (.istore_n 3, 1) := by decide +kernel
theorem dX5_contains_2 : decode cX5_contains 2 = .ok (.iload_n 3, 1) := by decide +kernel
theorem dX5_contains_3 : decode cX5_contains 3 = .ok (.aload_n 0, 1) := by decide +kernel
theorem dX5_contains_4 : decode cX5_contains 4 = .ok (.getfield 19, 3) := by decide +kernel
theorem dX5_contains_7 : decode cX5_contains 7 = .ok (.if_icmp .ge 31, 3) := by decide +kernel
theorem dX5_contains_38 : decode cX5_contains 38 = .ok (.iconst 0, 1) := by decide +kernel
theorem dX5_contains_39 : decode cX5_contains 39 = .ok (.ireturn, 1) := by decide +kernel
set_option maxRecDepth 100000 in
set_option maxHeartbeats 4000000 in
theorem mX5_contains_1 (l : Launch) (D : va_G) (Y : Nat → ClassId) (h0 : Nat) (g0 : Nat) (sz : Nat) : Met l yX5_contains (WSm yX5_contains cX5_contains 4 (some .boolean)) (mkR 0 0 0 0) (PreC D Y [.ref h0, .long 134217728] [(h0, oC 7 [.ref g0, .int 0])] sz) (QI D (fun (r : Int32) (u : Unit) => 0 = r) (fun (_ : Unit) => [(h0, oC 7 [.ref g0, .int 0])]) (va_A [(h0, oC 7 [.ref g0, .int 0])] sz)) 0 0 (va_A [(h0, oC 7 [.ref g0, .int 0])] sz) :=
  met_of (by decide +kernel) (Nat.le_of_ble_eq_true rfl) (fun p e s m args below meth c B hin hsz => by
    have B : VB p s m args meth c D Y (va_A [(h0, oC 7 [.ref g0, .int 0])] sz) cX5_contains 4 RX5 (some .boolean) := B
    refine V_iconst 0 B (v := 0) dX5_contains_0 (by decide +kernel) ?_
    refine V_istore_n 1 B (lv2 := [(3, .int 0), (0, .ref h0), (1, .long 134217728)]) dX5_contains_1 (by decide) rfl ?_
    refine V_iload_n 2 B dX5_contains_2 0 rfl ?_
    refine V_aload_n 3 B dX5_contains_3 1 rfl ?_
    refine V_get 4 B gf_RX5_19 0 rfl rfl dX5_contains_4 ?_
    refine V_icmp_ge_t 7 B 38 dX5_contains_7 (by decide) (by decide +kernel) ?_
    refine V_iconst 38 B (v := 0) dX5_contains_38 (by decide +kernel) ?_
    exact V_zret 39 B rfl dX5_contains_39 () rfl rfl)
set_option maxRecDepth 100000 in
set_option maxHeartbeats 4000000 in
theorem mX6_strokeAt_2 (l : Launch) (D : va_G) (Y : Nat → ClassId)  (sz : Nat) : Met l yX6_strokeAt (WSm yX6_strokeAt cX6_strokeAt 3 (some .int)) (mkR 0 0 0 0) (PreC D Y [.long 134217728, .int 0] [] sz) (QI D (fun (r : Int32) (u : Unit) => 0 = r) (fun (_ : Unit) => []) (va_A [] sz)) 0 0 (va_A [] sz) :=
  met_of (by decide +kernel) (Nat.le_of_ble_eq_true rfl) (fun p e s m args below meth c B hin hsz => by
    have B : VB p s m args meth c D Y (va_A [] sz) cX6_strokeAt 3 RX6 (some .int) := B
    refine V_iload_n 0 B dX6_strokeAt_0 1 rfl ?_
    refine V_if_lt_f 1 B 9 dX6_strokeAt_1 (by decide) (by decide +kernel) ?_
    refine V_iload_n 4 B dX6_strokeAt_4 1 rfl ?_
    refine V_iconst 5 B (v := 4) dX6_strokeAt_5 (by decide +kernel) ?_
    refine V_icmp_lt_t 6 B 11 dX6_strokeAt_6 (by decide) (by decide +kernel) ?_
    refine V_lload_n 11 B dX6_strokeAt_11 0 rfl ?_
    refine V_bipush 12 B (v := 9) dX6_strokeAt_12 (by decide +kernel) ?_
    refine V_iconst 14 B (v := 3) dX6_strokeAt_14 (by decide +kernel) ?_
    refine V_iload_n 15 B dX6_strokeAt_15 1 rfl ?_
    refine V_isub 16 B (v := 3) dX6_strokeAt_16 (by decide +kernel) ?_
    refine V_imul 17 B (v := 27) dX6_strokeAt_17 (by decide +kernel) ?_
    refine V_lshr 18 B (v := 1) dX6_strokeAt_18 (by decide +kernel) ?_
    refine V_ldc2 19 B (v := 511) dX6_strokeAt_19 (mT3 101 rfl rfl) ?_
    refine V_land 22 B (v := 1) dX6_strokeAt_22 (by decide +kernel) ?_
    refine V_l2i 23 B (v := 1) dX6_strokeAt_23 (by decide +kernel) ?_
    refine V_iconst 24 B (v := 1) dX6_strokeAt_24 (by decide +kernel) ?_
    refine V_isub 25 B (v := 0) dX6_strokeAt_25 (by decide +kernel) ?_
    exact V_iret 26 B dX6_strokeAt_26 () rfl rfl)
set_option maxRecDepth 100000 in
set_option maxHeartbeats 4000000 in
theorem mX6_extended_3 (l : Launch) (D : va_G) (Y : Nat → ClassId)  (sz : Nat) : Met l yX6_extended (WSm yX6_extended cX6_extended 4 (some .long)) (mkR 1 0 0 21) (PreC D Y [.long 134217728, .int 0] [] sz) (QJ D (fun (r : Int64) (u : Unit) => 134479872 = r) (fun (_ : Unit) => []) (va_A [] sz)) 0 0 (va_A [] sz) :=
  met_of (by decide +kernel) (Nat.le_of_ble_eq_true rfl) (fun p e s m args below meth c B hin hsz => by
    have B : VB p s m args meth c D Y (va_A [] sz) cX6_extended 4 RX6 (some .long) := B
    refine V_lload_n 0 B dX6_extended_0 0 rfl ?_
    refine V_csi 1 B (st := []) (As := [.long 134217728]) (fun sz => mX6_lengthOf_2 l D Y  sz) glS_RX6_13 ⟨rfl, rfl⟩ ⟨(Nat.le_of_ble_eq_true rfl), (Nat.le_of_ble_eq_true rfl)⟩ ⟨(Nat.le_of_ble_eq_true rfl), (Nat.le_of_ble_eq_true rfl)⟩ [] rfl rfl (Nat.le_of_ble_eq_true rfl) rfl (fun _ _ _ => rfl) dX6_extended_1 (fun r0 u0 w0 => ?_)
    obtain rfl := w0
    refine V_ws [] rfl ?_
    refine V_istore_n 4 B (lv2 := [(3, .int 1), (0, .long 134217728), (2, .int 0)]) dX6_extended_4 (by decide) rfl ?_
    refine V_iload_n 5 B dX6_extended_5 0 rfl ?_
    refine V_iconst 6 B (v := 4) dX6_extended_6 (by decide +kernel) ?_
    refine V_icmp_lt_t 7 B 12 dX6_extended_7 (by decide) (by decide +kernel) ?_
    refine V_lload_n 12 B dX6_extended_12 1 rfl ?_
    refine V_iload_n 13 B dX6_extended_13 2 rfl ?_
    refine V_iconst 14 B (v := 1) dX6_extended_14 (by decide +kernel) ?_
    refine V_iadd 15 B (v := 1) dX6_extended_15 (by decide +kernel) ?_
    refine V_i2l 16 B (v := 1) dX6_extended_16 (by decide +kernel) ?_
    refine V_bipush 17 B (v := 9) dX6_extended_17 (by decide +kernel) ?_
    refine V_iconst 19 B (v := 3) dX6_extended_19 (by decide +kernel) ?_
    refine V_iload_n 20 B dX6_extended_20 0 rfl ?_
    refine V_isub 21 B (v := 2) dX6_extended_21 (by decide +kernel) ?_
    refine V_imul 22 B (v := 18) dX6_extended_22 (by decide +kernel) ?_
    refine V_lshl 23 B (v := 262144) dX6_extended_23 (by decide +kernel) ?_
    refine V_lor 24 B (v := 134479872) dX6_extended_24 (by decide +kernel) ?_
    exact V_lret 25 B dX6_extended_25 () rfl rfl)
set_option maxRecDepth 100000 in
set_option maxHeartbeats 4000000 in
theorem mX10_isCheaper_2 (l : Launch) (D : va_G) (Y : Nat → ClassId)  (sz : Nat) : Met l yX10_isCheaper (WSm yX10_isCheaper cX10_isCheaper 4 (some .boolean)) (mkR 0 0 0 0) (PreX D Y [.long 134479872, .long 0] [] sz) (QI D (fun (r : Int32) (u : Unit) => 1 = r) (fun (_ : Unit) => []) (va_A [] sz)) 0 0 (va_A [] sz) :=
  kmet_of (by decide +kernel) (Nat.le_of_ble_eq_true rfl) (fun p e s m args below meth c B EB hsz => by
    have B : VB p s m args meth c D Y (va_A [] sz) cX10_isCheaper 4 RX10 (some .boolean) := B
    refine V_lload_n 0 B dX10_isCheaper_0 1 rfl ?_
    refine V_lconst 1 B (v := 0) dX10_isCheaper_1 (by decide +kernel) ?_
    refine V_lcmp 2 B (v := 0) dX10_isCheaper_2 (by decide +kernel) ?_
    refine V_if_eq_t 3 B 17 dX10_isCheaper_3 (by decide) (by decide +kernel) ?_
    refine V_iconst 17 B (v := 1) dX10_isCheaper_17 (by decide +kernel) ?_
    refine V_goto 18 B 22 dX10_isCheaper_18 (by decide) ?_
    exact V_zret 22 B rfl dX10_isCheaper_22 () rfl rfl)
set_option maxRecDepth 100000 in
set_option maxHeartbeats 4000000 in
theorem mX5_hasClash_2 (l : Launch) (D : va_G) (Y : Nat → ClassId) (h0 : Nat) (g0 : Nat) (sz : Nat) : Met l yX5_hasClash (WSm yX5_hasClash cX5_hasClash 4 (some .boolean)) (mkR 0 0 0 0) (PreC D Y [.ref h0, .long 134479872] [(h0, oC 7 [.ref g0, .int 0])] sz) (QI D (fun (r : Int32) (u : Unit) => 0 = r) (fun (_ : Unit) => [(h0, oC 7 [.ref g0, .int 0])]) (va_A [(h0, oC 7 [.ref g0, .int 0])] sz)) 0 0 (va_A [(h0, oC 7 [.ref g0, .int 0])] sz) :=
  met_of (by decide +kernel) (Nat.le_of_ble_eq_true rfl) (fun p e s m args below meth c B hin hsz => by
    have B : VB p s m args meth c D Y (va_A [(h0, oC 7 [.ref g0, .int 0])] sz) cX5_hasClash 4 RX5 (some .boolean) := B
    refine V_iconst 0 B (v := 0) dX5_hasClash_0 (by decide +kernel) ?_
    refine V_istore_n 1 B (lv2 := [(3, .int 0), (0, .ref h0), (1, .long 134479872)]) dX5_hasClash_1 (by decide) rfl ?_
    refine V_iload_n 2 B dX5_hasClash_2 0 rfl ?_
    refine V_aload_n 3 B dX5_hasClash_3 1 rfl ?_
    refine V_get 4 B gf_RX5_19 0 rfl rfl dX5_hasClash_4 ?_
    refine V_icmp_ge_t 7 B 40 dX5_hasClash_7 (by decide) (by decide +kernel) ?_
    refine V_iconst 40 B (v := 0) dX5_hasClash_40 (by decide +kernel) ?_
    exact V_zret 41 B rfl dX5_hasClash_41 () rfl rfl)
set_option maxRecDepth 100000 in
set_option maxHeartbeats 4000000 in
theorem mX6_lengthOf_3 (l : Launch) (D : va_G) (Y : Nat → ClassId)  (sz : Nat) : Met l yX6_lengthOf (WSm yX6_lengthOf cX6_lengthOf 2 (some .int)) (mkR 0 0 0 0) (PreC D Y [.long 134479872] [] sz) (QI D (fun (r : Int32) (u : Unit) => 2 = r) (fun (_ : Unit) => []) (va_A [] sz)) 0 0 (va_A [] sz) :=
  met_of (by decide +kernel) (Nat.le_of_ble_eq_true rfl) (fun p e s m args below meth c B hin hsz => by
    have B : VB p s m args meth c D Y (va_A [] sz) cX6_lengthOf 2 RX6 (some .int) := B
    refine V_lload_n 0 B dX6_lengthOf_0 0 rfl ?_
    refine V_ldc2 1 B (v := 511) dX6_lengthOf_1 (mT3 101 rfl rfl) ?_
    refine V_land 4 B (v := 0) dX6_lengthOf_4 (by decide +kernel) ?_
    refine V_lconst 5 B (v := 0) dX6_lengthOf_5 (by decide +kernel) ?_
    refine V_lcmp 6 B (v := 0) dX6_lengthOf_6 (by decide +kernel) ?_
    refine V_if_eq_t 7 B 12 dX6_lengthOf_7 (by decide) (by decide +kernel) ?_
    refine V_lload_n 12 B dX6_lengthOf_12 0 rfl ?_
    refine V_bipush 13 B (v := 9) dX6_lengthOf_13 (by decide +kernel) ?_
    refine V_lshr 15 B (v := 262656) dX6_lengthOf_15 (by decide +kernel) ?_
    refine V_ldc2 16 B (v := 511) dX6_lengthOf_16 (mT3 101 rfl rfl) ?_
    refine V_land 19 B (v := 0) dX6_lengthOf_19 (by decide +kernel) ?_
    refine V_lconst 20 B (v := 0) dX6_lengthOf_20 (by decide +kernel) ?_
    refine V_lcmp 21 B (v := 0) dX6_lengthOf_21 (by decide +kernel) ?_
    refine V_if_eq_t 22 B 27 dX6_lengthOf_22 (by decide) (by decide +kernel) ?_
    refine V_lload_n 27 B dX6_lengthOf_27 0 rfl ?_
    refine V_bipush 28 B (v := 18) dX6_lengthOf_28 (by decide +kernel) ?_
    refine V_lshr 30 B (v := 513) dX6_lengthOf_30 (by decide +kernel) ?_
    refine V_ldc2 31 B (v := 511) dX6_lengthOf_31 (mT3 101 rfl rfl) ?_
    refine V_land 34 B (v := 1) dX6_lengthOf_34 (by decide +kernel) ?_
    refine V_lconst 35 B (v := 0) dX6_lengthOf_35 (by decide +kernel) ?_
    refine V_lcmp 36 B (v := 1) dX6_lengthOf_36 (by decide +kernel) ?_
    refine V_if_eq_f 37 B 42 dX6_lengthOf_37 (by decide) (by decide +kernel) ?_
    refine V_iconst 40 B (v := 2) dX6_lengthOf_40 (by decide +kernel) ?_
    exact V_iret 41 B dX6_lengthOf_41 () rfl rfl)
set_option maxRecDepth 100000 in
set_option maxHeartbeats 4000000 in
theorem mX6_strokeAt_3 (l : Launch) (D : va_G) (Y : Nat → ClassId)  (sz : Nat) : Met l yX6_strokeAt (WSm yX6_strokeAt cX6_strokeAt 3 (some .int)) (mkR 0 0 0 0) (PreC D Y [.long 134479872, .int 0] [] sz) (QI D (fun (r : Int32) (u : Unit) => 0 = r) (fun (_ : Unit) => []) (va_A [] sz)) 0 0 (va_A [] sz) :=
  met_of (by decide +kernel) (Nat.le_of_ble_eq_true rfl) (fun p e s m args below meth c B hin hsz => by
    have B : VB p s m args meth c D Y (va_A [] sz) cX6_strokeAt 3 RX6 (some .int) := B
    refine V_iload_n 0 B dX6_strokeAt_0 1 rfl ?_
    refine V_if_lt_f 1 B 9 dX6_strokeAt_1 (by decide) (by decide +kernel) ?_
    refine V_iload_n 4 B dX6_strokeAt_4 1 rfl ?_
    refine V_iconst 5 B (v := 4) dX6_strokeAt_5 (by decide +kernel) ?_
    refine V_icmp_lt_t 6 B 11 dX6_strokeAt_6 (by decide) (by decide +kernel) ?_
    refine V_lload_n 11 B dX6_strokeAt_11 0 rfl ?_
    refine V_bipush 12 B (v := 9) dX6_strokeAt_12 (by decide +kernel) ?_
    refine V_iconst 14 B (v := 3) dX6_strokeAt_14 (by decide +kernel) ?_
    refine V_iload_n 15 B dX6_strokeAt_15 1 rfl ?_
    refine V_isub 16 B (v := 3) dX6_strokeAt_16 (by decide +kernel) ?_
    refine V_imul 17 B (v := 27) dX6_strokeAt_17 (by decide +kernel) ?_
    refine V_lshr 18 B (v := 1) dX6_strokeAt_18 (by decide +kernel) ?_
    refine V_ldc2 19 B (v := 511) dX6_strokeAt_19 (mT3 101 rfl rfl) ?_
    refine V_land 22 B (v := 1) dX6_strokeAt_22 (by decide +kernel) ?_
    refine V_l2i 23 B (v := 1) dX6_strokeAt_23 (by decide +kernel) ?_
    refine V_iconst 24 B (v := 1) dX6_strokeAt_24 (by decide +kernel) ?_
    refine V_isub 25 B (v := 0) dX6_strokeAt_25 (by decide +kernel) ?_
    exact V_iret 26 B dX6_strokeAt_26 () rfl rfl)
set_option maxRecDepth 100000 in
set_option maxHeartbeats 4000000 in
theorem mJ6_bitCount_0f7a4_1 (l : Launch) (D : va_G) (Y : Nat → ClassId)  (sz : Nat) : Met l yJ6_bitCount_0f7a4 (WSm yJ6_bitCount_0f7a4 cJ6_bitCount_0f7a4 1 (some .int)) (mkR 0 0 0 0) (PreC D Y [.int 0] [] sz) (QI D (fun (r : Int32) (u : Unit) => 0 = r) (fun (_ : Unit) => []) (va_A [] sz)) 0 0 (va_A [] sz) :=
  met_of (by decide +kernel) (Nat.le_of_ble_eq_true rfl) (fun p e s m args below meth c B hin hsz => by
    have B : VB p s m args meth c D Y (va_A [] sz) cJ6_bitCount_0f7a4 1 RJ6 (some .int) := B
    refine V_iload_n 0 B dJ6_bitCount_0f7a4_0 0 rfl ?_
    refine V_iload_n 1 B dJ6_bitCount_0f7a4_1 0 rfl ?_
    refine V_iconst 2 B (v := 1) dJ6_bitCount_0f7a4_2 (by decide +kernel) ?_
    refine V_iushr 3 B (v := 0) dJ6_bitCount_0f7a4_3 (by decide +kernel) ?_
    refine V_ldcw 4 B (v := 1431655765) dJ6_bitCount_0f7a4_4 (mT4 8 rfl rfl) ?_
    refine V_iand 7 B (v := 0) dJ6_bitCount_0f7a4_7 (by decide +kernel) ?_
    refine V_isub 8 B (v := 0) dJ6_bitCount_0f7a4_8 (by decide +kernel) ?_
    refine V_istore_n 9 B (lv2 := [(0, .int 0)]) dJ6_bitCount_0f7a4_9 (by decide) rfl ?_
    refine V_iload_n 10 B dJ6_bitCount_0f7a4_10 0 rfl ?_
    refine V_ldcw 11 B (v := 858993459) dJ6_bitCount_0f7a4_11 (mT4 9 rfl rfl) ?_
    refine V_iand 14 B (v := 0) dJ6_bitCount_0f7a4_14 (by decide +kernel) ?_
    refine V_iload_n 15 B dJ6_bitCount_0f7a4_15 0 rfl ?_
    refine V_iconst 16 B (v := 2) dJ6_bitCount_0f7a4_16 (by decide +kernel) ?_
    refine V_iushr 17 B (v := 0) dJ6_bitCount_0f7a4_17 (by decide +kernel) ?_
    refine V_ldcw 18 B (v := 858993459) dJ6_bitCount_0f7a4_18 (mT4 9 rfl rfl) ?_
    refine V_iand 21 B (v := 0) dJ6_bitCount_0f7a4_21 (by decide +kernel) ?_
    refine V_iadd 22 B (v := 0) dJ6_bitCount_0f7a4_22 (by decide +kernel) ?_
    refine V_istore_n 23 B (lv2 := [(0, .int 0)]) dJ6_bitCount_0f7a4_23 (by decide) rfl ?_
    refine V_iload_n 24 B dJ6_bitCount_0f7a4_24 0 rfl ?_
    refine V_iload_n 25 B dJ6_bitCount_0f7a4_25 0 rfl ?_
    refine V_iconst 26 B (v := 4) dJ6_bitCount_0f7a4_26 (by decide +kernel) ?_
    refine V_iushr 27 B (v := 0) dJ6_bitCount_0f7a4_27 (by decide +kernel) ?_
    refine V_iadd 28 B (v := 0) dJ6_bitCount_0f7a4_28 (by decide +kernel) ?_
    refine V_ldcw 29 B (v := 252645135) dJ6_bitCount_0f7a4_29 (mT4 10 rfl rfl) ?_
    refine V_iand 32 B (v := 0) dJ6_bitCount_0f7a4_32 (by decide +kernel) ?_
    refine V_istore_n 33 B (lv2 := [(0, .int 0)]) dJ6_bitCount_0f7a4_33 (by decide) rfl ?_
    refine V_iload_n 34 B dJ6_bitCount_0f7a4_34 0 rfl ?_
    refine V_iload_n 35 B dJ6_bitCount_0f7a4_35 0 rfl ?_
    refine V_bipush 36 B (v := 8) dJ6_bitCount_0f7a4_36 (by decide +kernel) ?_
    refine V_iushr 38 B (v := 0) dJ6_bitCount_0f7a4_38 (by decide +kernel) ?_
    refine V_iadd 39 B (v := 0) dJ6_bitCount_0f7a4_39 (by decide +kernel) ?_
    refine V_istore_n 40 B (lv2 := [(0, .int 0)]) dJ6_bitCount_0f7a4_40 (by decide) rfl ?_
    refine V_iload_n 41 B dJ6_bitCount_0f7a4_41 0 rfl ?_
    refine V_iload_n 42 B dJ6_bitCount_0f7a4_42 0 rfl ?_
    refine V_bipush 43 B (v := 16) dJ6_bitCount_0f7a4_43 (by decide +kernel) ?_
    refine V_iushr 45 B (v := 0) dJ6_bitCount_0f7a4_45 (by decide +kernel) ?_
    refine V_iadd 46 B (v := 0) dJ6_bitCount_0f7a4_46 (by decide +kernel) ?_
    refine V_istore_n 47 B (lv2 := [(0, .int 0)]) dJ6_bitCount_0f7a4_47 (by decide) rfl ?_
    refine V_iload_n 48 B dJ6_bitCount_0f7a4_48 0 rfl ?_
    refine V_bipush 49 B (v := 63) dJ6_bitCount_0f7a4_49 (by decide +kernel) ?_
    refine V_iand 51 B (v := 0) dJ6_bitCount_0f7a4_51 (by decide +kernel) ?_
    exact V_iret 52 B dJ6_bitCount_0f7a4_52 () rfl rfl)
set_option maxRecDepth 100000 in
set_option maxHeartbeats 4000000 in
theorem mX6_strokeCost_1 (l : Launch) (D : va_G) (Y : Nat → ClassId)  (sz : Nat) : Met l yX6_strokeCost (WSm yX6_strokeCost cX6_strokeCost 3 (some .int)) (mkR 1 0 0 20) (PreX D Y [.int 0] [] sz) (QI D (fun (r : Int32) (u : Unit) => 1 = r) (fun (_ : Unit) => []) (va_A [] sz)) 0 0 (va_A [] sz) :=
  kmet_of (by decide +kernel) (Nat.le_of_ble_eq_true rfl) (fun p e s m args below meth c B EB hsz => by
    have B : VB p s m args meth c D Y (va_A [] sz) cX6_strokeCost 3 RX6 (some .int) := B
    refine V_iload_n 0 B dX6_strokeCost_0 0 rfl ?_
    refine V_bipush 1 B (v := 31) dX6_strokeCost_1 (by decide +kernel) ?_
    refine V_iand 3 B (v := 0) dX6_strokeCost_3 (by decide +kernel) ?_
    refine V_istore_n 4 B (lv2 := [(1, .int 0), (0, .int 0)]) dX6_strokeCost_4 (by decide) rfl ?_
    refine V_iload_n 5 B dX6_strokeCost_5 0 rfl ?_
    refine V_kget 6 B EB (mT4 3 rfl rfl) dX6_strokeCost_6 (fun tk0 htk0 => ?_)
    refine V_klen 9 B htk0 dX6_strokeCost_9 ?_
    refine V_icmp_ge_f 10 B 21 dX6_strokeCost_10 (by decide) (by decide +kernel) ?_
    refine V_kget 13 B EB (mT4 3 rfl rfl) dX6_strokeCost_13 (fun tk1 htk1 => ?_)
    refine V_iload_n 16 B dX6_strokeCost_16 0 rfl ?_
    refine V_kld 17 B htk1 (v := 1) (vpin _ _ (by decide +kernel)) (by decide +kernel) dX6_strokeCost_17 ?_
    refine V_goto 18 B 22 dX6_strokeCost_18 (by decide) ?_
    refine V_istore_n 22 B (lv2 := [(2, .int 1), (1, .int 0), (0, .int 0)]) dX6_strokeCost_22 (by decide) rfl ?_
    refine V_iload_n 23 B dX6_strokeCost_23 0 rfl ?_
    refine V_iconst 24 B (v := 2) dX6_strokeCost_24 (by decide +kernel) ?_
    refine V_iload_n 25 B dX6_strokeCost_25 2 rfl ?_
    refine V_iconst 26 B (v := 5) dX6_strokeCost_26 (by decide +kernel) ?_
    refine V_ishr 27 B (v := 0) dX6_strokeCost_27 (by decide +kernel) ?_
    refine V_csi 28 B (st := [.int 2, .int 1]) (As := [.int 0]) (fun sz => mJ6_bitCount_0f7a4_1 l D Y  sz) glS_RX6_39 ⟨rfl, rfl⟩ ⟨(Nat.le_of_ble_eq_true rfl), (Nat.le_of_ble_eq_true rfl)⟩ ⟨(Nat.le_of_ble_eq_true rfl), (Nat.le_of_ble_eq_true rfl)⟩ [] rfl rfl (Nat.le_of_ble_eq_true rfl) rfl (fun _ _ _ => rfl) dX6_strokeCost_28 (fun r2 u2 w2 => ?_)
    obtain rfl := w2
    refine V_ws [] rfl ?_
    refine V_imul 31 B (v := 0) dX6_strokeCost_31 (by decide +kernel) ?_
    refine V_iadd 32 B (v := 1) dX6_strokeCost_32 (by decide +kernel) ?_
    exact V_iret 33 B dX6_strokeCost_33 () rfl rfl)
set_option maxRecDepth 100000 in
set_option maxHeartbeats 4000000 in
theorem mX6_strokeAt_4 (l : Launch) (D : va_G) (Y : Nat → ClassId)  (sz : Nat) : Met l yX6_strokeAt (WSm yX6_strokeAt cX6_strokeAt 3 (some .int)) (mkR 0 0 0 0) (PreC D Y [.long 134479872, .int 1] [] sz) (QI D (fun (r : Int32) (u : Unit) => 0 = r) (fun (_ : Unit) => []) (va_A [] sz)) 0 0 (va_A [] sz) :=
  met_of (by decide +kernel) (Nat.le_of_ble_eq_true rfl) (fun p e s m args below meth c B hin hsz => by
    have B : VB p s m args meth c D Y (va_A [] sz) cX6_strokeAt 3 RX6 (some .int) := B
    refine V_iload_n 0 B dX6_strokeAt_0 1 rfl ?_
    refine V_if_lt_f 1 B 9 dX6_strokeAt_1 (by decide) (by decide +kernel) ?_
    refine V_iload_n 4 B dX6_strokeAt_4 1 rfl ?_
    refine V_iconst 5 B (v := 4) dX6_strokeAt_5 (by decide +kernel) ?_
    refine V_icmp_lt_t 6 B 11 dX6_strokeAt_6 (by decide) (by decide +kernel) ?_
    refine V_lload_n 11 B dX6_strokeAt_11 0 rfl ?_
    refine V_bipush 12 B (v := 9) dX6_strokeAt_12 (by decide +kernel) ?_
    refine V_iconst 14 B (v := 3) dX6_strokeAt_14 (by decide +kernel) ?_
    refine V_iload_n 15 B dX6_strokeAt_15 1 rfl ?_
    refine V_isub 16 B (v := 2) dX6_strokeAt_16 (by decide +kernel) ?_
    refine V_imul 17 B (v := 18) dX6_strokeAt_17 (by decide +kernel) ?_
    refine V_lshr 18 B (v := 513) dX6_strokeAt_18 (by decide +kernel) ?_
    refine V_ldc2 19 B (v := 511) dX6_strokeAt_19 (mT3 101 rfl rfl) ?_
    refine V_land 22 B (v := 1) dX6_strokeAt_22 (by decide +kernel) ?_
    refine V_l2i 23 B (v := 1) dX6_strokeAt_23 (by decide +kernel) ?_
    refine V_iconst 24 B (v := 1) dX6_strokeAt_24 (by decide +kernel) ?_
    refine V_isub 25 B (v := 0) dX6_strokeAt_25 (by decide +kernel) ?_
    exact V_iret 26 B dX6_strokeAt_26 () rfl rfl)
set_option maxRecDepth 100000 in
set_option maxHeartbeats 4000000 in
theorem mX6_costOf_2 (l : Launch) (D : va_G) (Y : Nat → ClassId)  (sz : Nat) : Met l yX6_costOf (WSm yX6_costOf cX6_costOf 5 (some .int)) (mkR 2 0 0 42) (PreX D Y [.long 134479872] [] sz) (QI D (fun (r : Int32) (u : Unit) => 2 = r) (fun (_ : Unit) => []) (va_A [] sz)) 0 0 (va_A [] sz) :=
  kmet_of (by decide +kernel) (Nat.le_of_ble_eq_true rfl) (fun p e s m args below meth c B EB hsz => by
    have B : VB p s m args meth c D Y (va_A [] sz) cX6_costOf 5 RX6 (some .int) := B
    refine V_iconst 0 B (v := 0) dX6_costOf_0 (by decide +kernel) ?_
    refine V_istore_n 1 B (lv2 := [(2, .int 0), (0, .long 134479872)]) dX6_costOf_1 (by decide) rfl ?_
    refine V_lload_n 2 B dX6_costOf_2 1 rfl ?_
    refine V_csi 3 B (st := []) (As := [.long 134479872]) (fun sz => mX6_lengthOf_3 l D Y  sz) glS_RX6_13 ⟨rfl, rfl⟩ ⟨(Nat.le_of_ble_eq_true rfl), (Nat.le_of_ble_eq_true rfl)⟩ ⟨(Nat.le_of_ble_eq_true rfl), (Nat.le_of_ble_eq_true rfl)⟩ [] rfl rfl (Nat.le_of_ble_eq_true rfl) rfl (fun _ _ _ => rfl) dX6_costOf_3 (fun r0 u0 w0 => ?_)
    obtain rfl := w0
    refine V_ws [] rfl ?_
    refine V_istore_n 6 B (lv2 := [(3, .int 2), (2, .int 0), (0, .long 134479872)]) dX6_costOf_6 (by decide) rfl ?_
    refine V_iconst 7 B (v := 0) dX6_costOf_7 (by decide +kernel) ?_
    refine V_istore 8 B (lv2 := [(4, .int 0), (3, .int 2), (2, .int 0), (0, .long 134479872)]) dX6_costOf_8 (by decide) rfl ?_
    refine V_iload 10 B dX6_costOf_10 0 rfl ?_
    refine V_iload_n 12 B dX6_costOf_12 1 rfl ?_
    refine V_icmp_ge_f 13 B 34 dX6_costOf_13 (by decide) (by decide +kernel) ?_
    refine V_iload_n 16 B dX6_costOf_16 2 rfl ?_
    refine V_lload_n 17 B dX6_costOf_17 3 rfl ?_
    refine V_iload 18 B dX6_costOf_18 0 rfl ?_
    refine V_csi 20 B (st := [.int 0]) (As := [.long 134479872, .int 0]) (fun sz => mX6_strokeAt_3 l D Y  sz) glS_RX6_27 ⟨rfl, rfl⟩ ⟨(Nat.le_of_ble_eq_true rfl), (Nat.le_of_ble_eq_true rfl)⟩ ⟨(Nat.le_of_ble_eq_true rfl), (Nat.le_of_ble_eq_true rfl)⟩ [] rfl rfl (Nat.le_of_ble_eq_true rfl) rfl (fun _ _ _ => rfl) dX6_costOf_20 (fun r1 u1 w1 => ?_)
    obtain rfl := w1
    refine V_ws [] rfl ?_
    refine V_ksi 23 B EB (st := [.int 0]) (As := [.int 0]) (fun sz => mX6_strokeCost_1 l D Y  sz) glS_RX6_31 ⟨rfl, rfl⟩ ⟨(Nat.le_of_ble_eq_true rfl), (Nat.le_of_ble_eq_true rfl)⟩ ⟨(Nat.le_of_ble_eq_true rfl), (Nat.le_of_ble_eq_true rfl)⟩ [] rfl rfl (Nat.le_of_ble_eq_true rfl) rfl (fun _ _ _ => rfl) dX6_costOf_23 (fun r2 u2 w2 => ?_)
    obtain rfl := w2
    refine V_ws [] rfl ?_
    refine V_iadd 26 B (v := 1) dX6_costOf_26 (by decide +kernel) ?_
    refine V_istore_n 27 B (lv2 := [(2, .int 1), (4, .int 0), (3, .int 2), (0, .long 134479872)]) dX6_costOf_27 (by decide) rfl ?_
    refine V_iinc 28 B (v := 1) (lv2 := [(4, .int 1), (2, .int 1), (3, .int 2), (0, .long 134479872)]) dX6_costOf_28 1 rfl (by decide +kernel) (by decide) rfl ?_
    refine V_goto 31 B 10 dX6_costOf_31 (by decide) ?_
    refine V_iload 10 B dX6_costOf_10 0 rfl ?_
    refine V_iload_n 12 B dX6_costOf_12 2 rfl ?_
    refine V_icmp_ge_f 13 B 34 dX6_costOf_13 (by decide) (by decide +kernel) ?_
    refine V_iload_n 16 B dX6_costOf_16 1 rfl ?_
    refine V_lload_n 17 B dX6_costOf_17 3 rfl ?_
    refine V_iload 18 B dX6_costOf_18 0 rfl ?_
    refine V_csi 20 B (st := [.int 1]) (As := [.long 134479872, .int 1]) (fun sz => mX6_strokeAt_4 l D Y  sz) glS_RX6_27 ⟨rfl, rfl⟩ ⟨(Nat.le_of_ble_eq_true rfl), (Nat.le_of_ble_eq_true rfl)⟩ ⟨(Nat.le_of_ble_eq_true rfl), (Nat.le_of_ble_eq_true rfl)⟩ [] rfl rfl (Nat.le_of_ble_eq_true rfl) rfl (fun _ _ _ => rfl) dX6_costOf_20 (fun r3 u3 w3 => ?_)
    obtain rfl := w3
    refine V_ws [] rfl ?_
    refine V_ksi 23 B EB (st := [.int 1]) (As := [.int 0]) (fun sz => mX6_strokeCost_1 l D Y  sz) glS_RX6_31 ⟨rfl, rfl⟩ ⟨(Nat.le_of_ble_eq_true rfl), (Nat.le_of_ble_eq_true rfl)⟩ ⟨(Nat.le_of_ble_eq_true rfl), (Nat.le_of_ble_eq_true rfl)⟩ [] rfl rfl (Nat.le_of_ble_eq_true rfl) rfl (fun _ _ _ => rfl) dX6_costOf_23 (fun r4 u4 w4 => ?_)
    obtain rfl := w4
    refine V_ws [] rfl ?_
    refine V_iadd 26 B (v := 2) dX6_costOf_26 (by decide +kernel) ?_
    refine V_istore_n 27 B (lv2 := [(2, .int 2), (4, .int 1), (3, .int 2), (0, .long 134479872)]) dX6_costOf_27 (by decide) rfl ?_
    refine V_iinc 28 B (v := 2) (lv2 := [(4, .int 2), (2, .int 2), (3, .int 2), (0, .long 134479872)]) dX6_costOf_28 1 rfl (by decide +kernel) (by decide) rfl ?_
    refine V_goto 31 B 10 dX6_costOf_31 (by decide) ?_
    refine V_iload 10 B dX6_costOf_10 0 rfl ?_
    refine V_iload_n 12 B dX6_costOf_12 2 rfl ?_
    refine V_icmp_ge_t 13 B 34 dX6_costOf_13 (by decide) (by decide +kernel) ?_
    refine V_iload_n 34 B dX6_costOf_34 1 rfl ?_
    exact V_iret 35 B dX6_costOf_35 () rfl rfl)
theorem dX10_isCheaper_6 : decode cX10_isCheaper 6 = .ok (.lload_n 0, 1) := by decide +kernel
theorem dX10_isCheaper_7 : decode cX10_isCheaper 7 = .ok (.invokestatic 99, 3) := by decide +kernel
theorem glS_RX10_99 : GLS RX10 99 yX6_costOf cX6_costOf 5 (some .int) 1 := ⟨⟨(mT6 114 rfl rfl), (mT3 237 rfl rfl), (mT1 18 rfl rfl), (mT3 238 rfl rfl)⟩, by decide +kernel⟩
theorem dX10_isCheaper_10 : decode cX10_isCheaper 10 = .ok (.lload_n 2, 1) := by decide +kernel
theorem dX10_isCheaper_11 : decode cX10_isCheaper 11 = .ok (.invokestatic 99, 3) := by decide +kernel
theorem dX10_isCheaper_14 : decode cX10_isCheaper 14 = .ok (.if_icmp .ge 7, 3) := by decide +kernel
theorem dX10_isCheaper_21 : decode cX10_isCheaper 21 = .ok (.iconst 0, 1) := by decide +kernel
set_option maxRecDepth 100000 in
set_option maxHeartbeats 4000000 in
theorem mX10_isCheaper_2_134479872c (l : Launch) (D : va_G) (Y : Nat → ClassId) (p0 : Int64) (hl : lenF p0 = 2) (hc : (2 : Int) ≤ (cost2F p0).toInt) (sz : Nat) : Met l yX10_isCheaper (WSm yX10_isCheaper cX10_isCheaper 4 (some .boolean)) (mkR 3 0 0 66) (PreX D Y [.long p0, .long 134479872] [] sz) (QI D (fun (r : Int32) (u : Unit) => 0 = r) (fun (_ : Unit) => []) (va_A [] sz)) 0 0 (va_A [] sz) :=
  kmet_of (by decide +kernel) (Nat.le_of_ble_eq_true rfl) (fun p e s m args below meth c B EB hsz => by
    have B : VB p s m args meth c D Y (va_A [] sz) cX10_isCheaper 4 RX10 (some .boolean) := B
    refine V_lload_n 0 B dX10_isCheaper_0 1 rfl ?_
    refine V_lconst 1 B (v := 0) dX10_isCheaper_1 (by decide +kernel) ?_
    refine V_lcmp 2 B (v := 1) dX10_isCheaper_2 (by decide +kernel) ?_
    refine V_if_eq_f 3 B 17 dX10_isCheaper_3 (by decide) (by decide +kernel) ?_
    refine V_lload_n 6 B dX10_isCheaper_6 0 rfl ?_
    refine V_ksi 7 B EB (st := []) (As := [.long p0]) (fun sz => mX6_costOf_cost2F l D Y (p0) (hl) sz) glS_RX10_99 ⟨rfl, rfl⟩ ⟨(Nat.le_of_ble_eq_true rfl), (Nat.le_of_ble_eq_true rfl)⟩ ⟨(Nat.le_of_ble_eq_true rfl), (Nat.le_of_ble_eq_true rfl)⟩ [] rfl rfl (Nat.le_of_ble_eq_true rfl) rfl (fun _ _ _ => rfl) dX10_isCheaper_7 (fun r0 u0 w0 => ?_)
    obtain rfl := w0
    refine V_ws [] rfl ?_
    refine V_lload_n 10 B dX10_isCheaper_10 1 rfl ?_
    refine V_ksi 11 B EB (st := [.int (cost2F p0)]) (As := [.long 134479872]) (fun sz => mX6_costOf_2 l D Y  sz) glS_RX10_99 ⟨rfl, rfl⟩ ⟨(Nat.le_of_ble_eq_true rfl), (Nat.le_of_ble_eq_true rfl)⟩ ⟨(Nat.le_of_ble_eq_true rfl), (Nat.le_of_ble_eq_true rfl)⟩ [] rfl rfl (Nat.le_of_ble_eq_true rfl) rfl (fun _ _ _ => rfl) dX10_isCheaper_11 (fun r1 u1 w1 => ?_)
    obtain rfl := w1
    refine V_ws [] rfl ?_
    refine V_icmp_ge_t 14 B 21 dX10_isCheaper_14 (by decide) (q_ge hc (by decide +kernel)) ?_
    refine V_iconst 21 B (v := 0) dX10_isCheaper_21 (by decide +kernel) ?_
    exact V_zret 22 B rfl dX10_isCheaper_22 () rfl rfl)
theorem dX10_cheaperPair_0 : decode cX10_cheaperPair 0 = .ok (.lload_n 3, 1) := by decide +kernel
theorem dX10_cheaperPair_1 : decode cX10_cheaperPair 1 = .ok (.lstore 5, 2) := by decide +kernel
theorem dX10_cheaperPair_3 : decode cX10_cheaperPair 3 = .ok (.iconst 0, 1) := by decide +kernel
theorem dX10_cheaperPair_4 : decode cX10_cheaperPair 4 = .ok (.istore 7, 2) := by decide +kernel
theorem dX10_cheaperPair_6 : decode cX10_cheaperPair 6 = .ok (.iload 7, 2) := by decide +kernel
theorem dX10_cheaperPair_8 : decode cX10_cheaperPair 8 = .ok (.iconst 4, 1) := by decide +kernel
theorem dX10_cheaperPair_9 : decode cX10_cheaperPair 9 = .ok (.if_icmp .gt 72, 3) := by decide +kernel
theorem dX10_cheaperPair_12 : decode cX10_cheaperPair 12 = .ok (.iconst 0, 1) := by decide +kernel
theorem dX10_cheaperPair_13 : decode cX10_cheaperPair 13 = .ok (.istore 8, 2) := by decide +kernel
theorem dX10_cheaperPair_15 : decode cX10_cheaperPair 15 = .ok (.iload 8, 2) := by decide +kernel
theorem dX10_cheaperPair_17 : decode cX10_cheaperPair 17 = .ok (.bipush 26, 2) := by decide +kernel
theorem dX10_cheaperPair_19 : decode cX10_cheaperPair 19 = .ok (.if_icmp .ge 56, 3) := by decide +kernel
theorem dX10_cheaperPair_22 : decode cX10_cheaperPair 22 = .ok (.iload 7, 2) := by decide +kernel
theorem dX10_cheaperPair_24 : decode cX10_cheaperPair 24 = .ok (.iload 8, 2) := by decide +kernel
theorem dX10_cheaperPair_26 : decode cX10_cheaperPair 26 = .ok (.invokestatic 119, 3) := by decide +kernel
theorem dX10_cheaperPair_29 : decode cX10_cheaperPair 29 = .ok (.iconst 0, 1) := by decide +kernel
theorem dX10_cheaperPair_30 : decode cX10_cheaperPair 30 = .ok (.invokestatic 136, 3) := by decide +kernel
theorem glS_RX10_136 : GLS RX10 136 yX6_strokeAt cX6_strokeAt 3 (some .int) 2 := ⟨⟨(mT6 196 rfl rfl), (mT3 230 rfl rfl), (mT1 18 rfl rfl), (mT3 231 rfl rfl)⟩, by decide +kernel⟩
theorem dX10_cheaperPair_33 : decode cX10_cheaperPair 33 = .ok (.istore 9, 2) := by decide +kernel
theorem dX10_cheaperPair_35 : decode cX10_cheaperPair 35 = .ok (.lload_n 1, 1) := by decide +kernel
theorem dX10_cheaperPair_36 : decode cX10_cheaperPair 36 = .ok (.iload 9, 2) := by decide +kernel
theorem dX10_cheaperPair_38 : decode cX10_cheaperPair 38 = .ok (.invokestatic 115, 3) := by decide +kernel
theorem dX10_cheaperPair_41 : decode cX10_cheaperPair 41 = .ok (.lstore 10, 2) := by decide +kernel
theorem dX10_cheaperPair_43 : decode cX10_cheaperPair 43 = .ok (.lload 10, 2) := by decide +kernel
theorem dX10_cheaperPair_45 : decode cX10_cheaperPair 45 = .ok (.lload 5, 2) := by decide +kernel
theorem dX10_cheaperPair_47 : decode cX10_cheaperPair 47 = .ok (.invokestatic 126, 3) := by decide +kernel
theorem glS_RX10_126 : GLS RX10 126 yX10_isCheaper cX10_isCheaper 4 (some .boolean) 2 := ⟨⟨(mT6 181 rfl rfl), (mT6 182 rfl rfl), (mT1 8 rfl rfl), (mT6 183 rfl rfl)⟩, by decide +kernel⟩
theorem dX10_cheaperPair_50 : decode cX10_cheaperPair 50 = .ok (.ifCond .eq 19, 3) := by decide +kernel
theorem dX10_cheaperPair_53 : decode cX10_cheaperPair 53 = .ok (.aload_n 0, 1) := by decide +kernel
theorem dX10_cheaperPair_54 : decode cX10_cheaperPair 54 = .ok (.getfield 30, 3) := by decide +kernel
theorem dX10_cheaperPair_57 : decode cX10_cheaperPair 57 = .ok (.lload 10, 2) := by decide +kernel
theorem dX10_cheaperPair_59 : decode cX10_cheaperPair 59 = .ok (.invokevirtual 123, 3) := by decide +kernel
theorem dX10_cheaperPair_62 : decode cX10_cheaperPair 62 = .ok (.ifCond .ne 7, 3) := by decide +kernel
theorem dX10_cheaperPair_65 : decode cX10_cheaperPair 65 = .ok (.lload 10, 2) := by decide +kernel
theorem dX10_cheaperPair_67 : decode cX10_cheaperPair 67 = .ok (.lstore 5, 2) := by decide +kernel
theorem dX10_cheaperPair_69 : decode cX10_cheaperPair 69 = .ok (.iinc 8 1, 3) := by decide +kernel
theorem dX10_cheaperPair_72 : decode cX10_cheaperPair 72 = .ok (.goto (-57), 3) := by decide +kernel
theorem dX10_cheaperPair_75 : decode cX10_cheaperPair 75 = .ok (.iinc 7 1, 3) := by decide +kernel
theorem dX10_cheaperPair_78 : decode cX10_cheaperPair 78 = .ok (.goto (-72), 3) := by decide +kernel
theorem dX10_cheaperPair_81 : decode cX10_cheaperPair 81 = .ok (.lload 5, 2) := by decide +kernel
theorem dX10_cheaperPair_83 : decode cX10_cheaperPair 83 = .ok (.lreturn, 1) := by decide +kernel
set_option maxRecDepth 100000 in
set_option maxHeartbeats 4000000 in
theorem mX10_cheaperPair_1 (l : Launch) (D : va_G) (Y : Nat → ClassId) (h0 : Nat) (g0 : Nat) (g1 : Nat) (g2 : Nat) (h1 : Nat) (g3 : Nat) (g4 : Nat) (sz : Nat) : Met l yX10_cheaperPair (WSm yX10_cheaperPair cX10_cheaperPair 12 (some .long)) (mkR 4 0 0 89) (PreX D Y [.ref h0, .long 134217728, .long 0] [(h0, oC 11 [.ref g0, .ref g1, .ref g2, .ref h1, .ref g3]), (h1, oC 7 [.ref g4, .int 0])] sz) (QJ D (fun (r : Int64) (u : Unit) => 134479872 = r) (fun (_ : Unit) => [(h0, oC 11 [.ref g0, .ref g1, .ref g2, .ref h1, .ref g3]), (h1, oC 7 [.ref g4, .int 0])]) (va_A [(h0, oC 11 [.ref g0, .ref g1, .ref g2, .ref h1, .ref g3]), (h1, oC 7 [.ref g4, .int 0])] sz)) 0 0 (va_A [(h0, oC 11 [.ref g0, .ref g1, .ref g2, .ref h1, .ref g3]), (h1, oC 7 [.ref g4, .int 0])] sz) :=
  kmet_of (by decide +kernel) (Nat.le_of_ble_eq_true rfl) (fun p e s m args below meth c B EB hsz => by
    have B : VB p s m args meth c D Y (va_A [(h0, oC 11 [.ref g0, .ref g1, .ref g2, .ref h1, .ref g3]), (h1, oC 7 [.ref g4, .int 0])] sz) cX10_cheaperPair 12 RX10 (some .long) := B
    refine V_lload_n 0 B dX10_cheaperPair_0 2 rfl ?_
    refine V_lstore 1 B (lv2 := [(5, .long 0), (0, .ref h0), (1, .long 134217728), (3, .long 0)]) dX10_cheaperPair_1 (by decide) rfl ?_
    refine V_iconst 3 B (v := 0) dX10_cheaperPair_3 (by decide +kernel) ?_
    refine V_istore 4 B (lv2 := [(7, .int 0), (5, .long 0), (0, .ref h0), (1, .long 134217728), (3, .long 0)]) dX10_cheaperPair_4 (by decide) rfl ?_
    refine V_loop (α := Unit) 5 (fun _ _ => True) (fun iC _ => [(7, .int (nI iC)), (5, .long (bstP (26 * iC))), (0, .ref h0), (1, .long 134217728), (3, .long 0)]) (fun _ _ => [(h0, oC 11 [.ref g0, .ref g1, .ref g2, .ref h1, .ref g3]), (h1, oC 7 [.ref g4, .int 0])]) () trivial rfl rfl (fun iC _ hiC _ IHC => ?_) (fun _ _ => ?_)
    ·
      refine V_lv [(7, .int (nI iC)), (5, .long (bstP (26 * iC))), (0, .ref h0), (1, .long 134217728), (3, .long 0)] [0, 1, 2, 3, 4] rfl ?_
      refine V_ws [(h0, oC 11 [.ref g0, .ref g1, .ref g2, .ref h1, .ref g3]), (h1, oC 7 [.ref g4, .int 0])] rfl ?_
      refine V_iload 6 B dX10_cheaperPair_6 0 rfl ?_
      refine V_iconst 8 B (v := 4) dX10_cheaperPair_8 (by decide +kernel) ?_
      refine V_icmp_gt_f 9 B 81 dX10_cheaperPair_9 (by decide) (q_ngt (nI_hi hiC (by decide) (k := 4) (by decide +kernel)) (by decide +kernel)) ?_
      refine V_iconst 12 B (v := 0) dX10_cheaperPair_12 (by decide +kernel) ?_
      refine V_istore 13 B (lv2 := [(8, .int 0), (7, .int (nI iC)), (5, .long (bstP (26 * iC))), (0, .ref h0), (1, .long 134217728), (3, .long 0)]) dX10_cheaperPair_13 (by decide) rfl ?_
      refine V_loop (α := Unit) 26 (fun _ _ => True) (fun iD _ => [(8, .int (nI iD)), (7, .int (nI iC)), (5, .long (bstP (26 * iC + iD))), (0, .ref h0), (1, .long 134217728), (3, .long 0)]) (fun _ _ => [(h0, oC 11 [.ref g0, .ref g1, .ref g2, .ref h1, .ref g3]), (h1, oC 7 [.ref g4, .int 0])]) () trivial rfl rfl (fun iD _ hiD _ IHD => ?_) (fun _ _ => ?_)
      ·
        refine V_lv [(8, .int (nI iD)), (7, .int (nI iC)), (5, .long (bstP (26 * iC + iD))), (0, .ref h0), (1, .long 134217728), (3, .long 0)] [0, 1, 2, 3, 4, 5] rfl ?_
        refine V_ws [(h0, oC 11 [.ref g0, .ref g1, .ref g2, .ref h1, .ref g3]), (h1, oC 7 [.ref g4, .int 0])] rfl ?_
        refine V_iload 15 B dX10_cheaperPair_15 0 rfl ?_
        refine V_bipush 17 B (v := 26) dX10_cheaperPair_17 (by decide +kernel) ?_
        refine V_icmp_ge_f 19 B 75 dX10_cheaperPair_19 (by decide) (q_nge (nI_hi hiD (by decide) (k := 25) (by decide +kernel)) (by decide +kernel)) ?_
        by_cases k0 : 26 * iC + iD = 0
        ·
          obtain rfl : iC = 0 := by omega
          obtain rfl : iD = 0 := by omega
          refine V_lv [(8, .int 0), (7, .int 0), (5, .long 0), (0, .ref h0), (1, .long 134217728), (3, .long 0)] [0, 1, 2, 3, 4, 5] rfl ?_
          refine V_iload 22 B dX10_cheaperPair_22 1 rfl ?_
          refine V_iload 24 B dX10_cheaperPair_24 0 rfl ?_
          refine V_csl 26 B (st := []) (As := [.int 0, .int 0]) (fun sz => mX10_oneStroke_2 l D Y  sz) glS_RX10_119 ⟨rfl, rfl⟩ ⟨(Nat.le_of_ble_eq_true rfl), (Nat.le_of_ble_eq_true rfl)⟩ ⟨(Nat.le_of_ble_eq_true rfl), (Nat.le_of_ble_eq_true rfl)⟩ [] rfl rfl (Nat.le_of_ble_eq_true rfl) rfl (fun _ _ _ => rfl) dX10_cheaperPair_26 (fun r1 u1 w1 => ?_)
          obtain rfl := w1
          refine V_ws [(h0, oC 11 [.ref g0, .ref g1, .ref g2, .ref h1, .ref g3]), (h1, oC 7 [.ref g4, .int 0])] rfl ?_
          refine V_iconst 29 B (v := 0) dX10_cheaperPair_29 (by decide +kernel) ?_
          refine V_csi 30 B (st := []) (As := [.long 134217728, .int 0]) (fun sz => mX6_strokeAt_2 l D Y  sz) glS_RX10_136 ⟨rfl, rfl⟩ ⟨(Nat.le_of_ble_eq_true rfl), (Nat.le_of_ble_eq_true rfl)⟩ ⟨(Nat.le_of_ble_eq_true rfl), (Nat.le_of_ble_eq_true rfl)⟩ [] rfl rfl (Nat.le_of_ble_eq_true rfl) rfl (fun _ _ _ => rfl) dX10_cheaperPair_30 (fun r2 u2 w2 => ?_)
          obtain rfl := w2
          refine V_ws [(h0, oC 11 [.ref g0, .ref g1, .ref g2, .ref h1, .ref g3]), (h1, oC 7 [.ref g4, .int 0])] rfl ?_
          refine V_istore 33 B (lv2 := [(9, .int 0), (8, .int 0), (7, .int 0), (5, .long 0), (0, .ref h0), (1, .long 134217728), (3, .long 0)]) dX10_cheaperPair_33 (by decide) rfl ?_
          refine V_lload_n 35 B dX10_cheaperPair_35 5 rfl ?_
          refine V_iload 36 B dX10_cheaperPair_36 0 rfl ?_
          refine V_csl 38 B (st := []) (As := [.long 134217728, .int 0]) (fun sz => mX6_extended_3 l D Y  sz) glS_RX10_115 ⟨rfl, rfl⟩ ⟨(Nat.le_of_ble_eq_true rfl), (Nat.le_of_ble_eq_true rfl)⟩ ⟨(Nat.le_of_ble_eq_true rfl), (Nat.le_of_ble_eq_true rfl)⟩ [] rfl rfl (Nat.le_of_ble_eq_true rfl) rfl (fun _ _ _ => rfl) dX10_cheaperPair_38 (fun r3 u3 w3 => ?_)
          obtain rfl := w3
          refine V_ws [(h0, oC 11 [.ref g0, .ref g1, .ref g2, .ref h1, .ref g3]), (h1, oC 7 [.ref g4, .int 0])] rfl ?_
          refine V_lstore 41 B (lv2 := [(10, .long 134479872), (9, .int 0), (8, .int 0), (7, .int 0), (5, .long 0), (0, .ref h0), (1, .long 134217728), (3, .long 0)]) dX10_cheaperPair_41 (by decide) rfl ?_
          refine V_lload 43 B dX10_cheaperPair_43 0 rfl ?_
          refine V_lload 45 B dX10_cheaperPair_45 4 rfl ?_
          refine V_ksi 47 B EB (st := []) (As := [.long 134479872, .long 0]) (fun sz => mX10_isCheaper_2 l D Y  sz) glS_RX10_126 ⟨rfl, rfl⟩ ⟨(Nat.le_of_ble_eq_true rfl), (Nat.le_of_ble_eq_true rfl)⟩ ⟨(Nat.le_of_ble_eq_true rfl), (Nat.le_of_ble_eq_true rfl)⟩ [] rfl rfl (Nat.le_of_ble_eq_true rfl) rfl (fun _ _ _ => rfl) dX10_cheaperPair_47 (fun r4 u4 w4 => ?_)
          obtain rfl := w4
          refine V_ws [(h0, oC 11 [.ref g0, .ref g1, .ref g2, .ref h1, .ref g3]), (h1, oC 7 [.ref g4, .int 0])] rfl ?_
          refine V_if_eq_f 50 B 69 dX10_cheaperPair_50 (by decide) (by decide +kernel) ?_
          refine V_aload_n 53 B dX10_cheaperPair_53 5 rfl ?_
          refine V_get 54 B gf_RX10_30 0 rfl rfl dX10_cheaperPair_54 ?_
          refine V_lload 57 B dX10_cheaperPair_57 0 rfl ?_
          refine V_cvi 59 B (st := []) (As := [.long 134479872]) (fun sz => mX5_hasClash_2 l D Y (h1) (g4) sz) glV_RX10_123 ⟨rfl, rfl⟩ ⟨(Nat.le_of_ble_eq_true rfl), (Nat.le_of_ble_eq_true rfl)⟩ ⟨(Nat.le_of_ble_eq_true rfl), (Nat.le_of_ble_eq_true rfl)⟩ [1] rfl 7 0 rfl rfl rfl rfl (Nat.le_of_ble_eq_true rfl) rfl (fun _ _ _ => rfl) dX10_cheaperPair_59 (fun r5 u5 w5 => ?_)
          obtain rfl := w5
          refine V_ws [(h0, oC 11 [.ref g0, .ref g1, .ref g2, .ref h1, .ref g3]), (h1, oC 7 [.ref g4, .int 0])] rfl ?_
          refine V_if_ne_f 62 B 69 dX10_cheaperPair_62 (by decide) (by decide +kernel) ?_
          refine V_lload 65 B dX10_cheaperPair_65 0 rfl ?_
          refine V_lstore 67 B (lv2 := [(5, .long 134479872), (10, .long 134479872), (9, .int 0), (8, .int 0), (7, .int 0), (0, .ref h0), (1, .long 134217728), (3, .long 0)]) dX10_cheaperPair_67 (by decide) rfl ?_
          refine V_iinc 69 B (v := 1) (lv2 := [(8, .int 1), (5, .long 134479872), (10, .long 134479872), (9, .int 0), (7, .int 0), (0, .ref h0), (1, .long 134217728), (3, .long 0)]) dX10_cheaperPair_69 3 rfl (by decide +kernel) (by decide) rfl ?_
          refine V_goto 72 B 15 dX10_cheaperPair_72 (by decide) ?_
          refine V_lv [(8, .int (nI (0 + 1))), (7, .int (nI 0)), (5, .long (bstP (26 * 0 + (0 + 1)))), (0, .ref h0), (1, .long 134217728), (3, .long 0)] [0, 4, 1, 5, 6, 7] rfl ?_
          exact IHD () trivial
        ·
          refine V_lv [(8, .int (nI iD)), (7, .int (nI iC)), (5, .long 134479872), (0, .ref h0), (1, .long 134217728), (3, .long 0)] [0, 1, 2, 3, 4, 5] (by rw [show (bstP (26 * iC + iD)) = 134479872 from bstP_pos k0]; rfl) ?_
          refine V_iload 22 B dX10_cheaperPair_22 1 rfl ?_
          refine V_iload 24 B dX10_cheaperPair_24 0 rfl ?_
          refine V_csl 26 B (st := []) (As := [.int (nI iC), .int (nI iD)]) (fun sz => mX10_oneStroke_oneF l D Y ((nI iC)) ((nI iD)) sz) glS_RX10_119 ⟨rfl, rfl⟩ ⟨(Nat.le_of_ble_eq_true rfl), (Nat.le_of_ble_eq_true rfl)⟩ ⟨(Nat.le_of_ble_eq_true rfl), (Nat.le_of_ble_eq_true rfl)⟩ [] rfl rfl (Nat.le_of_ble_eq_true rfl) rfl (fun _ _ _ => rfl) dX10_cheaperPair_26 (fun r6 u6 w6 => ?_)
          obtain rfl := w6
          refine V_ws [(h0, oC 11 [.ref g0, .ref g1, .ref g2, .ref h1, .ref g3]), (h1, oC 7 [.ref g4, .int 0])] rfl ?_
          refine V_iconst 29 B (v := 0) dX10_cheaperPair_29 (by decide +kernel) ?_
          refine V_csi 30 B (st := []) (As := [.long (oneF (nI iC) (nI iD)), .int 0]) (fun sz => mX6_strokeAt_sa0F l D Y ((oneF (nI iC) (nI iD))) sz) glS_RX10_136 ⟨rfl, rfl⟩ ⟨(Nat.le_of_ble_eq_true rfl), (Nat.le_of_ble_eq_true rfl)⟩ ⟨(Nat.le_of_ble_eq_true rfl), (Nat.le_of_ble_eq_true rfl)⟩ [] rfl rfl (Nat.le_of_ble_eq_true rfl) rfl (fun _ _ _ => rfl) dX10_cheaperPair_30 (fun r7 u7 w7 => ?_)
          obtain rfl := w7
          refine V_ws [(h0, oC 11 [.ref g0, .ref g1, .ref g2, .ref h1, .ref g3]), (h1, oC 7 [.ref g4, .int 0])] rfl ?_
          refine V_istore 33 B (lv2 := [(9, .int (sa0F (oneF (nI iC) (nI iD)))), (8, .int (nI iD)), (7, .int (nI iC)), (5, .long 134479872), (0, .ref h0), (1, .long 134217728), (3, .long 0)]) dX10_cheaperPair_33 (by decide) rfl ?_
          refine V_lload_n 35 B dX10_cheaperPair_35 5 rfl ?_
          refine V_iload 36 B dX10_cheaperPair_36 0 rfl ?_
          refine V_csl 38 B (st := []) (As := [.long 134217728, .int (sa0F (oneF (nI iC) (nI iD)))]) (fun sz => mX6_extended_ext134217728F l D Y ((sa0F (oneF (nI iC) (nI iD)))) sz) glS_RX10_115 ⟨rfl, rfl⟩ ⟨(Nat.le_of_ble_eq_true rfl), (Nat.le_of_ble_eq_true rfl)⟩ ⟨(Nat.le_of_ble_eq_true rfl), (Nat.le_of_ble_eq_true rfl)⟩ [] rfl rfl (Nat.le_of_ble_eq_true rfl) rfl (fun _ _ _ => rfl) dX10_cheaperPair_38 (fun r8 u8 w8 => ?_)
          obtain rfl := w8
          refine V_ws [(h0, oC 11 [.ref g0, .ref g1, .ref g2, .ref h1, .ref g3]), (h1, oC 7 [.ref g4, .int 0])] rfl ?_
          refine V_lstore 41 B (lv2 := [(10, .long (ext134217728F (sa0F (oneF (nI iC) (nI iD))))), (9, .int (sa0F (oneF (nI iC) (nI iD)))), (8, .int (nI iD)), (7, .int (nI iC)), (5, .long 134479872), (0, .ref h0), (1, .long 134217728), (3, .long 0)]) dX10_cheaperPair_41 (by decide) rfl ?_
          refine V_lload 43 B dX10_cheaperPair_43 0 rfl ?_
          refine V_lload 45 B dX10_cheaperPair_45 4 rfl ?_
          refine V_ksi 47 B EB (st := []) (As := [.long (ext134217728F (sa0F (oneF (nI iC) (nI iD)))), .long 134479872]) (fun sz => mX10_isCheaper_2_134479872c l D Y ((ext134217728F (sa0F (oneF (nI iC) (nI iD))))) ((len2a hiC hiD)) ((cost2a hiC hiD)) sz) glS_RX10_126 ⟨rfl, rfl⟩ ⟨(Nat.le_of_ble_eq_true rfl), (Nat.le_of_ble_eq_true rfl)⟩ ⟨(Nat.le_of_ble_eq_true rfl), (Nat.le_of_ble_eq_true rfl)⟩ [] rfl rfl (Nat.le_of_ble_eq_true rfl) rfl (fun _ _ _ => rfl) dX10_cheaperPair_47 (fun r9 u9 w9 => ?_)
          obtain rfl := w9
          refine V_ws [(h0, oC 11 [.ref g0, .ref g1, .ref g2, .ref h1, .ref g3]), (h1, oC 7 [.ref g4, .int 0])] rfl ?_
          refine V_if_eq_t 50 B 69 dX10_cheaperPair_50 (by decide) (by decide +kernel) ?_
          refine V_iinc 69 B (v := (nI (iD + 1))) (lv2 := [(8, .int (nI (iD + 1))), (10, .long (ext134217728F (sa0F (oneF (nI iC) (nI iD))))), (9, .int (sa0F (oneF (nI iC) (nI iD)))), (7, .int (nI iC)), (5, .long 134479872), (0, .ref h0), (1, .long 134217728), (3, .long 0)]) dX10_cheaperPair_69 2 rfl (nI_1 _) (by decide) rfl ?_
          refine V_goto 72 B 15 dX10_cheaperPair_72 (by decide) ?_
          refine V_lv [(8, .int (nI (iD + 1))), (7, .int (nI iC)), (5, .long (bstP (26 * iC + (iD + 1)))), (0, .ref h0), (1, .long 134217728), (3, .long 0)] [0, 3, 4, 5, 6, 7] rfl ?_
          exact IHD () trivial
      ·
        refine V_lv [(8, .int 26), (7, .int (nI iC)), (5, .long (bstP (26 * iC + 26))), (0, .ref h0), (1, .long 134217728), (3, .long 0)] [0, 1, 2, 3, 4, 5] rfl ?_
        refine V_ws [(h0, oC 11 [.ref g0, .ref g1, .ref g2, .ref h1, .ref g3]), (h1, oC 7 [.ref g4, .int 0])] rfl ?_
        refine V_iload 15 B dX10_cheaperPair_15 0 rfl ?_
        refine V_bipush 17 B (v := 26) dX10_cheaperPair_17 (by decide +kernel) ?_
        refine V_icmp_ge_t 19 B 75 dX10_cheaperPair_19 (by decide) (by decide +kernel) ?_
        refine V_iinc 75 B (v := (nI (iC + 1))) (lv2 := [(7, .int (nI (iC + 1))), (8, .int 26), (5, .long (bstP (26 * iC + 26))), (0, .ref h0), (1, .long 134217728), (3, .long 0)]) dX10_cheaperPair_75 1 rfl (nI_1 _) (by decide) rfl ?_
        refine V_goto 78 B 6 dX10_cheaperPair_78 (by decide) ?_
        refine V_lv [(7, .int (nI (iC + 1))), (5, .long (bstP (26 * (iC + 1)))), (0, .ref h0), (1, .long 134217728), (3, .long 0)] [0, 2, 3, 4, 5] rfl ?_
        exact IHC () trivial
    ·
      refine V_lv [(7, .int 5), (5, .long 134479872), (0, .ref h0), (1, .long 134217728), (3, .long 0)] [0, 1, 2, 3, 4] rfl ?_
      refine V_ws [(h0, oC 11 [.ref g0, .ref g1, .ref g2, .ref h1, .ref g3]), (h1, oC 7 [.ref g4, .int 0])] rfl ?_
      refine V_iload 6 B dX10_cheaperPair_6 0 rfl ?_
      refine V_iconst 8 B (v := 4) dX10_cheaperPair_8 (by decide +kernel) ?_
      refine V_icmp_gt_t 9 B 81 dX10_cheaperPair_9 (by decide) (by decide +kernel) ?_
      refine V_lload 81 B dX10_cheaperPair_81 1 rfl ?_
      exact V_lret 83 B dX10_cheaperPair_83 () rfl rfl)
set_option maxRecDepth 100000 in
set_option maxHeartbeats 4000000 in
theorem mX10_isCheaper_1_134479872 (l : Launch) (D : va_G) (Y : Nat → ClassId) (p0 : Int64) (hl : lenF p0 = 1) (sz : Nat) : Met l yX10_isCheaper (WSm yX10_isCheaper cX10_isCheaper 4 (some .boolean)) (mkR 3 0 0 66) (PreX D Y [.long p0, .long 134479872] [] sz) (QI D (fun (r : Int32) (u : Unit) => (2 ≤ (cost1F p0) ∧ 0 = r) ∨ (¬ 2 ≤ (cost1F p0) ∧ 1 = r)) (fun (_ : Unit) => []) (va_A [] sz)) 0 0 (va_A [] sz) :=
  kmet_of (by decide +kernel) (Nat.le_of_ble_eq_true rfl) (fun p e s m args below meth c B EB hsz => by
    have B : VB p s m args meth c D Y (va_A [] sz) cX10_isCheaper 4 RX10 (some .boolean) := B
    refine V_lload_n 0 B dX10_isCheaper_0 1 rfl ?_
    refine V_lconst 1 B (v := 0) dX10_isCheaper_1 (by decide +kernel) ?_
    refine V_lcmp 2 B (v := 1) dX10_isCheaper_2 (by decide +kernel) ?_
    refine V_if_eq_f 3 B 17 dX10_isCheaper_3 (by decide) (by decide +kernel) ?_
    refine V_lload_n 6 B dX10_isCheaper_6 0 rfl ?_
    refine V_ksi 7 B EB (st := []) (As := [.long p0]) (fun sz => mX6_costOf_cost1F l D Y (p0) (hl) sz) glS_RX10_99 ⟨rfl, rfl⟩ ⟨(Nat.le_of_ble_eq_true rfl), (Nat.le_of_ble_eq_true rfl)⟩ ⟨(Nat.le_of_ble_eq_true rfl), (Nat.le_of_ble_eq_true rfl)⟩ [] rfl rfl (Nat.le_of_ble_eq_true rfl) rfl (fun _ _ _ => rfl) dX10_isCheaper_7 (fun r0 u0 w0 => ?_)
    obtain rfl := w0
    refine V_ws [] rfl ?_
    refine V_lload_n 10 B dX10_isCheaper_10 1 rfl ?_
    refine V_ksi 11 B EB (st := [.int (cost1F p0)]) (As := [.long 134479872]) (fun sz => mX6_costOf_2 l D Y  sz) glS_RX10_99 ⟨rfl, rfl⟩ ⟨(Nat.le_of_ble_eq_true rfl), (Nat.le_of_ble_eq_true rfl)⟩ ⟨(Nat.le_of_ble_eq_true rfl), (Nat.le_of_ble_eq_true rfl)⟩ [] rfl rfl (Nat.le_of_ble_eq_true rfl) rfl (fun _ _ _ => rfl) dX10_isCheaper_11 (fun r1 u1 w1 => ?_)
    obtain rfl := w1
    refine V_ws [] rfl ?_
    refine V_icmp_ge 14 B 21 dX10_isCheaper_14 (by decide) (fun k2 => ?_) (fun k2 => ?_)
    ·
      refine V_iconst 21 B (v := 0) dX10_isCheaper_21 (by decide +kernel) ?_
      exact V_zret 22 B rfl dX10_isCheaper_22 () (Or.inl ⟨k2, rfl⟩) rfl
    ·
      refine V_iconst 17 B (v := 1) dX10_isCheaper_17 (by decide +kernel) ?_
      refine V_goto 18 B 22 dX10_isCheaper_18 (by decide) ?_
      exact V_zret 22 B rfl dX10_isCheaper_22 () (Or.inr ⟨k2, rfl⟩) rfl)
set_option maxRecDepth 100000 in
set_option maxHeartbeats 4000000 in
theorem mX5_contains_2 (l : Launch) (D : va_G) (Y : Nat → ClassId) (h0 : Nat) (g0 : Nat) (p0 : Int64) (sz : Nat) : Met l yX5_contains (WSm yX5_contains cX5_contains 4 (some .boolean)) (mkR 0 0 0 0) (PreC D Y [.ref h0, .long p0] [(h0, oC 7 [.ref g0, .int 0])] sz) (QI D (fun (r : Int32) (u : Unit) => 0 = r) (fun (_ : Unit) => [(h0, oC 7 [.ref g0, .int 0])]) (va_A [(h0, oC 7 [.ref g0, .int 0])] sz)) 0 0 (va_A [(h0, oC 7 [.ref g0, .int 0])] sz) :=
  met_of (by decide +kernel) (Nat.le_of_ble_eq_true rfl) (fun p e s m args below meth c B hin hsz => by
    have B : VB p s m args meth c D Y (va_A [(h0, oC 7 [.ref g0, .int 0])] sz) cX5_contains 4 RX5 (some .boolean) := B
    refine V_iconst 0 B (v := 0) dX5_contains_0 (by decide +kernel) ?_
    refine V_istore_n 1 B (lv2 := [(3, .int 0), (0, .ref h0), (1, .long p0)]) dX5_contains_1 (by decide) rfl ?_
    refine V_iload_n 2 B dX5_contains_2 0 rfl ?_
    refine V_aload_n 3 B dX5_contains_3 1 rfl ?_
    refine V_get 4 B gf_RX5_19 0 rfl rfl dX5_contains_4 ?_
    refine V_icmp_ge_t 7 B 38 dX5_contains_7 (by decide) (by decide +kernel) ?_
    refine V_iconst 38 B (v := 0) dX5_contains_38 (by decide +kernel) ?_
    exact V_zret 39 B rfl dX5_contains_39 () rfl rfl)
