theorem dX12_shadowOf_0 : decode cX12_shadowOf 0 = .ok (.aload_n 0, 1) := by decide +kernel
theorem dX12_shadowOf_1 : decode cX12_shadowOf 1 = .ok (.iconst 0, 1) := by decide +kernel
theorem dX12_shadowOf_2 : decode cX12_shadowOf 2 = .ok (.putfield 38, 3) := by decide +kernel
theorem gp_RX12_38 : GP RX12 38 13 2 .int false := ⟨RX12, TX12, 17, ⟨rfl, inw_X12, Nat.le_of_ble_eq_true rfl, (mT7 139 rfl rfl)⟩, ⟨tyX12, tyX12_ok⟩, nmX12, rfl, by decide +kernel, fun h => nomatch h⟩
theorem dX12_shadowOf_5 : decode cX12_shadowOf 5 = .ok (.aload_n 0, 1) := by decide +kernel
theorem dX12_shadowOf_6 : decode cX12_shadowOf 6 = .ok (.aload_n 0, 1) := by decide +kernel
theorem dX12_shadowOf_7 : decode cX12_shadowOf 7 = .ok (.iload_n 1, 1) := by decide +kernel
theorem dX12_shadowOf_8 : decode cX12_shadowOf 8 = .ok (.invokevirtual 91, 3) := by decide +kernel
theorem dX12_isMode_0 : decode cX12_isMode 0 = .ok (.iload_n 1, 1) := by decide +kernel
theorem dX12_isMode_1 : decode cX12_isMode 1 = .ok (.i2l, 1) := by decide +kernel
theorem dX12_isMode_2 : decode cX12_isMode 2 = .ok (.lconst 0, 1) := by decide +kernel
theorem dX12_isMode_3 : decode cX12_isMode 3 = .ok (.aload_n 0, 1) := by decide +kernel
theorem dX12_isMode_4 : decode cX12_isMode 4 = .ok (.getfield 9, 3) := by decide +kernel
theorem dX12_isMode_7 : decode cX12_isMode 7 = .ok (.iconst 0, 1) := by decide +kernel
theorem dX12_isMode_8 : decode cX12_isMode 8 = .ok (.iaload, 1) := by decide +kernel
theorem dX12_isMode_9 : decode cX12_isMode 9 = .ok (.iconst 1, 1) := by decide +kernel
theorem dX12_isMode_10 : decode cX12_isMode 10 = .ok (.isub, 1) := by decide +kernel
theorem dX12_isMode_11 : decode cX12_isMode 11 = .ok (.i2l, 1) := by decide +kernel
theorem dX12_isMode_12 : decode cX12_isMode 12 = .ok (.invokestatic 41, 3) := by decide +kernel
theorem glS_RX12_41 : GLS RX12 41 yX12_inRange cX12_inRange 6 (some .boolean) 3 := ⟨⟨(mT7 194 rfl rfl), (mT7 195 rfl rfl), (mT1 13 rfl rfl), (mT7 196 rfl rfl)⟩, by decide +kernel⟩
theorem dX12_isMode_15 : decode cX12_isMode 15 = .ok (.ireturn, 1) := by decide +kernel
set_option maxRecDepth 100000 in
set_option maxHeartbeats 4000000 in
theorem rX12_isMode (l : Launch) (D : va_G) (Y : Nat → ClassId) (h0 : Nat) (h1 : Nat) (h2 : Nat) (h3 : Nat) (h4 : Nat) (h5 : Nat) (h6 : Nat) (p2 : Int32) (k5 : Nat) (k6 : Nat) (p7 : Int32) (p8 : Int32) (p9 : Int32) (k10 : Nat) (p11 : Int32) (q12 : Int64) (k15 : Nat) (k16 : Nat) (f0 : Nat → Int32) (f1 : Nat → Int32) (f3 : Nat → Int32) (f4 : Nat → Int32) (f13 : Nat → Int32) (f14 : Nat → Int32) (HI : INV f0) (HL : k5 ≤ 1600) (HP : PLV f13) (s0 : Int32)  (sz : Nat) : Met l yX12_isMode (WSm yX12_isMode cX12_isMode 2 (some .boolean)) (mkR 1 0 0 25) (PreC D Y [.ref h0, .int s0] [(h0, oC 13 [.ref h1, .ref h2, .int p2, .ref h3, .ref h4, .int (nI k5), .int (nI k6), .int p7, .int p8, .int p9, .int (nI k10), .int p11, .long q12, .ref h5, .ref h6, .int (nI k15), .int (nI k16)]), (h1, aI Y 3640 f0), (h2, aZ Y 2 f1), (h3, aZ Y 80 f3), (h4, aB Y 1600 f4), (h5, aI Y 200 f13), (h6, aI Y 800 f14)] sz) (QI D (fun (r : Int32) (u : WU) => (r = 0 ∨ (r = 1 ∧ ∃ m : Nat, s0 = nI m ∧ m < gN f0 0))) (fun (u : WU) => [(h0, oC 13 [.ref h1, .ref h2, .int p2, .ref h3, .ref h4, .int (nI k5), .int (nI k6), .int p7, .int p8, .int p9, .int (nI k10), .int p11, .long q12, .ref h5, .ref h6, .int (nI k15), .int (nI k16)]), (h1, aI Y 3640 f0), (h2, aZ Y 2 f1), (h3, aZ Y 80 f3), (h4, aB Y 1600 f4), (h5, aI Y 200 f13), (h6, aI Y 800 f14)]) (va_A [(h0, oC 13 [.ref h1, .ref h2, .int p2, .ref h3, .ref h4, .int (nI k5), .int (nI k6), .int p7, .int p8, .int p9, .int (nI k10), .int p11, .long q12, .ref h5, .ref h6, .int (nI k15), .int (nI k16)]), (h1, aI Y 3640 f0), (h2, aZ Y 2 f1), (h3, aZ Y 80 f3), (h4, aB Y 1600 f4), (h5, aI Y 200 f13), (h6, aI Y 800 f14)] sz)) 0 0 (va_A [(h0, oC 13 [.ref h1, .ref h2, .int p2, .ref h3, .ref h4, .int (nI k5), .int (nI k6), .int p7, .int p8, .int p9, .int (nI k10), .int p11, .long q12, .ref h5, .ref h6, .int (nI k15), .int (nI k16)]), (h1, aI Y 3640 f0), (h2, aZ Y 2 f1), (h3, aZ Y 80 f3), (h4, aB Y 1600 f4), (h5, aI Y 200 f13), (h6, aI Y 800 f14)] sz) :=
  met_of (by decide +kernel) (Nat.le_of_ble_eq_true rfl) (fun p e s m args below meth c B hin hsz => by
    have B : VB p s m args meth c D Y (va_A [(h0, oC 13 [.ref h1, .ref h2, .int p2, .ref h3, .ref h4, .int (nI k5), .int (nI k6), .int p7, .int p8, .int p9, .int (nI k10), .int p11, .long q12, .ref h5, .ref h6, .int (nI k15), .int (nI k16)]), (h1, aI Y 3640 f0), (h2, aZ Y 2 f1), (h3, aZ Y 80 f3), (h4, aB Y 1600 f4), (h5, aI Y 200 f13), (h6, aI Y 800 f14)] sz) cX12_isMode 2 RX12 (some .boolean) := B
    refine V_iload_n 0 B dX12_isMode_0 1 rfl ?_
    refine V_i2l 1 B dX12_isMode_1 rfl ?_
    refine V_nml (fun o0 e1 => ?_)
    have h2 : o0.toInt = s0.toInt := by rw [e1, Int32.toInt_toInt64]
    refine V_lconst 2 B (v := 0) dX12_isMode_2 (by decide +kernel) ?_
    refine V_aload_n 3 B dX12_isMode_3 0 rfl ?_
    refine V_get 4 B gf_RX12_9 0 rfl rfl dX12_isMode_4 ?_
    refine V_iconst 7 B (v := 0) dX12_isMode_7 (by decide +kernel) ?_
    have h3 : (gN f0 0) ≤ 6 := gN_le HI (by omega) (show bd 0 = (0, ((6 : Nat) : Int)) by decide +kernel)
    refine V_iald 8 B (v := (nI (gN f0 0))) 1 rfl (vpin _ _ (by decide +kernel)) dX12_isMode_8 (by show f0 0 = _; exact gN_eq HI (by omega) (show bd 0 = (0, ((6 : Nat) : Int)) by decide +kernel)) ?_
    refine V_iconst 9 B (v := 1) dX12_isMode_9 (by decide +kernel) ?_
    refine V_isub 10 B dX12_isMode_10 rfl ?_
    refine V_nmi (fun j4 e5 => ?_)
    have h6 : j4.toInt = (((gN f0 0) : Nat) : Int) - ((1 : Nat) : Int) := by rw [e5]; exact nI_subT (by omega) (by omega)
    refine V_i2l 11 B dX12_isMode_11 rfl ?_
    refine V_nml (fun o7 e8 => ?_)
    have h9 : o7.toInt = j4.toInt := by rw [e8, Int32.toInt_toInt64]
    refine V_csi 12 B (st := []) (As := [.long o0, .long 0, .long o7]) (fun sz => rX12_inRange l D Y o0 0 o7 sz) glS_RX12_41 ⟨rfl, rfl⟩ ⟨(Nat.le_of_ble_eq_true rfl), (Nat.le_of_ble_eq_true rfl)⟩ ⟨(Nat.le_of_ble_eq_true rfl), (Nat.le_of_ble_eq_true rfl)⟩ [] rfl rfl (Nat.le_of_ble_eq_true rfl) rfl (fun _ _ _ => rfl) dX12_isMode_12 (fun j10 u11 w12 => ?_)
    refine V_ws [(h0, oC 13 [.ref h1, .ref h2, .int p2, .ref h3, .ref h4, .int (nI k5), .int (nI k6), .int p7, .int p8, .int p9, .int (nI k10), .int p11, .long q12, .ref h5, .ref h6, .int (nI k15), .int (nI k16)]), (h1, aI Y 3640 f0), (h2, aZ Y 2 f1), (h3, aZ Y 80 f3), (h4, aB Y 1600 f4), (h5, aI Y 200 f13), (h6, aI Y 800 f14)] rfl ?_
    rcases w12 with rfl | ⟨rfl, h13, h14⟩
    ·
      exact V_zret 15 B rfl dX12_isMode_15 (mkW [] [] [] [] [] []) (Or.inl rfl) rfl
    ·
      rw [show (0 : Int64).toInt = 0 by decide +kernel] at h13
      exact V_zret 15 B rfl dX12_isMode_15 (mkW [] [] [] [] [] []) (Or.inr ⟨rfl, nat_lt (by omega) (by omega)⟩) rfl)
theorem glV_RX12_91 : GLV RX12 91 yX12_isMode RX12 cX12_isMode 2 (some .boolean) 1 := ⟨⟨(mT8 29 rfl rfl), (mT8 31 rfl rfl), (mTs 34 rfl rfl), (mT1 13 rfl rfl), (mT8 32 rfl rfl)⟩, by decide +kernel⟩
theorem dX12_shadowOf_11 : decode cX12_shadowOf 11 = .ok (.ifCond .eq 11, 3) := by decide +kernel
theorem dX12_shadowOf_22 : decode cX12_shadowOf 22 = .ok (.iconst 1, 1) := by decide +kernel
theorem dX12_shadowOf_23 : decode cX12_shadowOf 23 = .ok (.goto 4, 3) := by decide +kernel
theorem dX12_shadowOf_27 : decode cX12_shadowOf 27 = .ok (.iconst 1, 1) := by decide +kernel
theorem dX12_shadowOf_28 : decode cX12_shadowOf 28 = .ok (.invokevirtual 69, 3) := by decide +kernel
theorem dX12_throwsIf_0 : decode cX12_throwsIf 0 = .ok (.iload_n 1, 1) := by decide +kernel
theorem dX12_throwsIf_1 : decode cX12_throwsIf 1 = .ok (.ifCond .eq 8, 3) := by decide +kernel
theorem dX12_throwsIf_4 : decode cX12_throwsIf 4 = .ok (.aload_n 0, 1) := by decide +kernel
theorem dX12_throwsIf_5 : decode cX12_throwsIf 5 = .ok (.iload_n 2, 1) := by decide +kernel
theorem dX12_throwsIf_6 : decode cX12_throwsIf 6 = .ok (.putfield 38, 3) := by decide +kernel
theorem dX12_throwsIf_9 : decode cX12_throwsIf 9 = .ok (.iload_n 1, 1) := by decide +kernel
theorem dX12_throwsIf_10 : decode cX12_throwsIf 10 = .ok (.ireturn, 1) := by decide +kernel
set_option maxRecDepth 100000 in
set_option maxHeartbeats 4000000 in
theorem rX12_throwsIf_1 (l : Launch) (D : va_G) (Y : Nat → ClassId) (h0 : Nat) (h1 : Nat) (h2 : Nat) (h3 : Nat) (h4 : Nat) (h5 : Nat) (h6 : Nat) (p2 : Int32) (k5 : Nat) (k6 : Nat) (p7 : Int32) (p8 : Int32) (p9 : Int32) (k10 : Nat) (p11 : Int32) (q12 : Int64) (k15 : Nat) (k16 : Nat) (f0 : Nat → Int32) (f1 : Nat → Int32) (f3 : Nat → Int32) (f4 : Nat → Int32) (f13 : Nat → Int32) (f14 : Nat → Int32) (HI : INV f0) (HL : k5 ≤ 1600) (HP : PLV f13) (s1 : Int32)  (sz : Nat) : Met l yX12_throwsIf (WSm yX12_throwsIf cX12_throwsIf 3 (some .boolean)) (mkR 0 0 0 0) (PreC D Y [.ref h0, .int 1, .int s1] [(h0, oC 13 [.ref h1, .ref h2, .int p2, .ref h3, .ref h4, .int (nI k5), .int (nI k6), .int p7, .int p8, .int p9, .int (nI k10), .int p11, .long q12, .ref h5, .ref h6, .int (nI k15), .int (nI k16)]), (h1, aI Y 3640 f0), (h2, aZ Y 2 f1), (h3, aZ Y 80 f3), (h4, aB Y 1600 f4), (h5, aI Y 200 f13), (h6, aI Y 800 f14)] sz) (QI D (fun (r : Int32) (u : WU) => r = 1) (fun (u : WU) => [(h0, oC 13 [.ref h1, .ref h2, .int (u.2.1 0), .ref h3, .ref h4, .int (nI k5), .int (nI k6), .int p7, .int p8, .int p9, .int (nI k10), .int p11, .long q12, .ref h5, .ref h6, .int (nI k15), .int (nI k16)]), (h1, aI Y 3640 f0), (h2, aZ Y 2 f1), (h3, aZ Y 80 f3), (h4, aB Y 1600 f4), (h5, aI Y 200 f13), (h6, aI Y 800 f14)]) (va_A [(h0, oC 13 [.ref h1, .ref h2, .int p2, .ref h3, .ref h4, .int (nI k5), .int (nI k6), .int p7, .int p8, .int p9, .int (nI k10), .int p11, .long q12, .ref h5, .ref h6, .int (nI k15), .int (nI k16)]), (h1, aI Y 3640 f0), (h2, aZ Y 2 f1), (h3, aZ Y 80 f3), (h4, aB Y 1600 f4), (h5, aI Y 200 f13), (h6, aI Y 800 f14)] sz)) 0 0 (va_A [(h0, oC 13 [.ref h1, .ref h2, .int p2, .ref h3, .ref h4, .int (nI k5), .int (nI k6), .int p7, .int p8, .int p9, .int (nI k10), .int p11, .long q12, .ref h5, .ref h6, .int (nI k15), .int (nI k16)]), (h1, aI Y 3640 f0), (h2, aZ Y 2 f1), (h3, aZ Y 80 f3), (h4, aB Y 1600 f4), (h5, aI Y 200 f13), (h6, aI Y 800 f14)] sz) :=
  met_of (by decide +kernel) (Nat.le_of_ble_eq_true rfl) (fun p e s m args below meth c B hin hsz => by
    have B : VB p s m args meth c D Y (va_A [(h0, oC 13 [.ref h1, .ref h2, .int p2, .ref h3, .ref h4, .int (nI k5), .int (nI k6), .int p7, .int p8, .int p9, .int (nI k10), .int p11, .long q12, .ref h5, .ref h6, .int (nI k15), .int (nI k16)]), (h1, aI Y 3640 f0), (h2, aZ Y 2 f1), (h3, aZ Y 80 f3), (h4, aB Y 1600 f4), (h5, aI Y 200 f13), (h6, aI Y 800 f14)] sz) cX12_throwsIf 3 RX12 (some .boolean) := B
    refine V_iload_n 0 B dX12_throwsIf_0 1 rfl ?_
    refine V_if_eq_f 1 B 9 dX12_throwsIf_1 (by decide) (by decide +kernel) ?_
    refine V_aload_n 4 B dX12_throwsIf_4 0 rfl ?_
    refine V_iload_n 5 B dX12_throwsIf_5 2 rfl ?_
    refine V_put 6 B gp_RX12_38 0 rfl (Nat.le_of_ble_eq_true rfl) rfl rfl dX12_throwsIf_6 [(h0, oC 13 [.ref h1, .ref h2, .int s1, .ref h3, .ref h4, .int (nI k5), .int (nI k6), .int p7, .int p8, .int p9, .int (nI k10), .int p11, .long q12, .ref h5, .ref h6, .int (nI k15), .int (nI k16)]), (h1, aI Y 3640 f0), (h2, aZ Y 2 f1), (h3, aZ Y 80 f3), (h4, aB Y 1600 f4), (h5, aI Y 200 f13), (h6, aI Y 800 f14)] rfl ?_
    refine V_iload_n 9 B dX12_throwsIf_9 1 rfl ?_
    exact V_zret 10 B rfl dX12_throwsIf_10 (mkW [] [s1] [] [] [] []) rfl rfl)
theorem glV_RX12_69 : GLV RX12 69 yX12_throwsIf RX12 cX12_throwsIf 3 (some .boolean) 2 := ⟨⟨(mT7 213 rfl rfl), (mT7 215 rfl rfl), (mTs 29 rfl rfl), (mT1 13 rfl rfl), (mT7 216 rfl rfl)⟩, by decide +kernel⟩
theorem dX12_shadowOf_31 : decode cX12_shadowOf 31 = .ok (.ifCond .eq 5, 3) := by decide +kernel
theorem dX12_shadowOf_34 : decode cX12_shadowOf 34 = .ok (.iconst 0, 1) := by decide +kernel
theorem dX12_shadowOf_35 : decode cX12_shadowOf 35 = .ok (.ireturn, 1) := by decide +kernel
theorem dX12_shadowOf_14 : decode cX12_shadowOf 14 = .ok (.aload_n 0, 1) := by decide +kernel
theorem dX12_shadowOf_15 : decode cX12_shadowOf 15 = .ok (.iload_n 2, 1) := by decide +kernel
theorem dX12_shadowOf_16 : decode cX12_shadowOf 16 = .ok (.invokevirtual 82, 3) := by decide +kernel
theorem dX12_isBinding_0 : decode cX12_isBinding 0 = .ok (.iload_n 1, 1) := by decide +kernel
theorem dX12_isBinding_1 : decode cX12_isBinding 1 = .ok (.i2l, 1) := by decide +kernel
theorem dX12_isBinding_2 : decode cX12_isBinding 2 = .ok (.lconst 0, 1) := by decide +kernel
theorem dX12_isBinding_3 : decode cX12_isBinding 3 = .ok (.aload_n 0, 1) := by decide +kernel
theorem dX12_isBinding_4 : decode cX12_isBinding 4 = .ok (.getfield 9, 3) := by decide +kernel
theorem dX12_isBinding_7 : decode cX12_isBinding 7 = .ok (.iconst 3, 1) := by decide +kernel
theorem dX12_isBinding_8 : decode cX12_isBinding 8 = .ok (.iaload, 1) := by decide +kernel
theorem dX12_isBinding_9 : decode cX12_isBinding 9 = .ok (.iconst 1, 1) := by decide +kernel
theorem dX12_isBinding_10 : decode cX12_isBinding 10 = .ok (.isub, 1) := by decide +kernel
theorem dX12_isBinding_11 : decode cX12_isBinding 11 = .ok (.i2l, 1) := by decide +kernel
theorem dX12_isBinding_12 : decode cX12_isBinding 12 = .ok (.invokestatic 41, 3) := by decide +kernel
theorem dX12_isBinding_15 : decode cX12_isBinding 15 = .ok (.ireturn, 1) := by decide +kernel
set_option maxRecDepth 100000 in
set_option maxHeartbeats 4000000 in
theorem rX12_isBinding (l : Launch) (D : va_G) (Y : Nat → ClassId) (h0 : Nat) (h1 : Nat) (h2 : Nat) (h3 : Nat) (h4 : Nat) (h5 : Nat) (h6 : Nat) (p2 : Int32) (k5 : Nat) (k6 : Nat) (p7 : Int32) (p8 : Int32) (p9 : Int32) (k10 : Nat) (p11 : Int32) (q12 : Int64) (k15 : Nat) (k16 : Nat) (f0 : Nat → Int32) (f1 : Nat → Int32) (f3 : Nat → Int32) (f4 : Nat → Int32) (f13 : Nat → Int32) (f14 : Nat → Int32) (HI : INV f0) (HL : k5 ≤ 1600) (HP : PLV f13) (s0 : Int32)  (sz : Nat) : Met l yX12_isBinding (WSm yX12_isBinding cX12_isBinding 2 (some .boolean)) (mkR 1 0 0 25) (PreC D Y [.ref h0, .int s0] [(h0, oC 13 [.ref h1, .ref h2, .int p2, .ref h3, .ref h4, .int (nI k5), .int (nI k6), .int p7, .int p8, .int p9, .int (nI k10), .int p11, .long q12, .ref h5, .ref h6, .int (nI k15), .int (nI k16)]), (h1, aI Y 3640 f0), (h2, aZ Y 2 f1), (h3, aZ Y 80 f3), (h4, aB Y 1600 f4), (h5, aI Y 200 f13), (h6, aI Y 800 f14)] sz) (QI D (fun (r : Int32) (u : WU) => (r = 0 ∨ (r = 1 ∧ ∃ m : Nat, s0 = nI m ∧ m < gN f0 3))) (fun (u : WU) => [(h0, oC 13 [.ref h1, .ref h2, .int p2, .ref h3, .ref h4, .int (nI k5), .int (nI k6), .int p7, .int p8, .int p9, .int (nI k10), .int p11, .long q12, .ref h5, .ref h6, .int (nI k15), .int (nI k16)]), (h1, aI Y 3640 f0), (h2, aZ Y 2 f1), (h3, aZ Y 80 f3), (h4, aB Y 1600 f4), (h5, aI Y 200 f13), (h6, aI Y 800 f14)]) (va_A [(h0, oC 13 [.ref h1, .ref h2, .int p2, .ref h3, .ref h4, .int (nI k5), .int (nI k6), .int p7, .int p8, .int p9, .int (nI k10), .int p11, .long q12, .ref h5, .ref h6, .int (nI k15), .int (nI k16)]), (h1, aI Y 3640 f0), (h2, aZ Y 2 f1), (h3, aZ Y 80 f3), (h4, aB Y 1600 f4), (h5, aI Y 200 f13), (h6, aI Y 800 f14)] sz)) 0 0 (va_A [(h0, oC 13 [.ref h1, .ref h2, .int p2, .ref h3, .ref h4, .int (nI k5), .int (nI k6), .int p7, .int p8, .int p9, .int (nI k10), .int p11, .long q12, .ref h5, .ref h6, .int (nI k15), .int (nI k16)]), (h1, aI Y 3640 f0), (h2, aZ Y 2 f1), (h3, aZ Y 80 f3), (h4, aB Y 1600 f4), (h5, aI Y 200 f13), (h6, aI Y 800 f14)] sz) :=
  met_of (by decide +kernel) (Nat.le_of_ble_eq_true rfl) (fun p e s m args below meth c B hin hsz => by
    have B : VB p s m args meth c D Y (va_A [(h0, oC 13 [.ref h1, .ref h2, .int p2, .ref h3, .ref h4, .int (nI k5), .int (nI k6), .int p7, .int p8, .int p9, .int (nI k10), .int p11, .long q12, .ref h5, .ref h6, .int (nI k15), .int (nI k16)]), (h1, aI Y 3640 f0), (h2, aZ Y 2 f1), (h3, aZ Y 80 f3), (h4, aB Y 1600 f4), (h5, aI Y 200 f13), (h6, aI Y 800 f14)] sz) cX12_isBinding 2 RX12 (some .boolean) := B
    refine V_iload_n 0 B dX12_isBinding_0 1 rfl ?_
    refine V_i2l 1 B dX12_isBinding_1 rfl ?_
    refine V_nml (fun o0 e1 => ?_)
    have h2 : o0.toInt = s0.toInt := by rw [e1, Int32.toInt_toInt64]
    refine V_lconst 2 B (v := 0) dX12_isBinding_2 (by decide +kernel) ?_
    refine V_aload_n 3 B dX12_isBinding_3 0 rfl ?_
    refine V_get 4 B gf_RX12_9 0 rfl rfl dX12_isBinding_4 ?_
    refine V_iconst 7 B (v := 3) dX12_isBinding_7 (by decide +kernel) ?_
    have h3 : (gN f0 3) ≤ 80 := gN_le HI (by omega) (show bd 3 = (0, ((80 : Nat) : Int)) by decide +kernel)
    refine V_iald 8 B (v := (nI (gN f0 3))) 1 rfl (vpin _ _ (by decide +kernel)) dX12_isBinding_8 (by show f0 3 = _; exact gN_eq HI (by omega) (show bd 3 = (0, ((80 : Nat) : Int)) by decide +kernel)) ?_
    refine V_iconst 9 B (v := 1) dX12_isBinding_9 (by decide +kernel) ?_
    refine V_isub 10 B dX12_isBinding_10 rfl ?_
    refine V_nmi (fun j4 e5 => ?_)
    have h6 : j4.toInt = (((gN f0 3) : Nat) : Int) - ((1 : Nat) : Int) := by rw [e5]; exact nI_subT (by omega) (by omega)
    refine V_i2l 11 B dX12_isBinding_11 rfl ?_
    refine V_nml (fun o7 e8 => ?_)
    have h9 : o7.toInt = j4.toInt := by rw [e8, Int32.toInt_toInt64]
    refine V_csi 12 B (st := []) (As := [.long o0, .long 0, .long o7]) (fun sz => rX12_inRange l D Y o0 0 o7 sz) glS_RX12_41 ⟨rfl, rfl⟩ ⟨(Nat.le_of_ble_eq_true rfl), (Nat.le_of_ble_eq_true rfl)⟩ ⟨(Nat.le_of_ble_eq_true rfl), (Nat.le_of_ble_eq_true rfl)⟩ [] rfl rfl (Nat.le_of_ble_eq_true rfl) rfl (fun _ _ _ => rfl) dX12_isBinding_12 (fun j10 u11 w12 => ?_)
    refine V_ws [(h0, oC 13 [.ref h1, .ref h2, .int p2, .ref h3, .ref h4, .int (nI k5), .int (nI k6), .int p7, .int p8, .int p9, .int (nI k10), .int p11, .long q12, .ref h5, .ref h6, .int (nI k15), .int (nI k16)]), (h1, aI Y 3640 f0), (h2, aZ Y 2 f1), (h3, aZ Y 80 f3), (h4, aB Y 1600 f4), (h5, aI Y 200 f13), (h6, aI Y 800 f14)] rfl ?_
    rcases w12 with rfl | ⟨rfl, h13, h14⟩
    ·
      exact V_zret 15 B rfl dX12_isBinding_15 (mkW [] [] [] [] [] []) (Or.inl rfl) rfl
    ·
      rw [show (0 : Int64).toInt = 0 by decide +kernel] at h13
      exact V_zret 15 B rfl dX12_isBinding_15 (mkW [] [] [] [] [] []) (Or.inr ⟨rfl, nat_lt (by omega) (by omega)⟩) rfl)
theorem glV_RX12_82 : GLV RX12 82 yX12_isBinding RX12 cX12_isBinding 2 (some .boolean) 1 := ⟨⟨(mT8 7 rfl rfl), (mT8 9 rfl rfl), (mTs 32 rfl rfl), (mT1 13 rfl rfl), (mT8 10 rfl rfl)⟩, by decide +kernel⟩
theorem dX12_shadowOf_19 : decode cX12_shadowOf 19 = .ok (.ifCond .ne 7, 3) := by decide +kernel
theorem dX12_shadowOf_26 : decode cX12_shadowOf 26 = .ok (.iconst 0, 1) := by decide +kernel
set_option maxRecDepth 100000 in
set_option maxHeartbeats 4000000 in
theorem rX12_throwsIf_0 (l : Launch) (D : va_G) (Y : Nat → ClassId) (h0 : Nat) (h1 : Nat) (h2 : Nat) (h3 : Nat) (h4 : Nat) (h5 : Nat) (h6 : Nat) (p2 : Int32) (k5 : Nat) (k6 : Nat) (p7 : Int32) (p8 : Int32) (p9 : Int32) (k10 : Nat) (p11 : Int32) (q12 : Int64) (k15 : Nat) (k16 : Nat) (f0 : Nat → Int32) (f1 : Nat → Int32) (f3 : Nat → Int32) (f4 : Nat → Int32) (f13 : Nat → Int32) (f14 : Nat → Int32) (HI : INV f0) (HL : k5 ≤ 1600) (HP : PLV f13) (s1 : Int32)  (sz : Nat) : Met l yX12_throwsIf (WSm yX12_throwsIf cX12_throwsIf 3 (some .boolean)) (mkR 0 0 0 0) (PreC D Y [.ref h0, .int 0, .int s1] [(h0, oC 13 [.ref h1, .ref h2, .int p2, .ref h3, .ref h4, .int (nI k5), .int (nI k6), .int p7, .int p8, .int p9, .int (nI k10), .int p11, .long q12, .ref h5, .ref h6, .int (nI k15), .int (nI k16)]), (h1, aI Y 3640 f0), (h2, aZ Y 2 f1), (h3, aZ Y 80 f3), (h4, aB Y 1600 f4), (h5, aI Y 200 f13), (h6, aI Y 800 f14)] sz) (QI D (fun (r : Int32) (u : WU) => r = 0) (fun (u : WU) => [(h0, oC 13 [.ref h1, .ref h2, .int (u.2.1 0), .ref h3, .ref h4, .int (nI k5), .int (nI k6), .int p7, .int p8, .int p9, .int (nI k10), .int p11, .long q12, .ref h5, .ref h6, .int (nI k15), .int (nI k16)]), (h1, aI Y 3640 f0), (h2, aZ Y 2 f1), (h3, aZ Y 80 f3), (h4, aB Y 1600 f4), (h5, aI Y 200 f13), (h6, aI Y 800 f14)]) (va_A [(h0, oC 13 [.ref h1, .ref h2, .int p2, .ref h3, .ref h4, .int (nI k5), .int (nI k6), .int p7, .int p8, .int p9, .int (nI k10), .int p11, .long q12, .ref h5, .ref h6, .int (nI k15), .int (nI k16)]), (h1, aI Y 3640 f0), (h2, aZ Y 2 f1), (h3, aZ Y 80 f3), (h4, aB Y 1600 f4), (h5, aI Y 200 f13), (h6, aI Y 800 f14)] sz)) 0 0 (va_A [(h0, oC 13 [.ref h1, .ref h2, .int p2, .ref h3, .ref h4, .int (nI k5), .int (nI k6), .int p7, .int p8, .int p9, .int (nI k10), .int p11, .long q12, .ref h5, .ref h6, .int (nI k15), .int (nI k16)]), (h1, aI Y 3640 f0), (h2, aZ Y 2 f1), (h3, aZ Y 80 f3), (h4, aB Y 1600 f4), (h5, aI Y 200 f13), (h6, aI Y 800 f14)] sz) :=
  met_of (by decide +kernel) (Nat.le_of_ble_eq_true rfl) (fun p e s m args below meth c B hin hsz => by
    have B : VB p s m args meth c D Y (va_A [(h0, oC 13 [.ref h1, .ref h2, .int p2, .ref h3, .ref h4, .int (nI k5), .int (nI k6), .int p7, .int p8, .int p9, .int (nI k10), .int p11, .long q12, .ref h5, .ref h6, .int (nI k15), .int (nI k16)]), (h1, aI Y 3640 f0), (h2, aZ Y 2 f1), (h3, aZ Y 80 f3), (h4, aB Y 1600 f4), (h5, aI Y 200 f13), (h6, aI Y 800 f14)] sz) cX12_throwsIf 3 RX12 (some .boolean) := B
    refine V_iload_n 0 B dX12_throwsIf_0 1 rfl ?_
    refine V_if_eq_t 1 B 9 dX12_throwsIf_1 (by decide) (by decide +kernel) ?_
    refine V_iload_n 9 B dX12_throwsIf_9 1 rfl ?_
    exact V_zret 10 B rfl dX12_throwsIf_10 (mkW [] [p2] [] [] [] []) rfl rfl)
theorem dX12_shadowOf_36 : decode cX12_shadowOf 36 = .ok (.iconst (-1), 1) := by decide +kernel
theorem dX12_shadowOf_37 : decode cX12_shadowOf 37 = .ok (.istore_n 3, 1) := by decide +kernel
theorem dX12_shadowOf_38 : decode cX12_shadowOf 38 = .ok (.iload_n 1, 1) := by decide +kernel
theorem dX12_shadowOf_39 : decode cX12_shadowOf 39 = .ok (.istore 4, 2) := by decide +kernel
theorem dX12_shadowOf_41 : decode cX12_shadowOf 41 = .ok (.iload 4, 2) := by decide +kernel
theorem dX12_shadowOf_43 : decode cX12_shadowOf 43 = .ok (.iconst (-1), 1) := by decide +kernel
theorem dX12_shadowOf_44 : decode cX12_shadowOf 44 = .ok (.if_icmp .eq 54, 3) := by decide +kernel
theorem dX12_shadowOf_98 : decode cX12_shadowOf 98 = .ok (.iload 4, 2) := by decide +kernel
theorem dX12_shadowOf_100 : decode cX12_shadowOf 100 = .ok (.iconst (-1), 1) := by decide +kernel
theorem dX12_shadowOf_101 : decode cX12_shadowOf 101 = .ok (.if_icmp .ne 7, 3) := by decide +kernel
theorem dX12_shadowOf_104 : decode cX12_shadowOf 104 = .ok (.iconst (-1), 1) := by decide +kernel
theorem dX12_shadowOf_105 : decode cX12_shadowOf 105 = .ok (.goto 4, 3) := by decide +kernel
theorem dX12_shadowOf_109 : decode cX12_shadowOf 109 = .ok (.ireturn, 1) := by decide +kernel
theorem dX12_shadowOf_47 : decode cX12_shadowOf 47 = .ok (.iload 4, 2) := by decide +kernel
theorem dX12_shadowOf_49 : decode cX12_shadowOf 49 = .ok (.aload_n 0, 1) := by decide +kernel
theorem dX12_shadowOf_50 : decode cX12_shadowOf 50 = .ok (.iload_n 2, 1) := by decide +kernel
theorem dX12_shadowOf_51 : decode cX12_shadowOf 51 = .ok (.invokevirtual 115, 3) := by decide +kernel
theorem dX12_shadowOf_54 : decode cX12_shadowOf 54 = .ok (.if_icmp .eq 44, 3) := by decide +kernel
theorem dX12_shadowOf_108 : decode cX12_shadowOf 108 = .ok (.iload_n 3, 1) := by decide +kernel
theorem dX12_shadowOf_57 : decode cX12_shadowOf 57 = .ok (.aload_n 0, 1) := by decide +kernel
theorem dX12_shadowOf_58 : decode cX12_shadowOf 58 = .ok (.iload 4, 2) := by decide +kernel
theorem dX12_shadowOf_60 : decode cX12_shadowOf 60 = .ok (.iload_n 2, 1) := by decide +kernel
theorem dX12_shadowOf_61 : decode cX12_shadowOf 61 = .ok (.invokestatic 85, 3) := by decide +kernel
theorem dX12_shadowOf_64 : decode cX12_shadowOf 64 = .ok (.iconst (-1), 1) := by decide +kernel
theorem dX12_shadowOf_65 : decode cX12_shadowOf 65 = .ok (.invokevirtual 121, 3) := by decide +kernel
theorem dX12_shadowOf_68 : decode cX12_shadowOf 68 = .ok (.istore 5, 2) := by decide +kernel
theorem dX12_shadowOf_70 : decode cX12_shadowOf 70 = .ok (.iload 5, 2) := by decide +kernel
theorem dX12_shadowOf_72 : decode cX12_shadowOf 72 = .ok (.iconst (-1), 1) := by decide +kernel
theorem dX12_shadowOf_73 : decode cX12_shadowOf 73 = .ok (.if_icmp .ne 7, 3) := by decide +kernel
theorem dX12_shadowOf_76 : decode cX12_shadowOf 76 = .ok (.iload_n 3, 1) := by decide +kernel
theorem dX12_shadowOf_77 : decode cX12_shadowOf 77 = .ok (.goto 5, 3) := by decide +kernel
theorem dX12_shadowOf_82 : decode cX12_shadowOf 82 = .ok (.istore_n 3, 1) := by decide +kernel
theorem dX12_shadowOf_83 : decode cX12_shadowOf 83 = .ok (.aload_n 0, 1) := by decide +kernel
theorem dX12_shadowOf_84 : decode cX12_shadowOf 84 = .ok (.getfield 9, 3) := by decide +kernel
theorem dX12_shadowOf_87 : decode cX12_shadowOf 87 = .ok (.bipush 16, 2) := by decide +kernel
theorem dX12_shadowOf_89 : decode cX12_shadowOf 89 = .ok (.iload 4, 2) := by decide +kernel
theorem dX12_shadowOf_91 : decode cX12_shadowOf 91 = .ok (.iadd, 1) := by decide +kernel
theorem dX12_shadowOf_92 : decode cX12_shadowOf 92 = .ok (.iaload, 1) := by decide +kernel
theorem dX12_shadowOf_93 : decode cX12_shadowOf 93 = .ok (.istore 4, 2) := by decide +kernel
theorem dX12_shadowOf_95 : decode cX12_shadowOf 95 = .ok (.goto (-54), 3) := by decide +kernel
theorem dX12_shadowOf_80 : decode cX12_shadowOf 80 = .ok (.iload 5, 2) := by decide +kernel
set_option maxRecDepth 100000 in
set_option maxHeartbeats 4000000 in
theorem rX12_shadowOf (l : Launch) (D : va_G) (Y : Nat → ClassId) (h0 : Nat) (h1 : Nat) (h2 : Nat) (h3 : Nat) (h4 : Nat) (h5 : Nat) (h6 : Nat) (p2 : Int32) (k5 : Nat) (k6 : Nat) (p7 : Int32) (p8 : Int32) (p9 : Int32) (k10 : Nat) (p11 : Int32) (q12 : Int64) (k15 : Nat) (k16 : Nat) (f0 : Nat → Int32) (f1 : Nat → Int32) (f3 : Nat → Int32) (f4 : Nat → Int32) (f13 : Nat → Int32) (f14 : Nat → Int32) (HI : INV f0) (HL : k5 ≤ 1600) (HP : PLV f13) (s0 : Int32) (s1 : Int32)  (sz : Nat) : Met l yX12_shadowOf (WSm yX12_shadowOf cX12_shadowOf 6 (some .int)) (mkR 4 0 0 90) (PreC D Y [.ref h0, .int s0, .int s1] [(h0, oC 13 [.ref h1, .ref h2, .int p2, .ref h3, .ref h4, .int (nI k5), .int (nI k6), .int p7, .int p8, .int p9, .int (nI k10), .int p11, .long q12, .ref h5, .ref h6, .int (nI k15), .int (nI k16)]), (h1, aI Y 3640 f0), (h2, aZ Y 2 f1), (h3, aZ Y 80 f3), (h4, aB Y 1600 f4), (h5, aI Y 200 f13), (h6, aI Y 800 f14)] sz) (QI D (fun (r : Int32) (u : WU) => True) (fun (u : WU) => [(h0, oC 13 [.ref h1, .ref h2, .int (u.2.1 0), .ref h3, .ref h4, .int (nI k5), .int (nI k6), .int p7, .int p8, .int p9, .int (nI k10), .int p11, .long q12, .ref h5, .ref h6, .int (nI k15), .int (nI k16)]), (h1, aI Y 3640 f0), (h2, aZ Y 2 f1), (h3, aZ Y 80 f3), (h4, aB Y 1600 f4), (h5, aI Y 200 f13), (h6, aI Y 800 f14)]) (va_A [(h0, oC 13 [.ref h1, .ref h2, .int p2, .ref h3, .ref h4, .int (nI k5), .int (nI k6), .int p7, .int p8, .int p9, .int (nI k10), .int p11, .long q12, .ref h5, .ref h6, .int (nI k15), .int (nI k16)]), (h1, aI Y 3640 f0), (h2, aZ Y 2 f1), (h3, aZ Y 80 f3), (h4, aB Y 1600 f4), (h5, aI Y 200 f13), (h6, aI Y 800 f14)] sz)) 0 0 (va_A [(h0, oC 13 [.ref h1, .ref h2, .int p2, .ref h3, .ref h4, .int (nI k5), .int (nI k6), .int p7, .int p8, .int p9, .int (nI k10), .int p11, .long q12, .ref h5, .ref h6, .int (nI k15), .int (nI k16)]), (h1, aI Y 3640 f0), (h2, aZ Y 2 f1), (h3, aZ Y 80 f3), (h4, aB Y 1600 f4), (h5, aI Y 200 f13), (h6, aI Y 800 f14)] sz) :=
  met_of (by decide +kernel) (Nat.le_of_ble_eq_true rfl) (fun p e s m args below meth c B hin hsz => by
    have B : VB p s m args meth c D Y (va_A [(h0, oC 13 [.ref h1, .ref h2, .int p2, .ref h3, .ref h4, .int (nI k5), .int (nI k6), .int p7, .int p8, .int p9, .int (nI k10), .int p11, .long q12, .ref h5, .ref h6, .int (nI k15), .int (nI k16)]), (h1, aI Y 3640 f0), (h2, aZ Y 2 f1), (h3, aZ Y 80 f3), (h4, aB Y 1600 f4), (h5, aI Y 200 f13), (h6, aI Y 800 f14)] sz) cX12_shadowOf 6 RX12 (some .int) := B
    refine V_aload_n 0 B dX12_shadowOf_0 0 rfl ?_
    refine V_iconst 1 B (v := 0) dX12_shadowOf_1 (by decide +kernel) ?_
    refine V_put 2 B gp_RX12_38 0 rfl (Nat.le_of_ble_eq_true rfl) rfl rfl dX12_shadowOf_2 [(h0, oC 13 [.ref h1, .ref h2, .int 0, .ref h3, .ref h4, .int (nI k5), .int (nI k6), .int p7, .int p8, .int p9, .int (nI k10), .int p11, .long q12, .ref h5, .ref h6, .int (nI k15), .int (nI k16)]), (h1, aI Y 3640 f0), (h2, aZ Y 2 f1), (h3, aZ Y 80 f3), (h4, aB Y 1600 f4), (h5, aI Y 200 f13), (h6, aI Y 800 f14)] rfl ?_
    refine V_aload_n 5 B dX12_shadowOf_5 0 rfl ?_
    refine V_aload_n 6 B dX12_shadowOf_6 0 rfl ?_
    refine V_iload_n 7 B dX12_shadowOf_7 1 rfl ?_
    refine V_cvi 8 B (st := [.ref h0]) (As := [.int s0]) (fun sz => rX12_isMode l D Y h0 h1 h2 h3 h4 h5 h6 0 k5 k6 p7 p8 p9 k10 p11 q12 k15 k16 f0 f1 f3 f4 f13 f14 HI (by omega) HP s0 sz) glV_RX12_91 ⟨rfl, rfl⟩ ⟨(Nat.le_of_ble_eq_true rfl), (Nat.le_of_ble_eq_true rfl)⟩ ⟨(Nat.le_of_ble_eq_true rfl), (Nat.le_of_ble_eq_true rfl)⟩ [0, 0, 0, 0, 0, 0, 0] rfl 13 0 rfl rfl rfl rfl (Nat.le_of_ble_eq_true rfl) rfl (fun _ _ _ => rfl) dX12_shadowOf_8 (fun j0 u1 w2 => ?_)
    refine V_ws [(h0, oC 13 [.ref h1, .ref h2, .int 0, .ref h3, .ref h4, .int (nI k5), .int (nI k6), .int p7, .int p8, .int p9, .int (nI k10), .int p11, .long q12, .ref h5, .ref h6, .int (nI k15), .int (nI k16)]), (h1, aI Y 3640 f0), (h2, aZ Y 2 f1), (h3, aZ Y 80 f3), (h4, aB Y 1600 f4), (h5, aI Y 200 f13), (h6, aI Y 800 f14)] rfl ?_
    have h3 := w2
    have h7 : (gN f0 0) ≤ 6 := gN_le HI (by omega) (show bd 0 = (0, ((6 : Nat) : Int)) by decide +kernel)
    rcases h3 with rfl | ⟨rfl, n4, rfl, h6⟩
    ·
      refine V_if_eq_t 11 B 22 dX12_shadowOf_11 (by decide) (by decide +kernel) ?_
      refine V_iconst 22 B (v := 1) dX12_shadowOf_22 (by decide +kernel) ?_
      refine V_goto 23 B 27 dX12_shadowOf_23 (by decide) ?_
      refine V_iconst 27 B (v := 1) dX12_shadowOf_27 (by decide +kernel) ?_
      refine V_cvi 28 B (st := []) (As := [.int 1, .int 1]) (fun sz => rX12_throwsIf_1 l D Y h0 h1 h2 h3 h4 h5 h6 0 k5 k6 p7 p8 p9 k10 p11 q12 k15 k16 f0 f1 f3 f4 f13 f14 HI (by omega) HP 1 sz) glV_RX12_69 ⟨rfl, rfl⟩ ⟨(Nat.le_of_ble_eq_true rfl), (Nat.le_of_ble_eq_true rfl)⟩ ⟨(Nat.le_of_ble_eq_true rfl), (Nat.le_of_ble_eq_true rfl)⟩ [0, 0, 0, 0, 0, 0, 0] rfl 13 0 rfl rfl rfl rfl (Nat.le_of_ble_eq_true rfl) rfl (fun _ _ _ => rfl) dX12_shadowOf_28 (fun j8 u9 w10 => ?_)
      refine V_ws [(h0, oC 13 [.ref h1, .ref h2, .int (u9.2.1 0), .ref h3, .ref h4, .int (nI k5), .int (nI k6), .int p7, .int p8, .int p9, .int (nI k10), .int p11, .long q12, .ref h5, .ref h6, .int (nI k15), .int (nI k16)]), (h1, aI Y 3640 f0), (h2, aZ Y 2 f1), (h3, aZ Y 80 f3), (h4, aB Y 1600 f4), (h5, aI Y 200 f13), (h6, aI Y 800 f14)] rfl ?_
      have h11 := w10
      obtain rfl := h11
      refine V_if_eq_f 31 B 36 dX12_shadowOf_31 (by decide) (by decide +kernel) ?_
      refine V_iconst 34 B (v := 0) dX12_shadowOf_34 (by decide +kernel) ?_
      exact V_iret 35 B dX12_shadowOf_35 (mkW [] [(u9.2.1 0)] [] [] [] []) trivial rfl
    ·
      have e12 := nI_toInt (show n4 < 2 ^ 31 by omega)
      have h13 : (gN f0 0) ≤ 6 := gN_le HI (by omega) (show bd 0 = (0, ((6 : Nat) : Int)) by decide +kernel)
      refine V_if_eq_f 11 B 22 dX12_shadowOf_11 (by decide) (by decide +kernel) ?_
      refine V_aload_n 14 B dX12_shadowOf_14 0 rfl ?_
      refine V_iload_n 15 B dX12_shadowOf_15 2 rfl ?_
      refine V_cvi 16 B (st := [.ref h0]) (As := [.int s1]) (fun sz => rX12_isBinding l D Y h0 h1 h2 h3 h4 h5 h6 0 k5 k6 p7 p8 p9 k10 p11 q12 k15 k16 f0 f1 f3 f4 f13 f14 HI (by omega) HP s1 sz) glV_RX12_82 ⟨rfl, rfl⟩ ⟨(Nat.le_of_ble_eq_true rfl), (Nat.le_of_ble_eq_true rfl)⟩ ⟨(Nat.le_of_ble_eq_true rfl), (Nat.le_of_ble_eq_true rfl)⟩ [0, 0, 0, 0, 0, 0, 0] rfl 13 0 rfl rfl rfl rfl (Nat.le_of_ble_eq_true rfl) rfl (fun _ _ _ => rfl) dX12_shadowOf_16 (fun j14 u15 w16 => ?_)
      refine V_ws [(h0, oC 13 [.ref h1, .ref h2, .int 0, .ref h3, .ref h4, .int (nI k5), .int (nI k6), .int p7, .int p8, .int p9, .int (nI k10), .int p11, .long q12, .ref h5, .ref h6, .int (nI k15), .int (nI k16)]), (h1, aI Y 3640 f0), (h2, aZ Y 2 f1), (h3, aZ Y 80 f3), (h4, aB Y 1600 f4), (h5, aI Y 200 f13), (h6, aI Y 800 f14)] rfl ?_
      have h17 := w16
      have h21 : (gN f0 3) ≤ 80 := gN_le HI (by omega) (show bd 3 = (0, ((80 : Nat) : Int)) by decide +kernel)
      rcases h17 with rfl | ⟨rfl, n18, rfl, h20⟩
      ·
        refine V_if_ne_f 19 B 26 dX12_shadowOf_19 (by decide) (by decide +kernel) ?_
        refine V_iconst 22 B (v := 1) dX12_shadowOf_22 (by decide +kernel) ?_
        refine V_goto 23 B 27 dX12_shadowOf_23 (by decide) ?_
        refine V_iconst 27 B (v := 1) dX12_shadowOf_27 (by decide +kernel) ?_
        refine V_cvi 28 B (st := []) (As := [.int 1, .int 1]) (fun sz => rX12_throwsIf_1 l D Y h0 h1 h2 h3 h4 h5 h6 0 k5 k6 p7 p8 p9 k10 p11 q12 k15 k16 f0 f1 f3 f4 f13 f14 HI (by omega) HP 1 sz) glV_RX12_69 ⟨rfl, rfl⟩ ⟨(Nat.le_of_ble_eq_true rfl), (Nat.le_of_ble_eq_true rfl)⟩ ⟨(Nat.le_of_ble_eq_true rfl), (Nat.le_of_ble_eq_true rfl)⟩ [0, 0, 0, 0, 0, 0, 0] rfl 13 0 rfl rfl rfl rfl (Nat.le_of_ble_eq_true rfl) rfl (fun _ _ _ => rfl) dX12_shadowOf_28 (fun j22 u23 w24 => ?_)
        refine V_ws [(h0, oC 13 [.ref h1, .ref h2, .int (u23.2.1 0), .ref h3, .ref h4, .int (nI k5), .int (nI k6), .int p7, .int p8, .int p9, .int (nI k10), .int p11, .long q12, .ref h5, .ref h6, .int (nI k15), .int (nI k16)]), (h1, aI Y 3640 f0), (h2, aZ Y 2 f1), (h3, aZ Y 80 f3), (h4, aB Y 1600 f4), (h5, aI Y 200 f13), (h6, aI Y 800 f14)] rfl ?_
        have h25 := w24
        obtain rfl := h25
        refine V_if_eq_f 31 B 36 dX12_shadowOf_31 (by decide) (by decide +kernel) ?_
        refine V_iconst 34 B (v := 0) dX12_shadowOf_34 (by decide +kernel) ?_
        exact V_iret 35 B dX12_shadowOf_35 (mkW [] [(u23.2.1 0)] [] [] [] []) trivial rfl
      ·
        have e26 := nI_toInt (show n18 < 2 ^ 31 by omega)
        have h27 : (gN f0 3) ≤ 80 := gN_le HI (by omega) (show bd 3 = (0, ((80 : Nat) : Int)) by decide +kernel)
        refine V_if_ne_t 19 B 26 dX12_shadowOf_19 (by decide) (by decide +kernel) ?_
        refine V_iconst 26 B (v := 0) dX12_shadowOf_26 (by decide +kernel) ?_
        refine V_iconst 27 B (v := 1) dX12_shadowOf_27 (by decide +kernel) ?_
        refine V_cvi 28 B (st := []) (As := [.int 0, .int 1]) (fun sz => rX12_throwsIf_0 l D Y h0 h1 h2 h3 h4 h5 h6 0 k5 k6 p7 p8 p9 k10 p11 q12 k15 k16 f0 f1 f3 f4 f13 f14 HI (by omega) HP 1 sz) glV_RX12_69 ⟨rfl, rfl⟩ ⟨(Nat.le_of_ble_eq_true rfl), (Nat.le_of_ble_eq_true rfl)⟩ ⟨(Nat.le_of_ble_eq_true rfl), (Nat.le_of_ble_eq_true rfl)⟩ [0, 0, 0, 0, 0, 0, 0] rfl 13 0 rfl rfl rfl rfl (Nat.le_of_ble_eq_true rfl) rfl (fun _ _ _ => rfl) dX12_shadowOf_28 (fun j28 u29 w30 => ?_)
        refine V_ws [(h0, oC 13 [.ref h1, .ref h2, .int (u29.2.1 0), .ref h3, .ref h4, .int (nI k5), .int (nI k6), .int p7, .int p8, .int p9, .int (nI k10), .int p11, .long q12, .ref h5, .ref h6, .int (nI k15), .int (nI k16)]), (h1, aI Y 3640 f0), (h2, aZ Y 2 f1), (h3, aZ Y 80 f3), (h4, aB Y 1600 f4), (h5, aI Y 200 f13), (h6, aI Y 800 f14)] rfl ?_
        have h31 := w30
        obtain rfl := h31
        refine V_if_eq_t 31 B 36 dX12_shadowOf_31 (by decide) (by decide +kernel) ?_
        refine V_iconst 36 B (v := (-1)) dX12_shadowOf_36 (by decide +kernel) ?_
        refine V_istore_n 37 B (lv2 := [(3, .int (-1)), (0, .ref h0), (1, .int (nI n4)), (2, .int (nI n18))]) dX12_shadowOf_37 (by decide) rfl ?_
        refine V_iload_n 38 B dX12_shadowOf_38 2 rfl ?_
        refine V_istore 39 B (lv2 := [(4, .int (nI n4)), (3, .int (-1)), (0, .ref h0), (1, .int (nI n4)), (2, .int (nI n18))]) dX12_shadowOf_39 (by decide) rfl ?_
        refine V_wloop (α := WU) (fun a => (((a.2.1 0)).toInt + 1).toNat) (fun a => ((-1) ≤ (a.2.1 0).toInt ∧ (a.2.1 0).toInt ≤ 5)) (fun a => [(4, .int (a.2.1 0)), (3, .int (a.2.1 1)), (0, .ref h0), (1, .int (nI n4)), (2, .int (nI n18))]) (fun a => [(h0, oC 13 [.ref h1, .ref h2, .int (a.2.1 2), .ref h3, .ref h4, .int (nI k5), .int (nI k6), .int p7, .int p8, .int p9, .int (nI k10), .int p11, .long q12, .ref h5, .ref h6, .int (nI k15), .int (nI k16)]), (h1, aI Y 3640 f0), (h2, aZ Y 2 f1), (h3, aZ Y 80 f3), (h4, aB Y 1600 f4), (h5, aI Y 200 f13), (h6, aI Y 800 f14)]) (mkW [] [(nI n4), (-1), (u29.2.1 0)] [] [] [] []) (by have e9 := nI_toInt (show n4 < 2 ^ 31 by omega); omega) rfl rfl (fun a32 5 IH33 => ?_)
        refine V_lv [(4, .int (a32.2.1 0)), (3, .int (a32.2.1 1)), (0, .ref h0), (1, .int (nI n4)), (2, .int (nI n18))] [0, 1, 2, 3, 4] rfl ?_
        refine V_ws [(h0, oC 13 [.ref h1, .ref h2, .int (a32.2.1 2), .ref h3, .ref h4, .int (nI k5), .int (nI k6), .int p7, .int p8, .int p9, .int (nI k10), .int p11, .long q12, .ref h5, .ref h6, .int (nI k15), .int (nI k16)]), (h1, aI Y 3640 f0), (h2, aZ Y 2 f1), (h3, aZ Y 80 f3), (h4, aB Y 1600 f4), (h5, aI Y 200 f13), (h6, aI Y 800 f14)] rfl ?_
        have h35 := 5
        generalize a32.2.1 0 = j36 at *
        refine V_iload 41 B dX12_shadowOf_41 0 rfl ?_
        refine V_iconst 43 B (v := (-1)) dX12_shadowOf_43 (by decide +kernel) ?_
        refine V_icmp_eq 44 B 98 dX12_shadowOf_44 (by decide) (fun k37 => ?_) (fun k37 => ?_)
        ·
          obtain rfl : j36 = (-1) := k37
          have e39 : ((-1) : Int32).toInt = (-1) := by decide +kernel
          refine V_iload 98 B dX12_shadowOf_98 0 rfl ?_
          refine V_iconst 100 B (v := (-1)) dX12_shadowOf_100 (by decide +kernel) ?_
          refine V_icmp_ne_f 101 B 108 dX12_shadowOf_101 (by decide) (by decide +kernel) ?_
          refine V_iconst 104 B (v := (-1)) dX12_shadowOf_104 (by decide +kernel) ?_
          refine V_goto 105 B 109 dX12_shadowOf_105 (by decide) ?_
          exact V_iret 109 B dX12_shadowOf_109 (mkW [] [(a32.2.1 2)] [] [] [] []) trivial rfl
        ·
          have h40 := x_ne k37
          rw [show ((-1) : Int32).toInt = (-1) by decide +kernel] at h40
          refine V_iload 47 B dX12_shadowOf_47 0 rfl ?_
          refine V_aload_n 49 B dX12_shadowOf_49 2 rfl ?_
          refine V_iload_n 50 B dX12_shadowOf_50 4 rfl ?_
          refine V_cvi 51 B (st := [.int j36]) (As := [.int (nI n18)]) (fun sz => rX12_modeOf l D Y h0 h1 h2 h3 h4 h5 h6 (a32.2.1 2) k5 k6 p7 p8 p9 k10 p11 q12 k15 k16 f0 f1 f3 f4 f13 f14 HI (by omega) HP n18 (by omega) sz) glV_RX12_115 ⟨rfl, rfl⟩ ⟨(Nat.le_of_ble_eq_true rfl), (Nat.le_of_ble_eq_true rfl)⟩ ⟨(Nat.le_of_ble_eq_true rfl), (Nat.le_of_ble_eq_true rfl)⟩ [0, 0, 0, 0, 0, 0, 0] rfl 13 0 rfl rfl rfl rfl (Nat.le_of_ble_eq_true rfl) rfl (fun _ _ _ => rfl) dX12_shadowOf_51 (fun j41 u42 w43 => ?_)
          refine V_ws [(h0, oC 13 [.ref h1, .ref h2, .int (a32.2.1 2), .ref h3, .ref h4, .int (nI k5), .int (nI k6), .int p7, .int p8, .int p9, .int (nI k10), .int p11, .long q12, .ref h5, .ref h6, .int (nI k15), .int (nI k16)]), (h1, aI Y 3640 f0), (h2, aZ Y 2 f1), (h3, aZ Y 80 f3), (h4, aB Y 1600 f4), (h5, aI Y 200 f13), (h6, aI Y 800 f14)] rfl ?_
          have h44 := w43
          refine V_icmp_eq 54 B 98 dX12_shadowOf_54 (by decide) (fun k45 => ?_) (fun k45 => ?_)
          ·
            have h46 := x_eq k45
            refine V_iload 98 B dX12_shadowOf_98 0 rfl ?_
            refine V_iconst 100 B (v := (-1)) dX12_shadowOf_100 (by decide +kernel) ?_
            refine V_icmp_ne_t 101 B 108 dX12_shadowOf_101 (by decide) (fun z => by have z2 := x_eq z; rw [(show ((-1) : Int32).toInt = (-1) by decide +kernel)] at z2; omega) ?_
            refine V_iload_n 108 B dX12_shadowOf_108 1 rfl ?_
            exact V_iret 109 B dX12_shadowOf_109 (mkW [] [(a32.2.1 2)] [] [] [] []) trivial rfl
          ·
            have h48 := x_ne k45
            refine V_aload_n 57 B dX12_shadowOf_57 2 rfl ?_
            refine V_iload 58 B dX12_shadowOf_58 0 rfl ?_
            refine V_iload_n 60 B dX12_shadowOf_60 4 rfl ?_
            refine V_csi 61 B (st := [.int j36, .ref h0]) (As := [.int (nI n18)]) (fun sz => rX12_sequenceOf l D Y n18 (by omega) sz) glS_RX12_85 ⟨rfl, rfl⟩ ⟨(Nat.le_of_ble_eq_true rfl), (Nat.le_of_ble_eq_true rfl)⟩ ⟨(Nat.le_of_ble_eq_true rfl), (Nat.le_of_ble_eq_true rfl)⟩ [] rfl rfl (Nat.le_of_ble_eq_true rfl) rfl (fun _ _ _ => rfl) dX12_shadowOf_61 (fun j49 u50 w51 => ?_)
            refine V_ws [(h0, oC 13 [.ref h1, .ref h2, .int (a32.2.1 2), .ref h3, .ref h4, .int (nI k5), .int (nI k6), .int p7, .int p8, .int p9, .int (nI k10), .int p11, .long q12, .ref h5, .ref h6, .int (nI k15), .int (nI k16)]), (h1, aI Y 3640 f0), (h2, aZ Y 2 f1), (h3, aZ Y 80 f3), (h4, aB Y 1600 f4), (h5, aI Y 200 f13), (h6, aI Y 800 f14)] rfl ?_
            have h52 := w51
            obtain rfl := h52
            refine V_iconst 64 B (v := (-1)) dX12_shadowOf_64 (by decide +kernel) ?_
            refine V_cvi 65 B (st := []) (As := [.int j36, .int (nI (186 + 7 * n18)), .int (-1)]) (fun sz => rX12_clashIn l D Y h0 h1 h2 h3 h4 h5 h6 (a32.2.1 2) k5 k6 p7 p8 p9 k10 p11 q12 k15 k16 f0 f1 f3 f4 f13 f14 HI (by omega) HP j36 (186 + 7 * n18) (-1) (rl1 n18 (by omega)) sz) glV_RX12_121 ⟨rfl, rfl⟩ ⟨(Nat.le_of_ble_eq_true rfl), (Nat.le_of_ble_eq_true rfl)⟩ ⟨(Nat.le_of_ble_eq_true rfl), (Nat.le_of_ble_eq_true rfl)⟩ [0, 0, 0, 0, 0, 0, 0] rfl 13 0 rfl rfl rfl rfl (Nat.le_of_ble_eq_true rfl) rfl (fun _ _ _ => rfl) dX12_shadowOf_65 (fun j53 u54 w55 => ?_)
            refine V_ws [(h0, oC 13 [.ref h1, .ref h2, .int (a32.2.1 2), .ref h3, .ref h4, .int (nI k5), .int (nI k6), .int p7, .int p8, .int p9, .int (nI k10), .int p11, .long q12, .ref h5, .ref h6, .int (nI k15), .int (nI k16)]), (h1, aI Y 3640 f0), (h2, aZ Y 2 f1), (h3, aZ Y 80 f3), (h4, aB Y 1600 f4), (h5, aI Y 200 f13), (h6, aI Y 800 f14)] rfl ?_
            have h56 := w55
            have h59 : (gN f0 3) ≤ 80 := gN_le HI (by omega) (show bd 3 = (0, ((80 : Nat) : Int)) by decide +kernel)
            rcases h56 with rfl | ⟨n57, rfl, h58⟩
            ·
              refine V_istore 68 B (lv2 := [(5, .int (-1)), (4, .int j36), (3, .int (a32.2.1 1)), (0, .ref h0), (1, .int (nI n4)), (2, .int (nI n18))]) dX12_shadowOf_68 (by decide) rfl ?_
              refine V_iload 70 B dX12_shadowOf_70 0 rfl ?_
              refine V_iconst 72 B (v := (-1)) dX12_shadowOf_72 (by decide +kernel) ?_
              refine V_icmp_ne_f 73 B 80 dX12_shadowOf_73 (by decide) (by decide +kernel) ?_
              refine V_iload_n 76 B dX12_shadowOf_76 2 rfl ?_
              refine V_goto 77 B 82 dX12_shadowOf_77 (by decide) ?_
              refine V_istore_n 82 B (lv2 := [(3, .int (a32.2.1 1)), (5, .int (-1)), (4, .int j36), (0, .ref h0), (1, .int (nI n4)), (2, .int (nI n18))]) dX12_shadowOf_82 (by decide) rfl ?_
              refine V_aload_n 83 B dX12_shadowOf_83 3 rfl ?_
              refine V_get 84 B gf_RX12_9 0 rfl rfl dX12_shadowOf_84 ?_
              refine V_bipush 87 B (v := 16) dX12_shadowOf_87 (by decide +kernel) ?_
              refine V_iload 89 B dX12_shadowOf_89 2 rfl ?_
              obtain ⟨n60, h61, rfl⟩ := nat_of (x := j36) (n := 5) (by omega) (by omega)
              have e62 := nI_toInt (show n60 < 2 ^ 31 by omega)
              refine V_iadd 91 B (v := (nI (16 + n60))) dX12_shadowOf_91 (nI_addE (a := 16) (b := n60) (by omega)) ?_
              refine V_iald 92 B (v := f0 (16 + n60)) 1 rfl (vp_in_nI (n := 16 + n60) (by omega) (by decide)) dX12_shadowOf_92 (by rw [nI_clamp (show 16 + n60 < 2 ^ 31 by omega)]; exact rfl) ?_
              refine V_nmi (fun j63 e64 => ?_)
              have h65 : (-1) ≤ j63.toInt ∧ j63.toInt ≤ (((n60 : Nat) : Int) - 1) := by rw [e64]; exact ⟨INV_lo HI (by omega) (rl3 n60 (by omega)), INV_hi HI (by omega) (rl3 n60 (by omega))⟩
              refine V_istore 93 B (lv2 := [(4, .int j63), (3, .int (a32.2.1 1)), (5, .int (-1)), (0, .ref h0), (1, .int (nI n4)), (2, .int (nI n18))]) dX12_shadowOf_93 (by decide) rfl ?_
              refine V_goto 95 B 41 dX12_shadowOf_95 (by decide) ?_
              refine V_lv [(4, .int j63), (3, .int (a32.2.1 1)), (0, .ref h0), (1, .int (nI n4)), (2, .int (nI n18))] [0, 1, 3, 4, 5] rfl ?_
              exact IH33 (mkW [] [j63, (a32.2.1 1), (a32.2.1 2)] [] [] [] []) (by omega) (by show ((j63 : Int32).toInt + 1).toNat < (j36.toInt + 1).toNat; omega)
            ·
              refine V_istore 68 B (lv2 := [(5, .int (nI n57)), (4, .int j36), (3, .int (a32.2.1 1)), (0, .ref h0), (1, .int (nI n4)), (2, .int (nI n18))]) dX12_shadowOf_68 (by decide) rfl ?_
              refine V_iload 70 B dX12_shadowOf_70 0 rfl ?_
              refine V_iconst 72 B (v := (-1)) dX12_shadowOf_72 (by decide +kernel) ?_
              refine V_icmp_ne 73 B 80 dX12_shadowOf_73 (by decide) (fun k66 => ?_) (fun k66 => ?_)
              ·
                have h67 := x_ne k66
                rw [nI_toInt (show n57 < 2 ^ 31 by omega)] at h67
                rw [show ((-1) : Int32).toInt = (-1) by decide +kernel] at h67
                refine V_iload 80 B dX12_shadowOf_80 0 rfl ?_
                refine V_istore_n 82 B (lv2 := [(3, .int (nI n57)), (5, .int (nI n57)), (4, .int j36), (0, .ref h0), (1, .int (nI n4)), (2, .int (nI n18))]) dX12_shadowOf_82 (by decide) rfl ?_
                refine V_aload_n 83 B dX12_shadowOf_83 3 rfl ?_
                refine V_get 84 B gf_RX12_9 0 rfl rfl dX12_shadowOf_84 ?_
                refine V_bipush 87 B (v := 16) dX12_shadowOf_87 (by decide +kernel) ?_
                refine V_iload 89 B dX12_shadowOf_89 2 rfl ?_
                obtain ⟨n68, h69, rfl⟩ := nat_of (x := j36) (n := 5) (by omega) (by omega)
                have e70 := nI_toInt (show n68 < 2 ^ 31 by omega)
                refine V_iadd 91 B (v := (nI (16 + n68))) dX12_shadowOf_91 (nI_addE (a := 16) (b := n68) (by omega)) ?_
                refine V_iald 92 B (v := f0 (16 + n68)) 1 rfl (vp_in_nI (n := 16 + n68) (by omega) (by decide)) dX12_shadowOf_92 (by rw [nI_clamp (show 16 + n68 < 2 ^ 31 by omega)]; exact rfl) ?_
                refine V_nmi (fun j71 e72 => ?_)
                have h73 : (-1) ≤ j71.toInt ∧ j71.toInt ≤ (((n68 : Nat) : Int) - 1) := by rw [e72]; exact ⟨INV_lo HI (by omega) (rl3 n68 (by omega)), INV_hi HI (by omega) (rl3 n68 (by omega))⟩
                refine V_istore 93 B (lv2 := [(4, .int j71), (3, .int (nI n57)), (5, .int (nI n57)), (0, .ref h0), (1, .int (nI n4)), (2, .int (nI n18))]) dX12_shadowOf_93 (by decide) rfl ?_
                refine V_goto 95 B 41 dX12_shadowOf_95 (by decide) ?_
                refine V_lv [(4, .int j71), (3, .int (nI n57)), (0, .ref h0), (1, .int (nI n4)), (2, .int (nI n18))] [0, 1, 3, 4, 5] rfl ?_
                exact IH33 (mkW [] [j71, (nI n57), (a32.2.1 2)] [] [] [] []) (by omega) (by show ((j71 : Int32).toInt + 1).toNat < (j36.toInt + 1).toNat; omega)
              ·
                have h74 := x_eq k66
                rw [nI_toInt (show n57 < 2 ^ 31 by omega)] at h74
                rw [show ((-1) : Int32).toInt = (-1) by decide +kernel] at h74
                refine V_iload_n 76 B dX12_shadowOf_76 2 rfl ?_
                refine V_goto 77 B 82 dX12_shadowOf_77 (by decide) ?_
                refine V_istore_n 82 B (lv2 := [(3, .int (a32.2.1 1)), (5, .int (nI n57)), (4, .int j36), (0, .ref h0), (1, .int (nI n4)), (2, .int (nI n18))]) dX12_shadowOf_82 (by decide) rfl ?_
                refine V_aload_n 83 B dX12_shadowOf_83 3 rfl ?_
                refine V_get 84 B gf_RX12_9 0 rfl rfl dX12_shadowOf_84 ?_
                refine V_bipush 87 B (v := 16) dX12_shadowOf_87 (by decide +kernel) ?_
                refine V_iload 89 B dX12_shadowOf_89 2 rfl ?_
                obtain ⟨n75, h76, rfl⟩ := nat_of (x := j36) (n := 5) (by omega) (by omega)
                have e77 := nI_toInt (show n75 < 2 ^ 31 by omega)
                refine V_iadd 91 B (v := (nI (16 + n75))) dX12_shadowOf_91 (nI_addE (a := 16) (b := n75) (by omega)) ?_
                refine V_iald 92 B (v := f0 (16 + n75)) 1 rfl (vp_in_nI (n := 16 + n75) (by omega) (by decide)) dX12_shadowOf_92 (by rw [nI_clamp (show 16 + n75 < 2 ^ 31 by omega)]; exact rfl) ?_
                refine V_nmi (fun j78 e79 => ?_)
                have h80 : (-1) ≤ j78.toInt ∧ j78.toInt ≤ (((n75 : Nat) : Int) - 1) := by rw [e79]; exact ⟨INV_lo HI (by omega) (rl3 n75 (by omega)), INV_hi HI (by omega) (rl3 n75 (by omega))⟩
                refine V_istore 93 B (lv2 := [(4, .int j78), (3, .int (a32.2.1 1)), (5, .int (nI n57)), (0, .ref h0), (1, .int (nI n4)), (2, .int (nI n18))]) dX12_shadowOf_93 (by decide) rfl ?_
                refine V_goto 95 B 41 dX12_shadowOf_95 (by decide) ?_
                refine V_lv [(4, .int j78), (3, .int (a32.2.1 1)), (0, .ref h0), (1, .int (nI n4)), (2, .int (nI n18))] [0, 1, 3, 4, 5] rfl ?_
                exact IH33 (mkW [] [j78, (a32.2.1 1), (a32.2.1 2)] [] [] [] []) (by omega) (by show ((j78 : Int32).toInt + 1).toNat < (j36.toInt + 1).toNat; omega))
