theorem dX12_meanCostBits_0 : decode cX12_meanCostBits 0 = .ok (.aload_n 0, 1) := by decide +kernel
theorem dX12_meanCostBits_1 : decode cX12_meanCostBits 1 = .ok (.iconst 0, 1) := by decide +kernel
theorem dX12_meanCostBits_2 : decode cX12_meanCostBits 2 = .ok (.putfield 38, 3) := by decide +kernel
theorem dX12_meanCostBits_5 : decode cX12_meanCostBits 5 = .ok (.aload_n 0, 1) := by decide +kernel
theorem dX12_meanCostBits_6 : decode cX12_meanCostBits 6 = .ok (.aload_n 0, 1) := by decide +kernel
theorem dX12_meanCostBits_7 : decode cX12_meanCostBits 7 = .ok (.iload_n 1, 1) := by decide +kernel
theorem dX12_meanCostBits_8 : decode cX12_meanCostBits 8 = .ok (.invokevirtual 91, 3) := by decide +kernel
theorem dX12_meanCostBits_11 : decode cX12_meanCostBits 11 = .ok (.ifCond .ne 7, 3) := by decide +kernel
theorem dX12_meanCostBits_14 : decode cX12_meanCostBits 14 = .ok (.iconst 1, 1) := by decide +kernel
theorem dX12_meanCostBits_15 : decode cX12_meanCostBits 15 = .ok (.goto 4, 3) := by decide +kernel
theorem dX12_meanCostBits_19 : decode cX12_meanCostBits 19 = .ok (.iconst 1, 1) := by decide +kernel
theorem dX12_meanCostBits_20 : decode cX12_meanCostBits 20 = .ok (.invokevirtual 69, 3) := by decide +kernel
theorem dX12_meanCostBits_23 : decode cX12_meanCostBits 23 = .ok (.ifCond .ne 24, 3) := by decide +kernel
theorem dX12_meanCostBits_47 : decode cX12_meanCostBits 47 = .ok (.iconst 0, 1) := by decide +kernel
theorem dX12_meanCostBits_48 : decode cX12_meanCostBits 48 = .ok (.ireturn, 1) := by decide +kernel
theorem dX12_meanCostBits_18 : decode cX12_meanCostBits 18 = .ok (.iconst 0, 1) := by decide +kernel
theorem dX12_meanCostBits_26 : decode cX12_meanCostBits 26 = .ok (.aload_n 0, 1) := by decide +kernel
theorem dX12_meanCostBits_27 : decode cX12_meanCostBits 27 = .ok (.aload_n 0, 1) := by decide +kernel
theorem dX12_meanCostBits_28 : decode cX12_meanCostBits 28 = .ok (.iload_n 1, 1) := by decide +kernel
theorem dX12_meanCostBits_29 : decode cX12_meanCostBits 29 = .ok (.invokevirtual 163, 3) := by decide +kernel
theorem dX12_meanCostBits_32 : decode cX12_meanCostBits 32 = .ok (.ifCond .ne 7, 3) := by decide +kernel
theorem dX12_meanCostBits_39 : decode cX12_meanCostBits 39 = .ok (.iconst 0, 1) := by decide +kernel
theorem dX12_meanCostBits_40 : decode cX12_meanCostBits 40 = .ok (.iconst 2, 1) := by decide +kernel
theorem dX12_meanCostBits_41 : decode cX12_meanCostBits 41 = .ok (.invokevirtual 69, 3) := by decide +kernel
theorem dX12_meanCostBits_44 : decode cX12_meanCostBits 44 = .ok (.ifCond .eq 5, 3) := by decide +kernel
theorem dX12_meanCostBits_49 : decode cX12_meanCostBits 49 = .ok (.iconst 0, 1) := by decide +kernel
theorem dX12_meanCostBits_50 : decode cX12_meanCostBits 50 = .ok (.istore_n 2, 1) := by decide +kernel
theorem dX12_meanCostBits_51 : decode cX12_meanCostBits 51 = .ok (.iconst 0, 1) := by decide +kernel
theorem dX12_meanCostBits_52 : decode cX12_meanCostBits 52 = .ok (.istore_n 3, 1) := by decide +kernel
theorem dX12_meanCostBits_53 : decode cX12_meanCostBits 53 = .ok (.iload_n 3, 1) := by decide +kernel
theorem dX12_meanCostBits_54 : decode cX12_meanCostBits 54 = .ok (.aload_n 0, 1) := by decide +kernel
theorem dX12_meanCostBits_55 : decode cX12_meanCostBits 55 = .ok (.getfield 9, 3) := by decide +kernel
theorem dX12_meanCostBits_58 : decode cX12_meanCostBits 58 = .ok (.iconst 3, 1) := by decide +kernel
theorem dX12_meanCostBits_59 : decode cX12_meanCostBits 59 = .ok (.iaload, 1) := by decide +kernel
theorem dX12_meanCostBits_60 : decode cX12_meanCostBits 60 = .ok (.if_icmp .ge 33, 3) := by decide +kernel
theorem dX12_meanCostBits_93 : decode cX12_meanCostBits 93 = .ok (.iload_n 2, 1) := by decide +kernel
theorem dX12_meanCostBits_94 : decode cX12_meanCostBits 94 = .ok (.i2f, 1) := by decide +kernel
theorem dX12_meanCostBits_95 : decode cX12_meanCostBits 95 = .ok (.aload_n 0, 1) := by decide +kernel
theorem dX12_meanCostBits_96 : decode cX12_meanCostBits 96 = .ok (.iload_n 1, 1) := by decide +kernel
theorem dX12_meanCostBits_97 : decode cX12_meanCostBits 97 = .ok (.invokevirtual 163, 3) := by decide +kernel
theorem dX12_meanCostBits_100 : decode cX12_meanCostBits 100 = .ok (.i2f, 1) := by decide +kernel
theorem dX12_meanCostBits_101 : decode cX12_meanCostBits 101 = .ok (.fdiv, 1) := by decide +kernel
theorem dX12_meanCostBits_102 : decode cX12_meanCostBits 102 = .ok (.invokestatic 175, 3) := by decide +kernel
theorem dJxf58ca_floatToIntBits_5c35a_0 : decode cJxf58ca_floatToIntBits_5c35a 0 = .ok (.fload_n 0, 1) := by decide +kernel
theorem dJxf58ca_floatToIntBits_5c35a_1 : decode cJxf58ca_floatToIntBits_5c35a 1 = .ok (.invokestatic 59, 3) := by decide +kernel
theorem dJxf58ca_isNaN_12338_0 : decode cJxf58ca_isNaN_12338 0 = .ok (.fload_n 0, 1) := by decide +kernel
theorem dJxf58ca_isNaN_12338_1 : decode cJxf58ca_isNaN_12338 1 = .ok (.fload_n 0, 1) := by decide +kernel
theorem dJxf58ca_isNaN_12338_2 : decode cJxf58ca_isNaN_12338 2 = .ok (.fcmp .l, 1) := by decide +kernel
theorem dJxf58ca_isNaN_12338_3 : decode cJxf58ca_isNaN_12338 3 = .ok (.ifCond .eq 7, 3) := by decide +kernel
theorem dJxf58ca_isNaN_12338_10 : decode cJxf58ca_isNaN_12338 10 = .ok (.iconst 0, 1) := by decide +kernel
theorem dJxf58ca_isNaN_12338_11 : decode cJxf58ca_isNaN_12338 11 = .ok (.ireturn, 1) := by decide +kernel
theorem dJxf58ca_isNaN_12338_6 : decode cJxf58ca_isNaN_12338 6 = .ok (.iconst 1, 1) := by decide +kernel
theorem dJxf58ca_isNaN_12338_7 : decode cJxf58ca_isNaN_12338 7 = .ok (.goto 4, 3) := by decide +kernel
set_option maxRecDepth 100000 in
set_option maxHeartbeats 4000000 in
theorem rJxf58ca_isNaN_12338 (l : Launch) (D : va_G) (Y : Nat → ClassId)  (s0 : UInt32) (hf0 : FP.Core.fIsNaN s0 = false) (sz : Nat) : Met l yJxf58ca_isNaN_12338 (WSm yJxf58ca_isNaN_12338 cJxf58ca_isNaN_12338 1 (some .boolean)) (mkR 0 0 0 0) (PreC D Y [.float s0] [] sz) (QI D (fun (r : Int32) (u : WU) => (r = 0 ∨ r = 1)) (fun (u : WU) => []) (va_A [] sz)) 0 0 (va_A [] sz) :=
  fmet_of  (by decide +kernel) (Nat.le_of_ble_eq_true rfl) (fun p e s m args below meth c B hin hsz => by
    have B : VB p s m args meth c D Y (va_A [] sz) cJxf58ca_isNaN_12338 1 RJxf58ca (some .boolean) := B
    refine V_fload_n 0 B dJxf58ca_isNaN_12338_0 0 rfl ?_
    refine V_fload_n 1 B dJxf58ca_isNaN_12338_1 0 rfl ?_
    refine V_fcmp 2 B dJxf58ca_isNaN_12338_2 (fun j0 => ?_)
    refine V_if_eq 3 B 10 dJxf58ca_isNaN_12338_3 (by decide) (fun kk1 => ?_) (fun kk1 => ?_)
    ·
      obtain rfl : j0 = 0 := kk1
      have e3 : (0 : Int32).toInt = 0 := by decide +kernel
      refine V_iconst 10 B (v := 0) dJxf58ca_isNaN_12338_10 (by decide +kernel) ?_
      exact V_zret 11 B rfl dJxf58ca_isNaN_12338_11 (mkW [] [] [] [] [] []) (Or.inl rfl) rfl
    ·
      have x4 := x_ne kk1
      rw [show (0 : Int32).toInt = 0 by decide +kernel] at x4
      refine V_iconst 6 B (v := 1) dJxf58ca_isNaN_12338_6 (by decide +kernel) ?_
      refine V_goto 7 B 11 dJxf58ca_isNaN_12338_7 (by decide) ?_
      exact V_zret 11 B rfl dJxf58ca_isNaN_12338_11 (mkW [] [] [] [] [] []) (Or.inr rfl) rfl)
theorem glS_RJxf58ca_59 : GLS RJxf58ca 59 yJxf58ca_isNaN_12338 cJxf58ca_isNaN_12338 1 (some .boolean) 1 := ⟨⟨(mT9 3 rfl rfl), (mT9 4 rfl rfl), (mT1 27 rfl rfl), (mT9 5 rfl rfl)⟩, by decide +kernel⟩
theorem dJxf58ca_floatToIntBits_5c35a_4 : decode cJxf58ca_floatToIntBits_5c35a 4 = .ok (.ifCond .ne 8, 3) := by decide +kernel
theorem dJxf58ca_floatToIntBits_5c35a_7 : decode cJxf58ca_floatToIntBits_5c35a 7 = .ok (.fload_n 0, 1) := by decide +kernel
theorem dJxf58ca_floatToIntBits_5c35a_8 : decode cJxf58ca_floatToIntBits_5c35a 8 = .ok (.invokestatic 74, 3) := by decide +kernel
theorem dJxf58ca_floatToIntBits_5c35a_11 : decode cJxf58ca_floatToIntBits_5c35a 11 = .ok (.ireturn, 1) := by decide +kernel
theorem dJxf58ca_floatToIntBits_5c35a_12 : decode cJxf58ca_floatToIntBits_5c35a 12 = .ok (.ldc 77, 2) := by decide +kernel
theorem dJxf58ca_floatToIntBits_5c35a_14 : decode cJxf58ca_floatToIntBits_5c35a 14 = .ok (.ireturn, 1) := by decide +kernel
set_option maxRecDepth 100000 in
set_option maxHeartbeats 4000000 in
theorem rJxf58ca_floatToIntBits_5c35a (l : Launch) (D : va_G) (Y : Nat → ClassId)  (s0 : UInt32) (hf0 : FP.Core.fIsNaN s0 = false) (sz : Nat) : Met l yJxf58ca_floatToIntBits_5c35a (WSm yJxf58ca_floatToIntBits_5c35a cJxf58ca_floatToIntBits_5c35a 1 (some .int)) (mkR 1 0 0 20) (PreC D Y [.float s0] [] sz) (QI D (fun (r : Int32) (u : WU) => True) (fun (u : WU) => []) (va_A [] sz)) 0 0 (va_A [] sz) :=
  fmet_of  (by decide +kernel) (Nat.le_of_ble_eq_true rfl) (fun p e s m args below meth c B hin hsz => by
    have B : VB p s m args meth c D Y (va_A [] sz) cJxf58ca_floatToIntBits_5c35a 1 RJxf58ca (some .int) := B
    refine V_fload_n 0 B dJxf58ca_floatToIntBits_5c35a_0 0 rfl ?_
    refine V_csi 1 B (st := []) (As := [.float s0]) (fun sz => rJxf58ca_isNaN_12338 l D Y s0 hf0 sz) glS_RJxf58ca_59 ⟨rfl, rfl⟩ ⟨(Nat.le_of_ble_eq_true rfl), (Nat.le_of_ble_eq_true rfl)⟩ ⟨(Nat.le_of_ble_eq_true rfl), (Nat.le_of_ble_eq_true rfl)⟩ [] rfl rfl (Nat.le_of_ble_eq_true rfl) rfl (fun _ _ _ => rfl) dJxf58ca_floatToIntBits_5c35a_1 (fun j0 u1 w2 => ?_)
    have x3 := w2
    clear w2
    rcases x3 with rfl | rfl
    ·
      refine V_if_ne_f 4 B 12 dJxf58ca_floatToIntBits_5c35a_4 (by decide) (by decide +kernel) ?_
      refine V_fload_n 7 B dJxf58ca_floatToIntBits_5c35a_7 0 rfl ?_
      refine V_f2raw 8 B (mT9 6 rfl rfl) (mT9 8 rfl rfl) (mT9 7 rfl rfl) (mT1 27 rfl rfl) (Nat.le_of_ble_eq_true rfl) (Nat.le_of_ble_eq_true rfl) dJxf58ca_floatToIntBits_5c35a_8 ?_
      refine V_nmi (fun j4 _ => ?_)
      exact V_iret 11 B dJxf58ca_floatToIntBits_5c35a_11 (mkW [] [] [] [] [] []) trivial rfl
    ·
      refine V_if_ne_t 4 B 12 dJxf58ca_floatToIntBits_5c35a_4 (by decide) (by decide +kernel) ?_
      refine V_ldc 12 B (v := 2143289344) dJxf58ca_floatToIntBits_5c35a_12 (mT9 9 rfl rfl) ?_
      exact V_iret 14 B dJxf58ca_floatToIntBits_5c35a_14 (mkW [] [] [] [] [] []) trivial rfl)
theorem glS_RX12_175 : GLS RX12 175 yJxf58ca_floatToIntBits_5c35a cJxf58ca_floatToIntBits_5c35a 1 (some .int) 1 := ⟨⟨(mT9 0 rfl rfl), (mT9 1 rfl rfl), (mT1 27 rfl rfl), (mT9 2 rfl rfl)⟩, by decide +kernel⟩
theorem dX12_meanCostBits_105 : decode cX12_meanCostBits 105 = .ok (.ireturn, 1) := by decide +kernel
theorem dX12_meanCostBits_63 : decode cX12_meanCostBits 63 = .ok (.iload_n 2, 1) := by decide +kernel
theorem dX12_meanCostBits_64 : decode cX12_meanCostBits 64 = .ok (.aload_n 0, 1) := by decide +kernel
theorem dX12_meanCostBits_65 : decode cX12_meanCostBits 65 = .ok (.iload_n 1, 1) := by decide +kernel
theorem dX12_meanCostBits_66 : decode cX12_meanCostBits 66 = .ok (.iload_n 3, 1) := by decide +kernel
theorem dX12_meanCostBits_67 : decode cX12_meanCostBits 67 = .ok (.invokevirtual 154, 3) := by decide +kernel
theorem dX12_meanCostBits_70 : decode cX12_meanCostBits 70 = .ok (.ifCond .eq 14, 3) := by decide +kernel
theorem dX12_meanCostBits_84 : decode cX12_meanCostBits 84 = .ok (.iconst 0, 1) := by decide +kernel
theorem dX12_meanCostBits_85 : decode cX12_meanCostBits 85 = .ok (.iadd, 1) := by decide +kernel
theorem dX12_meanCostBits_86 : decode cX12_meanCostBits 86 = .ok (.istore_n 2, 1) := by decide +kernel
theorem dX12_meanCostBits_87 : decode cX12_meanCostBits 87 = .ok (.iinc 3 1, 3) := by decide +kernel
theorem dX12_meanCostBits_90 : decode cX12_meanCostBits 90 = .ok (.goto (-37), 3) := by decide +kernel
theorem dX12_meanCostBits_73 : decode cX12_meanCostBits 73 = .ok (.aload_n 0, 1) := by decide +kernel
theorem dX12_meanCostBits_74 : decode cX12_meanCostBits 74 = .ok (.iload_n 3, 1) := by decide +kernel
theorem dX12_meanCostBits_75 : decode cX12_meanCostBits 75 = .ok (.invokestatic 85, 3) := by decide +kernel
theorem dX12_meanCostBits_78 : decode cX12_meanCostBits 78 = .ok (.invokevirtual 76, 3) := by decide +kernel
theorem dX12_meanCostBits_81 : decode cX12_meanCostBits 81 = .ok (.goto 4, 3) := by decide +kernel
theorem dX12_meanCostBits_35 : decode cX12_meanCostBits 35 = .ok (.iconst 1, 1) := by decide +kernel
theorem dX12_meanCostBits_36 : decode cX12_meanCostBits 36 = .ok (.goto 4, 3) := by decide +kernel
set_option maxRecDepth 100000 in
set_option maxHeartbeats 4000000 in
theorem rX12_meanCostBits (l : Launch) (D : va_G) (Y : Nat → ClassId) (h0 : Nat) (h1 : Nat) (h2 : Nat) (h3 : Nat) (h4 : Nat) (h5 : Nat) (h6 : Nat) (p2 : Int32) (k5 : Nat) (k6 : Nat) (p7 : Int32) (p8 : Int32) (p9 : Int32) (k10 : Nat) (p11 : Int32) (q12 : Int64) (k15 : Nat) (k16 : Nat) (f0 : Nat → Int32) (f1 : Nat → Int32) (f3 : Nat → Int32) (f4 : Nat → Int32) (f13 : Nat → Int32) (f14 : Nat → Int32) (ph : Nat → Int32) (HI : INV ph f0) (HL : k5 ≤ 1600) (HP : PLV f13) (s0 : Int32)  (sz : Nat) : Met l yX12_meanCostBits (WSm yX12_meanCostBits cX12_meanCostBits 4 (some .int)) (mkR 6 0 0 136) (PreC D Y [.ref h0, .int s0] [(h0, oC 13 [.ref h1, .ref h2, .int p2, .ref h3, .ref h4, .int (nI k5), .int (nI k6), .int p7, .int p8, .int p9, .int (nI k10), .int p11, .long q12, .ref h5, .ref h6, .int (nI k15), .int (nI k16)]), (h1, aI Y 3640 f0), (h2, aZ Y 2 f1), (h3, aZ Y 80 f3), (h4, aB Y 1600 f4), (h5, aI Y 200 f13), (h6, aI Y 800 f14)] sz) (QI D (fun (r : Int32) (u : WU) => True) (fun (u : WU) => [(h0, oC 13 [.ref h1, .ref h2, .int (u.2.1 0), .ref h3, .ref h4, .int (nI k5), .int (nI k6), .int p7, .int p8, .int p9, .int (nI k10), .int p11, .long q12, .ref h5, .ref h6, .int (nI k15), .int (nI k16)]), (h1, aI Y 3640 f0), (h2, aZ Y 2 f1), (h3, aZ Y 80 f3), (h4, aB Y 1600 f4), (h5, aI Y 200 f13), (h6, aI Y 800 f14)]) (va_A [(h0, oC 13 [.ref h1, .ref h2, .int p2, .ref h3, .ref h4, .int (nI k5), .int (nI k6), .int p7, .int p8, .int p9, .int (nI k10), .int p11, .long q12, .ref h5, .ref h6, .int (nI k15), .int (nI k16)]), (h1, aI Y 3640 f0), (h2, aZ Y 2 f1), (h3, aZ Y 80 f3), (h4, aB Y 1600 f4), (h5, aI Y 200 f13), (h6, aI Y 800 f14)] sz)) 0 0 (va_A [(h0, oC 13 [.ref h1, .ref h2, .int p2, .ref h3, .ref h4, .int (nI k5), .int (nI k6), .int p7, .int p8, .int p9, .int (nI k10), .int p11, .long q12, .ref h5, .ref h6, .int (nI k15), .int (nI k16)]), (h1, aI Y 3640 f0), (h2, aZ Y 2 f1), (h3, aZ Y 80 f3), (h4, aB Y 1600 f4), (h5, aI Y 200 f13), (h6, aI Y 800 f14)] sz) :=
  met_of  (by decide +kernel) (Nat.le_of_ble_eq_true rfl) (fun p e s m args below meth c B hin hsz => by
    have B : VB p s m args meth c D Y (va_A [(h0, oC 13 [.ref h1, .ref h2, .int p2, .ref h3, .ref h4, .int (nI k5), .int (nI k6), .int p7, .int p8, .int p9, .int (nI k10), .int p11, .long q12, .ref h5, .ref h6, .int (nI k15), .int (nI k16)]), (h1, aI Y 3640 f0), (h2, aZ Y 2 f1), (h3, aZ Y 80 f3), (h4, aB Y 1600 f4), (h5, aI Y 200 f13), (h6, aI Y 800 f14)] sz) cX12_meanCostBits 4 RX12 (some .int) := B
    refine V_aload_n 0 B dX12_meanCostBits_0 0 rfl ?_
    refine V_iconst 1 B (v := 0) dX12_meanCostBits_1 (by decide +kernel) ?_
    refine V_put 2 B gp_RX12_38 0 rfl (Nat.le_of_ble_eq_true rfl) rfl rfl dX12_meanCostBits_2 [(h0, oC 13 [.ref h1, .ref h2, .int 0, .ref h3, .ref h4, .int (nI k5), .int (nI k6), .int p7, .int p8, .int p9, .int (nI k10), .int p11, .long q12, .ref h5, .ref h6, .int (nI k15), .int (nI k16)]), (h1, aI Y 3640 f0), (h2, aZ Y 2 f1), (h3, aZ Y 80 f3), (h4, aB Y 1600 f4), (h5, aI Y 200 f13), (h6, aI Y 800 f14)] rfl ?_
    refine V_aload_n 5 B dX12_meanCostBits_5 0 rfl ?_
    refine V_aload_n 6 B dX12_meanCostBits_6 0 rfl ?_
    refine V_iload_n 7 B dX12_meanCostBits_7 1 rfl ?_
    refine V_cvi 8 B (st := [.ref h0]) (As := [.int s0]) (fun sz => rX12_isMode l D Y h0 h1 h2 h3 h4 h5 h6 0 k5 k6 p7 p8 p9 k10 p11 q12 k15 k16 f0 f1 f3 f4 f13 f14 ph HI (by omega) HP s0 sz) glV_RX12_91 ⟨rfl, rfl⟩ ⟨(Nat.le_of_ble_eq_true rfl), (Nat.le_of_ble_eq_true rfl)⟩ ⟨(Nat.le_of_ble_eq_true rfl), (Nat.le_of_ble_eq_true rfl)⟩ [0, 0, 0, 0, 0, 0, 0] rfl 13 0 rfl rfl rfl rfl (Nat.le_of_ble_eq_true rfl) rfl (fun _ _ _ => rfl) dX12_meanCostBits_8 (fun j0 u1 w2 => ?_)
    refine V_ws [(h0, oC 13 [.ref h1, .ref h2, .int 0, .ref h3, .ref h4, .int (nI k5), .int (nI k6), .int p7, .int p8, .int p9, .int (nI k10), .int p11, .long q12, .ref h5, .ref h6, .int (nI k15), .int (nI k16)]), (h1, aI Y 3640 f0), (h2, aZ Y 2 f1), (h3, aZ Y 80 f3), (h4, aB Y 1600 f4), (h5, aI Y 200 f13), (h6, aI Y 800 f14)] rfl ?_
    have x3 := w2
    clear w2
    have x7 : (gN f0 0) ≤ 6 := gN_le HI (by omega) (show bd 0 = (0, ((6 : Nat) : Int)) by decide +kernel)
    rcases x3 with rfl | ⟨rfl, n4, rfl, x6⟩
    ·
      refine V_if_ne_f 11 B 18 dX12_meanCostBits_11 (by decide) (by decide +kernel) ?_
      refine V_iconst 14 B (v := 1) dX12_meanCostBits_14 (by decide +kernel) ?_
      refine V_goto 15 B 19 dX12_meanCostBits_15 (by decide) ?_
      refine V_iconst 19 B (v := 1) dX12_meanCostBits_19 (by decide +kernel) ?_
      refine V_cvi 20 B (st := []) (As := [.int 1, .int 1]) (fun sz => rX12_throwsIf_1 l D Y h0 h1 h2 h3 h4 h5 h6 0 k5 k6 p7 p8 p9 k10 p11 q12 k15 k16 f0 f1 f3 f4 f13 f14 ph HI (by omega) HP 1 sz) glV_RX12_69 ⟨rfl, rfl⟩ ⟨(Nat.le_of_ble_eq_true rfl), (Nat.le_of_ble_eq_true rfl)⟩ ⟨(Nat.le_of_ble_eq_true rfl), (Nat.le_of_ble_eq_true rfl)⟩ [0, 0, 0, 0, 0, 0, 0] rfl 13 0 rfl rfl rfl rfl (Nat.le_of_ble_eq_true rfl) rfl (fun _ _ _ => rfl) dX12_meanCostBits_20 (fun j8 u9 w10 => ?_)
      refine V_ws [(h0, oC 13 [.ref h1, .ref h2, .int (u9.2.1 0), .ref h3, .ref h4, .int (nI k5), .int (nI k6), .int p7, .int p8, .int p9, .int (nI k10), .int p11, .long q12, .ref h5, .ref h6, .int (nI k15), .int (nI k16)]), (h1, aI Y 3640 f0), (h2, aZ Y 2 f1), (h3, aZ Y 80 f3), (h4, aB Y 1600 f4), (h5, aI Y 200 f13), (h6, aI Y 800 f14)] rfl ?_
      have x11 := w10
      clear w10
      obtain rfl := x11
      refine V_if_ne_t 23 B 47 dX12_meanCostBits_23 (by decide) (by decide +kernel) ?_
      refine V_iconst 47 B (v := 0) dX12_meanCostBits_47 (by decide +kernel) ?_
      exact V_iret 48 B dX12_meanCostBits_48 (mkW [] [(u9.2.1 0)] [] [] [] []) trivial rfl
    ·
      have e12 := nI_toInt (show n4 < 2 ^ 31 by omega)
      have x13 : (gN f0 0) ≤ 6 := gN_le HI (by omega) (show bd 0 = (0, ((6 : Nat) : Int)) by decide +kernel)
      refine V_if_ne_t 11 B 18 dX12_meanCostBits_11 (by decide) (by decide +kernel) ?_
      refine V_iconst 18 B (v := 0) dX12_meanCostBits_18 (by decide +kernel) ?_
      refine V_iconst 19 B (v := 1) dX12_meanCostBits_19 (by decide +kernel) ?_
      refine V_cvi 20 B (st := []) (As := [.int 0, .int 1]) (fun sz => rX12_throwsIf_0 l D Y h0 h1 h2 h3 h4 h5 h6 0 k5 k6 p7 p8 p9 k10 p11 q12 k15 k16 f0 f1 f3 f4 f13 f14 ph HI (by omega) HP 1 sz) glV_RX12_69 ⟨rfl, rfl⟩ ⟨(Nat.le_of_ble_eq_true rfl), (Nat.le_of_ble_eq_true rfl)⟩ ⟨(Nat.le_of_ble_eq_true rfl), (Nat.le_of_ble_eq_true rfl)⟩ [0, 0, 0, 0, 0, 0, 0] rfl 13 0 rfl rfl rfl rfl (Nat.le_of_ble_eq_true rfl) rfl (fun _ _ _ => rfl) dX12_meanCostBits_20 (fun j14 u15 w16 => ?_)
      refine V_ws [(h0, oC 13 [.ref h1, .ref h2, .int (u15.2.1 0), .ref h3, .ref h4, .int (nI k5), .int (nI k6), .int p7, .int p8, .int p9, .int (nI k10), .int p11, .long q12, .ref h5, .ref h6, .int (nI k15), .int (nI k16)]), (h1, aI Y 3640 f0), (h2, aZ Y 2 f1), (h3, aZ Y 80 f3), (h4, aB Y 1600 f4), (h5, aI Y 200 f13), (h6, aI Y 800 f14)] rfl ?_
      have x17 := w16
      clear w16
      obtain rfl := x17
      refine V_if_ne_f 23 B 47 dX12_meanCostBits_23 (by decide) (by decide +kernel) ?_
      refine V_aload_n 26 B dX12_meanCostBits_26 0 rfl ?_
      refine V_aload_n 27 B dX12_meanCostBits_27 0 rfl ?_
      refine V_iload_n 28 B dX12_meanCostBits_28 1 rfl ?_
      refine V_cvi 29 B (st := [.ref h0]) (As := [.int (nI n4)]) (fun sz => rX12_visibleCount l D Y h0 h1 h2 h3 h4 h5 h6 (u15.2.1 0) k5 k6 p7 p8 p9 k10 p11 q12 k15 k16 f0 f1 f3 f4 f13 f14 ph HI (by omega) HP (nI n4) (by rw [nI_toInt (show n4 < 2 ^ 31 by omega)]; omega) sz) glV_RX12_163 ⟨rfl, rfl⟩ ⟨(Nat.le_of_ble_eq_true rfl), (Nat.le_of_ble_eq_true rfl)⟩ ⟨(Nat.le_of_ble_eq_true rfl), (Nat.le_of_ble_eq_true rfl)⟩ [0, 0, 0, 0, 0, 0, 0] rfl 13 0 rfl rfl rfl rfl (Nat.le_of_ble_eq_true rfl) rfl (fun _ _ _ => rfl) dX12_meanCostBits_29 (fun j18 u19 w20 => ?_)
      refine V_ws [(h0, oC 13 [.ref h1, .ref h2, .int (u15.2.1 0), .ref h3, .ref h4, .int (nI k5), .int (nI k6), .int p7, .int p8, .int p9, .int (nI k10), .int p11, .long q12, .ref h5, .ref h6, .int (nI k15), .int (nI k16)]), (h1, aI Y 3640 f0), (h2, aZ Y 2 f1), (h3, aZ Y 80 f3), (h4, aB Y 1600 f4), (h5, aI Y 200 f13), (h6, aI Y 800 f14)] rfl ?_
      have x21 := w20
      clear w20
      obtain ⟨n22, rfl, x23, x24⟩ := x21
      refine V_if_ne 32 B 39 dX12_meanCostBits_32 (by decide) (fun kk25 => ?_) (fun kk25 => ?_)
      ·
        have x26 := n_ne (a := n22) (b := 0) kk25
        refine V_iconst 39 B (v := 0) dX12_meanCostBits_39 (by decide +kernel) ?_
        refine V_iconst 40 B (v := 2) dX12_meanCostBits_40 (by decide +kernel) ?_
        refine V_cvi 41 B (st := []) (As := [.int 0, .int 2]) (fun sz => rX12_throwsIf_0 l D Y h0 h1 h2 h3 h4 h5 h6 (u15.2.1 0) k5 k6 p7 p8 p9 k10 p11 q12 k15 k16 f0 f1 f3 f4 f13 f14 ph HI (by omega) HP 2 sz) glV_RX12_69 ⟨rfl, rfl⟩ ⟨(Nat.le_of_ble_eq_true rfl), (Nat.le_of_ble_eq_true rfl)⟩ ⟨(Nat.le_of_ble_eq_true rfl), (Nat.le_of_ble_eq_true rfl)⟩ [0, 0, 0, 0, 0, 0, 0] rfl 13 0 rfl rfl rfl rfl (Nat.le_of_ble_eq_true rfl) rfl (fun _ _ _ => rfl) dX12_meanCostBits_41 (fun j27 u28 w29 => ?_)
        refine V_ws [(h0, oC 13 [.ref h1, .ref h2, .int (u28.2.1 0), .ref h3, .ref h4, .int (nI k5), .int (nI k6), .int p7, .int p8, .int p9, .int (nI k10), .int p11, .long q12, .ref h5, .ref h6, .int (nI k15), .int (nI k16)]), (h1, aI Y 3640 f0), (h2, aZ Y 2 f1), (h3, aZ Y 80 f3), (h4, aB Y 1600 f4), (h5, aI Y 200 f13), (h6, aI Y 800 f14)] rfl ?_
        have x30 := w29
        clear w29
        obtain rfl := x30
        refine V_if_eq_t 44 B 49 dX12_meanCostBits_44 (by decide) (by decide +kernel) ?_
        refine V_iconst 49 B (v := 0) dX12_meanCostBits_49 (by decide +kernel) ?_
        refine V_istore_n 50 B (lv2 := [(2, .int 0), (0, .ref h0), (1, .int (nI n4))]) dX12_meanCostBits_50 (by decide) rfl ?_
        refine V_iconst 51 B (v := 0) dX12_meanCostBits_51 (by decide +kernel) ?_
        refine V_istore_n 52 B (lv2 := [(3, .int 0), (2, .int 0), (0, .ref h0), (1, .int (nI n4))]) dX12_meanCostBits_52 (by decide) rfl ?_
        refine V_wloop (α := WU) (fun a => 100000 - (a.1 0)) (fun a => (a.1 0) ≤ 4000) (fun a => [(3, .int (nI (a.1 0))), (2, .int (a.2.1 0)), (0, .ref h0), (1, .int (nI n4))]) (fun a => [(h0, oC 13 [.ref h1, .ref h2, .int (u28.2.1 0), .ref h3, .ref h4, .int (nI k5), .int (nI k6), .int p7, .int p8, .int p9, .int (nI k10), .int p11, .long q12, .ref h5, .ref h6, .int (nI k15), .int (nI k16)]), (h1, aI Y 3640 f0), (h2, aZ Y 2 f1), (h3, aZ Y 80 f3), (h4, aB Y 1600 f4), (h5, aI Y 200 f13), (h6, aI Y 800 f14)]) (mkW [0] [0] [] [] [] []) (show 0 ≤ 4000 by omega) rfl rfl (fun a31 hI33 IH32 => ?_)
        refine V_lv [(3, .int (nI (a31.1 0))), (2, .int (a31.2.1 0)), (0, .ref h0), (1, .int (nI n4))] [0, 1, 2, 3] rfl ?_
        refine V_ws [(h0, oC 13 [.ref h1, .ref h2, .int (u28.2.1 0), .ref h3, .ref h4, .int (nI k5), .int (nI k6), .int p7, .int p8, .int p9, .int (nI k10), .int p11, .long q12, .ref h5, .ref h6, .int (nI k15), .int (nI k16)]), (h1, aI Y 3640 f0), (h2, aZ Y 2 f1), (h3, aZ Y 80 f3), (h4, aB Y 1600 f4), (h5, aI Y 200 f13), (h6, aI Y 800 f14)] rfl ?_
        have x34 := hI33
        refine V_iload_n 53 B dX12_meanCostBits_53 0 rfl ?_
        refine V_aload_n 54 B dX12_meanCostBits_54 2 rfl ?_
        refine V_get 55 B gf_RX12_9 0 rfl rfl dX12_meanCostBits_55 ?_
        refine V_iconst 58 B (v := 3) dX12_meanCostBits_58 (by decide +kernel) ?_
        have x35 : (gN f0 3) ≤ 80 := gN_le HI (by omega) (show bd 3 = (0, ((80 : Nat) : Int)) by decide +kernel)
        refine V_iald 59 B (v := (nI (gN f0 3))) 1 rfl (vpin _ _ (by decide +kernel)) dX12_meanCostBits_59 (by show f0 3 = _; exact gN_eq HI (by omega) (show bd 3 = (0, ((80 : Nat) : Int)) by decide +kernel)) ?_
        refine V_icmp_ge 60 B 93 dX12_meanCostBits_60 (by decide) (fun kk36 => ?_) (fun kk36 => ?_)
        ·
          have x37 := n_le (a := (gN f0 3)) (b := (a31.1 0)) kk36 (by omega) (by omega)
          refine V_iload_n 93 B dX12_meanCostBits_93 1 rfl ?_
          refine V_i2f 94 B dX12_meanCostBits_94 rfl ?_
          refine V_aload_n 95 B dX12_meanCostBits_95 2 rfl ?_
          refine V_iload_n 96 B dX12_meanCostBits_96 3 rfl ?_
          refine V_cvi 97 B (st := [.float (FP.i2f (a31.2.1 0))]) (As := [.int (nI n4)]) (fun sz => rX12_visibleCount l D Y h0 h1 h2 h3 h4 h5 h6 (u28.2.1 0) k5 k6 p7 p8 p9 k10 p11 q12 k15 k16 f0 f1 f3 f4 f13 f14 ph HI (by omega) HP (nI n4) (by rw [nI_toInt (show n4 < 2 ^ 31 by omega)]; omega) sz) glV_RX12_163 ⟨rfl, rfl⟩ ⟨(Nat.le_of_ble_eq_true rfl), (Nat.le_of_ble_eq_true rfl)⟩ ⟨(Nat.le_of_ble_eq_true rfl), (Nat.le_of_ble_eq_true rfl)⟩ [0, 0, 0, 0, 0, 0, 0] rfl 13 0 rfl rfl rfl rfl (Nat.le_of_ble_eq_true rfl) rfl (fun _ _ _ => rfl) dX12_meanCostBits_97 (fun j38 u39 w40 => ?_)
          refine V_ws [(h0, oC 13 [.ref h1, .ref h2, .int (u28.2.1 0), .ref h3, .ref h4, .int (nI k5), .int (nI k6), .int p7, .int p8, .int p9, .int (nI k10), .int p11, .long q12, .ref h5, .ref h6, .int (nI k15), .int (nI k16)]), (h1, aI Y 3640 f0), (h2, aZ Y 2 f1), (h3, aZ Y 80 f3), (h4, aB Y 1600 f4), (h5, aI Y 200 f13), (h6, aI Y 800 f14)] rfl ?_
          have x41 := w40
          clear w40
          obtain ⟨n42, rfl, x43, x44⟩ := x41
          refine V_i2f 100 B dX12_meanCostBits_100 rfl ?_
          have x45 : 0 < n42 := x44.mpr (x24.mp (by omega))
          refine V_fdiv 101 B dX12_meanCostBits_101 (n32_of (nn_divi (nn_i2f (a31.2.1 0)) (fun z9 => nI_ne0 (n := n42) (by omega) (by omega) z9))) rfl ?_
          refine V_csi 102 B (st := []) (As := [.float (FP.fdiv (FP.i2f (a31.2.1 0)) (FP.i2f (nI n42)))]) (fun sz => rJxf58ca_floatToIntBits_5c35a l D Y (FP.fdiv (FP.i2f (a31.2.1 0)) (FP.i2f (nI n42))) (nn_divi (nn_i2f (a31.2.1 0)) (fun z9 => nI_ne0 (n := n42) (by omega) (by omega) z9)) sz) glS_RX12_175 ⟨rfl, rfl⟩ ⟨(Nat.le_of_ble_eq_true rfl), (Nat.le_of_ble_eq_true rfl)⟩ ⟨(Nat.le_of_ble_eq_true rfl), (Nat.le_of_ble_eq_true rfl)⟩ [] rfl rfl (Nat.le_of_ble_eq_true rfl) rfl (fun _ _ _ => rfl) dX12_meanCostBits_102 (fun j46 u47 w48 => ?_)
          refine V_ws [(h0, oC 13 [.ref h1, .ref h2, .int (u28.2.1 0), .ref h3, .ref h4, .int (nI k5), .int (nI k6), .int p7, .int p8, .int p9, .int (nI k10), .int p11, .long q12, .ref h5, .ref h6, .int (nI k15), .int (nI k16)]), (h1, aI Y 3640 f0), (h2, aZ Y 2 f1), (h3, aZ Y 80 f3), (h4, aB Y 1600 f4), (h5, aI Y 200 f13), (h6, aI Y 800 f14)] rfl ?_
          exact V_iret 105 B dX12_meanCostBits_105 (mkW [] [(u28.2.1 0)] [] [] [] []) trivial rfl
        ·
          have x49 := n_nle (a := (gN f0 3)) (b := (a31.1 0)) kk36 (by omega) (by omega)
          refine V_iload_n 63 B dX12_meanCostBits_63 1 rfl ?_
          refine V_aload_n 64 B dX12_meanCostBits_64 2 rfl ?_
          refine V_iload_n 65 B dX12_meanCostBits_65 3 rfl ?_
          refine V_iload_n 66 B dX12_meanCostBits_66 0 rfl ?_
          refine V_cvi 67 B (st := [.int (a31.2.1 0)]) (As := [.int (nI n4), .int (nI (a31.1 0))]) (fun sz => rX12_isVisible l D Y h0 h1 h2 h3 h4 h5 h6 (u28.2.1 0) k5 k6 p7 p8 p9 k10 p11 q12 k15 k16 f0 f1 f3 f4 f13 f14 ph HI (by omega) HP (nI n4) (a31.1 0) (by rw [nI_toInt (show n4 < 2 ^ 31 by omega)]; omega) (by omega) sz) glV_RX12_154 ⟨rfl, rfl⟩ ⟨(Nat.le_of_ble_eq_true rfl), (Nat.le_of_ble_eq_true rfl)⟩ ⟨(Nat.le_of_ble_eq_true rfl), (Nat.le_of_ble_eq_true rfl)⟩ [0, 0, 0, 0, 0, 0, 0] rfl 13 0 rfl rfl rfl rfl (Nat.le_of_ble_eq_true rfl) rfl (fun _ _ _ => rfl) dX12_meanCostBits_67 (fun j50 u51 w52 => ?_)
          refine V_ws [(h0, oC 13 [.ref h1, .ref h2, .int (u28.2.1 0), .ref h3, .ref h4, .int (nI k5), .int (nI k6), .int p7, .int p8, .int p9, .int (nI k10), .int p11, .long q12, .ref h5, .ref h6, .int (nI k15), .int (nI k16)]), (h1, aI Y 3640 f0), (h2, aZ Y 2 f1), (h3, aZ Y 80 f3), (h4, aB Y 1600 f4), (h5, aI Y 200 f13), (h6, aI Y 800 f14)] rfl ?_
          have x53 := w52
          clear w52
          rcases x53 with ⟨rfl, x54⟩ | ⟨rfl, x54⟩
          ·
            refine V_if_eq_t 70 B 84 dX12_meanCostBits_70 (by decide) (by decide +kernel) ?_
            refine V_iconst 84 B (v := 0) dX12_meanCostBits_84 (by decide +kernel) ?_
            refine V_iadd 85 B (v := (a31.2.1 0)) dX12_meanCostBits_85 (Int32.add_zero _) ?_
            refine V_istore_n 86 B (lv2 := [(2, .int (a31.2.1 0)), (3, .int (nI (a31.1 0))), (0, .ref h0), (1, .int (nI n4))]) dX12_meanCostBits_86 (by decide) rfl ?_
            refine V_iinc 87 B (v := (nI (1 + (a31.1 0)))) (lv2 := [(3, .int (nI (1 + (a31.1 0)))), (2, .int (a31.2.1 0)), (0, .ref h0), (1, .int (nI n4))]) dX12_meanCostBits_87 1 rfl (nI_addE (a := (a31.1 0)) (b := 1) (by omega)) (by decide) rfl ?_
            refine V_goto 90 B 53 dX12_meanCostBits_90 (by decide) ?_
            refine V_lv [(3, .int (nI (1 + (a31.1 0)))), (2, .int (a31.2.1 0)), (0, .ref h0), (1, .int (nI n4))] [0, 1, 2, 3] rfl ?_
            exact IH32 (mkW [1 + (a31.1 0)] [(a31.2.1 0)] [] [] [] []) (show 1 + (a31.1 0) ≤ 4000 by omega) (by show 100000 - (1 + (a31.1 0)) < 100000 - (a31.1 0); omega)
          ·
            refine V_if_eq_f 70 B 84 dX12_meanCostBits_70 (by decide) (by decide +kernel) ?_
            refine V_aload_n 73 B dX12_meanCostBits_73 2 rfl ?_
            refine V_iload_n 74 B dX12_meanCostBits_74 0 rfl ?_
            refine V_csi 75 B (st := [.ref h0, .int (a31.2.1 0)]) (As := [.int (nI (a31.1 0))]) (fun sz => rX12_sequenceOf l D Y (a31.1 0) (by omega) sz) glS_RX12_85 ⟨rfl, rfl⟩ ⟨(Nat.le_of_ble_eq_true rfl), (Nat.le_of_ble_eq_true rfl)⟩ ⟨(Nat.le_of_ble_eq_true rfl), (Nat.le_of_ble_eq_true rfl)⟩ [] rfl rfl (Nat.le_of_ble_eq_true rfl) rfl (fun _ _ _ => rfl) dX12_meanCostBits_75 (fun j55 u56 w57 => ?_)
            refine V_ws [(h0, oC 13 [.ref h1, .ref h2, .int (u28.2.1 0), .ref h3, .ref h4, .int (nI k5), .int (nI k6), .int p7, .int p8, .int p9, .int (nI k10), .int p11, .long q12, .ref h5, .ref h6, .int (nI k15), .int (nI k16)]), (h1, aI Y 3640 f0), (h2, aZ Y 2 f1), (h3, aZ Y 80 f3), (h4, aB Y 1600 f4), (h5, aI Y 200 f13), (h6, aI Y 800 f14)] rfl ?_
            have x58 := w57
            clear w57
            obtain rfl := x58
            refine V_cvi 78 B (st := [.int (a31.2.1 0)]) (As := [.int (nI (186 + 7 * (a31.1 0)))]) (fun sz => rX12_costOf l D Y h0 h1 h2 h3 h4 h5 h6 (u28.2.1 0) k5 k6 p7 p8 p9 k10 p11 q12 k15 k16 f0 f1 f3 f4 f13 f14 ph HI (by omega) HP (186 + 7 * (a31.1 0)) (rl5 (a31.1 0) (by omega)) sz) glV_RX12_76 ⟨rfl, rfl⟩ ⟨(Nat.le_of_ble_eq_true rfl), (Nat.le_of_ble_eq_true rfl)⟩ ⟨(Nat.le_of_ble_eq_true rfl), (Nat.le_of_ble_eq_true rfl)⟩ [0, 0, 0, 0, 0, 0, 0] rfl 13 0 rfl rfl rfl rfl (Nat.le_of_ble_eq_true rfl) rfl (fun _ _ _ => rfl) dX12_meanCostBits_78 (fun j59 u60 w61 => ?_)
            refine V_ws [(h0, oC 13 [.ref h1, .ref h2, .int (u28.2.1 0), .ref h3, .ref h4, .int (nI k5), .int (nI k6), .int p7, .int p8, .int p9, .int (nI k10), .int p11, .long q12, .ref h5, .ref h6, .int (nI k15), .int (nI k16)]), (h1, aI Y 3640 f0), (h2, aZ Y 2 f1), (h3, aZ Y 80 f3), (h4, aB Y 1600 f4), (h5, aI Y 200 f13), (h6, aI Y 800 f14)] rfl ?_
            refine V_goto 81 B 85 dX12_meanCostBits_81 (by decide) ?_
            refine V_iadd 85 B dX12_meanCostBits_85 rfl ?_
            refine V_nmi (fun j62 e63 => ?_)
            refine V_istore_n 86 B (lv2 := [(2, .int j62), (3, .int (nI (a31.1 0))), (0, .ref h0), (1, .int (nI n4))]) dX12_meanCostBits_86 (by decide) rfl ?_
            refine V_iinc 87 B (v := (nI (1 + (a31.1 0)))) (lv2 := [(3, .int (nI (1 + (a31.1 0)))), (2, .int j62), (0, .ref h0), (1, .int (nI n4))]) dX12_meanCostBits_87 1 rfl (nI_addE (a := (a31.1 0)) (b := 1) (by omega)) (by decide) rfl ?_
            refine V_goto 90 B 53 dX12_meanCostBits_90 (by decide) ?_
            refine V_lv [(3, .int (nI (1 + (a31.1 0)))), (2, .int j62), (0, .ref h0), (1, .int (nI n4))] [0, 1, 2, 3] rfl ?_
            exact IH32 (mkW [1 + (a31.1 0)] [j62] [] [] [] []) (show 1 + (a31.1 0) ≤ 4000 by omega) (by show 100000 - (1 + (a31.1 0)) < 100000 - (a31.1 0); omega)
      ·
        have x64 := n_eq (a := n22) (b := 0) kk25 (by omega) (by omega)
        refine V_iconst 35 B (v := 1) dX12_meanCostBits_35 (by decide +kernel) ?_
        refine V_goto 36 B 40 dX12_meanCostBits_36 (by decide) ?_
        refine V_iconst 40 B (v := 2) dX12_meanCostBits_40 (by decide +kernel) ?_
        refine V_cvi 41 B (st := []) (As := [.int 1, .int 2]) (fun sz => rX12_throwsIf_1 l D Y h0 h1 h2 h3 h4 h5 h6 (u15.2.1 0) k5 k6 p7 p8 p9 k10 p11 q12 k15 k16 f0 f1 f3 f4 f13 f14 ph HI (by omega) HP 2 sz) glV_RX12_69 ⟨rfl, rfl⟩ ⟨(Nat.le_of_ble_eq_true rfl), (Nat.le_of_ble_eq_true rfl)⟩ ⟨(Nat.le_of_ble_eq_true rfl), (Nat.le_of_ble_eq_true rfl)⟩ [0, 0, 0, 0, 0, 0, 0] rfl 13 0 rfl rfl rfl rfl (Nat.le_of_ble_eq_true rfl) rfl (fun _ _ _ => rfl) dX12_meanCostBits_41 (fun j65 u66 w67 => ?_)
        refine V_ws [(h0, oC 13 [.ref h1, .ref h2, .int (u66.2.1 0), .ref h3, .ref h4, .int (nI k5), .int (nI k6), .int p7, .int p8, .int p9, .int (nI k10), .int p11, .long q12, .ref h5, .ref h6, .int (nI k15), .int (nI k16)]), (h1, aI Y 3640 f0), (h2, aZ Y 2 f1), (h3, aZ Y 80 f3), (h4, aB Y 1600 f4), (h5, aI Y 200 f13), (h6, aI Y 800 f14)] rfl ?_
        have x68 := w67
        clear w67
        obtain rfl := x68
        refine V_if_eq_f 44 B 49 dX12_meanCostBits_44 (by decide) (by decide +kernel) ?_
        refine V_iconst 47 B (v := 0) dX12_meanCostBits_47 (by decide +kernel) ?_
        exact V_iret 48 B dX12_meanCostBits_48 (mkW [] [(u66.2.1 0)] [] [] [] []) trivial rfl)
theorem dX12_clashPairs_0 : decode cX12_clashPairs 0 = .ok (.aload_n 0, 1) := by decide +kernel
theorem dX12_clashPairs_1 : decode cX12_clashPairs 1 = .ok (.iconst 0, 1) := by decide +kernel
theorem dX12_clashPairs_2 : decode cX12_clashPairs 2 = .ok (.putfield 38, 3) := by decide +kernel
theorem dX12_clashPairs_5 : decode cX12_clashPairs 5 = .ok (.aload_n 0, 1) := by decide +kernel
theorem dX12_clashPairs_6 : decode cX12_clashPairs 6 = .ok (.aload_n 0, 1) := by decide +kernel
theorem dX12_clashPairs_7 : decode cX12_clashPairs 7 = .ok (.iload_n 1, 1) := by decide +kernel
theorem dX12_clashPairs_8 : decode cX12_clashPairs 8 = .ok (.invokevirtual 91, 3) := by decide +kernel
theorem dX12_clashPairs_11 : decode cX12_clashPairs 11 = .ok (.ifCond .eq 11, 3) := by decide +kernel
theorem dX12_clashPairs_22 : decode cX12_clashPairs 22 = .ok (.iconst 1, 1) := by decide +kernel
theorem dX12_clashPairs_23 : decode cX12_clashPairs 23 = .ok (.goto 4, 3) := by decide +kernel
theorem dX12_clashPairs_27 : decode cX12_clashPairs 27 = .ok (.iconst 1, 1) := by decide +kernel
theorem dX12_clashPairs_28 : decode cX12_clashPairs 28 = .ok (.invokevirtual 69, 3) := by decide +kernel
theorem dX12_clashPairs_31 : decode cX12_clashPairs 31 = .ok (.ifCond .ne 21, 3) := by decide +kernel
theorem dX12_clashPairs_52 : decode cX12_clashPairs 52 = .ok (.iconst 0, 1) := by decide +kernel
theorem dX12_clashPairs_53 : decode cX12_clashPairs 53 = .ok (.ireturn, 1) := by decide +kernel
theorem dX12_clashPairs_14 : decode cX12_clashPairs 14 = .ok (.aload_n 0, 1) := by decide +kernel
theorem dX12_clashPairs_15 : decode cX12_clashPairs 15 = .ok (.iload_n 2, 1) := by decide +kernel
theorem dX12_clashPairs_16 : decode cX12_clashPairs 16 = .ok (.invokevirtual 91, 3) := by decide +kernel
theorem dX12_clashPairs_19 : decode cX12_clashPairs 19 = .ok (.ifCond .ne 7, 3) := by decide +kernel
theorem dX12_clashPairs_26 : decode cX12_clashPairs 26 = .ok (.iconst 0, 1) := by decide +kernel
theorem dX12_clashPairs_34 : decode cX12_clashPairs 34 = .ok (.aload_n 0, 1) := by decide +kernel
theorem dX12_clashPairs_35 : decode cX12_clashPairs 35 = .ok (.iload_n 1, 1) := by decide +kernel
theorem dX12_clashPairs_36 : decode cX12_clashPairs 36 = .ok (.iload_n 2, 1) := by decide +kernel
theorem dX12_clashPairs_37 : decode cX12_clashPairs 37 = .ok (.if_icmp .ne 7, 3) := by decide +kernel
theorem dX12_clashPairs_44 : decode cX12_clashPairs 44 = .ok (.iconst 0, 1) := by decide +kernel
theorem dX12_clashPairs_45 : decode cX12_clashPairs 45 = .ok (.iconst 2, 1) := by decide +kernel
theorem dX12_clashPairs_46 : decode cX12_clashPairs 46 = .ok (.invokevirtual 69, 3) := by decide +kernel
theorem dX12_clashPairs_49 : decode cX12_clashPairs 49 = .ok (.ifCond .eq 5, 3) := by decide +kernel
theorem dX12_clashPairs_54 : decode cX12_clashPairs 54 = .ok (.iconst 0, 1) := by decide +kernel
theorem dX12_clashPairs_55 : decode cX12_clashPairs 55 = .ok (.istore_n 3, 1) := by decide +kernel
theorem dX12_clashPairs_56 : decode cX12_clashPairs 56 = .ok (.iconst 0, 1) := by decide +kernel
theorem dX12_clashPairs_57 : decode cX12_clashPairs 57 = .ok (.istore 4, 2) := by decide +kernel
theorem dX12_clashPairs_59 : decode cX12_clashPairs 59 = .ok (.iload 4, 2) := by decide +kernel
theorem dX12_clashPairs_61 : decode cX12_clashPairs 61 = .ok (.aload_n 0, 1) := by decide +kernel
theorem dX12_clashPairs_62 : decode cX12_clashPairs 62 = .ok (.getfield 9, 3) := by decide +kernel
theorem dX12_clashPairs_65 : decode cX12_clashPairs 65 = .ok (.iconst 3, 1) := by decide +kernel
theorem dX12_clashPairs_66 : decode cX12_clashPairs 66 = .ok (.iaload, 1) := by decide +kernel
theorem dX12_clashPairs_67 : decode cX12_clashPairs 67 = .ok (.if_icmp .ge 32, 3) := by decide +kernel
theorem dX12_clashPairs_99 : decode cX12_clashPairs 99 = .ok (.iload_n 3, 1) := by decide +kernel
theorem dX12_clashPairs_100 : decode cX12_clashPairs 100 = .ok (.ireturn, 1) := by decide +kernel
theorem dX12_clashPairs_70 : decode cX12_clashPairs 70 = .ok (.aload_n 0, 1) := by decide +kernel
theorem dX12_clashPairs_71 : decode cX12_clashPairs 71 = .ok (.iload 4, 2) := by decide +kernel
theorem dX12_clashPairs_73 : decode cX12_clashPairs 73 = .ok (.invokevirtual 115, 3) := by decide +kernel
theorem dX12_clashPairs_76 : decode cX12_clashPairs 76 = .ok (.iload_n 1, 1) := by decide +kernel
theorem dX12_clashPairs_77 : decode cX12_clashPairs 77 = .ok (.if_icmp .ne 16, 3) := by decide +kernel
theorem dX12_clashPairs_93 : decode cX12_clashPairs 93 = .ok (.iinc 4 1, 3) := by decide +kernel
theorem dX12_clashPairs_96 : decode cX12_clashPairs 96 = .ok (.goto (-37), 3) := by decide +kernel
theorem dX12_clashPairs_80 : decode cX12_clashPairs 80 = .ok (.iload_n 3, 1) := by decide +kernel
theorem dX12_clashPairs_81 : decode cX12_clashPairs 81 = .ok (.aload_n 0, 1) := by decide +kernel
theorem dX12_clashPairs_82 : decode cX12_clashPairs 82 = .ok (.iload_n 2, 1) := by decide +kernel
theorem dX12_clashPairs_83 : decode cX12_clashPairs 83 = .ok (.iload 4, 2) := by decide +kernel
theorem dX12_clashPairs_85 : decode cX12_clashPairs 85 = .ok (.invokestatic 85, 3) := by decide +kernel
theorem dX12_clashPairs_88 : decode cX12_clashPairs 88 = .ok (.invokevirtual 139, 3) := by decide +kernel
theorem dX12_clashPairs_91 : decode cX12_clashPairs 91 = .ok (.iadd, 1) := by decide +kernel
theorem dX12_clashPairs_92 : decode cX12_clashPairs 92 = .ok (.istore_n 3, 1) := by decide +kernel
theorem dX12_clashPairs_40 : decode cX12_clashPairs 40 = .ok (.iconst 1, 1) := by decide +kernel
theorem dX12_clashPairs_41 : decode cX12_clashPairs 41 = .ok (.goto 4, 3) := by decide +kernel
set_option maxRecDepth 100000 in
set_option maxHeartbeats 4000000 in
theorem rX12_clashPairs (l : Launch) (D : va_G) (Y : Nat → ClassId) (h0 : Nat) (h1 : Nat) (h2 : Nat) (h3 : Nat) (h4 : Nat) (h5 : Nat) (h6 : Nat) (p2 : Int32) (k5 : Nat) (k6 : Nat) (p7 : Int32) (p8 : Int32) (p9 : Int32) (k10 : Nat) (p11 : Int32) (q12 : Int64) (k15 : Nat) (k16 : Nat) (f0 : Nat → Int32) (f1 : Nat → Int32) (f3 : Nat → Int32) (f4 : Nat → Int32) (f13 : Nat → Int32) (f14 : Nat → Int32) (ph : Nat → Int32) (HI : INV ph f0) (HL : k5 ≤ 1600) (HP : PLV f13) (s0 : Int32) (s1 : Int32)  (sz : Nat) : Met l yX12_clashPairs (WSm yX12_clashPairs cX12_clashPairs 5 (some .int)) (mkR 4 0 0 90) (PreC D Y [.ref h0, .int s0, .int s1] [(h0, oC 13 [.ref h1, .ref h2, .int p2, .ref h3, .ref h4, .int (nI k5), .int (nI k6), .int p7, .int p8, .int p9, .int (nI k10), .int p11, .long q12, .ref h5, .ref h6, .int (nI k15), .int (nI k16)]), (h1, aI Y 3640 f0), (h2, aZ Y 2 f1), (h3, aZ Y 80 f3), (h4, aB Y 1600 f4), (h5, aI Y 200 f13), (h6, aI Y 800 f14)] sz) (QI D (fun (r : Int32) (u : WU) => True) (fun (u : WU) => [(h0, oC 13 [.ref h1, .ref h2, .int (u.2.1 0), .ref h3, .ref h4, .int (nI k5), .int (nI k6), .int p7, .int p8, .int p9, .int (nI k10), .int p11, .long q12, .ref h5, .ref h6, .int (nI k15), .int (nI k16)]), (h1, aI Y 3640 f0), (h2, aZ Y 2 f1), (h3, aZ Y 80 f3), (h4, aB Y 1600 f4), (h5, aI Y 200 f13), (h6, aI Y 800 f14)]) (va_A [(h0, oC 13 [.ref h1, .ref h2, .int p2, .ref h3, .ref h4, .int (nI k5), .int (nI k6), .int p7, .int p8, .int p9, .int (nI k10), .int p11, .long q12, .ref h5, .ref h6, .int (nI k15), .int (nI k16)]), (h1, aI Y 3640 f0), (h2, aZ Y 2 f1), (h3, aZ Y 80 f3), (h4, aB Y 1600 f4), (h5, aI Y 200 f13), (h6, aI Y 800 f14)] sz)) 0 0 (va_A [(h0, oC 13 [.ref h1, .ref h2, .int p2, .ref h3, .ref h4, .int (nI k5), .int (nI k6), .int p7, .int p8, .int p9, .int (nI k10), .int p11, .long q12, .ref h5, .ref h6, .int (nI k15), .int (nI k16)]), (h1, aI Y 3640 f0), (h2, aZ Y 2 f1), (h3, aZ Y 80 f3), (h4, aB Y 1600 f4), (h5, aI Y 200 f13), (h6, aI Y 800 f14)] sz) :=
  met_of  (by decide +kernel) (Nat.le_of_ble_eq_true rfl) (fun p e s m args below meth c B hin hsz => by
    have B : VB p s m args meth c D Y (va_A [(h0, oC 13 [.ref h1, .ref h2, .int p2, .ref h3, .ref h4, .int (nI k5), .int (nI k6), .int p7, .int p8, .int p9, .int (nI k10), .int p11, .long q12, .ref h5, .ref h6, .int (nI k15), .int (nI k16)]), (h1, aI Y 3640 f0), (h2, aZ Y 2 f1), (h3, aZ Y 80 f3), (h4, aB Y 1600 f4), (h5, aI Y 200 f13), (h6, aI Y 800 f14)] sz) cX12_clashPairs 5 RX12 (some .int) := B
    refine V_aload_n 0 B dX12_clashPairs_0 0 rfl ?_
    refine V_iconst 1 B (v := 0) dX12_clashPairs_1 (by decide +kernel) ?_
    refine V_put 2 B gp_RX12_38 0 rfl (Nat.le_of_ble_eq_true rfl) rfl rfl dX12_clashPairs_2 [(h0, oC 13 [.ref h1, .ref h2, .int 0, .ref h3, .ref h4, .int (nI k5), .int (nI k6), .int p7, .int p8, .int p9, .int (nI k10), .int p11, .long q12, .ref h5, .ref h6, .int (nI k15), .int (nI k16)]), (h1, aI Y 3640 f0), (h2, aZ Y 2 f1), (h3, aZ Y 80 f3), (h4, aB Y 1600 f4), (h5, aI Y 200 f13), (h6, aI Y 800 f14)] rfl ?_
    refine V_aload_n 5 B dX12_clashPairs_5 0 rfl ?_
    refine V_aload_n 6 B dX12_clashPairs_6 0 rfl ?_
    refine V_iload_n 7 B dX12_clashPairs_7 1 rfl ?_
    refine V_cvi 8 B (st := [.ref h0]) (As := [.int s0]) (fun sz => rX12_isMode l D Y h0 h1 h2 h3 h4 h5 h6 0 k5 k6 p7 p8 p9 k10 p11 q12 k15 k16 f0 f1 f3 f4 f13 f14 ph HI (by omega) HP s0 sz) glV_RX12_91 ⟨rfl, rfl⟩ ⟨(Nat.le_of_ble_eq_true rfl), (Nat.le_of_ble_eq_true rfl)⟩ ⟨(Nat.le_of_ble_eq_true rfl), (Nat.le_of_ble_eq_true rfl)⟩ [0, 0, 0, 0, 0, 0, 0] rfl 13 0 rfl rfl rfl rfl (Nat.le_of_ble_eq_true rfl) rfl (fun _ _ _ => rfl) dX12_clashPairs_8 (fun j0 u1 w2 => ?_)
    refine V_ws [(h0, oC 13 [.ref h1, .ref h2, .int 0, .ref h3, .ref h4, .int (nI k5), .int (nI k6), .int p7, .int p8, .int p9, .int (nI k10), .int p11, .long q12, .ref h5, .ref h6, .int (nI k15), .int (nI k16)]), (h1, aI Y 3640 f0), (h2, aZ Y 2 f1), (h3, aZ Y 80 f3), (h4, aB Y 1600 f4), (h5, aI Y 200 f13), (h6, aI Y 800 f14)] rfl ?_
    have x3 := w2
    clear w2
    have x7 : (gN f0 0) ≤ 6 := gN_le HI (by omega) (show bd 0 = (0, ((6 : Nat) : Int)) by decide +kernel)
    rcases x3 with rfl | ⟨rfl, n4, rfl, x6⟩
    ·
      refine V_if_eq_t 11 B 22 dX12_clashPairs_11 (by decide) (by decide +kernel) ?_
      refine V_iconst 22 B (v := 1) dX12_clashPairs_22 (by decide +kernel) ?_
      refine V_goto 23 B 27 dX12_clashPairs_23 (by decide) ?_
      refine V_iconst 27 B (v := 1) dX12_clashPairs_27 (by decide +kernel) ?_
      refine V_cvi 28 B (st := []) (As := [.int 1, .int 1]) (fun sz => rX12_throwsIf_1 l D Y h0 h1 h2 h3 h4 h5 h6 0 k5 k6 p7 p8 p9 k10 p11 q12 k15 k16 f0 f1 f3 f4 f13 f14 ph HI (by omega) HP 1 sz) glV_RX12_69 ⟨rfl, rfl⟩ ⟨(Nat.le_of_ble_eq_true rfl), (Nat.le_of_ble_eq_true rfl)⟩ ⟨(Nat.le_of_ble_eq_true rfl), (Nat.le_of_ble_eq_true rfl)⟩ [0, 0, 0, 0, 0, 0, 0] rfl 13 0 rfl rfl rfl rfl (Nat.le_of_ble_eq_true rfl) rfl (fun _ _ _ => rfl) dX12_clashPairs_28 (fun j8 u9 w10 => ?_)
      refine V_ws [(h0, oC 13 [.ref h1, .ref h2, .int (u9.2.1 0), .ref h3, .ref h4, .int (nI k5), .int (nI k6), .int p7, .int p8, .int p9, .int (nI k10), .int p11, .long q12, .ref h5, .ref h6, .int (nI k15), .int (nI k16)]), (h1, aI Y 3640 f0), (h2, aZ Y 2 f1), (h3, aZ Y 80 f3), (h4, aB Y 1600 f4), (h5, aI Y 200 f13), (h6, aI Y 800 f14)] rfl ?_
      have x11 := w10
      clear w10
      obtain rfl := x11
      refine V_if_ne_t 31 B 52 dX12_clashPairs_31 (by decide) (by decide +kernel) ?_
      refine V_iconst 52 B (v := 0) dX12_clashPairs_52 (by decide +kernel) ?_
      exact V_iret 53 B dX12_clashPairs_53 (mkW [] [(u9.2.1 0)] [] [] [] []) trivial rfl
    ·
      have e12 := nI_toInt (show n4 < 2 ^ 31 by omega)
      have x13 : (gN f0 0) ≤ 6 := gN_le HI (by omega) (show bd 0 = (0, ((6 : Nat) : Int)) by decide +kernel)
      refine V_if_eq_f 11 B 22 dX12_clashPairs_11 (by decide) (by decide +kernel) ?_
      refine V_aload_n 14 B dX12_clashPairs_14 0 rfl ?_
      refine V_iload_n 15 B dX12_clashPairs_15 2 rfl ?_
      refine V_cvi 16 B (st := [.ref h0]) (As := [.int s1]) (fun sz => rX12_isMode l D Y h0 h1 h2 h3 h4 h5 h6 0 k5 k6 p7 p8 p9 k10 p11 q12 k15 k16 f0 f1 f3 f4 f13 f14 ph HI (by omega) HP s1 sz) glV_RX12_91 ⟨rfl, rfl⟩ ⟨(Nat.le_of_ble_eq_true rfl), (Nat.le_of_ble_eq_true rfl)⟩ ⟨(Nat.le_of_ble_eq_true rfl), (Nat.le_of_ble_eq_true rfl)⟩ [0, 0, 0, 0, 0, 0, 0] rfl 13 0 rfl rfl rfl rfl (Nat.le_of_ble_eq_true rfl) rfl (fun _ _ _ => rfl) dX12_clashPairs_16 (fun j14 u15 w16 => ?_)
      refine V_ws [(h0, oC 13 [.ref h1, .ref h2, .int 0, .ref h3, .ref h4, .int (nI k5), .int (nI k6), .int p7, .int p8, .int p9, .int (nI k10), .int p11, .long q12, .ref h5, .ref h6, .int (nI k15), .int (nI k16)]), (h1, aI Y 3640 f0), (h2, aZ Y 2 f1), (h3, aZ Y 80 f3), (h4, aB Y 1600 f4), (h5, aI Y 200 f13), (h6, aI Y 800 f14)] rfl ?_
      have x17 := w16
      clear w16
      have x21 : (gN f0 0) ≤ 6 := gN_le HI (by omega) (show bd 0 = (0, ((6 : Nat) : Int)) by decide +kernel)
      rcases x17 with rfl | ⟨rfl, n18, rfl, x20⟩
      ·
        refine V_if_ne_f 19 B 26 dX12_clashPairs_19 (by decide) (by decide +kernel) ?_
        refine V_iconst 22 B (v := 1) dX12_clashPairs_22 (by decide +kernel) ?_
        refine V_goto 23 B 27 dX12_clashPairs_23 (by decide) ?_
        refine V_iconst 27 B (v := 1) dX12_clashPairs_27 (by decide +kernel) ?_
        refine V_cvi 28 B (st := []) (As := [.int 1, .int 1]) (fun sz => rX12_throwsIf_1 l D Y h0 h1 h2 h3 h4 h5 h6 0 k5 k6 p7 p8 p9 k10 p11 q12 k15 k16 f0 f1 f3 f4 f13 f14 ph HI (by omega) HP 1 sz) glV_RX12_69 ⟨rfl, rfl⟩ ⟨(Nat.le_of_ble_eq_true rfl), (Nat.le_of_ble_eq_true rfl)⟩ ⟨(Nat.le_of_ble_eq_true rfl), (Nat.le_of_ble_eq_true rfl)⟩ [0, 0, 0, 0, 0, 0, 0] rfl 13 0 rfl rfl rfl rfl (Nat.le_of_ble_eq_true rfl) rfl (fun _ _ _ => rfl) dX12_clashPairs_28 (fun j22 u23 w24 => ?_)
        refine V_ws [(h0, oC 13 [.ref h1, .ref h2, .int (u23.2.1 0), .ref h3, .ref h4, .int (nI k5), .int (nI k6), .int p7, .int p8, .int p9, .int (nI k10), .int p11, .long q12, .ref h5, .ref h6, .int (nI k15), .int (nI k16)]), (h1, aI Y 3640 f0), (h2, aZ Y 2 f1), (h3, aZ Y 80 f3), (h4, aB Y 1600 f4), (h5, aI Y 200 f13), (h6, aI Y 800 f14)] rfl ?_
        have x25 := w24
        clear w24
        obtain rfl := x25
        refine V_if_ne_t 31 B 52 dX12_clashPairs_31 (by decide) (by decide +kernel) ?_
        refine V_iconst 52 B (v := 0) dX12_clashPairs_52 (by decide +kernel) ?_
        exact V_iret 53 B dX12_clashPairs_53 (mkW [] [(u23.2.1 0)] [] [] [] []) trivial rfl
      ·
        have e26 := nI_toInt (show n18 < 2 ^ 31 by omega)
        have x27 : (gN f0 0) ≤ 6 := gN_le HI (by omega) (show bd 0 = (0, ((6 : Nat) : Int)) by decide +kernel)
        refine V_if_ne_t 19 B 26 dX12_clashPairs_19 (by decide) (by decide +kernel) ?_
        refine V_iconst 26 B (v := 0) dX12_clashPairs_26 (by decide +kernel) ?_
        refine V_iconst 27 B (v := 1) dX12_clashPairs_27 (by decide +kernel) ?_
        refine V_cvi 28 B (st := []) (As := [.int 0, .int 1]) (fun sz => rX12_throwsIf_0 l D Y h0 h1 h2 h3 h4 h5 h6 0 k5 k6 p7 p8 p9 k10 p11 q12 k15 k16 f0 f1 f3 f4 f13 f14 ph HI (by omega) HP 1 sz) glV_RX12_69 ⟨rfl, rfl⟩ ⟨(Nat.le_of_ble_eq_true rfl), (Nat.le_of_ble_eq_true rfl)⟩ ⟨(Nat.le_of_ble_eq_true rfl), (Nat.le_of_ble_eq_true rfl)⟩ [0, 0, 0, 0, 0, 0, 0] rfl 13 0 rfl rfl rfl rfl (Nat.le_of_ble_eq_true rfl) rfl (fun _ _ _ => rfl) dX12_clashPairs_28 (fun j28 u29 w30 => ?_)
        refine V_ws [(h0, oC 13 [.ref h1, .ref h2, .int (u29.2.1 0), .ref h3, .ref h4, .int (nI k5), .int (nI k6), .int p7, .int p8, .int p9, .int (nI k10), .int p11, .long q12, .ref h5, .ref h6, .int (nI k15), .int (nI k16)]), (h1, aI Y 3640 f0), (h2, aZ Y 2 f1), (h3, aZ Y 80 f3), (h4, aB Y 1600 f4), (h5, aI Y 200 f13), (h6, aI Y 800 f14)] rfl ?_
        have x31 := w30
        clear w30
        obtain rfl := x31
        refine V_if_ne_f 31 B 52 dX12_clashPairs_31 (by decide) (by decide +kernel) ?_
        refine V_aload_n 34 B dX12_clashPairs_34 0 rfl ?_
        refine V_iload_n 35 B dX12_clashPairs_35 1 rfl ?_
        refine V_iload_n 36 B dX12_clashPairs_36 2 rfl ?_
        refine V_icmp_ne 37 B 44 dX12_clashPairs_37 (by decide) (fun kk32 => ?_) (fun kk32 => ?_)
        ·
          have x33 := n_ne (a := n4) (b := n18) kk32
          refine V_iconst 44 B (v := 0) dX12_clashPairs_44 (by decide +kernel) ?_
          refine V_iconst 45 B (v := 2) dX12_clashPairs_45 (by decide +kernel) ?_
          refine V_cvi 46 B (st := []) (As := [.int 0, .int 2]) (fun sz => rX12_throwsIf_0 l D Y h0 h1 h2 h3 h4 h5 h6 (u29.2.1 0) k5 k6 p7 p8 p9 k10 p11 q12 k15 k16 f0 f1 f3 f4 f13 f14 ph HI (by omega) HP 2 sz) glV_RX12_69 ⟨rfl, rfl⟩ ⟨(Nat.le_of_ble_eq_true rfl), (Nat.le_of_ble_eq_true rfl)⟩ ⟨(Nat.le_of_ble_eq_true rfl), (Nat.le_of_ble_eq_true rfl)⟩ [0, 0, 0, 0, 0, 0, 0] rfl 13 0 rfl rfl rfl rfl (Nat.le_of_ble_eq_true rfl) rfl (fun _ _ _ => rfl) dX12_clashPairs_46 (fun j34 u35 w36 => ?_)
          refine V_ws [(h0, oC 13 [.ref h1, .ref h2, .int (u35.2.1 0), .ref h3, .ref h4, .int (nI k5), .int (nI k6), .int p7, .int p8, .int p9, .int (nI k10), .int p11, .long q12, .ref h5, .ref h6, .int (nI k15), .int (nI k16)]), (h1, aI Y 3640 f0), (h2, aZ Y 2 f1), (h3, aZ Y 80 f3), (h4, aB Y 1600 f4), (h5, aI Y 200 f13), (h6, aI Y 800 f14)] rfl ?_
          have x37 := w36
          clear w36
          obtain rfl := x37
          refine V_if_eq_t 49 B 54 dX12_clashPairs_49 (by decide) (by decide +kernel) ?_
          refine V_iconst 54 B (v := 0) dX12_clashPairs_54 (by decide +kernel) ?_
          refine V_istore_n 55 B (lv2 := [(3, .int 0), (0, .ref h0), (1, .int (nI n4)), (2, .int (nI n18))]) dX12_clashPairs_55 (by decide) rfl ?_
          refine V_iconst 56 B (v := 0) dX12_clashPairs_56 (by decide +kernel) ?_
          refine V_istore 57 B (lv2 := [(4, .int 0), (3, .int 0), (0, .ref h0), (1, .int (nI n4)), (2, .int (nI n18))]) dX12_clashPairs_57 (by decide) rfl ?_
          refine V_wloop (α := WU) (fun a => 100000 - (a.1 0)) (fun a => (a.1 0) ≤ 4000) (fun a => [(4, .int (nI (a.1 0))), (3, .int (a.2.1 0)), (0, .ref h0), (1, .int (nI n4)), (2, .int (nI n18))]) (fun a => [(h0, oC 13 [.ref h1, .ref h2, .int (u35.2.1 0), .ref h3, .ref h4, .int (nI k5), .int (nI k6), .int p7, .int p8, .int p9, .int (nI k10), .int p11, .long q12, .ref h5, .ref h6, .int (nI k15), .int (nI k16)]), (h1, aI Y 3640 f0), (h2, aZ Y 2 f1), (h3, aZ Y 80 f3), (h4, aB Y 1600 f4), (h5, aI Y 200 f13), (h6, aI Y 800 f14)]) (mkW [0] [0] [] [] [] []) (show 0 ≤ 4000 by omega) rfl rfl (fun a38 hI40 IH39 => ?_)
          refine V_lv [(4, .int (nI (a38.1 0))), (3, .int (a38.2.1 0)), (0, .ref h0), (1, .int (nI n4)), (2, .int (nI n18))] [0, 1, 2, 3, 4] rfl ?_
          refine V_ws [(h0, oC 13 [.ref h1, .ref h2, .int (u35.2.1 0), .ref h3, .ref h4, .int (nI k5), .int (nI k6), .int p7, .int p8, .int p9, .int (nI k10), .int p11, .long q12, .ref h5, .ref h6, .int (nI k15), .int (nI k16)]), (h1, aI Y 3640 f0), (h2, aZ Y 2 f1), (h3, aZ Y 80 f3), (h4, aB Y 1600 f4), (h5, aI Y 200 f13), (h6, aI Y 800 f14)] rfl ?_
          have x41 := hI40
          refine V_iload 59 B dX12_clashPairs_59 0 rfl ?_
          refine V_aload_n 61 B dX12_clashPairs_61 2 rfl ?_
          refine V_get 62 B gf_RX12_9 0 rfl rfl dX12_clashPairs_62 ?_
          refine V_iconst 65 B (v := 3) dX12_clashPairs_65 (by decide +kernel) ?_
          have x42 : (gN f0 3) ≤ 80 := gN_le HI (by omega) (show bd 3 = (0, ((80 : Nat) : Int)) by decide +kernel)
          refine V_iald 66 B (v := (nI (gN f0 3))) 1 rfl (vpin _ _ (by decide +kernel)) dX12_clashPairs_66 (by show f0 3 = _; exact gN_eq HI (by omega) (show bd 3 = (0, ((80 : Nat) : Int)) by decide +kernel)) ?_
          refine V_icmp_ge 67 B 99 dX12_clashPairs_67 (by decide) (fun kk43 => ?_) (fun kk43 => ?_)
          ·
            have x44 := n_le (a := (gN f0 3)) (b := (a38.1 0)) kk43 (by omega) (by omega)
            refine V_iload_n 99 B dX12_clashPairs_99 1 rfl ?_
            exact V_iret 100 B dX12_clashPairs_100 (mkW [] [(u35.2.1 0)] [] [] [] []) trivial rfl
          ·
            have x45 := n_nle (a := (gN f0 3)) (b := (a38.1 0)) kk43 (by omega) (by omega)
            refine V_aload_n 70 B dX12_clashPairs_70 2 rfl ?_
            refine V_iload 71 B dX12_clashPairs_71 0 rfl ?_
            refine V_cvi 73 B (st := []) (As := [.int (nI (a38.1 0))]) (fun sz => rX12_modeOf l D Y h0 h1 h2 h3 h4 h5 h6 (u35.2.1 0) k5 k6 p7 p8 p9 k10 p11 q12 k15 k16 f0 f1 f3 f4 f13 f14 ph HI (by omega) HP (a38.1 0) (by omega) sz) glV_RX12_115 ⟨rfl, rfl⟩ ⟨(Nat.le_of_ble_eq_true rfl), (Nat.le_of_ble_eq_true rfl)⟩ ⟨(Nat.le_of_ble_eq_true rfl), (Nat.le_of_ble_eq_true rfl)⟩ [0, 0, 0, 0, 0, 0, 0] rfl 13 0 rfl rfl rfl rfl (Nat.le_of_ble_eq_true rfl) rfl (fun _ _ _ => rfl) dX12_clashPairs_73 (fun j46 u47 w48 => ?_)
            refine V_ws [(h0, oC 13 [.ref h1, .ref h2, .int (u35.2.1 0), .ref h3, .ref h4, .int (nI k5), .int (nI k6), .int p7, .int p8, .int p9, .int (nI k10), .int p11, .long q12, .ref h5, .ref h6, .int (nI k15), .int (nI k16)]), (h1, aI Y 3640 f0), (h2, aZ Y 2 f1), (h3, aZ Y 80 f3), (h4, aB Y 1600 f4), (h5, aI Y 200 f13), (h6, aI Y 800 f14)] rfl ?_
            have x49 := w48
            clear w48
            refine V_iload_n 76 B dX12_clashPairs_76 3 rfl ?_
            refine V_icmp_ne 77 B 93 dX12_clashPairs_77 (by decide) (fun kk50 => ?_) (fun kk50 => ?_)
            ·
              have x51 := x_ne kk50
              rw [nI_toInt (show n4 < 2 ^ 31 by omega)] at x51
              refine V_iinc 93 B (v := (nI (1 + (a38.1 0)))) (lv2 := [(4, .int (nI (1 + (a38.1 0)))), (3, .int (a38.2.1 0)), (0, .ref h0), (1, .int (nI n4)), (2, .int (nI n18))]) dX12_clashPairs_93 0 rfl (nI_addE (a := (a38.1 0)) (b := 1) (by omega)) (by decide) rfl ?_
              refine V_goto 96 B 59 dX12_clashPairs_96 (by decide) ?_
              refine V_lv [(4, .int (nI (1 + (a38.1 0)))), (3, .int (a38.2.1 0)), (0, .ref h0), (1, .int (nI n4)), (2, .int (nI n18))] [0, 1, 2, 3, 4] rfl ?_
              exact IH39 (mkW [1 + (a38.1 0)] [(a38.2.1 0)] [] [] [] []) (show 1 + (a38.1 0) ≤ 4000 by omega) (by show 100000 - (1 + (a38.1 0)) < 100000 - (a38.1 0); omega)
            ·
              obtain rfl : j46 = (nI n4) := kk50
              have e53 := nI_toInt (show n4 < 2 ^ 31 by omega)
              refine V_iload_n 80 B dX12_clashPairs_80 1 rfl ?_
              refine V_aload_n 81 B dX12_clashPairs_81 2 rfl ?_
              refine V_iload_n 82 B dX12_clashPairs_82 4 rfl ?_
              refine V_iload 83 B dX12_clashPairs_83 0 rfl ?_
              refine V_csi 85 B (st := [.int (nI n18), .ref h0, .int (a38.2.1 0)]) (As := [.int (nI (a38.1 0))]) (fun sz => rX12_sequenceOf l D Y (a38.1 0) (by omega) sz) glS_RX12_85 ⟨rfl, rfl⟩ ⟨(Nat.le_of_ble_eq_true rfl), (Nat.le_of_ble_eq_true rfl)⟩ ⟨(Nat.le_of_ble_eq_true rfl), (Nat.le_of_ble_eq_true rfl)⟩ [] rfl rfl (Nat.le_of_ble_eq_true rfl) rfl (fun _ _ _ => rfl) dX12_clashPairs_85 (fun j54 u55 w56 => ?_)
              refine V_ws [(h0, oC 13 [.ref h1, .ref h2, .int (u35.2.1 0), .ref h3, .ref h4, .int (nI k5), .int (nI k6), .int p7, .int p8, .int p9, .int (nI k10), .int p11, .long q12, .ref h5, .ref h6, .int (nI k15), .int (nI k16)]), (h1, aI Y 3640 f0), (h2, aZ Y 2 f1), (h3, aZ Y 80 f3), (h4, aB Y 1600 f4), (h5, aI Y 200 f13), (h6, aI Y 800 f14)] rfl ?_
              have x57 := w56
              clear w56
              obtain rfl := x57
              refine V_cvi 88 B (st := [.int (a38.2.1 0)]) (As := [.int (nI n18), .int (nI (186 + 7 * (a38.1 0)))]) (fun sz => rX12_clashCount l D Y h0 h1 h2 h3 h4 h5 h6 (u35.2.1 0) k5 k6 p7 p8 p9 k10 p11 q12 k15 k16 f0 f1 f3 f4 f13 f14 ph HI (by omega) HP (nI n18) (186 + 7 * (a38.1 0)) (rl5 (a38.1 0) (by omega)) sz) glV_RX12_139 ⟨rfl, rfl⟩ ⟨(Nat.le_of_ble_eq_true rfl), (Nat.le_of_ble_eq_true rfl)⟩ ⟨(Nat.le_of_ble_eq_true rfl), (Nat.le_of_ble_eq_true rfl)⟩ [0, 0, 0, 0, 0, 0, 0] rfl 13 0 rfl rfl rfl rfl (Nat.le_of_ble_eq_true rfl) rfl (fun _ _ _ => rfl) dX12_clashPairs_88 (fun j58 u59 w60 => ?_)
              refine V_ws [(h0, oC 13 [.ref h1, .ref h2, .int (u35.2.1 0), .ref h3, .ref h4, .int (nI k5), .int (nI k6), .int p7, .int p8, .int p9, .int (nI k10), .int p11, .long q12, .ref h5, .ref h6, .int (nI k15), .int (nI k16)]), (h1, aI Y 3640 f0), (h2, aZ Y 2 f1), (h3, aZ Y 80 f3), (h4, aB Y 1600 f4), (h5, aI Y 200 f13), (h6, aI Y 800 f14)] rfl ?_
              have x61 := w60
              clear w60
              refine V_iadd 91 B dX12_clashPairs_91 rfl ?_
              refine V_nmi (fun j62 e63 => ?_)
              refine V_istore_n 92 B (lv2 := [(3, .int j62), (4, .int (nI (a38.1 0))), (0, .ref h0), (1, .int (nI n4)), (2, .int (nI n18))]) dX12_clashPairs_92 (by decide) rfl ?_
              refine V_iinc 93 B (v := (nI (1 + (a38.1 0)))) (lv2 := [(4, .int (nI (1 + (a38.1 0)))), (3, .int j62), (0, .ref h0), (1, .int (nI n4)), (2, .int (nI n18))]) dX12_clashPairs_93 1 rfl (nI_addE (a := (a38.1 0)) (b := 1) (by omega)) (by decide) rfl ?_
              refine V_goto 96 B 59 dX12_clashPairs_96 (by decide) ?_
              refine V_lv [(4, .int (nI (1 + (a38.1 0)))), (3, .int j62), (0, .ref h0), (1, .int (nI n4)), (2, .int (nI n18))] [0, 1, 2, 3, 4] rfl ?_
              exact IH39 (mkW [1 + (a38.1 0)] [j62] [] [] [] []) (show 1 + (a38.1 0) ≤ 4000 by omega) (by show 100000 - (1 + (a38.1 0)) < 100000 - (a38.1 0); omega)
        ·
          have x64 := n_eq (a := n4) (b := n18) kk32 (by omega) (by omega)
          refine V_iconst 40 B (v := 1) dX12_clashPairs_40 (by decide +kernel) ?_
          refine V_goto 41 B 45 dX12_clashPairs_41 (by decide) ?_
          refine V_iconst 45 B (v := 2) dX12_clashPairs_45 (by decide +kernel) ?_
          refine V_cvi 46 B (st := []) (As := [.int 1, .int 2]) (fun sz => rX12_throwsIf_1 l D Y h0 h1 h2 h3 h4 h5 h6 (u29.2.1 0) k5 k6 p7 p8 p9 k10 p11 q12 k15 k16 f0 f1 f3 f4 f13 f14 ph HI (by omega) HP 2 sz) glV_RX12_69 ⟨rfl, rfl⟩ ⟨(Nat.le_of_ble_eq_true rfl), (Nat.le_of_ble_eq_true rfl)⟩ ⟨(Nat.le_of_ble_eq_true rfl), (Nat.le_of_ble_eq_true rfl)⟩ [0, 0, 0, 0, 0, 0, 0] rfl 13 0 rfl rfl rfl rfl (Nat.le_of_ble_eq_true rfl) rfl (fun _ _ _ => rfl) dX12_clashPairs_46 (fun j65 u66 w67 => ?_)
          refine V_ws [(h0, oC 13 [.ref h1, .ref h2, .int (u66.2.1 0), .ref h3, .ref h4, .int (nI k5), .int (nI k6), .int p7, .int p8, .int p9, .int (nI k10), .int p11, .long q12, .ref h5, .ref h6, .int (nI k15), .int (nI k16)]), (h1, aI Y 3640 f0), (h2, aZ Y 2 f1), (h3, aZ Y 80 f3), (h4, aB Y 1600 f4), (h5, aI Y 200 f13), (h6, aI Y 800 f14)] rfl ?_
          have x68 := w67
          clear w67
          obtain rfl := x68
          refine V_if_eq_f 49 B 54 dX12_clashPairs_49 (by decide) (by decide +kernel) ?_
          refine V_iconst 52 B (v := 0) dX12_clashPairs_52 (by decide +kernel) ?_
          exact V_iret 53 B dX12_clashPairs_53 (mkW [] [(u66.2.1 0)] [] [] [] []) trivial rfl)
theorem dX12_simpleStroke_0 : decode cX12_simpleStroke 0 = .ok (.iload_n 0, 1) := by decide +kernel
theorem dX12_simpleStroke_1 : decode cX12_simpleStroke 1 = .ok (.bipush 26, 2) := by decide +kernel
theorem dX12_simpleStroke_3 : decode cX12_simpleStroke 3 = .ok (.idiv, 1) := by decide +kernel
theorem dX12_simpleStroke_4 : decode cX12_simpleStroke 4 = .ok (.istore_n 1, 1) := by decide +kernel
theorem dX12_simpleStroke_5 : decode cX12_simpleStroke 5 = .ok (.bipush 32, 2) := by decide +kernel
theorem dX12_simpleStroke_7 : decode cX12_simpleStroke 7 = .ok (.iload_n 1, 1) := by decide +kernel
theorem dX12_simpleStroke_8 : decode cX12_simpleStroke 8 = .ok (.ifCond .ne 7, 3) := by decide +kernel
theorem dX12_simpleStroke_15 : decode cX12_simpleStroke 15 = .ok (.iconst 1, 1) := by decide +kernel
theorem dX12_simpleStroke_16 : decode cX12_simpleStroke 16 = .ok (.iload_n 1, 1) := by decide +kernel
theorem dX12_simpleStroke_17 : decode cX12_simpleStroke 17 = .ok (.iconst 1, 1) := by decide +kernel
theorem dX12_simpleStroke_18 : decode cX12_simpleStroke 18 = .ok (.isub, 1) := by decide +kernel
theorem dX12_simpleStroke_19 : decode cX12_simpleStroke 19 = .ok (.ishl, 1) := by decide +kernel
theorem dX12_simpleStroke_20 : decode cX12_simpleStroke 20 = .ok (.imul, 1) := by decide +kernel
theorem dX12_simpleStroke_21 : decode cX12_simpleStroke 21 = .ok (.iload_n 0, 1) := by decide +kernel
theorem dX12_simpleStroke_22 : decode cX12_simpleStroke 22 = .ok (.bipush 26, 2) := by decide +kernel
theorem dX12_simpleStroke_24 : decode cX12_simpleStroke 24 = .ok (.irem, 1) := by decide +kernel
theorem dX12_simpleStroke_25 : decode cX12_simpleStroke 25 = .ok (.iadd, 1) := by decide +kernel
theorem dX12_simpleStroke_26 : decode cX12_simpleStroke 26 = .ok (.ireturn, 1) := by decide +kernel
theorem dX12_simpleStroke_11 : decode cX12_simpleStroke 11 = .ok (.iconst 0, 1) := by decide +kernel
theorem dX12_simpleStroke_12 : decode cX12_simpleStroke 12 = .ok (.goto 8, 3) := by decide +kernel
set_option maxRecDepth 100000 in
set_option maxHeartbeats 4000000 in
theorem rX12_simpleStroke (l : Launch) (D : va_G) (Y : Nat → ClassId)  (s0 : Int32)  (sz : Nat) : Met l yX12_simpleStroke (WSm yX12_simpleStroke cX12_simpleStroke 2 (some .int)) (mkR 0 0 0 0) (PreC D Y [.int s0] [] sz) (QI D (fun (r : Int32) (u : WU) => True) (fun (u : WU) => []) (va_A [] sz)) 0 0 (va_A [] sz) :=
  met_of  (by decide +kernel) (Nat.le_of_ble_eq_true rfl) (fun p e s m args below meth c B hin hsz => by
    have B : VB p s m args meth c D Y (va_A [] sz) cX12_simpleStroke 2 RX12 (some .int) := B
    refine V_iload_n 0 B dX12_simpleStroke_0 0 rfl ?_
    refine V_bipush 1 B (v := 26) dX12_simpleStroke_1 (by decide +kernel) ?_
    refine V_idiv 3 B dX12_simpleStroke_3 (by decide +kernel) rfl ?_
    refine V_nmi (fun j0 e1 => ?_)
    refine V_istore_n 4 B (lv2 := [(1, .int j0), (0, .int s0)]) dX12_simpleStroke_4 (by decide) rfl ?_
    refine V_bipush 5 B (v := 32) dX12_simpleStroke_5 (by decide +kernel) ?_
    refine V_iload_n 7 B dX12_simpleStroke_7 0 rfl ?_
    refine V_if_ne 8 B 15 dX12_simpleStroke_8 (by decide) (fun kk2 => ?_) (fun kk2 => ?_)
    ·
      have x3 := x_ne kk2
      rw [show (0 : Int32).toInt = 0 by decide +kernel] at x3
      refine V_iconst 15 B (v := 1) dX12_simpleStroke_15 (by decide +kernel) ?_
      refine V_iload_n 16 B dX12_simpleStroke_16 0 rfl ?_
      refine V_iconst 17 B (v := 1) dX12_simpleStroke_17 (by decide +kernel) ?_
      refine V_isub 18 B dX12_simpleStroke_18 rfl ?_
      refine V_nmi (fun j4 e5 => ?_)
      refine V_ishl 19 B dX12_simpleStroke_19 rfl ?_
      refine V_nmi (fun j6 _ => ?_)
      refine V_imul 20 B dX12_simpleStroke_20 rfl ?_
      refine V_nmi (fun j7 e8 => ?_)
      refine V_iload_n 21 B dX12_simpleStroke_21 1 rfl ?_
      refine V_bipush 22 B (v := 26) dX12_simpleStroke_22 (by decide +kernel) ?_
      refine V_irem 24 B dX12_simpleStroke_24 (by decide +kernel) rfl ?_
      refine V_nmi (fun j9 e10 => ?_)
      refine V_iadd 25 B dX12_simpleStroke_25 rfl ?_
      refine V_nmi (fun j11 e12 => ?_)
      exact V_iret 26 B dX12_simpleStroke_26 (mkW [] [] [] [] [] []) trivial rfl
    ·
      obtain rfl : j0 = 0 := kk2
      have e14 : (0 : Int32).toInt = 0 := by decide +kernel
      refine V_iconst 11 B (v := 0) dX12_simpleStroke_11 (by decide +kernel) ?_
      refine V_goto 12 B 20 dX12_simpleStroke_12 (by decide) ?_
      refine V_imul 20 B (v := 0) dX12_simpleStroke_20 (by decide +kernel) ?_
      refine V_iload_n 21 B dX12_simpleStroke_21 1 rfl ?_
      refine V_bipush 22 B (v := 26) dX12_simpleStroke_22 (by decide +kernel) ?_
      refine V_irem 24 B dX12_simpleStroke_24 (by decide +kernel) rfl ?_
      refine V_nmi (fun j15 e16 => ?_)
      refine V_iadd 25 B dX12_simpleStroke_25 rfl ?_
      refine V_nmi (fun j17 e18 => ?_)
      exact V_iret 26 B dX12_simpleStroke_26 (mkW [] [] [] [] [] []) trivial rfl)
theorem dX12_freeStrokes_0 : decode cX12_freeStrokes 0 = .ok (.aload_n 0, 1) := by decide +kernel
theorem dX12_freeStrokes_1 : decode cX12_freeStrokes 1 = .ok (.iconst 0, 1) := by decide +kernel
theorem dX12_freeStrokes_2 : decode cX12_freeStrokes 2 = .ok (.putfield 38, 3) := by decide +kernel
theorem dX12_freeStrokes_5 : decode cX12_freeStrokes 5 = .ok (.aload_n 0, 1) := by decide +kernel
theorem dX12_freeStrokes_6 : decode cX12_freeStrokes 6 = .ok (.aload_n 0, 1) := by decide +kernel
theorem dX12_freeStrokes_7 : decode cX12_freeStrokes 7 = .ok (.iload_n 1, 1) := by decide +kernel
theorem dX12_freeStrokes_8 : decode cX12_freeStrokes 8 = .ok (.invokevirtual 91, 3) := by decide +kernel
theorem dX12_freeStrokes_11 : decode cX12_freeStrokes 11 = .ok (.ifCond .ne 7, 3) := by decide +kernel
theorem dX12_freeStrokes_14 : decode cX12_freeStrokes 14 = .ok (.iconst 1, 1) := by decide +kernel
theorem dX12_freeStrokes_15 : decode cX12_freeStrokes 15 = .ok (.goto 4, 3) := by decide +kernel
theorem dX12_freeStrokes_19 : decode cX12_freeStrokes 19 = .ok (.iconst 1, 1) := by decide +kernel
theorem dX12_freeStrokes_20 : decode cX12_freeStrokes 20 = .ok (.invokevirtual 69, 3) := by decide +kernel
theorem dX12_freeStrokes_23 : decode cX12_freeStrokes 23 = .ok (.ifCond .eq 5, 3) := by decide +kernel
theorem dX12_freeStrokes_26 : decode cX12_freeStrokes 26 = .ok (.iconst 0, 1) := by decide +kernel
theorem dX12_freeStrokes_27 : decode cX12_freeStrokes 27 = .ok (.ireturn, 1) := by decide +kernel
theorem dX12_freeStrokes_18 : decode cX12_freeStrokes 18 = .ok (.iconst 0, 1) := by decide +kernel
theorem dX12_freeStrokes_28 : decode cX12_freeStrokes 28 = .ok (.iconst 0, 1) := by decide +kernel
theorem dX12_freeStrokes_29 : decode cX12_freeStrokes 29 = .ok (.istore_n 2, 1) := by decide +kernel
theorem dX12_freeStrokes_30 : decode cX12_freeStrokes 30 = .ok (.aload_n 0, 1) := by decide +kernel
theorem dX12_freeStrokes_31 : decode cX12_freeStrokes 31 = .ok (.getfield 9, 3) := by decide +kernel
theorem dX12_freeStrokes_34 : decode cX12_freeStrokes 34 = .ok (.sipush 3629, 3) := by decide +kernel
theorem dX12_freeStrokes_37 : decode cX12_freeStrokes 37 = .ok (.iconst 1, 1) := by decide +kernel
theorem dX12_freeStrokes_38 : decode cX12_freeStrokes 38 = .ok (.iastore, 1) := by decide +kernel
theorem dX12_freeStrokes_39 : decode cX12_freeStrokes 39 = .ok (.iconst 0, 1) := by decide +kernel
theorem dX12_freeStrokes_40 : decode cX12_freeStrokes 40 = .ok (.istore_n 3, 1) := by decide +kernel
theorem dX12_freeStrokes_41 : decode cX12_freeStrokes 41 = .ok (.iload_n 3, 1) := by decide +kernel
theorem dX12_freeStrokes_42 : decode cX12_freeStrokes 42 = .ok (.sipush 130, 3) := by decide +kernel
theorem dX12_freeStrokes_45 : decode cX12_freeStrokes 45 = .ok (.if_icmp .ge 40, 3) := by decide +kernel
theorem dX12_freeStrokes_85 : decode cX12_freeStrokes 85 = .ok (.iload_n 2, 1) := by decide +kernel
theorem dX12_freeStrokes_86 : decode cX12_freeStrokes 86 = .ok (.ireturn, 1) := by decide +kernel
theorem dX12_freeStrokes_48 : decode cX12_freeStrokes 48 = .ok (.aload_n 0, 1) := by decide +kernel
theorem dX12_freeStrokes_49 : decode cX12_freeStrokes 49 = .ok (.getfield 9, 3) := by decide +kernel
theorem dX12_freeStrokes_52 : decode cX12_freeStrokes 52 = .ok (.sipush 3630, 3) := by decide +kernel
theorem dX12_freeStrokes_55 : decode cX12_freeStrokes 55 = .ok (.iload_n 3, 1) := by decide +kernel
theorem dX12_freeStrokes_56 : decode cX12_freeStrokes 56 = .ok (.invokestatic 181, 3) := by decide +kernel
theorem glS_RX12_181 : GLS RX12 181 yX12_simpleStroke cX12_simpleStroke 2 (some .int) 1 := ⟨⟨(mT9 18 rfl rfl), (mT9 19 rfl rfl), (mT1 13 rfl rfl), (mT9 20 rfl rfl)⟩, by decide +kernel⟩
theorem dX12_freeStrokes_59 : decode cX12_freeStrokes 59 = .ok (.iastore, 1) := by decide +kernel
theorem dX12_freeStrokes_60 : decode cX12_freeStrokes 60 = .ok (.iload_n 2, 1) := by decide +kernel
theorem dX12_freeStrokes_61 : decode cX12_freeStrokes 61 = .ok (.aload_n 0, 1) := by decide +kernel
theorem dX12_freeStrokes_62 : decode cX12_freeStrokes 62 = .ok (.iload_n 1, 1) := by decide +kernel
theorem dX12_freeStrokes_63 : decode cX12_freeStrokes 63 = .ok (.sipush 3629, 3) := by decide +kernel
theorem dX12_freeStrokes_66 : decode cX12_freeStrokes 66 = .ok (.invokevirtual 129, 3) := by decide +kernel
theorem dX12_freeStrokes_69 : decode cX12_freeStrokes 69 = .ok (.ifCond .eq 7, 3) := by decide +kernel
theorem dX12_freeStrokes_76 : decode cX12_freeStrokes 76 = .ok (.iconst 0, 1) := by decide +kernel
theorem dX12_freeStrokes_77 : decode cX12_freeStrokes 77 = .ok (.iadd, 1) := by decide +kernel
theorem dX12_freeStrokes_78 : decode cX12_freeStrokes 78 = .ok (.istore_n 2, 1) := by decide +kernel
theorem dX12_freeStrokes_79 : decode cX12_freeStrokes 79 = .ok (.iinc 3 1, 3) := by decide +kernel
theorem dX12_freeStrokes_82 : decode cX12_freeStrokes 82 = .ok (.goto (-41), 3) := by decide +kernel
theorem dX12_freeStrokes_72 : decode cX12_freeStrokes 72 = .ok (.iconst 1, 1) := by decide +kernel
theorem dX12_freeStrokes_73 : decode cX12_freeStrokes 73 = .ok (.goto 4, 3) := by decide +kernel
set_option maxRecDepth 100000 in
set_option maxHeartbeats 4000000 in
theorem rX12_freeStrokes (l : Launch) (D : va_G) (Y : Nat → ClassId) (h0 : Nat) (h1 : Nat) (h2 : Nat) (h3 : Nat) (h4 : Nat) (h5 : Nat) (h6 : Nat) (p2 : Int32) (k5 : Nat) (k6 : Nat) (p7 : Int32) (p8 : Int32) (p9 : Int32) (k10 : Nat) (p11 : Int32) (q12 : Int64) (k15 : Nat) (k16 : Nat) (f0 : Nat → Int32) (f1 : Nat → Int32) (f3 : Nat → Int32) (f4 : Nat → Int32) (f13 : Nat → Int32) (f14 : Nat → Int32) (ph : Nat → Int32) (HI : INV ph f0) (HL : k5 ≤ 1600) (HP : PLV f13) (s0 : Int32)  (sz : Nat) : Met l yX12_freeStrokes (WSm yX12_freeStrokes cX12_freeStrokes 4 (some .int)) (mkR 5 0 0 112) (PreC D Y [.ref h0, .int s0] [(h0, oC 13 [.ref h1, .ref h2, .int p2, .ref h3, .ref h4, .int (nI k5), .int (nI k6), .int p7, .int p8, .int p9, .int (nI k10), .int p11, .long q12, .ref h5, .ref h6, .int (nI k15), .int (nI k16)]), (h1, aI Y 3640 f0), (h2, aZ Y 2 f1), (h3, aZ Y 80 f3), (h4, aB Y 1600 f4), (h5, aI Y 200 f13), (h6, aI Y 800 f14)] sz) (QI D (fun (r : Int32) (u : WU) => INV ph (u.2.2.2.1 0)) (fun (u : WU) => [(h0, oC 13 [.ref h1, .ref h2, .int (u.2.1 0), .ref h3, .ref h4, .int (nI k5), .int (nI k6), .int p7, .int p8, .int p9, .int (nI k10), .int p11, .long q12, .ref h5, .ref h6, .int (nI k15), .int (nI k16)]), (h1, aI Y 3640 (u.2.2.2.1 0)), (h2, aZ Y 2 f1), (h3, aZ Y 80 f3), (h4, aB Y 1600 f4), (h5, aI Y 200 f13), (h6, aI Y 800 f14)]) (va_A [(h0, oC 13 [.ref h1, .ref h2, .int p2, .ref h3, .ref h4, .int (nI k5), .int (nI k6), .int p7, .int p8, .int p9, .int (nI k10), .int p11, .long q12, .ref h5, .ref h6, .int (nI k15), .int (nI k16)]), (h1, aI Y 3640 f0), (h2, aZ Y 2 f1), (h3, aZ Y 80 f3), (h4, aB Y 1600 f4), (h5, aI Y 200 f13), (h6, aI Y 800 f14)] sz)) 0 0 (va_A [(h0, oC 13 [.ref h1, .ref h2, .int p2, .ref h3, .ref h4, .int (nI k5), .int (nI k6), .int p7, .int p8, .int p9, .int (nI k10), .int p11, .long q12, .ref h5, .ref h6, .int (nI k15), .int (nI k16)]), (h1, aI Y 3640 f0), (h2, aZ Y 2 f1), (h3, aZ Y 80 f3), (h4, aB Y 1600 f4), (h5, aI Y 200 f13), (h6, aI Y 800 f14)] sz) :=
  met_of  (by decide +kernel) (Nat.le_of_ble_eq_true rfl) (fun p e s m args below meth c B hin hsz => by
    have B : VB p s m args meth c D Y (va_A [(h0, oC 13 [.ref h1, .ref h2, .int p2, .ref h3, .ref h4, .int (nI k5), .int (nI k6), .int p7, .int p8, .int p9, .int (nI k10), .int p11, .long q12, .ref h5, .ref h6, .int (nI k15), .int (nI k16)]), (h1, aI Y 3640 f0), (h2, aZ Y 2 f1), (h3, aZ Y 80 f3), (h4, aB Y 1600 f4), (h5, aI Y 200 f13), (h6, aI Y 800 f14)] sz) cX12_freeStrokes 4 RX12 (some .int) := B
    refine V_aload_n 0 B dX12_freeStrokes_0 0 rfl ?_
    refine V_iconst 1 B (v := 0) dX12_freeStrokes_1 (by decide +kernel) ?_
    refine V_put 2 B gp_RX12_38 0 rfl (Nat.le_of_ble_eq_true rfl) rfl rfl dX12_freeStrokes_2 [(h0, oC 13 [.ref h1, .ref h2, .int 0, .ref h3, .ref h4, .int (nI k5), .int (nI k6), .int p7, .int p8, .int p9, .int (nI k10), .int p11, .long q12, .ref h5, .ref h6, .int (nI k15), .int (nI k16)]), (h1, aI Y 3640 f0), (h2, aZ Y 2 f1), (h3, aZ Y 80 f3), (h4, aB Y 1600 f4), (h5, aI Y 200 f13), (h6, aI Y 800 f14)] rfl ?_
    refine V_aload_n 5 B dX12_freeStrokes_5 0 rfl ?_
    refine V_aload_n 6 B dX12_freeStrokes_6 0 rfl ?_
    refine V_iload_n 7 B dX12_freeStrokes_7 1 rfl ?_
    refine V_cvi 8 B (st := [.ref h0]) (As := [.int s0]) (fun sz => rX12_isMode l D Y h0 h1 h2 h3 h4 h5 h6 0 k5 k6 p7 p8 p9 k10 p11 q12 k15 k16 f0 f1 f3 f4 f13 f14 ph HI (by omega) HP s0 sz) glV_RX12_91 ⟨rfl, rfl⟩ ⟨(Nat.le_of_ble_eq_true rfl), (Nat.le_of_ble_eq_true rfl)⟩ ⟨(Nat.le_of_ble_eq_true rfl), (Nat.le_of_ble_eq_true rfl)⟩ [0, 0, 0, 0, 0, 0, 0] rfl 13 0 rfl rfl rfl rfl (Nat.le_of_ble_eq_true rfl) rfl (fun _ _ _ => rfl) dX12_freeStrokes_8 (fun j0 u1 w2 => ?_)
    refine V_ws [(h0, oC 13 [.ref h1, .ref h2, .int 0, .ref h3, .ref h4, .int (nI k5), .int (nI k6), .int p7, .int p8, .int p9, .int (nI k10), .int p11, .long q12, .ref h5, .ref h6, .int (nI k15), .int (nI k16)]), (h1, aI Y 3640 f0), (h2, aZ Y 2 f1), (h3, aZ Y 80 f3), (h4, aB Y 1600 f4), (h5, aI Y 200 f13), (h6, aI Y 800 f14)] rfl ?_
    have x3 := w2
    clear w2
    have x7 : (gN f0 0) ≤ 6 := gN_le HI (by omega) (show bd 0 = (0, ((6 : Nat) : Int)) by decide +kernel)
    rcases x3 with rfl | ⟨rfl, n4, rfl, x6⟩
    ·
      refine V_if_ne_f 11 B 18 dX12_freeStrokes_11 (by decide) (by decide +kernel) ?_
      refine V_iconst 14 B (v := 1) dX12_freeStrokes_14 (by decide +kernel) ?_
      refine V_goto 15 B 19 dX12_freeStrokes_15 (by decide) ?_
      refine V_iconst 19 B (v := 1) dX12_freeStrokes_19 (by decide +kernel) ?_
      refine V_cvi 20 B (st := []) (As := [.int 1, .int 1]) (fun sz => rX12_throwsIf_1 l D Y h0 h1 h2 h3 h4 h5 h6 0 k5 k6 p7 p8 p9 k10 p11 q12 k15 k16 f0 f1 f3 f4 f13 f14 ph HI (by omega) HP 1 sz) glV_RX12_69 ⟨rfl, rfl⟩ ⟨(Nat.le_of_ble_eq_true rfl), (Nat.le_of_ble_eq_true rfl)⟩ ⟨(Nat.le_of_ble_eq_true rfl), (Nat.le_of_ble_eq_true rfl)⟩ [0, 0, 0, 0, 0, 0, 0] rfl 13 0 rfl rfl rfl rfl (Nat.le_of_ble_eq_true rfl) rfl (fun _ _ _ => rfl) dX12_freeStrokes_20 (fun j8 u9 w10 => ?_)
      refine V_ws [(h0, oC 13 [.ref h1, .ref h2, .int (u9.2.1 0), .ref h3, .ref h4, .int (nI k5), .int (nI k6), .int p7, .int p8, .int p9, .int (nI k10), .int p11, .long q12, .ref h5, .ref h6, .int (nI k15), .int (nI k16)]), (h1, aI Y 3640 f0), (h2, aZ Y 2 f1), (h3, aZ Y 80 f3), (h4, aB Y 1600 f4), (h5, aI Y 200 f13), (h6, aI Y 800 f14)] rfl ?_
      have x11 := w10
      clear w10
      obtain rfl := x11
      refine V_if_eq_f 23 B 28 dX12_freeStrokes_23 (by decide) (by decide +kernel) ?_
      refine V_iconst 26 B (v := 0) dX12_freeStrokes_26 (by decide +kernel) ?_
      exact V_iret 27 B dX12_freeStrokes_27 (mkW [] [(u9.2.1 0)] [] [f0] [] []) HI rfl
    ·
      have e12 := nI_toInt (show n4 < 2 ^ 31 by omega)
      have x13 : (gN f0 0) ≤ 6 := gN_le HI (by omega) (show bd 0 = (0, ((6 : Nat) : Int)) by decide +kernel)
      refine V_if_ne_t 11 B 18 dX12_freeStrokes_11 (by decide) (by decide +kernel) ?_
      refine V_iconst 18 B (v := 0) dX12_freeStrokes_18 (by decide +kernel) ?_
      refine V_iconst 19 B (v := 1) dX12_freeStrokes_19 (by decide +kernel) ?_
      refine V_cvi 20 B (st := []) (As := [.int 0, .int 1]) (fun sz => rX12_throwsIf_0 l D Y h0 h1 h2 h3 h4 h5 h6 0 k5 k6 p7 p8 p9 k10 p11 q12 k15 k16 f0 f1 f3 f4 f13 f14 ph HI (by omega) HP 1 sz) glV_RX12_69 ⟨rfl, rfl⟩ ⟨(Nat.le_of_ble_eq_true rfl), (Nat.le_of_ble_eq_true rfl)⟩ ⟨(Nat.le_of_ble_eq_true rfl), (Nat.le_of_ble_eq_true rfl)⟩ [0, 0, 0, 0, 0, 0, 0] rfl 13 0 rfl rfl rfl rfl (Nat.le_of_ble_eq_true rfl) rfl (fun _ _ _ => rfl) dX12_freeStrokes_20 (fun j14 u15 w16 => ?_)
      refine V_ws [(h0, oC 13 [.ref h1, .ref h2, .int (u15.2.1 0), .ref h3, .ref h4, .int (nI k5), .int (nI k6), .int p7, .int p8, .int p9, .int (nI k10), .int p11, .long q12, .ref h5, .ref h6, .int (nI k15), .int (nI k16)]), (h1, aI Y 3640 f0), (h2, aZ Y 2 f1), (h3, aZ Y 80 f3), (h4, aB Y 1600 f4), (h5, aI Y 200 f13), (h6, aI Y 800 f14)] rfl ?_
      have x17 := w16
      clear w16
      obtain rfl := x17
      refine V_if_eq_t 23 B 28 dX12_freeStrokes_23 (by decide) (by decide +kernel) ?_
      refine V_iconst 28 B (v := 0) dX12_freeStrokes_28 (by decide +kernel) ?_
      refine V_istore_n 29 B (lv2 := [(2, .int 0), (0, .ref h0), (1, .int (nI n4))]) dX12_freeStrokes_29 (by decide) rfl ?_
      refine V_aload_n 30 B dX12_freeStrokes_30 1 rfl ?_
      refine V_get 31 B gf_RX12_9 0 rfl rfl dX12_freeStrokes_31 ?_
      refine V_sipush 34 B (v := 3629) dX12_freeStrokes_34 (by decide +kernel) ?_
      refine V_iconst 37 B (v := 1) dX12_freeStrokes_37 (by decide +kernel) ?_
      have hv18 : INV ph (upd f0 3629 1) := INV_nat (v := 1) HI (show bd 3629 = (0, ((4 : Nat) : Int)) by decide +kernel) (by omega) (by decide)
      refine V_iast 38 B 1 rfl (vpin _ _ (by decide +kernel)) dX12_freeStrokes_38 [(h0, oC 13 [.ref h1, .ref h2, .int (u15.2.1 0), .ref h3, .ref h4, .int (nI k5), .int (nI k6), .int p7, .int p8, .int p9, .int (nI k10), .int p11, .long q12, .ref h5, .ref h6, .int (nI k15), .int (nI k16)]), (h1, aI Y 3640 (upd f0 3629 1)), (h2, aZ Y 2 f1), (h3, aZ Y 80 f3), (h4, aB Y 1600 f4), (h5, aI Y 200 f13), (h6, aI Y 800 f14)] rfl ?_
      refine V_iconst 39 B (v := 0) dX12_freeStrokes_39 (by decide +kernel) ?_
      refine V_istore_n 40 B (lv2 := [(3, .int 0), (2, .int 0), (0, .ref h0), (1, .int (nI n4))]) dX12_freeStrokes_40 (by decide) rfl ?_
      refine V_wloop (α := WU) (fun a => 100000 - (a.1 0)) (fun a => INV ph (a.2.2.2.1 0) ∧ (a.1 0) ≤ 4000) (fun a => [(3, .int (nI (a.1 0))), (2, .int (a.2.1 0)), (0, .ref h0), (1, .int (nI n4))]) (fun a => [(h0, oC 13 [.ref h1, .ref h2, .int (a.2.1 1), .ref h3, .ref h4, .int (nI k5), .int (nI k6), .int p7, .int p8, .int p9, .int (nI k10), .int p11, .long q12, .ref h5, .ref h6, .int (nI k15), .int (nI k16)]), (h1, aI Y 3640 (a.2.2.2.1 0)), (h2, aZ Y 2 f1), (h3, aZ Y 80 f3), (h4, aB Y 1600 f4), (h5, aI Y 200 f13), (h6, aI Y 800 f14)]) (mkW [0] [0, (u15.2.1 0)] [] [(upd f0 3629 1)] [] []) ⟨hv18, (show 0 ≤ 4000 by omega)⟩ rfl rfl (fun a19 hI21 IH20 => ?_)
      refine V_lv [(3, .int (nI (a19.1 0))), (2, .int (a19.2.1 0)), (0, .ref h0), (1, .int (nI n4))] [0, 1, 2, 3] rfl ?_
      refine V_ws [(h0, oC 13 [.ref h1, .ref h2, .int (a19.2.1 1), .ref h3, .ref h4, .int (nI k5), .int (nI k6), .int p7, .int p8, .int p9, .int (nI k10), .int p11, .long q12, .ref h5, .ref h6, .int (nI k15), .int (nI k16)]), (h1, aI Y 3640 (a19.2.2.2.1 0)), (h2, aZ Y 2 f1), (h3, aZ Y 80 f3), (h4, aB Y 1600 f4), (h5, aI Y 200 f13), (h6, aI Y 800 f14)] rfl ?_
      obtain ⟨x22, x23⟩ := hI21
      refine V_iload_n 41 B dX12_freeStrokes_41 0 rfl ?_
      refine V_sipush 42 B (v := 130) dX12_freeStrokes_42 (by decide +kernel) ?_
      refine V_icmp_ge 45 B 85 dX12_freeStrokes_45 (by decide) (fun kk24 => ?_) (fun kk24 => ?_)
      ·
        have x25 := n_le (a := 130) (b := (a19.1 0)) kk24 (by omega) (by omega)
        refine V_iload_n 85 B dX12_freeStrokes_85 1 rfl ?_
        exact V_iret 86 B dX12_freeStrokes_86 (mkW [] [(a19.2.1 1)] [] [(a19.2.2.2.1 0)] [] []) x22 rfl
      ·
        have x26 := n_nle (a := 130) (b := (a19.1 0)) kk24 (by omega) (by omega)
        refine V_aload_n 48 B dX12_freeStrokes_48 2 rfl ?_
        refine V_get 49 B gf_RX12_9 0 rfl rfl dX12_freeStrokes_49 ?_
        refine V_sipush 52 B (v := 3630) dX12_freeStrokes_52 (by decide +kernel) ?_
        refine V_iload_n 55 B dX12_freeStrokes_55 0 rfl ?_
        refine V_csi 56 B (st := [.int 3630, .ref h1]) (As := [.int (nI (a19.1 0))]) (fun sz => rX12_simpleStroke l D Y (nI (a19.1 0)) sz) glS_RX12_181 ⟨rfl, rfl⟩ ⟨(Nat.le_of_ble_eq_true rfl), (Nat.le_of_ble_eq_true rfl)⟩ ⟨(Nat.le_of_ble_eq_true rfl), (Nat.le_of_ble_eq_true rfl)⟩ [] rfl rfl (Nat.le_of_ble_eq_true rfl) rfl (fun _ _ _ => rfl) dX12_freeStrokes_56 (fun j27 u28 w29 => ?_)
        refine V_ws [(h0, oC 13 [.ref h1, .ref h2, .int (a19.2.1 1), .ref h3, .ref h4, .int (nI k5), .int (nI k6), .int p7, .int p8, .int p9, .int (nI k10), .int p11, .long q12, .ref h5, .ref h6, .int (nI k15), .int (nI k16)]), (h1, aI Y 3640 (a19.2.2.2.1 0)), (h2, aZ Y 2 f1), (h3, aZ Y 80 f3), (h4, aB Y 1600 f4), (h5, aI Y 200 f13), (h6, aI Y 800 f14)] rfl ?_
        have hv30 : INV ph (upd (a19.2.2.2.1 0) 3630 j27) := INV_free x22 (show bd 3630 = FREE by decide +kernel)
        refine V_iast 59 B 1 rfl (vpin _ _ (by decide +kernel)) dX12_freeStrokes_59 [(h0, oC 13 [.ref h1, .ref h2, .int (a19.2.1 1), .ref h3, .ref h4, .int (nI k5), .int (nI k6), .int p7, .int p8, .int p9, .int (nI k10), .int p11, .long q12, .ref h5, .ref h6, .int (nI k15), .int (nI k16)]), (h1, aI Y 3640 (upd (a19.2.2.2.1 0) 3630 j27)), (h2, aZ Y 2 f1), (h3, aZ Y 80 f3), (h4, aB Y 1600 f4), (h5, aI Y 200 f13), (h6, aI Y 800 f14)] rfl ?_
        refine V_iload_n 60 B dX12_freeStrokes_60 1 rfl ?_
        refine V_aload_n 61 B dX12_freeStrokes_61 2 rfl ?_
        refine V_iload_n 62 B dX12_freeStrokes_62 3 rfl ?_
        refine V_sipush 63 B (v := 3629) dX12_freeStrokes_63 (by decide +kernel) ?_
        refine V_cvi 66 B (st := [.int (a19.2.1 0)]) (As := [.int (nI n4), .int 3629]) (fun sz => rX12_canBind l D Y h0 h1 h2 h3 h4 h5 h6 (a19.2.1 1) k5 k6 p7 p8 p9 k10 p11 q12 k15 k16 (upd (a19.2.2.2.1 0) 3630 j27) f1 f3 f4 f13 f14 ph hv30 (by omega) HP (nI n4) 3629 (show SQ 3629 by unfold SQ; decide +kernel) sz) glV_RX12_129 ⟨rfl, rfl⟩ ⟨(Nat.le_of_ble_eq_true rfl), (Nat.le_of_ble_eq_true rfl)⟩ ⟨(Nat.le_of_ble_eq_true rfl), (Nat.le_of_ble_eq_true rfl)⟩ [0, 0, 0, 0, 0, 0, 0] rfl 13 0 rfl rfl rfl rfl (Nat.le_of_ble_eq_true rfl) rfl (fun _ _ _ => rfl) dX12_freeStrokes_66 (fun j31 u32 w33 => ?_)
        refine V_ws [(h0, oC 13 [.ref h1, .ref h2, .int (a19.2.1 1), .ref h3, .ref h4, .int (nI k5), .int (nI k6), .int p7, .int p8, .int p9, .int (nI k10), .int p11, .long q12, .ref h5, .ref h6, .int (nI k15), .int (nI k16)]), (h1, aI Y 3640 (upd (a19.2.2.2.1 0) 3630 j27)), (h2, aZ Y 2 f1), (h3, aZ Y 80 f3), (h4, aB Y 1600 f4), (h5, aI Y 200 f13), (h6, aI Y 800 f14)] rfl ?_
        have x34 := w33
        clear w33
        rcases x34 with rfl | rfl
        ·
          refine V_if_eq_t 69 B 76 dX12_freeStrokes_69 (by decide) (by decide +kernel) ?_
          refine V_iconst 76 B (v := 0) dX12_freeStrokes_76 (by decide +kernel) ?_
          refine V_iadd 77 B (v := (a19.2.1 0)) dX12_freeStrokes_77 (Int32.add_zero _) ?_
          refine V_istore_n 78 B (lv2 := [(2, .int (a19.2.1 0)), (3, .int (nI (a19.1 0))), (0, .ref h0), (1, .int (nI n4))]) dX12_freeStrokes_78 (by decide) rfl ?_
          refine V_iinc 79 B (v := (nI (1 + (a19.1 0)))) (lv2 := [(3, .int (nI (1 + (a19.1 0)))), (2, .int (a19.2.1 0)), (0, .ref h0), (1, .int (nI n4))]) dX12_freeStrokes_79 1 rfl (nI_addE (a := (a19.1 0)) (b := 1) (by omega)) (by decide) rfl ?_
          refine V_goto 82 B 41 dX12_freeStrokes_82 (by decide) ?_
          refine V_lv [(3, .int (nI (1 + (a19.1 0)))), (2, .int (a19.2.1 0)), (0, .ref h0), (1, .int (nI n4))] [0, 1, 2, 3] rfl ?_
          exact IH20 (mkW [1 + (a19.1 0)] [(a19.2.1 0), (a19.2.1 1)] [] [(upd (a19.2.2.2.1 0) 3630 j27)] [] []) ⟨hv30, (show 1 + (a19.1 0) ≤ 4000 by omega)⟩ (by show 100000 - (1 + (a19.1 0)) < 100000 - (a19.1 0); omega)
        ·
          refine V_if_eq_f 69 B 76 dX12_freeStrokes_69 (by decide) (by decide +kernel) ?_
          refine V_iconst 72 B (v := 1) dX12_freeStrokes_72 (by decide +kernel) ?_
          refine V_goto 73 B 77 dX12_freeStrokes_73 (by decide) ?_
          refine V_iadd 77 B dX12_freeStrokes_77 rfl ?_
          refine V_nmi (fun j35 e36 => ?_)
          refine V_istore_n 78 B (lv2 := [(2, .int j35), (3, .int (nI (a19.1 0))), (0, .ref h0), (1, .int (nI n4))]) dX12_freeStrokes_78 (by decide) rfl ?_
          refine V_iinc 79 B (v := (nI (1 + (a19.1 0)))) (lv2 := [(3, .int (nI (1 + (a19.1 0)))), (2, .int j35), (0, .ref h0), (1, .int (nI n4))]) dX12_freeStrokes_79 1 rfl (nI_addE (a := (a19.1 0)) (b := 1) (by omega)) (by decide) rfl ?_
          refine V_goto 82 B 41 dX12_freeStrokes_82 (by decide) ?_
          refine V_lv [(3, .int (nI (1 + (a19.1 0)))), (2, .int j35), (0, .ref h0), (1, .int (nI n4))] [0, 1, 2, 3] rfl ?_
          exact IH20 (mkW [1 + (a19.1 0)] [j35, (a19.2.1 1)] [] [(upd (a19.2.2.2.1 0) 3630 j27)] [] []) ⟨hv30, (show 1 + (a19.1 0) ≤ 4000 by omega)⟩ (by show 100000 - (1 + (a19.1 0)) < 100000 - (a19.1 0); omega))
theorem dX12_isFreeHere_0 : decode cX12_isFreeHere 0 = .ok (.aload_n 0, 1) := by decide +kernel
theorem dX12_isFreeHere_1 : decode cX12_isFreeHere 1 = .ok (.iload_n 1, 1) := by decide +kernel
theorem dX12_isFreeHere_2 : decode cX12_isFreeHere 2 = .ok (.sipush 3629, 3) := by decide +kernel
theorem dX12_isFreeHere_5 : decode cX12_isFreeHere 5 = .ok (.invokevirtual 129, 3) := by decide +kernel
theorem dX12_isFreeHere_8 : decode cX12_isFreeHere 8 = .ok (.ifCond .ne 5, 3) := by decide +kernel
theorem dX12_isFreeHere_11 : decode cX12_isFreeHere 11 = .ok (.iconst 0, 1) := by decide +kernel
theorem dX12_isFreeHere_12 : decode cX12_isFreeHere 12 = .ok (.ireturn, 1) := by decide +kernel
theorem dX12_isFreeHere_13 : decode cX12_isFreeHere 13 = .ok (.iconst 1, 1) := by decide +kernel
theorem dX12_isFreeHere_14 : decode cX12_isFreeHere 14 = .ok (.istore_n 3, 1) := by decide +kernel
theorem dX12_isFreeHere_15 : decode cX12_isFreeHere 15 = .ok (.iconst 0, 1) := by decide +kernel
theorem dX12_isFreeHere_16 : decode cX12_isFreeHere 16 = .ok (.istore 4, 2) := by decide +kernel
theorem dX12_isFreeHere_18 : decode cX12_isFreeHere 18 = .ok (.iload 4, 2) := by decide +kernel
theorem dX12_isFreeHere_20 : decode cX12_isFreeHere 20 = .ok (.aload_n 0, 1) := by decide +kernel
theorem dX12_isFreeHere_21 : decode cX12_isFreeHere 21 = .ok (.getfield 9, 3) := by decide +kernel
theorem dX12_isFreeHere_24 : decode cX12_isFreeHere 24 = .ok (.iconst 3, 1) := by decide +kernel
theorem dX12_isFreeHere_25 : decode cX12_isFreeHere 25 = .ok (.iaload, 1) := by decide +kernel
theorem dX12_isFreeHere_26 : decode cX12_isFreeHere 26 = .ok (.if_icmp .ge 46, 3) := by decide +kernel
theorem dX12_isFreeHere_72 : decode cX12_isFreeHere 72 = .ok (.iload_n 3, 1) := by decide +kernel
theorem dX12_isFreeHere_73 : decode cX12_isFreeHere 73 = .ok (.ireturn, 1) := by decide +kernel
theorem dX12_isFreeHere_29 : decode cX12_isFreeHere 29 = .ok (.iload_n 2, 1) := by decide +kernel
theorem dX12_isFreeHere_30 : decode cX12_isFreeHere 30 = .ok (.ifCond .ne 42, 3) := by decide +kernel
theorem dX12_isFreeHere_33 : decode cX12_isFreeHere 33 = .ok (.iload_n 3, 1) := by decide +kernel
theorem dX12_isFreeHere_34 : decode cX12_isFreeHere 34 = .ok (.aload_n 0, 1) := by decide +kernel
theorem dX12_isFreeHere_35 : decode cX12_isFreeHere 35 = .ok (.getfield 17, 3) := by decide +kernel
theorem gf_RX12_17 : GF RX12 17 13 3 := ⟨RX12, TX12, 17, rfl, inw_X12, Nat.le_of_ble_eq_true rfl, (mT7 140 rfl rfl)⟩
theorem dX12_isFreeHere_38 : decode cX12_isFreeHere 38 = .ok (.iload 4, 2) := by decide +kernel
theorem dX12_isFreeHere_40 : decode cX12_isFreeHere 40 = .ok (.baload, 1) := by decide +kernel
theorem dX12_isFreeHere_41 : decode cX12_isFreeHere 41 = .ok (.ifCond .eq 18, 3) := by decide +kernel
theorem dX12_isFreeHere_59 : decode cX12_isFreeHere 59 = .ok (.iconst 1, 1) := by decide +kernel
theorem dX12_isFreeHere_60 : decode cX12_isFreeHere 60 = .ok (.goto 4, 3) := by decide +kernel
theorem dX12_isFreeHere_64 : decode cX12_isFreeHere 64 = .ok (.iand, 1) := by decide +kernel
theorem dX12_isFreeHere_65 : decode cX12_isFreeHere 65 = .ok (.istore_n 3, 1) := by decide +kernel
theorem dX12_isFreeHere_66 : decode cX12_isFreeHere 66 = .ok (.iinc 4 1, 3) := by decide +kernel
theorem dX12_isFreeHere_69 : decode cX12_isFreeHere 69 = .ok (.goto (-51), 3) := by decide +kernel
theorem dX12_isFreeHere_44 : decode cX12_isFreeHere 44 = .ok (.aload_n 0, 1) := by decide +kernel
theorem dX12_isFreeHere_45 : decode cX12_isFreeHere 45 = .ok (.iload 4, 2) := by decide +kernel
theorem dX12_isFreeHere_47 : decode cX12_isFreeHere 47 = .ok (.invokestatic 85, 3) := by decide +kernel
theorem dX12_isFreeHere_50 : decode cX12_isFreeHere 50 = .ok (.sipush 3629, 3) := by decide +kernel
theorem dX12_isFreeHere_53 : decode cX12_isFreeHere 53 = .ok (.invokevirtual 111, 3) := by decide +kernel
theorem dX12_isFreeHere_56 : decode cX12_isFreeHere 56 = .ok (.ifCond .ne 7, 3) := by decide +kernel
theorem dX12_isFreeHere_63 : decode cX12_isFreeHere 63 = .ok (.iconst 0, 1) := by decide +kernel
set_option maxRecDepth 100000 in
set_option maxHeartbeats 4000000 in
theorem rX12_isFreeHere (l : Launch) (D : va_G) (Y : Nat → ClassId) (h0 : Nat) (h1 : Nat) (h2 : Nat) (h3 : Nat) (h4 : Nat) (h5 : Nat) (h6 : Nat) (p2 : Int32) (k5 : Nat) (k6 : Nat) (p7 : Int32) (p8 : Int32) (p9 : Int32) (k10 : Nat) (p11 : Int32) (q12 : Int64) (k15 : Nat) (k16 : Nat) (f0 : Nat → Int32) (f1 : Nat → Int32) (f3 : Nat → Int32) (f4 : Nat → Int32) (f13 : Nat → Int32) (f14 : Nat → Int32) (ph : Nat → Int32) (HI : INV ph f0) (HL : k5 ≤ 1600) (HP : PLV f13) (s0 : Int32) (s1 : Int32)  (sz : Nat) : Met l yX12_isFreeHere (WSm yX12_isFreeHere cX12_isFreeHere 5 (some .boolean)) (mkR 5 0 0 112) (PreC D Y [.ref h0, .int s0, .int s1] [(h0, oC 13 [.ref h1, .ref h2, .int p2, .ref h3, .ref h4, .int (nI k5), .int (nI k6), .int p7, .int p8, .int p9, .int (nI k10), .int p11, .long q12, .ref h5, .ref h6, .int (nI k15), .int (nI k16)]), (h1, aI Y 3640 f0), (h2, aZ Y 2 f1), (h3, aZ Y 80 f3), (h4, aB Y 1600 f4), (h5, aI Y 200 f13), (h6, aI Y 800 f14)] sz) (QI D (fun (r : Int32) (u : WU) => (r = 0 ∨ r = 1)) (fun (u : WU) => [(h0, oC 13 [.ref h1, .ref h2, .int p2, .ref h3, .ref h4, .int (nI k5), .int (nI k6), .int p7, .int p8, .int p9, .int (nI k10), .int p11, .long q12, .ref h5, .ref h6, .int (nI k15), .int (nI k16)]), (h1, aI Y 3640 f0), (h2, aZ Y 2 f1), (h3, aZ Y 80 f3), (h4, aB Y 1600 f4), (h5, aI Y 200 f13), (h6, aI Y 800 f14)]) (va_A [(h0, oC 13 [.ref h1, .ref h2, .int p2, .ref h3, .ref h4, .int (nI k5), .int (nI k6), .int p7, .int p8, .int p9, .int (nI k10), .int p11, .long q12, .ref h5, .ref h6, .int (nI k15), .int (nI k16)]), (h1, aI Y 3640 f0), (h2, aZ Y 2 f1), (h3, aZ Y 80 f3), (h4, aB Y 1600 f4), (h5, aI Y 200 f13), (h6, aI Y 800 f14)] sz)) 0 0 (va_A [(h0, oC 13 [.ref h1, .ref h2, .int p2, .ref h3, .ref h4, .int (nI k5), .int (nI k6), .int p7, .int p8, .int p9, .int (nI k10), .int p11, .long q12, .ref h5, .ref h6, .int (nI k15), .int (nI k16)]), (h1, aI Y 3640 f0), (h2, aZ Y 2 f1), (h3, aZ Y 80 f3), (h4, aB Y 1600 f4), (h5, aI Y 200 f13), (h6, aI Y 800 f14)] sz) :=
  met_of  (by decide +kernel) (Nat.le_of_ble_eq_true rfl) (fun p e s m args below meth c B hin hsz => by
    have B : VB p s m args meth c D Y (va_A [(h0, oC 13 [.ref h1, .ref h2, .int p2, .ref h3, .ref h4, .int (nI k5), .int (nI k6), .int p7, .int p8, .int p9, .int (nI k10), .int p11, .long q12, .ref h5, .ref h6, .int (nI k15), .int (nI k16)]), (h1, aI Y 3640 f0), (h2, aZ Y 2 f1), (h3, aZ Y 80 f3), (h4, aB Y 1600 f4), (h5, aI Y 200 f13), (h6, aI Y 800 f14)] sz) cX12_isFreeHere 5 RX12 (some .boolean) := B
    refine V_aload_n 0 B dX12_isFreeHere_0 0 rfl ?_
    refine V_iload_n 1 B dX12_isFreeHere_1 1 rfl ?_
    refine V_sipush 2 B (v := 3629) dX12_isFreeHere_2 (by decide +kernel) ?_
    refine V_cvi 5 B (st := []) (As := [.int s0, .int 3629]) (fun sz => rX12_canBind l D Y h0 h1 h2 h3 h4 h5 h6 p2 k5 k6 p7 p8 p9 k10 p11 q12 k15 k16 f0 f1 f3 f4 f13 f14 ph HI (by omega) HP s0 3629 (show SQ 3629 by unfold SQ; decide +kernel) sz) glV_RX12_129 ⟨rfl, rfl⟩ ⟨(Nat.le_of_ble_eq_true rfl), (Nat.le_of_ble_eq_true rfl)⟩ ⟨(Nat.le_of_ble_eq_true rfl), (Nat.le_of_ble_eq_true rfl)⟩ [0, 0, 0, 0, 0, 0, 0] rfl 13 0 rfl rfl rfl rfl (Nat.le_of_ble_eq_true rfl) rfl (fun _ _ _ => rfl) dX12_isFreeHere_5 (fun j0 u1 w2 => ?_)
    refine V_ws [(h0, oC 13 [.ref h1, .ref h2, .int p2, .ref h3, .ref h4, .int (nI k5), .int (nI k6), .int p7, .int p8, .int p9, .int (nI k10), .int p11, .long q12, .ref h5, .ref h6, .int (nI k15), .int (nI k16)]), (h1, aI Y 3640 f0), (h2, aZ Y 2 f1), (h3, aZ Y 80 f3), (h4, aB Y 1600 f4), (h5, aI Y 200 f13), (h6, aI Y 800 f14)] rfl ?_
    have x3 := w2
    clear w2
    rcases x3 with rfl | rfl
    ·
      refine V_if_ne_f 8 B 13 dX12_isFreeHere_8 (by decide) (by decide +kernel) ?_
      refine V_iconst 11 B (v := 0) dX12_isFreeHere_11 (by decide +kernel) ?_
      exact V_zret 12 B rfl dX12_isFreeHere_12 (mkW [] [] [] [] [] []) (Or.inl rfl) rfl
    ·
      refine V_if_ne_t 8 B 13 dX12_isFreeHere_8 (by decide) (by decide +kernel) ?_
      refine V_iconst 13 B (v := 1) dX12_isFreeHere_13 (by decide +kernel) ?_
      refine V_istore_n 14 B (lv2 := [(3, .int 1), (0, .ref h0), (1, .int s0), (2, .int s1)]) dX12_isFreeHere_14 (by decide) rfl ?_
      refine V_iconst 15 B (v := 0) dX12_isFreeHere_15 (by decide +kernel) ?_
      refine V_istore 16 B (lv2 := [(4, .int 0), (3, .int 1), (0, .ref h0), (1, .int s0), (2, .int s1)]) dX12_isFreeHere_16 (by decide) rfl ?_
      refine V_wloop (α := WU) (fun a => 100000 - (a.1 0)) (fun a => (a.1 0) ≤ 4000 ∧ ((a.2.1 0) = 0 ∨ (a.2.1 0) = 1)) (fun a => [(4, .int (nI (a.1 0))), (3, .int (a.2.1 0)), (0, .ref h0), (1, .int s0), (2, .int s1)]) (fun a => [(h0, oC 13 [.ref h1, .ref h2, .int p2, .ref h3, .ref h4, .int (nI k5), .int (nI k6), .int p7, .int p8, .int p9, .int (nI k10), .int p11, .long q12, .ref h5, .ref h6, .int (nI k15), .int (nI k16)]), (h1, aI Y 3640 f0), (h2, aZ Y 2 f1), (h3, aZ Y 80 f3), (h4, aB Y 1600 f4), (h5, aI Y 200 f13), (h6, aI Y 800 f14)]) (mkW [0] [1] [] [] [] []) ⟨(show 0 ≤ 4000 by omega), (Or.inr rfl)⟩ rfl rfl (fun a4 hI6 IH5 => ?_)
      refine V_lv [(4, .int (nI (a4.1 0))), (3, .int (a4.2.1 0)), (0, .ref h0), (1, .int s0), (2, .int s1)] [0, 1, 2, 3, 4] rfl ?_
      refine V_ws [(h0, oC 13 [.ref h1, .ref h2, .int p2, .ref h3, .ref h4, .int (nI k5), .int (nI k6), .int p7, .int p8, .int p9, .int (nI k10), .int p11, .long q12, .ref h5, .ref h6, .int (nI k15), .int (nI k16)]), (h1, aI Y 3640 f0), (h2, aZ Y 2 f1), (h3, aZ Y 80 f3), (h4, aB Y 1600 f4), (h5, aI Y 200 f13), (h6, aI Y 800 f14)] rfl ?_
      obtain ⟨x7, x8⟩ := hI6
      rcases x8 with e9 | e9
      ·
        refine V_lv [(4, .int (nI (a4.1 0))), (3, .int 0), (0, .ref h0), (1, .int s0), (2, .int s1)] [0, 1, 2, 3, 4] (by rw [e9]; rfl) ?_
        refine V_iload 18 B dX12_isFreeHere_18 0 rfl ?_
        refine V_aload_n 20 B dX12_isFreeHere_20 2 rfl ?_
        refine V_get 21 B gf_RX12_9 0 rfl rfl dX12_isFreeHere_21 ?_
        refine V_iconst 24 B (v := 3) dX12_isFreeHere_24 (by decide +kernel) ?_
        have x10 : (gN f0 3) ≤ 80 := gN_le HI (by omega) (show bd 3 = (0, ((80 : Nat) : Int)) by decide +kernel)
        refine V_iald 25 B (v := (nI (gN f0 3))) 1 rfl (vpin _ _ (by decide +kernel)) dX12_isFreeHere_25 (by show f0 3 = _; exact gN_eq HI (by omega) (show bd 3 = (0, ((80 : Nat) : Int)) by decide +kernel)) ?_
        refine V_icmp_ge 26 B 72 dX12_isFreeHere_26 (by decide) (fun kk11 => ?_) (fun kk11 => ?_)
        ·
          have x12 := n_le (a := (gN f0 3)) (b := (a4.1 0)) kk11 (by omega) (by omega)
          refine V_iload_n 72 B dX12_isFreeHere_72 1 rfl ?_
          exact V_zret 73 B rfl dX12_isFreeHere_73 (mkW [] [] [] [] [] []) (Or.inl rfl) rfl
        ·
          have x13 := n_nle (a := (gN f0 3)) (b := (a4.1 0)) kk11 (by omega) (by omega)
          refine V_iload_n 29 B dX12_isFreeHere_29 4 rfl ?_
          refine V_if_ne 30 B 72 dX12_isFreeHere_30 (by decide) (fun kk14 => ?_) (fun kk14 => ?_)
          ·
            have x15 := x_ne kk14
            rw [show (0 : Int32).toInt = 0 by decide +kernel] at x15
            refine V_iload_n 72 B dX12_isFreeHere_72 1 rfl ?_
            exact V_zret 73 B rfl dX12_isFreeHere_73 (mkW [] [] [] [] [] []) (Or.inl rfl) rfl
          ·
            obtain rfl : s1 = 0 := kk14
            have e17 : (0 : Int32).toInt = 0 := by decide +kernel
            refine V_iload_n 33 B dX12_isFreeHere_33 1 rfl ?_
            refine V_aload_n 34 B dX12_isFreeHere_34 2 rfl ?_
            refine V_get 35 B gf_RX12_17 0 rfl rfl dX12_isFreeHere_35 ?_
            refine V_iload 38 B dX12_isFreeHere_38 0 rfl ?_
            refine V_zald 40 B 3 rfl (vp_in_nI (n := (a4.1 0)) (by omega) (by decide)) dX12_isFreeHere_40 rfl ?_
            refine V_nmi (fun j18 e19 => ?_)
            refine V_if_eq 41 B 59 dX12_isFreeHere_41 (by decide) (fun kk20 => ?_) (fun kk20 => ?_)
            ·
              obtain rfl : j18 = 0 := kk20
              have e22 : (0 : Int32).toInt = 0 := by decide +kernel
              refine V_iconst 59 B (v := 1) dX12_isFreeHere_59 (by decide +kernel) ?_
              refine V_goto 60 B 64 dX12_isFreeHere_60 (by decide) ?_
              refine V_iand 64 B (v := 0) dX12_isFreeHere_64 (by decide +kernel) ?_
              refine V_istore_n 65 B (lv2 := [(3, .int 0), (4, .int (nI (a4.1 0))), (0, .ref h0), (1, .int s0), (2, .int 0)]) dX12_isFreeHere_65 (by decide) rfl ?_
              refine V_iinc 66 B (v := (nI (1 + (a4.1 0)))) (lv2 := [(4, .int (nI (1 + (a4.1 0)))), (3, .int 0), (0, .ref h0), (1, .int s0), (2, .int 0)]) dX12_isFreeHere_66 1 rfl (nI_addE (a := (a4.1 0)) (b := 1) (by omega)) (by decide) rfl ?_
              refine V_goto 69 B 18 dX12_isFreeHere_69 (by decide) ?_
              refine V_lv [(4, .int (nI (1 + (a4.1 0)))), (3, .int 0), (0, .ref h0), (1, .int s0), (2, .int 0)] [0, 1, 2, 3, 4] rfl ?_
              exact IH5 (mkW [1 + (a4.1 0)] [0] [] [] [] []) ⟨(show 1 + (a4.1 0) ≤ 4000 by omega), (Or.inl rfl)⟩ (by show 100000 - (1 + (a4.1 0)) < 100000 - (a4.1 0); omega)
            ·
              have x23 := x_ne kk20
              rw [show (0 : Int32).toInt = 0 by decide +kernel] at x23
              refine V_aload_n 44 B dX12_isFreeHere_44 2 rfl ?_
              refine V_iload 45 B dX12_isFreeHere_45 0 rfl ?_
              refine V_csi 47 B (st := [.ref h0, .int 0]) (As := [.int (nI (a4.1 0))]) (fun sz => rX12_sequenceOf l D Y (a4.1 0) (by omega) sz) glS_RX12_85 ⟨rfl, rfl⟩ ⟨(Nat.le_of_ble_eq_true rfl), (Nat.le_of_ble_eq_true rfl)⟩ ⟨(Nat.le_of_ble_eq_true rfl), (Nat.le_of_ble_eq_true rfl)⟩ [] rfl rfl (Nat.le_of_ble_eq_true rfl) rfl (fun _ _ _ => rfl) dX12_isFreeHere_47 (fun j24 u25 w26 => ?_)
              refine V_ws [(h0, oC 13 [.ref h1, .ref h2, .int p2, .ref h3, .ref h4, .int (nI k5), .int (nI k6), .int p7, .int p8, .int p9, .int (nI k10), .int p11, .long q12, .ref h5, .ref h6, .int (nI k15), .int (nI k16)]), (h1, aI Y 3640 f0), (h2, aZ Y 2 f1), (h3, aZ Y 80 f3), (h4, aB Y 1600 f4), (h5, aI Y 200 f13), (h6, aI Y 800 f14)] rfl ?_
              have x27 := w26
              clear w26
              obtain rfl := x27
              refine V_sipush 50 B (v := 3629) dX12_isFreeHere_50 (by decide +kernel) ?_
              refine V_cvi 53 B (st := [.int 0]) (As := [.int (nI (186 + 7 * (a4.1 0))), .int 3629]) (fun sz => rX12_doClash l D Y h0 h1 h2 h3 h4 h5 h6 p2 k5 k6 p7 p8 p9 k10 p11 q12 k15 k16 f0 f1 f3 f4 f13 f14 ph HI (by omega) HP (186 + 7 * (a4.1 0)) 3629 (rl5 (a4.1 0) (by omega)) (show SQ 3629 by unfold SQ; decide +kernel) sz) glV_RX12_111 ⟨rfl, rfl⟩ ⟨(Nat.le_of_ble_eq_true rfl), (Nat.le_of_ble_eq_true rfl)⟩ ⟨(Nat.le_of_ble_eq_true rfl), (Nat.le_of_ble_eq_true rfl)⟩ [0, 0, 0, 0, 0, 0, 0] rfl 13 0 rfl rfl rfl rfl (Nat.le_of_ble_eq_true rfl) rfl (fun _ _ _ => rfl) dX12_isFreeHere_53 (fun j28 u29 w30 => ?_)
              refine V_ws [(h0, oC 13 [.ref h1, .ref h2, .int p2, .ref h3, .ref h4, .int (nI k5), .int (nI k6), .int p7, .int p8, .int p9, .int (nI k10), .int p11, .long q12, .ref h5, .ref h6, .int (nI k15), .int (nI k16)]), (h1, aI Y 3640 f0), (h2, aZ Y 2 f1), (h3, aZ Y 80 f3), (h4, aB Y 1600 f4), (h5, aI Y 200 f13), (h6, aI Y 800 f14)] rfl ?_
              have x31 := w30
              clear w30
              rcases x31 with ⟨rfl, x32⟩ | ⟨rfl, x32⟩
              ·
                refine V_if_ne_f 56 B 63 dX12_isFreeHere_56 (by decide) (by decide +kernel) ?_
                refine V_iconst 59 B (v := 1) dX12_isFreeHere_59 (by decide +kernel) ?_
                refine V_goto 60 B 64 dX12_isFreeHere_60 (by decide) ?_
                refine V_iand 64 B (v := 0) dX12_isFreeHere_64 (by decide +kernel) ?_
                refine V_istore_n 65 B (lv2 := [(3, .int 0), (4, .int (nI (a4.1 0))), (0, .ref h0), (1, .int s0), (2, .int 0)]) dX12_isFreeHere_65 (by decide) rfl ?_
                refine V_iinc 66 B (v := (nI (1 + (a4.1 0)))) (lv2 := [(4, .int (nI (1 + (a4.1 0)))), (3, .int 0), (0, .ref h0), (1, .int s0), (2, .int 0)]) dX12_isFreeHere_66 1 rfl (nI_addE (a := (a4.1 0)) (b := 1) (by omega)) (by decide) rfl ?_
                refine V_goto 69 B 18 dX12_isFreeHere_69 (by decide) ?_
                refine V_lv [(4, .int (nI (1 + (a4.1 0)))), (3, .int 0), (0, .ref h0), (1, .int s0), (2, .int 0)] [0, 1, 2, 3, 4] rfl ?_
                exact IH5 (mkW [1 + (a4.1 0)] [0] [] [] [] []) ⟨(show 1 + (a4.1 0) ≤ 4000 by omega), (Or.inl rfl)⟩ (by show 100000 - (1 + (a4.1 0)) < 100000 - (a4.1 0); omega)
              ·
                refine V_if_ne_t 56 B 63 dX12_isFreeHere_56 (by decide) (by decide +kernel) ?_
                refine V_iconst 63 B (v := 0) dX12_isFreeHere_63 (by decide +kernel) ?_
                refine V_iand 64 B (v := 0) dX12_isFreeHere_64 (by decide +kernel) ?_
                refine V_istore_n 65 B (lv2 := [(3, .int 0), (4, .int (nI (a4.1 0))), (0, .ref h0), (1, .int s0), (2, .int 0)]) dX12_isFreeHere_65 (by decide) rfl ?_
                refine V_iinc 66 B (v := (nI (1 + (a4.1 0)))) (lv2 := [(4, .int (nI (1 + (a4.1 0)))), (3, .int 0), (0, .ref h0), (1, .int s0), (2, .int 0)]) dX12_isFreeHere_66 1 rfl (nI_addE (a := (a4.1 0)) (b := 1) (by omega)) (by decide) rfl ?_
                refine V_goto 69 B 18 dX12_isFreeHere_69 (by decide) ?_
                refine V_lv [(4, .int (nI (1 + (a4.1 0)))), (3, .int 0), (0, .ref h0), (1, .int s0), (2, .int 0)] [0, 1, 2, 3, 4] rfl ?_
                exact IH5 (mkW [1 + (a4.1 0)] [0] [] [] [] []) ⟨(show 1 + (a4.1 0) ≤ 4000 by omega), (Or.inl rfl)⟩ (by show 100000 - (1 + (a4.1 0)) < 100000 - (a4.1 0); omega)
      ·
        refine V_lv [(4, .int (nI (a4.1 0))), (3, .int 1), (0, .ref h0), (1, .int s0), (2, .int s1)] [0, 1, 2, 3, 4] (by rw [e9]; rfl) ?_
        refine V_iload 18 B dX12_isFreeHere_18 0 rfl ?_
        refine V_aload_n 20 B dX12_isFreeHere_20 2 rfl ?_
        refine V_get 21 B gf_RX12_9 0 rfl rfl dX12_isFreeHere_21 ?_
        refine V_iconst 24 B (v := 3) dX12_isFreeHere_24 (by decide +kernel) ?_
        have x33 : (gN f0 3) ≤ 80 := gN_le HI (by omega) (show bd 3 = (0, ((80 : Nat) : Int)) by decide +kernel)
        refine V_iald 25 B (v := (nI (gN f0 3))) 1 rfl (vpin _ _ (by decide +kernel)) dX12_isFreeHere_25 (by show f0 3 = _; exact gN_eq HI (by omega) (show bd 3 = (0, ((80 : Nat) : Int)) by decide +kernel)) ?_
        refine V_icmp_ge 26 B 72 dX12_isFreeHere_26 (by decide) (fun kk34 => ?_) (fun kk34 => ?_)
        ·
          have x35 := n_le (a := (gN f0 3)) (b := (a4.1 0)) kk34 (by omega) (by omega)
          refine V_iload_n 72 B dX12_isFreeHere_72 1 rfl ?_
          exact V_zret 73 B rfl dX12_isFreeHere_73 (mkW [] [] [] [] [] []) (Or.inr rfl) rfl
        ·
          have x36 := n_nle (a := (gN f0 3)) (b := (a4.1 0)) kk34 (by omega) (by omega)
          refine V_iload_n 29 B dX12_isFreeHere_29 4 rfl ?_
          refine V_if_ne 30 B 72 dX12_isFreeHere_30 (by decide) (fun kk37 => ?_) (fun kk37 => ?_)
          ·
            have x38 := x_ne kk37
            rw [show (0 : Int32).toInt = 0 by decide +kernel] at x38
            refine V_iload_n 72 B dX12_isFreeHere_72 1 rfl ?_
            exact V_zret 73 B rfl dX12_isFreeHere_73 (mkW [] [] [] [] [] []) (Or.inr rfl) rfl
          ·
            obtain rfl : s1 = 0 := kk37
            have e40 : (0 : Int32).toInt = 0 := by decide +kernel
            refine V_iload_n 33 B dX12_isFreeHere_33 1 rfl ?_
            refine V_aload_n 34 B dX12_isFreeHere_34 2 rfl ?_
            refine V_get 35 B gf_RX12_17 0 rfl rfl dX12_isFreeHere_35 ?_
            refine V_iload 38 B dX12_isFreeHere_38 0 rfl ?_
            refine V_zald 40 B 3 rfl (vp_in_nI (n := (a4.1 0)) (by omega) (by decide)) dX12_isFreeHere_40 rfl ?_
            refine V_nmi (fun j41 e42 => ?_)
            refine V_if_eq 41 B 59 dX12_isFreeHere_41 (by decide) (fun kk43 => ?_) (fun kk43 => ?_)
            ·
              obtain rfl : j41 = 0 := kk43
              have e45 : (0 : Int32).toInt = 0 := by decide +kernel
              refine V_iconst 59 B (v := 1) dX12_isFreeHere_59 (by decide +kernel) ?_
              refine V_goto 60 B 64 dX12_isFreeHere_60 (by decide) ?_
              refine V_iand 64 B (v := 1) dX12_isFreeHere_64 (by decide +kernel) ?_
              refine V_istore_n 65 B (lv2 := [(3, .int 1), (4, .int (nI (a4.1 0))), (0, .ref h0), (1, .int s0), (2, .int 0)]) dX12_isFreeHere_65 (by decide) rfl ?_
              refine V_iinc 66 B (v := (nI (1 + (a4.1 0)))) (lv2 := [(4, .int (nI (1 + (a4.1 0)))), (3, .int 1), (0, .ref h0), (1, .int s0), (2, .int 0)]) dX12_isFreeHere_66 1 rfl (nI_addE (a := (a4.1 0)) (b := 1) (by omega)) (by decide) rfl ?_
              refine V_goto 69 B 18 dX12_isFreeHere_69 (by decide) ?_
              refine V_lv [(4, .int (nI (1 + (a4.1 0)))), (3, .int 1), (0, .ref h0), (1, .int s0), (2, .int 0)] [0, 1, 2, 3, 4] rfl ?_
              exact IH5 (mkW [1 + (a4.1 0)] [1] [] [] [] []) ⟨(show 1 + (a4.1 0) ≤ 4000 by omega), (Or.inr rfl)⟩ (by show 100000 - (1 + (a4.1 0)) < 100000 - (a4.1 0); omega)
            ·
              have x46 := x_ne kk43
              rw [show (0 : Int32).toInt = 0 by decide +kernel] at x46
              refine V_aload_n 44 B dX12_isFreeHere_44 2 rfl ?_
              refine V_iload 45 B dX12_isFreeHere_45 0 rfl ?_
              refine V_csi 47 B (st := [.ref h0, .int 1]) (As := [.int (nI (a4.1 0))]) (fun sz => rX12_sequenceOf l D Y (a4.1 0) (by omega) sz) glS_RX12_85 ⟨rfl, rfl⟩ ⟨(Nat.le_of_ble_eq_true rfl), (Nat.le_of_ble_eq_true rfl)⟩ ⟨(Nat.le_of_ble_eq_true rfl), (Nat.le_of_ble_eq_true rfl)⟩ [] rfl rfl (Nat.le_of_ble_eq_true rfl) rfl (fun _ _ _ => rfl) dX12_isFreeHere_47 (fun j47 u48 w49 => ?_)
              refine V_ws [(h0, oC 13 [.ref h1, .ref h2, .int p2, .ref h3, .ref h4, .int (nI k5), .int (nI k6), .int p7, .int p8, .int p9, .int (nI k10), .int p11, .long q12, .ref h5, .ref h6, .int (nI k15), .int (nI k16)]), (h1, aI Y 3640 f0), (h2, aZ Y 2 f1), (h3, aZ Y 80 f3), (h4, aB Y 1600 f4), (h5, aI Y 200 f13), (h6, aI Y 800 f14)] rfl ?_
              have x50 := w49
              clear w49
              obtain rfl := x50
              refine V_sipush 50 B (v := 3629) dX12_isFreeHere_50 (by decide +kernel) ?_
              refine V_cvi 53 B (st := [.int 1]) (As := [.int (nI (186 + 7 * (a4.1 0))), .int 3629]) (fun sz => rX12_doClash l D Y h0 h1 h2 h3 h4 h5 h6 p2 k5 k6 p7 p8 p9 k10 p11 q12 k15 k16 f0 f1 f3 f4 f13 f14 ph HI (by omega) HP (186 + 7 * (a4.1 0)) 3629 (rl5 (a4.1 0) (by omega)) (show SQ 3629 by unfold SQ; decide +kernel) sz) glV_RX12_111 ⟨rfl, rfl⟩ ⟨(Nat.le_of_ble_eq_true rfl), (Nat.le_of_ble_eq_true rfl)⟩ ⟨(Nat.le_of_ble_eq_true rfl), (Nat.le_of_ble_eq_true rfl)⟩ [0, 0, 0, 0, 0, 0, 0] rfl 13 0 rfl rfl rfl rfl (Nat.le_of_ble_eq_true rfl) rfl (fun _ _ _ => rfl) dX12_isFreeHere_53 (fun j51 u52 w53 => ?_)
              refine V_ws [(h0, oC 13 [.ref h1, .ref h2, .int p2, .ref h3, .ref h4, .int (nI k5), .int (nI k6), .int p7, .int p8, .int p9, .int (nI k10), .int p11, .long q12, .ref h5, .ref h6, .int (nI k15), .int (nI k16)]), (h1, aI Y 3640 f0), (h2, aZ Y 2 f1), (h3, aZ Y 80 f3), (h4, aB Y 1600 f4), (h5, aI Y 200 f13), (h6, aI Y 800 f14)] rfl ?_
              have x54 := w53
              clear w53
              rcases x54 with ⟨rfl, x55⟩ | ⟨rfl, x55⟩
              ·
                refine V_if_ne_f 56 B 63 dX12_isFreeHere_56 (by decide) (by decide +kernel) ?_
                refine V_iconst 59 B (v := 1) dX12_isFreeHere_59 (by decide +kernel) ?_
                refine V_goto 60 B 64 dX12_isFreeHere_60 (by decide) ?_
                refine V_iand 64 B (v := 1) dX12_isFreeHere_64 (by decide +kernel) ?_
                refine V_istore_n 65 B (lv2 := [(3, .int 1), (4, .int (nI (a4.1 0))), (0, .ref h0), (1, .int s0), (2, .int 0)]) dX12_isFreeHere_65 (by decide) rfl ?_
                refine V_iinc 66 B (v := (nI (1 + (a4.1 0)))) (lv2 := [(4, .int (nI (1 + (a4.1 0)))), (3, .int 1), (0, .ref h0), (1, .int s0), (2, .int 0)]) dX12_isFreeHere_66 1 rfl (nI_addE (a := (a4.1 0)) (b := 1) (by omega)) (by decide) rfl ?_
                refine V_goto 69 B 18 dX12_isFreeHere_69 (by decide) ?_
                refine V_lv [(4, .int (nI (1 + (a4.1 0)))), (3, .int 1), (0, .ref h0), (1, .int s0), (2, .int 0)] [0, 1, 2, 3, 4] rfl ?_
                exact IH5 (mkW [1 + (a4.1 0)] [1] [] [] [] []) ⟨(show 1 + (a4.1 0) ≤ 4000 by omega), (Or.inr rfl)⟩ (by show 100000 - (1 + (a4.1 0)) < 100000 - (a4.1 0); omega)
              ·
                refine V_if_ne_t 56 B 63 dX12_isFreeHere_56 (by decide) (by decide +kernel) ?_
                refine V_iconst 63 B (v := 0) dX12_isFreeHere_63 (by decide +kernel) ?_
                refine V_iand 64 B (v := 0) dX12_isFreeHere_64 (by decide +kernel) ?_
                refine V_istore_n 65 B (lv2 := [(3, .int 0), (4, .int (nI (a4.1 0))), (0, .ref h0), (1, .int s0), (2, .int 0)]) dX12_isFreeHere_65 (by decide) rfl ?_
                refine V_iinc 66 B (v := (nI (1 + (a4.1 0)))) (lv2 := [(4, .int (nI (1 + (a4.1 0)))), (3, .int 0), (0, .ref h0), (1, .int s0), (2, .int 0)]) dX12_isFreeHere_66 1 rfl (nI_addE (a := (a4.1 0)) (b := 1) (by omega)) (by decide) rfl ?_
                refine V_goto 69 B 18 dX12_isFreeHere_69 (by decide) ?_
                refine V_lv [(4, .int (nI (1 + (a4.1 0)))), (3, .int 0), (0, .ref h0), (1, .int s0), (2, .int 0)] [0, 1, 2, 3, 4] rfl ?_
                exact IH5 (mkW [1 + (a4.1 0)] [0] [] [] [] []) ⟨(show 1 + (a4.1 0) ≤ 4000 by omega), (Or.inl rfl)⟩ (by show 100000 - (1 + (a4.1 0)) < 100000 - (a4.1 0); omega))
theorem dX12_cheapest_0 : decode cX12_cheapest 0 = .ok (.aload_n 0, 1) := by decide +kernel
theorem dX12_cheapest_1 : decode cX12_cheapest 1 = .ok (.iconst 0, 1) := by decide +kernel
theorem dX12_cheapest_2 : decode cX12_cheapest 2 = .ok (.putfield 38, 3) := by decide +kernel
theorem dX12_cheapest_5 : decode cX12_cheapest 5 = .ok (.aload_n 0, 1) := by decide +kernel
theorem dX12_cheapest_6 : decode cX12_cheapest 6 = .ok (.aload_n 0, 1) := by decide +kernel
theorem dX12_cheapest_7 : decode cX12_cheapest 7 = .ok (.iload_n 1, 1) := by decide +kernel
theorem dX12_cheapest_8 : decode cX12_cheapest 8 = .ok (.invokevirtual 91, 3) := by decide +kernel
theorem dX12_cheapest_11 : decode cX12_cheapest 11 = .ok (.ifCond .ne 7, 3) := by decide +kernel
theorem dX12_cheapest_14 : decode cX12_cheapest 14 = .ok (.iconst 1, 1) := by decide +kernel
theorem dX12_cheapest_15 : decode cX12_cheapest 15 = .ok (.goto 4, 3) := by decide +kernel
theorem dX12_cheapest_19 : decode cX12_cheapest 19 = .ok (.iconst 1, 1) := by decide +kernel
theorem dX12_cheapest_20 : decode cX12_cheapest 20 = .ok (.invokevirtual 69, 3) := by decide +kernel
theorem dX12_cheapest_23 : decode cX12_cheapest 23 = .ok (.ifCond .ne 28, 3) := by decide +kernel
theorem dX12_cheapest_51 : decode cX12_cheapest 51 = .ok (.iconst 0, 1) := by decide +kernel
theorem dX12_cheapest_52 : decode cX12_cheapest 52 = .ok (.ireturn, 1) := by decide +kernel
theorem dX12_cheapest_18 : decode cX12_cheapest 18 = .ok (.iconst 0, 1) := by decide +kernel
theorem dX12_cheapest_26 : decode cX12_cheapest 26 = .ok (.aload_n 0, 1) := by decide +kernel
theorem dX12_cheapest_27 : decode cX12_cheapest 27 = .ok (.iload_n 2, 1) := by decide +kernel
theorem dX12_cheapest_28 : decode cX12_cheapest 28 = .ok (.i2l, 1) := by decide +kernel
theorem dX12_cheapest_29 : decode cX12_cheapest 29 = .ok (.lconst 1, 1) := by decide +kernel
theorem dX12_cheapest_30 : decode cX12_cheapest 30 = .ok (.ldc2_w 94, 3) := by decide +kernel
theorem dX12_cheapest_33 : decode cX12_cheapest 33 = .ok (.invokestatic 41, 3) := by decide +kernel
theorem dX12_cheapest_36 : decode cX12_cheapest 36 = .ok (.ifCond .ne 7, 3) := by decide +kernel
theorem dX12_cheapest_39 : decode cX12_cheapest 39 = .ok (.iconst 1, 1) := by decide +kernel
theorem dX12_cheapest_40 : decode cX12_cheapest 40 = .ok (.goto 4, 3) := by decide +kernel
theorem dX12_cheapest_44 : decode cX12_cheapest 44 = .ok (.iconst 2, 1) := by decide +kernel
theorem dX12_cheapest_45 : decode cX12_cheapest 45 = .ok (.invokevirtual 69, 3) := by decide +kernel
theorem dX12_cheapest_48 : decode cX12_cheapest 48 = .ok (.ifCond .eq 5, 3) := by decide +kernel
theorem dX12_cheapest_43 : decode cX12_cheapest 43 = .ok (.iconst 0, 1) := by decide +kernel
theorem dX12_cheapest_53 : decode cX12_cheapest 53 = .ok (.iconst 0, 1) := by decide +kernel
theorem dX12_cheapest_54 : decode cX12_cheapest 54 = .ok (.istore 4, 2) := by decide +kernel
theorem dX12_cheapest_56 : decode cX12_cheapest 56 = .ok (.iload 4, 2) := by decide +kernel
theorem dX12_cheapest_58 : decode cX12_cheapest 58 = .ok (.aload_n 0, 1) := by decide +kernel
theorem dX12_cheapest_59 : decode cX12_cheapest 59 = .ok (.getfield 9, 3) := by decide +kernel
theorem dX12_cheapest_62 : decode cX12_cheapest 62 = .ok (.iconst 3, 1) := by decide +kernel
theorem dX12_cheapest_63 : decode cX12_cheapest 63 = .ok (.iaload, 1) := by decide +kernel
theorem dX12_cheapest_64 : decode cX12_cheapest 64 = .ok (.if_icmp .ge 52, 3) := by decide +kernel
theorem dX12_cheapest_116 : decode cX12_cheapest 116 = .ok (.ldc 184, 2) := by decide +kernel
theorem dX12_cheapest_118 : decode cX12_cheapest 118 = .ok (.istore 4, 2) := by decide +kernel
theorem dX12_cheapest_120 : decode cX12_cheapest 120 = .ok (.iconst 0, 1) := by decide +kernel
theorem dX12_cheapest_121 : decode cX12_cheapest 121 = .ok (.istore 5, 2) := by decide +kernel
theorem dX12_cheapest_123 : decode cX12_cheapest 123 = .ok (.iconst 0, 1) := by decide +kernel
theorem dX12_cheapest_124 : decode cX12_cheapest 124 = .ok (.istore 6, 2) := by decide +kernel
theorem dX12_cheapest_126 : decode cX12_cheapest 126 = .ok (.aload_n 0, 1) := by decide +kernel
theorem dX12_cheapest_127 : decode cX12_cheapest 127 = .ok (.getfield 9, 3) := by decide +kernel
theorem dX12_cheapest_130 : decode cX12_cheapest 130 = .ok (.sipush 3629, 3) := by decide +kernel
theorem dX12_cheapest_133 : decode cX12_cheapest 133 = .ok (.iload_n 2, 1) := by decide +kernel
theorem dX12_cheapest_134 : decode cX12_cheapest 134 = .ok (.iastore, 1) := by decide +kernel
theorem dX12_cheapest_135 : decode cX12_cheapest 135 = .ok (.iconst 0, 1) := by decide +kernel
theorem dX12_cheapest_136 : decode cX12_cheapest 136 = .ok (.istore 7, 2) := by decide +kernel
theorem dX12_cheapest_138 : decode cX12_cheapest 138 = .ok (.iload 7, 2) := by decide +kernel
theorem dX12_cheapest_140 : decode cX12_cheapest 140 = .ok (.sipush 130, 3) := by decide +kernel
theorem dX12_cheapest_143 : decode cX12_cheapest 143 = .ok (.if_icmp .ge 107, 3) := by decide +kernel
theorem dX12_cheapest_250 : decode cX12_cheapest 250 = .ok (.iload 4, 2) := by decide +kernel
theorem dX12_cheapest_252 : decode cX12_cheapest 252 = .ok (.ldc 184, 2) := by decide +kernel
theorem dX12_cheapest_254 : decode cX12_cheapest 254 = .ok (.if_icmp .ne 5, 3) := by decide +kernel
theorem dX12_cheapest_259 : decode cX12_cheapest 259 = .ok (.aload_n 0, 1) := by decide +kernel
theorem dX12_cheapest_260 : decode cX12_cheapest 260 = .ok (.getfield 9, 3) := by decide +kernel
theorem dX12_cheapest_263 : decode cX12_cheapest 263 = .ok (.sipush 3624, 3) := by decide +kernel
theorem dX12_cheapest_266 : decode cX12_cheapest 266 = .ok (.iload_n 2, 1) := by decide +kernel
theorem dX12_cheapest_267 : decode cX12_cheapest 267 = .ok (.iastore, 1) := by decide +kernel
theorem dX12_cheapest_268 : decode cX12_cheapest 268 = .ok (.aload_n 0, 1) := by decide +kernel
theorem dX12_cheapest_269 : decode cX12_cheapest 269 = .ok (.getfield 9, 3) := by decide +kernel
theorem dX12_cheapest_272 : decode cX12_cheapest 272 = .ok (.sipush 3625, 3) := by decide +kernel
theorem dX12_cheapest_275 : decode cX12_cheapest 275 = .ok (.iload 5, 2) := by decide +kernel
theorem dX12_cheapest_277 : decode cX12_cheapest 277 = .ok (.iastore, 1) := by decide +kernel
theorem dX12_cheapest_278 : decode cX12_cheapest 278 = .ok (.aload_n 0, 1) := by decide +kernel
theorem dX12_cheapest_279 : decode cX12_cheapest 279 = .ok (.getfield 9, 3) := by decide +kernel
theorem dX12_cheapest_282 : decode cX12_cheapest 282 = .ok (.sipush 3626, 3) := by decide +kernel
theorem dX12_cheapest_285 : decode cX12_cheapest 285 = .ok (.iload 6, 2) := by decide +kernel
theorem dX12_cheapest_287 : decode cX12_cheapest 287 = .ok (.iastore, 1) := by decide +kernel
theorem dX12_cheapest_288 : decode cX12_cheapest 288 = .ok (.iload 4, 2) := by decide +kernel
theorem dX12_cheapest_290 : decode cX12_cheapest 290 = .ok (.ireturn, 1) := by decide +kernel
theorem dX12_cheapest_257 : decode cX12_cheapest 257 = .ok (.iconst (-1), 1) := by decide +kernel
theorem dX12_cheapest_258 : decode cX12_cheapest 258 = .ok (.ireturn, 1) := by decide +kernel
theorem dX12_cheapest_146 : decode cX12_cheapest 146 = .ok (.iconst 0, 1) := by decide +kernel
theorem dX12_cheapest_147 : decode cX12_cheapest 147 = .ok (.istore 8, 2) := by decide +kernel
theorem dX12_cheapest_149 : decode cX12_cheapest 149 = .ok (.iload 8, 2) := by decide +kernel
theorem dX12_cheapest_151 : decode cX12_cheapest 151 = .ok (.iload_n 2, 1) := by decide +kernel
theorem dX12_cheapest_152 : decode cX12_cheapest 152 = .ok (.iconst 1, 1) := by decide +kernel
theorem dX12_cheapest_153 : decode cX12_cheapest 153 = .ok (.if_icmp .ne 7, 3) := by decide +kernel
theorem dX12_cheapest_160 : decode cX12_cheapest 160 = .ok (.sipush 130, 3) := by decide +kernel
theorem dX12_cheapest_163 : decode cX12_cheapest 163 = .ok (.if_icmp .ge 81, 3) := by decide +kernel
theorem dX12_cheapest_244 : decode cX12_cheapest 244 = .ok (.iinc 7 1, 3) := by decide +kernel
theorem dX12_cheapest_247 : decode cX12_cheapest 247 = .ok (.goto (-109), 3) := by decide +kernel
theorem dX12_cheapest_166 : decode cX12_cheapest 166 = .ok (.aload_n 0, 1) := by decide +kernel
theorem dX12_cheapest_167 : decode cX12_cheapest 167 = .ok (.getfield 9, 3) := by decide +kernel
theorem dX12_cheapest_170 : decode cX12_cheapest 170 = .ok (.sipush 3630, 3) := by decide +kernel
theorem dX12_cheapest_173 : decode cX12_cheapest 173 = .ok (.iload 7, 2) := by decide +kernel
theorem dX12_cheapest_175 : decode cX12_cheapest 175 = .ok (.invokestatic 181, 3) := by decide +kernel
theorem dX12_cheapest_178 : decode cX12_cheapest 178 = .ok (.iastore, 1) := by decide +kernel
theorem dX12_cheapest_179 : decode cX12_cheapest 179 = .ok (.aload_n 0, 1) := by decide +kernel
theorem dX12_cheapest_180 : decode cX12_cheapest 180 = .ok (.getfield 9, 3) := by decide +kernel
theorem dX12_cheapest_183 : decode cX12_cheapest 183 = .ok (.sipush 3631, 3) := by decide +kernel
theorem dX12_cheapest_186 : decode cX12_cheapest 186 = .ok (.iload 8, 2) := by decide +kernel
theorem dX12_cheapest_188 : decode cX12_cheapest 188 = .ok (.invokestatic 181, 3) := by decide +kernel
theorem dX12_cheapest_191 : decode cX12_cheapest 191 = .ok (.iastore, 1) := by decide +kernel
theorem dX12_cheapest_192 : decode cX12_cheapest 192 = .ok (.aload_n 0, 1) := by decide +kernel
theorem dX12_cheapest_193 : decode cX12_cheapest 193 = .ok (.sipush 3629, 3) := by decide +kernel
theorem dX12_cheapest_196 : decode cX12_cheapest 196 = .ok (.invokevirtual 76, 3) := by decide +kernel
theorem dX12_cheapest_199 : decode cX12_cheapest 199 = .ok (.istore 9, 2) := by decide +kernel
theorem dX12_cheapest_201 : decode cX12_cheapest 201 = .ok (.iload 9, 2) := by decide +kernel
theorem dX12_cheapest_203 : decode cX12_cheapest 203 = .ok (.iload 4, 2) := by decide +kernel
theorem dX12_cheapest_205 : decode cX12_cheapest 205 = .ok (.if_icmp .ge 33, 3) := by decide +kernel
theorem dX12_cheapest_238 : decode cX12_cheapest 238 = .ok (.iinc 8 1, 3) := by decide +kernel
theorem dX12_cheapest_241 : decode cX12_cheapest 241 = .ok (.goto (-92), 3) := by decide +kernel
theorem dX12_cheapest_208 : decode cX12_cheapest 208 = .ok (.aload_n 0, 1) := by decide +kernel
theorem dX12_cheapest_209 : decode cX12_cheapest 209 = .ok (.iload_n 1, 1) := by decide +kernel
theorem dX12_cheapest_210 : decode cX12_cheapest 210 = .ok (.iload_n 3, 1) := by decide +kernel
theorem dX12_cheapest_211 : decode cX12_cheapest 211 = .ok (.invokevirtual 185, 3) := by decide +kernel
theorem glV_RX12_185 : GLV RX12 185 yX12_isFreeHere RX12 cX12_isFreeHere 5 (some .boolean) 2 := ⟨⟨(mT9 26 rfl rfl), (mT9 28 rfl rfl), (mTs 60 rfl rfl), (mT1 13 rfl rfl), (mT9 29 rfl rfl)⟩, by decide +kernel⟩
theorem dX12_cheapest_214 : decode cX12_cheapest 214 = .ok (.ifCond .ne 6, 3) := by decide +kernel
theorem dX12_cheapest_217 : decode cX12_cheapest 217 = .ok (.goto 21, 3) := by decide +kernel
theorem dX12_cheapest_220 : decode cX12_cheapest 220 = .ok (.iload 9, 2) := by decide +kernel
theorem dX12_cheapest_222 : decode cX12_cheapest 222 = .ok (.istore 4, 2) := by decide +kernel
theorem dX12_cheapest_224 : decode cX12_cheapest 224 = .ok (.iload 7, 2) := by decide +kernel
theorem dX12_cheapest_226 : decode cX12_cheapest 226 = .ok (.invokestatic 181, 3) := by decide +kernel
theorem dX12_cheapest_229 : decode cX12_cheapest 229 = .ok (.istore 5, 2) := by decide +kernel
theorem dX12_cheapest_231 : decode cX12_cheapest 231 = .ok (.iload 8, 2) := by decide +kernel
theorem dX12_cheapest_233 : decode cX12_cheapest 233 = .ok (.invokestatic 181, 3) := by decide +kernel
theorem dX12_cheapest_236 : decode cX12_cheapest 236 = .ok (.istore 6, 2) := by decide +kernel
theorem dX12_cheapest_156 : decode cX12_cheapest 156 = .ok (.iconst 1, 1) := by decide +kernel
theorem dX12_cheapest_157 : decode cX12_cheapest 157 = .ok (.goto 6, 3) := by decide +kernel
theorem dX12_cheapest_67 : decode cX12_cheapest 67 = .ok (.aload_n 0, 1) := by decide +kernel
theorem dX12_cheapest_68 : decode cX12_cheapest 68 = .ok (.getfield 17, 3) := by decide +kernel
theorem dX12_cheapest_71 : decode cX12_cheapest 71 = .ok (.iload 4, 2) := by decide +kernel
theorem dX12_cheapest_73 : decode cX12_cheapest 73 = .ok (.aload_n 0, 1) := by decide +kernel
theorem dX12_cheapest_74 : decode cX12_cheapest 74 = .ok (.getfield 9, 3) := by decide +kernel
theorem dX12_cheapest_77 : decode cX12_cheapest 77 = .ok (.bipush 16, 2) := by decide +kernel
theorem dX12_cheapest_79 : decode cX12_cheapest 79 = .ok (.iload_n 1, 1) := by decide +kernel
theorem dX12_cheapest_80 : decode cX12_cheapest 80 = .ok (.iadd, 1) := by decide +kernel
theorem dX12_cheapest_81 : decode cX12_cheapest 81 = .ok (.iaload, 1) := by decide +kernel
theorem dX12_cheapest_82 : decode cX12_cheapest 82 = .ok (.iconst (-1), 1) := by decide +kernel
theorem dX12_cheapest_83 : decode cX12_cheapest 83 = .ok (.if_icmp .eq 25, 3) := by decide +kernel
theorem dX12_cheapest_108 : decode cX12_cheapest 108 = .ok (.iconst 0, 1) := by decide +kernel
theorem dX12_cheapest_109 : decode cX12_cheapest 109 = .ok (.bastore, 1) := by decide +kernel
theorem dX12_cheapest_110 : decode cX12_cheapest 110 = .ok (.iinc 4 1, 3) := by decide +kernel
theorem dX12_cheapest_113 : decode cX12_cheapest 113 = .ok (.goto (-57), 3) := by decide +kernel
theorem dX12_cheapest_86 : decode cX12_cheapest 86 = .ok (.aload_n 0, 1) := by decide +kernel
theorem dX12_cheapest_87 : decode cX12_cheapest 87 = .ok (.aload_n 0, 1) := by decide +kernel
theorem dX12_cheapest_88 : decode cX12_cheapest 88 = .ok (.getfield 9, 3) := by decide +kernel
theorem dX12_cheapest_91 : decode cX12_cheapest 91 = .ok (.bipush 16, 2) := by decide +kernel
theorem dX12_cheapest_93 : decode cX12_cheapest 93 = .ok (.iload_n 1, 1) := by decide +kernel
theorem dX12_cheapest_94 : decode cX12_cheapest 94 = .ok (.iadd, 1) := by decide +kernel
theorem dX12_cheapest_95 : decode cX12_cheapest 95 = .ok (.iaload, 1) := by decide +kernel
theorem dX12_cheapest_96 : decode cX12_cheapest 96 = .ok (.iload 4, 2) := by decide +kernel
theorem dX12_cheapest_98 : decode cX12_cheapest 98 = .ok (.invokevirtual 154, 3) := by decide +kernel
theorem dX12_cheapest_101 : decode cX12_cheapest 101 = .ok (.ifCond .eq 7, 3) := by decide +kernel
theorem dX12_cheapest_104 : decode cX12_cheapest 104 = .ok (.iconst 1, 1) := by decide +kernel
theorem dX12_cheapest_105 : decode cX12_cheapest 105 = .ok (.goto 4, 3) := by decide +kernel
set_option maxRecDepth 100000 in
set_option maxHeartbeats 4000000 in
theorem rX12_cheapest (l : Launch) (D : va_G) (Y : Nat → ClassId) (h0 : Nat) (h1 : Nat) (h2 : Nat) (h3 : Nat) (h4 : Nat) (h5 : Nat) (h6 : Nat) (p2 : Int32) (k5 : Nat) (k6 : Nat) (p7 : Int32) (p8 : Int32) (p9 : Int32) (k10 : Nat) (p11 : Int32) (q12 : Int64) (k15 : Nat) (k16 : Nat) (f0 : Nat → Int32) (f1 : Nat → Int32) (f3 : Nat → Int32) (f4 : Nat → Int32) (f13 : Nat → Int32) (f14 : Nat → Int32) (ph : Nat → Int32) (HI : INV ph f0) (HL : k5 ≤ 1600) (HP : PLV f13) (s0 : Int32) (s1 : Int32) (s2 : Int32)  (sz : Nat) : Met l yX12_cheapest (WSm yX12_cheapest cX12_cheapest 10 (some .int)) (mkR 6 0 0 136) (PreC D Y [.ref h0, .int s0, .int s1, .int s2] [(h0, oC 13 [.ref h1, .ref h2, .int p2, .ref h3, .ref h4, .int (nI k5), .int (nI k6), .int p7, .int p8, .int p9, .int (nI k10), .int p11, .long q12, .ref h5, .ref h6, .int (nI k15), .int (nI k16)]), (h1, aI Y 3640 f0), (h2, aZ Y 2 f1), (h3, aZ Y 80 f3), (h4, aB Y 1600 f4), (h5, aI Y 200 f13), (h6, aI Y 800 f14)] sz) (QI D (fun (r : Int32) (u : WU) => INV ph (u.2.2.2.1 0)) (fun (u : WU) => [(h0, oC 13 [.ref h1, .ref h2, .int (u.2.1 0), .ref h3, .ref h4, .int (nI k5), .int (nI k6), .int p7, .int p8, .int p9, .int (nI k10), .int p11, .long q12, .ref h5, .ref h6, .int (nI k15), .int (nI k16)]), (h1, aI Y 3640 (u.2.2.2.1 0)), (h2, aZ Y 2 f1), (h3, aZ Y 80 (u.2.2.2.1 1)), (h4, aB Y 1600 f4), (h5, aI Y 200 f13), (h6, aI Y 800 f14)]) (va_A [(h0, oC 13 [.ref h1, .ref h2, .int p2, .ref h3, .ref h4, .int (nI k5), .int (nI k6), .int p7, .int p8, .int p9, .int (nI k10), .int p11, .long q12, .ref h5, .ref h6, .int (nI k15), .int (nI k16)]), (h1, aI Y 3640 f0), (h2, aZ Y 2 f1), (h3, aZ Y 80 f3), (h4, aB Y 1600 f4), (h5, aI Y 200 f13), (h6, aI Y 800 f14)] sz)) 0 0 (va_A [(h0, oC 13 [.ref h1, .ref h2, .int p2, .ref h3, .ref h4, .int (nI k5), .int (nI k6), .int p7, .int p8, .int p9, .int (nI k10), .int p11, .long q12, .ref h5, .ref h6, .int (nI k15), .int (nI k16)]), (h1, aI Y 3640 f0), (h2, aZ Y 2 f1), (h3, aZ Y 80 f3), (h4, aB Y 1600 f4), (h5, aI Y 200 f13), (h6, aI Y 800 f14)] sz) :=
  met_of  (by decide +kernel) (Nat.le_of_ble_eq_true rfl) (fun p e s m args below meth c B hin hsz => by
    have B : VB p s m args meth c D Y (va_A [(h0, oC 13 [.ref h1, .ref h2, .int p2, .ref h3, .ref h4, .int (nI k5), .int (nI k6), .int p7, .int p8, .int p9, .int (nI k10), .int p11, .long q12, .ref h5, .ref h6, .int (nI k15), .int (nI k16)]), (h1, aI Y 3640 f0), (h2, aZ Y 2 f1), (h3, aZ Y 80 f3), (h4, aB Y 1600 f4), (h5, aI Y 200 f13), (h6, aI Y 800 f14)] sz) cX12_cheapest 10 RX12 (some .int) := B
    refine V_aload_n 0 B dX12_cheapest_0 0 rfl ?_
    refine V_iconst 1 B (v := 0) dX12_cheapest_1 (by decide +kernel) ?_
    refine V_put 2 B gp_RX12_38 0 rfl (Nat.le_of_ble_eq_true rfl) rfl rfl dX12_cheapest_2 [(h0, oC 13 [.ref h1, .ref h2, .int 0, .ref h3, .ref h4, .int (nI k5), .int (nI k6), .int p7, .int p8, .int p9, .int (nI k10), .int p11, .long q12, .ref h5, .ref h6, .int (nI k15), .int (nI k16)]), (h1, aI Y 3640 f0), (h2, aZ Y 2 f1), (h3, aZ Y 80 f3), (h4, aB Y 1600 f4), (h5, aI Y 200 f13), (h6, aI Y 800 f14)] rfl ?_
    refine V_aload_n 5 B dX12_cheapest_5 0 rfl ?_
    refine V_aload_n 6 B dX12_cheapest_6 0 rfl ?_
    refine V_iload_n 7 B dX12_cheapest_7 1 rfl ?_
    refine V_cvi 8 B (st := [.ref h0]) (As := [.int s0]) (fun sz => rX12_isMode l D Y h0 h1 h2 h3 h4 h5 h6 0 k5 k6 p7 p8 p9 k10 p11 q12 k15 k16 f0 f1 f3 f4 f13 f14 ph HI (by omega) HP s0 sz) glV_RX12_91 ⟨rfl, rfl⟩ ⟨(Nat.le_of_ble_eq_true rfl), (Nat.le_of_ble_eq_true rfl)⟩ ⟨(Nat.le_of_ble_eq_true rfl), (Nat.le_of_ble_eq_true rfl)⟩ [0, 0, 0, 0, 0, 0, 0] rfl 13 0 rfl rfl rfl rfl (Nat.le_of_ble_eq_true rfl) rfl (fun _ _ _ => rfl) dX12_cheapest_8 (fun j0 u1 w2 => ?_)
    refine V_ws [(h0, oC 13 [.ref h1, .ref h2, .int 0, .ref h3, .ref h4, .int (nI k5), .int (nI k6), .int p7, .int p8, .int p9, .int (nI k10), .int p11, .long q12, .ref h5, .ref h6, .int (nI k15), .int (nI k16)]), (h1, aI Y 3640 f0), (h2, aZ Y 2 f1), (h3, aZ Y 80 f3), (h4, aB Y 1600 f4), (h5, aI Y 200 f13), (h6, aI Y 800 f14)] rfl ?_
    have x3 := w2
    clear w2
    have x7 : (gN f0 0) ≤ 6 := gN_le HI (by omega) (show bd 0 = (0, ((6 : Nat) : Int)) by decide +kernel)
    rcases x3 with rfl | ⟨rfl, n4, rfl, x6⟩
    ·
      refine V_if_ne_f 11 B 18 dX12_cheapest_11 (by decide) (by decide +kernel) ?_
      refine V_iconst 14 B (v := 1) dX12_cheapest_14 (by decide +kernel) ?_
      refine V_goto 15 B 19 dX12_cheapest_15 (by decide) ?_
      refine V_iconst 19 B (v := 1) dX12_cheapest_19 (by decide +kernel) ?_
      refine V_cvi 20 B (st := []) (As := [.int 1, .int 1]) (fun sz => rX12_throwsIf_1 l D Y h0 h1 h2 h3 h4 h5 h6 0 k5 k6 p7 p8 p9 k10 p11 q12 k15 k16 f0 f1 f3 f4 f13 f14 ph HI (by omega) HP 1 sz) glV_RX12_69 ⟨rfl, rfl⟩ ⟨(Nat.le_of_ble_eq_true rfl), (Nat.le_of_ble_eq_true rfl)⟩ ⟨(Nat.le_of_ble_eq_true rfl), (Nat.le_of_ble_eq_true rfl)⟩ [0, 0, 0, 0, 0, 0, 0] rfl 13 0 rfl rfl rfl rfl (Nat.le_of_ble_eq_true rfl) rfl (fun _ _ _ => rfl) dX12_cheapest_20 (fun j8 u9 w10 => ?_)
      refine V_ws [(h0, oC 13 [.ref h1, .ref h2, .int (u9.2.1 0), .ref h3, .ref h4, .int (nI k5), .int (nI k6), .int p7, .int p8, .int p9, .int (nI k10), .int p11, .long q12, .ref h5, .ref h6, .int (nI k15), .int (nI k16)]), (h1, aI Y 3640 f0), (h2, aZ Y 2 f1), (h3, aZ Y 80 f3), (h4, aB Y 1600 f4), (h5, aI Y 200 f13), (h6, aI Y 800 f14)] rfl ?_
      have x11 := w10
      clear w10
      obtain rfl := x11
      refine V_if_ne_t 23 B 51 dX12_cheapest_23 (by decide) (by decide +kernel) ?_
      refine V_iconst 51 B (v := 0) dX12_cheapest_51 (by decide +kernel) ?_
      exact V_iret 52 B dX12_cheapest_52 (mkW [] [(u9.2.1 0)] [] [f0, f3] [] []) HI rfl
    ·
      have e12 := nI_toInt (show n4 < 2 ^ 31 by omega)
      have x13 : (gN f0 0) ≤ 6 := gN_le HI (by omega) (show bd 0 = (0, ((6 : Nat) : Int)) by decide +kernel)
      refine V_if_ne_t 11 B 18 dX12_cheapest_11 (by decide) (by decide +kernel) ?_
      refine V_iconst 18 B (v := 0) dX12_cheapest_18 (by decide +kernel) ?_
      refine V_iconst 19 B (v := 1) dX12_cheapest_19 (by decide +kernel) ?_
      refine V_cvi 20 B (st := []) (As := [.int 0, .int 1]) (fun sz => rX12_throwsIf_0 l D Y h0 h1 h2 h3 h4 h5 h6 0 k5 k6 p7 p8 p9 k10 p11 q12 k15 k16 f0 f1 f3 f4 f13 f14 ph HI (by omega) HP 1 sz) glV_RX12_69 ⟨rfl, rfl⟩ ⟨(Nat.le_of_ble_eq_true rfl), (Nat.le_of_ble_eq_true rfl)⟩ ⟨(Nat.le_of_ble_eq_true rfl), (Nat.le_of_ble_eq_true rfl)⟩ [0, 0, 0, 0, 0, 0, 0] rfl 13 0 rfl rfl rfl rfl (Nat.le_of_ble_eq_true rfl) rfl (fun _ _ _ => rfl) dX12_cheapest_20 (fun j14 u15 w16 => ?_)
      refine V_ws [(h0, oC 13 [.ref h1, .ref h2, .int (u15.2.1 0), .ref h3, .ref h4, .int (nI k5), .int (nI k6), .int p7, .int p8, .int p9, .int (nI k10), .int p11, .long q12, .ref h5, .ref h6, .int (nI k15), .int (nI k16)]), (h1, aI Y 3640 f0), (h2, aZ Y 2 f1), (h3, aZ Y 80 f3), (h4, aB Y 1600 f4), (h5, aI Y 200 f13), (h6, aI Y 800 f14)] rfl ?_
      have x17 := w16
      clear w16
      obtain rfl := x17
      refine V_if_ne_f 23 B 51 dX12_cheapest_23 (by decide) (by decide +kernel) ?_
      refine V_aload_n 26 B dX12_cheapest_26 0 rfl ?_
      refine V_iload_n 27 B dX12_cheapest_27 2 rfl ?_
      refine V_i2l 28 B dX12_cheapest_28 rfl ?_
      refine V_nml (fun o18 e19 => ?_)
      have x20 : o18.toInt = s1.toInt := by rw [e19, Int32.toInt_toInt64]
      refine V_lconst 29 B (v := 1) dX12_cheapest_29 (by decide +kernel) ?_
      refine V_ldc2 30 B (v := 2) dX12_cheapest_30 (mT8 41 rfl rfl) ?_
      refine V_csi 33 B (st := [.ref h0]) (As := [.long o18, .long 1, .long 2]) (fun sz => rX12_inRange l D Y o18 1 2 sz) glS_RX12_41 ⟨rfl, rfl⟩ ⟨(Nat.le_of_ble_eq_true rfl), (Nat.le_of_ble_eq_true rfl)⟩ ⟨(Nat.le_of_ble_eq_true rfl), (Nat.le_of_ble_eq_true rfl)⟩ [] rfl rfl (Nat.le_of_ble_eq_true rfl) rfl (fun _ _ _ => rfl) dX12_cheapest_33 (fun j21 u22 w23 => ?_)
      refine V_ws [(h0, oC 13 [.ref h1, .ref h2, .int (u15.2.1 0), .ref h3, .ref h4, .int (nI k5), .int (nI k6), .int p7, .int p8, .int p9, .int (nI k10), .int p11, .long q12, .ref h5, .ref h6, .int (nI k15), .int (nI k16)]), (h1, aI Y 3640 f0), (h2, aZ Y 2 f1), (h3, aZ Y 80 f3), (h4, aB Y 1600 f4), (h5, aI Y 200 f13), (h6, aI Y 800 f14)] rfl ?_
      rcases w23 with ⟨rfl, x26⟩ | ⟨rfl, x24, x25⟩
      ·
        rw [show (1 : Int64).toInt = 1 by decide +kernel] at x26
        rw [show (2 : Int64).toInt = 2 by decide +kernel] at x26
        refine V_if_ne_f 36 B 43 dX12_cheapest_36 (by decide) (by decide +kernel) ?_
        refine V_iconst 39 B (v := 1) dX12_cheapest_39 (by decide +kernel) ?_
        refine V_goto 40 B 44 dX12_cheapest_40 (by decide) ?_
        refine V_iconst 44 B (v := 2) dX12_cheapest_44 (by decide +kernel) ?_
        refine V_cvi 45 B (st := []) (As := [.int 1, .int 2]) (fun sz => rX12_throwsIf_1 l D Y h0 h1 h2 h3 h4 h5 h6 (u15.2.1 0) k5 k6 p7 p8 p9 k10 p11 q12 k15 k16 f0 f1 f3 f4 f13 f14 ph HI (by omega) HP 2 sz) glV_RX12_69 ⟨rfl, rfl⟩ ⟨(Nat.le_of_ble_eq_true rfl), (Nat.le_of_ble_eq_true rfl)⟩ ⟨(Nat.le_of_ble_eq_true rfl), (Nat.le_of_ble_eq_true rfl)⟩ [0, 0, 0, 0, 0, 0, 0] rfl 13 0 rfl rfl rfl rfl (Nat.le_of_ble_eq_true rfl) rfl (fun _ _ _ => rfl) dX12_cheapest_45 (fun j27 u28 w29 => ?_)
        refine V_ws [(h0, oC 13 [.ref h1, .ref h2, .int (u28.2.1 0), .ref h3, .ref h4, .int (nI k5), .int (nI k6), .int p7, .int p8, .int p9, .int (nI k10), .int p11, .long q12, .ref h5, .ref h6, .int (nI k15), .int (nI k16)]), (h1, aI Y 3640 f0), (h2, aZ Y 2 f1), (h3, aZ Y 80 f3), (h4, aB Y 1600 f4), (h5, aI Y 200 f13), (h6, aI Y 800 f14)] rfl ?_
        have x30 := w29
        clear w29
        obtain rfl := x30
        refine V_if_eq_f 48 B 53 dX12_cheapest_48 (by decide) (by decide +kernel) ?_
        refine V_iconst 51 B (v := 0) dX12_cheapest_51 (by decide +kernel) ?_
        exact V_iret 52 B dX12_cheapest_52 (mkW [] [(u28.2.1 0)] [] [f0, f3] [] []) HI rfl
      ·
        rw [show (1 : Int64).toInt = 1 by decide +kernel] at x24
        rw [show (2 : Int64).toInt = 2 by decide +kernel] at x25
        refine V_if_ne_t 36 B 43 dX12_cheapest_36 (by decide) (by decide +kernel) ?_
        refine V_iconst 43 B (v := 0) dX12_cheapest_43 (by decide +kernel) ?_
        refine V_iconst 44 B (v := 2) dX12_cheapest_44 (by decide +kernel) ?_
        refine V_cvi 45 B (st := []) (As := [.int 0, .int 2]) (fun sz => rX12_throwsIf_0 l D Y h0 h1 h2 h3 h4 h5 h6 (u15.2.1 0) k5 k6 p7 p8 p9 k10 p11 q12 k15 k16 f0 f1 f3 f4 f13 f14 ph HI (by omega) HP 2 sz) glV_RX12_69 ⟨rfl, rfl⟩ ⟨(Nat.le_of_ble_eq_true rfl), (Nat.le_of_ble_eq_true rfl)⟩ ⟨(Nat.le_of_ble_eq_true rfl), (Nat.le_of_ble_eq_true rfl)⟩ [0, 0, 0, 0, 0, 0, 0] rfl 13 0 rfl rfl rfl rfl (Nat.le_of_ble_eq_true rfl) rfl (fun _ _ _ => rfl) dX12_cheapest_45 (fun j31 u32 w33 => ?_)
        refine V_ws [(h0, oC 13 [.ref h1, .ref h2, .int (u32.2.1 0), .ref h3, .ref h4, .int (nI k5), .int (nI k6), .int p7, .int p8, .int p9, .int (nI k10), .int p11, .long q12, .ref h5, .ref h6, .int (nI k15), .int (nI k16)]), (h1, aI Y 3640 f0), (h2, aZ Y 2 f1), (h3, aZ Y 80 f3), (h4, aB Y 1600 f4), (h5, aI Y 200 f13), (h6, aI Y 800 f14)] rfl ?_
        have x34 := w33
        clear w33
        obtain rfl := x34
        refine V_if_eq_t 48 B 53 dX12_cheapest_48 (by decide) (by decide +kernel) ?_
        refine V_iconst 53 B (v := 0) dX12_cheapest_53 (by decide +kernel) ?_
        refine V_istore 54 B (lv2 := [(4, .int 0), (0, .ref h0), (1, .int (nI n4)), (2, .int s1), (3, .int s2)]) dX12_cheapest_54 (by decide) rfl ?_
        refine V_wloop (α := WU) (fun a => 100000 - (a.1 0)) (fun a => INV ph (a.2.2.2.1 0) ∧ (a.1 0) ≤ 4000) (fun a => [(4, .int (nI (a.1 0))), (0, .ref h0), (1, .int (nI n4)), (2, .int s1), (3, .int s2)]) (fun a => [(h0, oC 13 [.ref h1, .ref h2, .int (a.2.1 0), .ref h3, .ref h4, .int (nI k5), .int (nI k6), .int p7, .int p8, .int p9, .int (nI k10), .int p11, .long q12, .ref h5, .ref h6, .int (nI k15), .int (nI k16)]), (h1, aI Y 3640 (a.2.2.2.1 0)), (h2, aZ Y 2 f1), (h3, aZ Y 80 (a.2.2.2.1 1)), (h4, aB Y 1600 f4), (h5, aI Y 200 f13), (h6, aI Y 800 f14)]) (mkW [0] [(u32.2.1 0)] [] [f0, f3] [] []) ⟨HI, (show 0 ≤ 4000 by omega)⟩ rfl rfl (fun a35 hI37 IH36 => ?_)
        refine V_lv [(4, .int (nI (a35.1 0))), (0, .ref h0), (1, .int (nI n4)), (2, .int s1), (3, .int s2)] [0, 1, 2, 3, 4] rfl ?_
        refine V_ws [(h0, oC 13 [.ref h1, .ref h2, .int (a35.2.1 0), .ref h3, .ref h4, .int (nI k5), .int (nI k6), .int p7, .int p8, .int p9, .int (nI k10), .int p11, .long q12, .ref h5, .ref h6, .int (nI k15), .int (nI k16)]), (h1, aI Y 3640 (a35.2.2.2.1 0)), (h2, aZ Y 2 f1), (h3, aZ Y 80 (a35.2.2.2.1 1)), (h4, aB Y 1600 f4), (h5, aI Y 200 f13), (h6, aI Y 800 f14)] rfl ?_
        obtain ⟨x38, x39⟩ := hI37
        refine V_iload 56 B dX12_cheapest_56 0 rfl ?_
        refine V_aload_n 58 B dX12_cheapest_58 1 rfl ?_
        refine V_get 59 B gf_RX12_9 0 rfl rfl dX12_cheapest_59 ?_
        refine V_iconst 62 B (v := 3) dX12_cheapest_62 (by decide +kernel) ?_
        have x40 : (gN (a35.2.2.2.1 0) 3) ≤ 80 := gN_le x38 (by omega) (show bd 3 = (0, ((80 : Nat) : Int)) by decide +kernel)
        refine V_iald 63 B (v := (nI ((gN (a35.2.2.2.1 0) 3)))) 1 rfl (vpin _ _ (by decide +kernel)) dX12_cheapest_63 (by show (a35.2.2.2.1 0) 3 = _; exact gN_eq x38 (by omega) (show bd 3 = (0, ((80 : Nat) : Int)) by decide +kernel)) ?_
        refine V_icmp_ge 64 B 116 dX12_cheapest_64 (by decide) (fun kk41 => ?_) (fun kk41 => ?_)
        ·
          have x42 := n_le (a := (gN (a35.2.2.2.1 0) 3)) (b := (a35.1 0)) kk41 (by omega) (by omega)
          refine V_ldc 116 B (v := 1000000) dX12_cheapest_116 (mT9 25 rfl rfl) ?_
          refine V_istore 118 B (lv2 := [(4, .int 1000000), (0, .ref h0), (1, .int (nI n4)), (2, .int s1), (3, .int s2)]) dX12_cheapest_118 (by decide) rfl ?_
          refine V_iconst 120 B (v := 0) dX12_cheapest_120 (by decide +kernel) ?_
          refine V_istore 121 B (lv2 := [(5, .int 0), (4, .int 1000000), (0, .ref h0), (1, .int (nI n4)), (2, .int s1), (3, .int s2)]) dX12_cheapest_121 (by decide) rfl ?_
          refine V_iconst 123 B (v := 0) dX12_cheapest_123 (by decide +kernel) ?_
          refine V_istore 124 B (lv2 := [(6, .int 0), (5, .int 0), (4, .int 1000000), (0, .ref h0), (1, .int (nI n4)), (2, .int s1), (3, .int s2)]) dX12_cheapest_124 (by decide) rfl ?_
          refine V_aload_n 126 B dX12_cheapest_126 3 rfl ?_
          refine V_get 127 B gf_RX12_9 0 rfl rfl dX12_cheapest_127 ?_
          refine V_sipush 130 B (v := 3629) dX12_cheapest_130 (by decide +kernel) ?_
          refine V_iload_n 133 B dX12_cheapest_133 5 rfl ?_
          have hv43 : INV ph (upd (a35.2.2.2.1 0) 3629 s1) := INV_upd x38 (show bd 3629 = (0, ((4 : Nat) : Int)) by decide +kernel) (by omega) (by omega)
          refine V_iast 134 B 1 rfl (vpin _ _ (by decide +kernel)) dX12_cheapest_134 [(h0, oC 13 [.ref h1, .ref h2, .int (a35.2.1 0), .ref h3, .ref h4, .int (nI k5), .int (nI k6), .int p7, .int p8, .int p9, .int (nI k10), .int p11, .long q12, .ref h5, .ref h6, .int (nI k15), .int (nI k16)]), (h1, aI Y 3640 (upd (a35.2.2.2.1 0) 3629 s1)), (h2, aZ Y 2 f1), (h3, aZ Y 80 (a35.2.2.2.1 1)), (h4, aB Y 1600 f4), (h5, aI Y 200 f13), (h6, aI Y 800 f14)] rfl ?_
          refine V_iconst 135 B (v := 0) dX12_cheapest_135 (by decide +kernel) ?_
          refine V_istore 136 B (lv2 := [(7, .int 0), (6, .int 0), (5, .int 0), (4, .int 1000000), (0, .ref h0), (1, .int (nI n4)), (2, .int s1), (3, .int s2)]) dX12_cheapest_136 (by decide) rfl ?_
          refine V_wloop (α := WU) (fun a => 100000 - (a.1 0)) (fun a => INV ph (a.2.2.2.1 0) ∧ (a.1 0) ≤ 4000) (fun a => [(7, .int (nI (a.1 0))), (6, .int (a.2.1 0)), (5, .int (a.2.1 1)), (4, .int (a.2.1 2)), (0, .ref h0), (1, .int (nI n4)), (2, .int s1), (3, .int s2)]) (fun a => [(h0, oC 13 [.ref h1, .ref h2, .int (a.2.1 3), .ref h3, .ref h4, .int (nI k5), .int (nI k6), .int p7, .int p8, .int p9, .int (nI k10), .int p11, .long q12, .ref h5, .ref h6, .int (nI k15), .int (nI k16)]), (h1, aI Y 3640 (a.2.2.2.1 0)), (h2, aZ Y 2 f1), (h3, aZ Y 80 (a.2.2.2.1 1)), (h4, aB Y 1600 f4), (h5, aI Y 200 f13), (h6, aI Y 800 f14)]) (mkW [0] [0, 0, 1000000, (a35.2.1 0)] [] [(upd (a35.2.2.2.1 0) 3629 s1), (a35.2.2.2.1 1)] [] []) ⟨hv43, (show 0 ≤ 4000 by omega)⟩ rfl rfl (fun a44 hI46 IH45 => ?_)
          refine V_lv [(7, .int (nI (a44.1 0))), (6, .int (a44.2.1 0)), (5, .int (a44.2.1 1)), (4, .int (a44.2.1 2)), (0, .ref h0), (1, .int (nI n4)), (2, .int s1), (3, .int s2)] [0, 1, 2, 3, 4, 5, 6, 7] rfl ?_
          refine V_ws [(h0, oC 13 [.ref h1, .ref h2, .int (a44.2.1 3), .ref h3, .ref h4, .int (nI k5), .int (nI k6), .int p7, .int p8, .int p9, .int (nI k10), .int p11, .long q12, .ref h5, .ref h6, .int (nI k15), .int (nI k16)]), (h1, aI Y 3640 (a44.2.2.2.1 0)), (h2, aZ Y 2 f1), (h3, aZ Y 80 (a44.2.2.2.1 1)), (h4, aB Y 1600 f4), (h5, aI Y 200 f13), (h6, aI Y 800 f14)] rfl ?_
          obtain ⟨x47, x48⟩ := hI46
          refine V_iload 138 B dX12_cheapest_138 0 rfl ?_
          refine V_sipush 140 B (v := 130) dX12_cheapest_140 (by decide +kernel) ?_
          refine V_icmp_ge 143 B 250 dX12_cheapest_143 (by decide) (fun kk49 => ?_) (fun kk49 => ?_)
          ·
            have x50 := n_le (a := 130) (b := (a44.1 0)) kk49 (by omega) (by omega)
            refine V_iload 250 B dX12_cheapest_250 3 rfl ?_
            refine V_ldc 252 B (v := 1000000) dX12_cheapest_252 (mT9 25 rfl rfl) ?_
            refine V_icmp_ne 254 B 259 dX12_cheapest_254 (by decide) (fun kk51 => ?_) (fun kk51 => ?_)
            ·
              have x52 := x_ne kk51
              rw [show (1000000 : Int32).toInt = 1000000 by decide +kernel] at x52
              refine V_aload_n 259 B dX12_cheapest_259 4 rfl ?_
              refine V_get 260 B gf_RX12_9 0 rfl rfl dX12_cheapest_260 ?_
              refine V_sipush 263 B (v := 3624) dX12_cheapest_263 (by decide +kernel) ?_
              refine V_iload_n 266 B dX12_cheapest_266 6 rfl ?_
              have hv53 : INV ph (upd (a44.2.2.2.1 0) 3624 s1) := INV_upd x47 (show bd 3624 = (0, ((4 : Nat) : Int)) by decide +kernel) (by omega) (by omega)
              refine V_iast 267 B 1 rfl (vpin _ _ (by decide +kernel)) dX12_cheapest_267 [(h0, oC 13 [.ref h1, .ref h2, .int (a44.2.1 3), .ref h3, .ref h4, .int (nI k5), .int (nI k6), .int p7, .int p8, .int p9, .int (nI k10), .int p11, .long q12, .ref h5, .ref h6, .int (nI k15), .int (nI k16)]), (h1, aI Y 3640 (upd (a44.2.2.2.1 0) 3624 s1)), (h2, aZ Y 2 f1), (h3, aZ Y 80 (a44.2.2.2.1 1)), (h4, aB Y 1600 f4), (h5, aI Y 200 f13), (h6, aI Y 800 f14)] rfl ?_
              refine V_aload_n 268 B dX12_cheapest_268 4 rfl ?_
              refine V_get 269 B gf_RX12_9 0 rfl rfl dX12_cheapest_269 ?_
              refine V_sipush 272 B (v := 3625) dX12_cheapest_272 (by decide +kernel) ?_
              refine V_iload 275 B dX12_cheapest_275 2 rfl ?_
              have hv54 : INV ph (upd (upd (a44.2.2.2.1 0) 3624 s1) 3625 (a44.2.1 1)) := INV_free hv53 (show bd 3625 = FREE by decide +kernel)
              refine V_iast 277 B 1 rfl (vpin _ _ (by decide +kernel)) dX12_cheapest_277 [(h0, oC 13 [.ref h1, .ref h2, .int (a44.2.1 3), .ref h3, .ref h4, .int (nI k5), .int (nI k6), .int p7, .int p8, .int p9, .int (nI k10), .int p11, .long q12, .ref h5, .ref h6, .int (nI k15), .int (nI k16)]), (h1, aI Y 3640 (upd (upd (a44.2.2.2.1 0) 3624 s1) 3625 (a44.2.1 1))), (h2, aZ Y 2 f1), (h3, aZ Y 80 (a44.2.2.2.1 1)), (h4, aB Y 1600 f4), (h5, aI Y 200 f13), (h6, aI Y 800 f14)] rfl ?_
              refine V_aload_n 278 B dX12_cheapest_278 4 rfl ?_
              refine V_get 279 B gf_RX12_9 0 rfl rfl dX12_cheapest_279 ?_
              refine V_sipush 282 B (v := 3626) dX12_cheapest_282 (by decide +kernel) ?_
              refine V_iload 285 B dX12_cheapest_285 1 rfl ?_
              have hv55 : INV ph (upd (upd (upd (a44.2.2.2.1 0) 3624 s1) 3625 (a44.2.1 1)) 3626 (a44.2.1 0)) := INV_free hv54 (show bd 3626 = FREE by decide +kernel)
              refine V_iast 287 B 1 rfl (vpin _ _ (by decide +kernel)) dX12_cheapest_287 [(h0, oC 13 [.ref h1, .ref h2, .int (a44.2.1 3), .ref h3, .ref h4, .int (nI k5), .int (nI k6), .int p7, .int p8, .int p9, .int (nI k10), .int p11, .long q12, .ref h5, .ref h6, .int (nI k15), .int (nI k16)]), (h1, aI Y 3640 (upd (upd (upd (a44.2.2.2.1 0) 3624 s1) 3625 (a44.2.1 1)) 3626 (a44.2.1 0))), (h2, aZ Y 2 f1), (h3, aZ Y 80 (a44.2.2.2.1 1)), (h4, aB Y 1600 f4), (h5, aI Y 200 f13), (h6, aI Y 800 f14)] rfl ?_
              refine V_iload 288 B dX12_cheapest_288 3 rfl ?_
              exact V_iret 290 B dX12_cheapest_290 (mkW [] [(a44.2.1 3)] [] [(upd (upd (upd (a44.2.2.2.1 0) 3624 s1) 3625 (a44.2.1 1)) 3626 (a44.2.1 0)), (a44.2.2.2.1 1)] [] []) hv55 rfl
            ·
              have x56 := x_eq kk51
              rw [show (1000000 : Int32).toInt = 1000000 by decide +kernel] at x56
              refine V_iconst 257 B (v := (-1)) dX12_cheapest_257 (by decide +kernel) ?_
              exact V_iret 258 B dX12_cheapest_258 (mkW [] [(a44.2.1 3)] [] [(a44.2.2.2.1 0), (a44.2.2.2.1 1)] [] []) x47 rfl
          ·
            have x57 := n_nle (a := 130) (b := (a44.1 0)) kk49 (by omega) (by omega)
            refine V_iconst 146 B (v := 0) dX12_cheapest_146 (by decide +kernel) ?_
            refine V_istore 147 B (lv2 := [(8, .int 0), (7, .int (nI (a44.1 0))), (6, .int (a44.2.1 0)), (5, .int (a44.2.1 1)), (4, .int (a44.2.1 2)), (0, .ref h0), (1, .int (nI n4)), (2, .int s1), (3, .int s2)]) dX12_cheapest_147 (by decide) rfl ?_
            refine V_wloop (α := WU) (fun a => 100000 - (a.1 0)) (fun a => INV ph (a.2.2.2.1 0) ∧ (a.1 0) ≤ 4000) (fun a => [(8, .int (nI (a.1 0))), (7, .int (nI (a44.1 0))), (6, .int (a.2.1 0)), (5, .int (a.2.1 1)), (4, .int (a.2.1 2)), (0, .ref h0), (1, .int (nI n4)), (2, .int s1), (3, .int s2)]) (fun a => [(h0, oC 13 [.ref h1, .ref h2, .int (a.2.1 3), .ref h3, .ref h4, .int (nI k5), .int (nI k6), .int p7, .int p8, .int p9, .int (nI k10), .int p11, .long q12, .ref h5, .ref h6, .int (nI k15), .int (nI k16)]), (h1, aI Y 3640 (a.2.2.2.1 0)), (h2, aZ Y 2 f1), (h3, aZ Y 80 (a.2.2.2.1 1)), (h4, aB Y 1600 f4), (h5, aI Y 200 f13), (h6, aI Y 800 f14)]) (mkW [0] [(a44.2.1 0), (a44.2.1 1), (a44.2.1 2), (a44.2.1 3)] [] [(a44.2.2.2.1 0), (a44.2.2.2.1 1)] [] []) ⟨x47, (show 0 ≤ 4000 by omega)⟩ rfl rfl (fun a58 hI60 IH59 => ?_)
            refine V_lv [(8, .int (nI (a58.1 0))), (7, .int (nI (a44.1 0))), (6, .int (a58.2.1 0)), (5, .int (a58.2.1 1)), (4, .int (a58.2.1 2)), (0, .ref h0), (1, .int (nI n4)), (2, .int s1), (3, .int s2)] [0, 1, 2, 3, 4, 5, 6, 7, 8] rfl ?_
            refine V_ws [(h0, oC 13 [.ref h1, .ref h2, .int (a58.2.1 3), .ref h3, .ref h4, .int (nI k5), .int (nI k6), .int p7, .int p8, .int p9, .int (nI k10), .int p11, .long q12, .ref h5, .ref h6, .int (nI k15), .int (nI k16)]), (h1, aI Y 3640 (a58.2.2.2.1 0)), (h2, aZ Y 2 f1), (h3, aZ Y 80 (a58.2.2.2.1 1)), (h4, aB Y 1600 f4), (h5, aI Y 200 f13), (h6, aI Y 800 f14)] rfl ?_
            obtain ⟨x61, x62⟩ := hI60
            refine V_iload 149 B dX12_cheapest_149 0 rfl ?_
            refine V_iload_n 151 B dX12_cheapest_151 7 rfl ?_
            refine V_iconst 152 B (v := 1) dX12_cheapest_152 (by decide +kernel) ?_
            refine V_icmp_ne 153 B 160 dX12_cheapest_153 (by decide) (fun kk63 => ?_) (fun kk63 => ?_)
            ·
              have x64 := x_ne kk63
              rw [show (1 : Int32).toInt = 1 by decide +kernel] at x64
              refine V_sipush 160 B (v := 130) dX12_cheapest_160 (by decide +kernel) ?_
              refine V_icmp_ge 163 B 244 dX12_cheapest_163 (by decide) (fun kk65 => ?_) (fun kk65 => ?_)
              ·
                have x66 := n_le (a := 130) (b := (a58.1 0)) kk65 (by omega) (by omega)
                refine V_iinc 244 B (v := (nI (1 + (a44.1 0)))) (lv2 := [(7, .int (nI (1 + (a44.1 0)))), (8, .int (nI (a58.1 0))), (6, .int (a58.2.1 0)), (5, .int (a58.2.1 1)), (4, .int (a58.2.1 2)), (0, .ref h0), (1, .int (nI n4)), (2, .int s1), (3, .int s2)]) dX12_cheapest_244 1 rfl (nI_addE (a := (a44.1 0)) (b := 1) (by omega)) (by decide) rfl ?_
                refine V_goto 247 B 138 dX12_cheapest_247 (by decide) ?_
                refine V_lv [(7, .int (nI (1 + (a44.1 0)))), (6, .int (a58.2.1 0)), (5, .int (a58.2.1 1)), (4, .int (a58.2.1 2)), (0, .ref h0), (1, .int (nI n4)), (2, .int s1), (3, .int s2)] [0, 2, 3, 4, 5, 6, 7, 8] rfl ?_
                exact IH45 (mkW [1 + (a44.1 0)] [(a58.2.1 0), (a58.2.1 1), (a58.2.1 2), (a58.2.1 3)] [] [(a58.2.2.2.1 0), (a58.2.2.2.1 1)] [] []) ⟨x61, (show 1 + (a44.1 0) ≤ 4000 by omega)⟩ (by show 100000 - (1 + (a44.1 0)) < 100000 - (a44.1 0); omega)
              ·
                have x67 := n_nle (a := 130) (b := (a58.1 0)) kk65 (by omega) (by omega)
                refine V_aload_n 166 B dX12_cheapest_166 5 rfl ?_
                refine V_get 167 B gf_RX12_9 0 rfl rfl dX12_cheapest_167 ?_
                refine V_sipush 170 B (v := 3630) dX12_cheapest_170 (by decide +kernel) ?_
                refine V_iload 173 B dX12_cheapest_173 1 rfl ?_
                refine V_csi 175 B (st := [.int 3630, .ref h1]) (As := [.int (nI (a44.1 0))]) (fun sz => rX12_simpleStroke l D Y (nI (a44.1 0)) sz) glS_RX12_181 ⟨rfl, rfl⟩ ⟨(Nat.le_of_ble_eq_true rfl), (Nat.le_of_ble_eq_true rfl)⟩ ⟨(Nat.le_of_ble_eq_true rfl), (Nat.le_of_ble_eq_true rfl)⟩ [] rfl rfl (Nat.le_of_ble_eq_true rfl) rfl (fun _ _ _ => rfl) dX12_cheapest_175 (fun j68 u69 w70 => ?_)
                refine V_ws [(h0, oC 13 [.ref h1, .ref h2, .int (a58.2.1 3), .ref h3, .ref h4, .int (nI k5), .int (nI k6), .int p7, .int p8, .int p9, .int (nI k10), .int p11, .long q12, .ref h5, .ref h6, .int (nI k15), .int (nI k16)]), (h1, aI Y 3640 (a58.2.2.2.1 0)), (h2, aZ Y 2 f1), (h3, aZ Y 80 (a58.2.2.2.1 1)), (h4, aB Y 1600 f4), (h5, aI Y 200 f13), (h6, aI Y 800 f14)] rfl ?_
                have hv71 : INV ph (upd (a58.2.2.2.1 0) 3630 j68) := INV_free x61 (show bd 3630 = FREE by decide +kernel)
                refine V_iast 178 B 1 rfl (vpin _ _ (by decide +kernel)) dX12_cheapest_178 [(h0, oC 13 [.ref h1, .ref h2, .int (a58.2.1 3), .ref h3, .ref h4, .int (nI k5), .int (nI k6), .int p7, .int p8, .int p9, .int (nI k10), .int p11, .long q12, .ref h5, .ref h6, .int (nI k15), .int (nI k16)]), (h1, aI Y 3640 (upd (a58.2.2.2.1 0) 3630 j68)), (h2, aZ Y 2 f1), (h3, aZ Y 80 (a58.2.2.2.1 1)), (h4, aB Y 1600 f4), (h5, aI Y 200 f13), (h6, aI Y 800 f14)] rfl ?_
                refine V_aload_n 179 B dX12_cheapest_179 5 rfl ?_
                refine V_get 180 B gf_RX12_9 0 rfl rfl dX12_cheapest_180 ?_
                refine V_sipush 183 B (v := 3631) dX12_cheapest_183 (by decide +kernel) ?_
                refine V_iload 186 B dX12_cheapest_186 0 rfl ?_
                refine V_csi 188 B (st := [.int 3631, .ref h1]) (As := [.int (nI (a58.1 0))]) (fun sz => rX12_simpleStroke l D Y (nI (a58.1 0)) sz) glS_RX12_181 ⟨rfl, rfl⟩ ⟨(Nat.le_of_ble_eq_true rfl), (Nat.le_of_ble_eq_true rfl)⟩ ⟨(Nat.le_of_ble_eq_true rfl), (Nat.le_of_ble_eq_true rfl)⟩ [] rfl rfl (Nat.le_of_ble_eq_true rfl) rfl (fun _ _ _ => rfl) dX12_cheapest_188 (fun j72 u73 w74 => ?_)
                refine V_ws [(h0, oC 13 [.ref h1, .ref h2, .int (a58.2.1 3), .ref h3, .ref h4, .int (nI k5), .int (nI k6), .int p7, .int p8, .int p9, .int (nI k10), .int p11, .long q12, .ref h5, .ref h6, .int (nI k15), .int (nI k16)]), (h1, aI Y 3640 (upd (a58.2.2.2.1 0) 3630 j68)), (h2, aZ Y 2 f1), (h3, aZ Y 80 (a58.2.2.2.1 1)), (h4, aB Y 1600 f4), (h5, aI Y 200 f13), (h6, aI Y 800 f14)] rfl ?_
                have hv75 : INV ph (upd (upd (a58.2.2.2.1 0) 3630 j68) 3631 j72) := INV_free hv71 (show bd 3631 = FREE by decide +kernel)
                refine V_iast 191 B 1 rfl (vpin _ _ (by decide +kernel)) dX12_cheapest_191 [(h0, oC 13 [.ref h1, .ref h2, .int (a58.2.1 3), .ref h3, .ref h4, .int (nI k5), .int (nI k6), .int p7, .int p8, .int p9, .int (nI k10), .int p11, .long q12, .ref h5, .ref h6, .int (nI k15), .int (nI k16)]), (h1, aI Y 3640 (upd (upd (a58.2.2.2.1 0) 3630 j68) 3631 j72)), (h2, aZ Y 2 f1), (h3, aZ Y 80 (a58.2.2.2.1 1)), (h4, aB Y 1600 f4), (h5, aI Y 200 f13), (h6, aI Y 800 f14)] rfl ?_
                refine V_aload_n 192 B dX12_cheapest_192 5 rfl ?_
                refine V_sipush 193 B (v := 3629) dX12_cheapest_193 (by decide +kernel) ?_
                refine V_cvi 196 B (st := []) (As := [.int 3629]) (fun sz => rX12_costOf l D Y h0 h1 h2 h3 h4 h5 h6 (a58.2.1 3) k5 k6 p7 p8 p9 k10 p11 q12 k15 k16 (upd (upd (a58.2.2.2.1 0) 3630 j68) 3631 j72) f1 (a58.2.2.2.1 1) f4 f13 f14 ph hv75 (by omega) HP 3629 (show SQ 3629 by unfold SQ; decide +kernel) sz) glV_RX12_76 ⟨rfl, rfl⟩ ⟨(Nat.le_of_ble_eq_true rfl), (Nat.le_of_ble_eq_true rfl)⟩ ⟨(Nat.le_of_ble_eq_true rfl), (Nat.le_of_ble_eq_true rfl)⟩ [0, 0, 0, 0, 0, 0, 0] rfl 13 0 rfl rfl rfl rfl (Nat.le_of_ble_eq_true rfl) rfl (fun _ _ _ => rfl) dX12_cheapest_196 (fun j76 u77 w78 => ?_)
                refine V_ws [(h0, oC 13 [.ref h1, .ref h2, .int (a58.2.1 3), .ref h3, .ref h4, .int (nI k5), .int (nI k6), .int p7, .int p8, .int p9, .int (nI k10), .int p11, .long q12, .ref h5, .ref h6, .int (nI k15), .int (nI k16)]), (h1, aI Y 3640 (upd (upd (a58.2.2.2.1 0) 3630 j68) 3631 j72)), (h2, aZ Y 2 f1), (h3, aZ Y 80 (a58.2.2.2.1 1)), (h4, aB Y 1600 f4), (h5, aI Y 200 f13), (h6, aI Y 800 f14)] rfl ?_
                refine V_istore 199 B (lv2 := [(9, .int j76), (8, .int (nI (a58.1 0))), (7, .int (nI (a44.1 0))), (6, .int (a58.2.1 0)), (5, .int (a58.2.1 1)), (4, .int (a58.2.1 2)), (0, .ref h0), (1, .int (nI n4)), (2, .int s1), (3, .int s2)]) dX12_cheapest_199 (by decide) rfl ?_
                refine V_iload 201 B dX12_cheapest_201 0 rfl ?_
                refine V_iload 203 B dX12_cheapest_203 5 rfl ?_
                refine V_icmp_ge 205 B 238 dX12_cheapest_205 (by decide) (fun kk79 => ?_) (fun kk79 => ?_)
                ·
                  have x80 := x_le kk79
                  refine V_iinc 238 B (v := (nI (1 + (a58.1 0)))) (lv2 := [(8, .int (nI (1 + (a58.1 0)))), (9, .int j76), (7, .int (nI (a44.1 0))), (6, .int (a58.2.1 0)), (5, .int (a58.2.1 1)), (4, .int (a58.2.1 2)), (0, .ref h0), (1, .int (nI n4)), (2, .int s1), (3, .int s2)]) dX12_cheapest_238 1 rfl (nI_addE (a := (a58.1 0)) (b := 1) (by omega)) (by decide) rfl ?_
                  refine V_goto 241 B 149 dX12_cheapest_241 (by decide) ?_
                  refine V_lv [(8, .int (nI (1 + (a58.1 0)))), (7, .int (nI (a44.1 0))), (6, .int (a58.2.1 0)), (5, .int (a58.2.1 1)), (4, .int (a58.2.1 2)), (0, .ref h0), (1, .int (nI n4)), (2, .int s1), (3, .int s2)] [0, 2, 3, 4, 5, 6, 7, 8, 9] rfl ?_
                  exact IH59 (mkW [1 + (a58.1 0)] [(a58.2.1 0), (a58.2.1 1), (a58.2.1 2), (a58.2.1 3)] [] [(upd (upd (a58.2.2.2.1 0) 3630 j68) 3631 j72), (a58.2.2.2.1 1)] [] []) ⟨hv75, (show 1 + (a58.1 0) ≤ 4000 by omega)⟩ (by show 100000 - (1 + (a58.1 0)) < 100000 - (a58.1 0); omega)
                ·
                  have x81 := x_nle kk79
                  refine V_aload_n 208 B dX12_cheapest_208 6 rfl ?_
                  refine V_iload_n 209 B dX12_cheapest_209 7 rfl ?_
                  refine V_iload_n 210 B dX12_cheapest_210 9 rfl ?_
                  refine V_cvi 211 B (st := []) (As := [.int (nI n4), .int s2]) (fun sz => rX12_isFreeHere l D Y h0 h1 h2 h3 h4 h5 h6 (a58.2.1 3) k5 k6 p7 p8 p9 k10 p11 q12 k15 k16 (upd (upd (a58.2.2.2.1 0) 3630 j68) 3631 j72) f1 (a58.2.2.2.1 1) f4 f13 f14 ph hv75 (by omega) HP (nI n4) s2 sz) glV_RX12_185 ⟨rfl, rfl⟩ ⟨(Nat.le_of_ble_eq_true rfl), (Nat.le_of_ble_eq_true rfl)⟩ ⟨(Nat.le_of_ble_eq_true rfl), (Nat.le_of_ble_eq_true rfl)⟩ [0, 0, 0, 0, 0, 0, 0] rfl 13 0 rfl rfl rfl rfl (Nat.le_of_ble_eq_true rfl) rfl (fun _ _ _ => rfl) dX12_cheapest_211 (fun j82 u83 w84 => ?_)
                  refine V_ws [(h0, oC 13 [.ref h1, .ref h2, .int (a58.2.1 3), .ref h3, .ref h4, .int (nI k5), .int (nI k6), .int p7, .int p8, .int p9, .int (nI k10), .int p11, .long q12, .ref h5, .ref h6, .int (nI k15), .int (nI k16)]), (h1, aI Y 3640 (upd (upd (a58.2.2.2.1 0) 3630 j68) 3631 j72)), (h2, aZ Y 2 f1), (h3, aZ Y 80 (a58.2.2.2.1 1)), (h4, aB Y 1600 f4), (h5, aI Y 200 f13), (h6, aI Y 800 f14)] rfl ?_
                  have x85 := w84
                  clear w84
                  rcases x85 with rfl | rfl
                  ·
                    refine V_if_ne_f 214 B 220 dX12_cheapest_214 (by decide) (by decide +kernel) ?_
                    refine V_goto 217 B 238 dX12_cheapest_217 (by decide) ?_
                    refine V_iinc 238 B (v := (nI (1 + (a58.1 0)))) (lv2 := [(8, .int (nI (1 + (a58.1 0)))), (9, .int j76), (7, .int (nI (a44.1 0))), (6, .int (a58.2.1 0)), (5, .int (a58.2.1 1)), (4, .int (a58.2.1 2)), (0, .ref h0), (1, .int (nI n4)), (2, .int s1), (3, .int s2)]) dX12_cheapest_238 1 rfl (nI_addE (a := (a58.1 0)) (b := 1) (by omega)) (by decide) rfl ?_
                    refine V_goto 241 B 149 dX12_cheapest_241 (by decide) ?_
                    refine V_lv [(8, .int (nI (1 + (a58.1 0)))), (7, .int (nI (a44.1 0))), (6, .int (a58.2.1 0)), (5, .int (a58.2.1 1)), (4, .int (a58.2.1 2)), (0, .ref h0), (1, .int (nI n4)), (2, .int s1), (3, .int s2)] [0, 2, 3, 4, 5, 6, 7, 8, 9] rfl ?_
                    exact IH59 (mkW [1 + (a58.1 0)] [(a58.2.1 0), (a58.2.1 1), (a58.2.1 2), (a58.2.1 3)] [] [(upd (upd (a58.2.2.2.1 0) 3630 j68) 3631 j72), (a58.2.2.2.1 1)] [] []) ⟨hv75, (show 1 + (a58.1 0) ≤ 4000 by omega)⟩ (by show 100000 - (1 + (a58.1 0)) < 100000 - (a58.1 0); omega)
                  ·
                    refine V_if_ne_t 214 B 220 dX12_cheapest_214 (by decide) (by decide +kernel) ?_
                    refine V_iload 220 B dX12_cheapest_220 0 rfl ?_
                    refine V_istore 222 B (lv2 := [(4, .int j76), (9, .int j76), (8, .int (nI (a58.1 0))), (7, .int (nI (a44.1 0))), (6, .int (a58.2.1 0)), (5, .int (a58.2.1 1)), (0, .ref h0), (1, .int (nI n4)), (2, .int s1), (3, .int s2)]) dX12_cheapest_222 (by decide) rfl ?_
                    refine V_iload 224 B dX12_cheapest_224 3 rfl ?_
                    refine V_csi 226 B (st := []) (As := [.int (nI (a44.1 0))]) (fun sz => rX12_simpleStroke l D Y (nI (a44.1 0)) sz) glS_RX12_181 ⟨rfl, rfl⟩ ⟨(Nat.le_of_ble_eq_true rfl), (Nat.le_of_ble_eq_true rfl)⟩ ⟨(Nat.le_of_ble_eq_true rfl), (Nat.le_of_ble_eq_true rfl)⟩ [] rfl rfl (Nat.le_of_ble_eq_true rfl) rfl (fun _ _ _ => rfl) dX12_cheapest_226 (fun j86 u87 w88 => ?_)
                    refine V_ws [(h0, oC 13 [.ref h1, .ref h2, .int (a58.2.1 3), .ref h3, .ref h4, .int (nI k5), .int (nI k6), .int p7, .int p8, .int p9, .int (nI k10), .int p11, .long q12, .ref h5, .ref h6, .int (nI k15), .int (nI k16)]), (h1, aI Y 3640 (upd (upd (a58.2.2.2.1 0) 3630 j68) 3631 j72)), (h2, aZ Y 2 f1), (h3, aZ Y 80 (a58.2.2.2.1 1)), (h4, aB Y 1600 f4), (h5, aI Y 200 f13), (h6, aI Y 800 f14)] rfl ?_
                    refine V_istore 229 B (lv2 := [(5, .int j86), (4, .int j76), (9, .int j76), (8, .int (nI (a58.1 0))), (7, .int (nI (a44.1 0))), (6, .int (a58.2.1 0)), (0, .ref h0), (1, .int (nI n4)), (2, .int s1), (3, .int s2)]) dX12_cheapest_229 (by decide) rfl ?_
                    refine V_iload 231 B dX12_cheapest_231 3 rfl ?_
                    refine V_csi 233 B (st := []) (As := [.int (nI (a58.1 0))]) (fun sz => rX12_simpleStroke l D Y (nI (a58.1 0)) sz) glS_RX12_181 ⟨rfl, rfl⟩ ⟨(Nat.le_of_ble_eq_true rfl), (Nat.le_of_ble_eq_true rfl)⟩ ⟨(Nat.le_of_ble_eq_true rfl), (Nat.le_of_ble_eq_true rfl)⟩ [] rfl rfl (Nat.le_of_ble_eq_true rfl) rfl (fun _ _ _ => rfl) dX12_cheapest_233 (fun j89 u90 w91 => ?_)
                    refine V_ws [(h0, oC 13 [.ref h1, .ref h2, .int (a58.2.1 3), .ref h3, .ref h4, .int (nI k5), .int (nI k6), .int p7, .int p8, .int p9, .int (nI k10), .int p11, .long q12, .ref h5, .ref h6, .int (nI k15), .int (nI k16)]), (h1, aI Y 3640 (upd (upd (a58.2.2.2.1 0) 3630 j68) 3631 j72)), (h2, aZ Y 2 f1), (h3, aZ Y 80 (a58.2.2.2.1 1)), (h4, aB Y 1600 f4), (h5, aI Y 200 f13), (h6, aI Y 800 f14)] rfl ?_
                    refine V_istore 236 B (lv2 := [(6, .int j89), (5, .int j86), (4, .int j76), (9, .int j76), (8, .int (nI (a58.1 0))), (7, .int (nI (a44.1 0))), (0, .ref h0), (1, .int (nI n4)), (2, .int s1), (3, .int s2)]) dX12_cheapest_236 (by decide) rfl ?_
                    refine V_iinc 238 B (v := (nI (1 + (a58.1 0)))) (lv2 := [(8, .int (nI (1 + (a58.1 0)))), (6, .int j89), (5, .int j86), (4, .int j76), (9, .int j76), (7, .int (nI (a44.1 0))), (0, .ref h0), (1, .int (nI n4)), (2, .int s1), (3, .int s2)]) dX12_cheapest_238 4 rfl (nI_addE (a := (a58.1 0)) (b := 1) (by omega)) (by decide) rfl ?_
                    refine V_goto 241 B 149 dX12_cheapest_241 (by decide) ?_
                    refine V_lv [(8, .int (nI (1 + (a58.1 0)))), (7, .int (nI (a44.1 0))), (6, .int j89), (5, .int j86), (4, .int j76), (0, .ref h0), (1, .int (nI n4)), (2, .int s1), (3, .int s2)] [0, 5, 1, 2, 3, 6, 7, 8, 9] rfl ?_
                    exact IH59 (mkW [1 + (a58.1 0)] [j89, j86, j76, (a58.2.1 3)] [] [(upd (upd (a58.2.2.2.1 0) 3630 j68) 3631 j72), (a58.2.2.2.1 1)] [] []) ⟨hv75, (show 1 + (a58.1 0) ≤ 4000 by omega)⟩ (by show 100000 - (1 + (a58.1 0)) < 100000 - (a58.1 0); omega)
            ·
              obtain rfl : s1 = 1 := kk63
              have e93 : (1 : Int32).toInt = 1 := by decide +kernel
              refine V_iconst 156 B (v := 1) dX12_cheapest_156 (by decide +kernel) ?_
              refine V_goto 157 B 163 dX12_cheapest_157 (by decide) ?_
              refine V_icmp_ge 163 B 244 dX12_cheapest_163 (by decide) (fun kk94 => ?_) (fun kk94 => ?_)
              ·
                have x95 := n_le (a := 1) (b := (a58.1 0)) kk94 (by omega) (by omega)
                refine V_iinc 244 B (v := (nI (1 + (a44.1 0)))) (lv2 := [(7, .int (nI (1 + (a44.1 0)))), (8, .int (nI (a58.1 0))), (6, .int (a58.2.1 0)), (5, .int (a58.2.1 1)), (4, .int (a58.2.1 2)), (0, .ref h0), (1, .int (nI n4)), (2, .int 1), (3, .int s2)]) dX12_cheapest_244 1 rfl (nI_addE (a := (a44.1 0)) (b := 1) (by omega)) (by decide) rfl ?_
                refine V_goto 247 B 138 dX12_cheapest_247 (by decide) ?_
                refine V_lv [(7, .int (nI (1 + (a44.1 0)))), (6, .int (a58.2.1 0)), (5, .int (a58.2.1 1)), (4, .int (a58.2.1 2)), (0, .ref h0), (1, .int (nI n4)), (2, .int 1), (3, .int s2)] [0, 2, 3, 4, 5, 6, 7, 8] rfl ?_
                exact IH45 (mkW [1 + (a44.1 0)] [(a58.2.1 0), (a58.2.1 1), (a58.2.1 2), (a58.2.1 3)] [] [(a58.2.2.2.1 0), (a58.2.2.2.1 1)] [] []) ⟨x61, (show 1 + (a44.1 0) ≤ 4000 by omega)⟩ (by show 100000 - (1 + (a44.1 0)) < 100000 - (a44.1 0); omega)
              ·
                have x96 := n_nle (a := 1) (b := (a58.1 0)) kk94 (by omega) (by omega)
                refine V_aload_n 166 B dX12_cheapest_166 5 rfl ?_
                refine V_get 167 B gf_RX12_9 0 rfl rfl dX12_cheapest_167 ?_
                refine V_sipush 170 B (v := 3630) dX12_cheapest_170 (by decide +kernel) ?_
                refine V_iload 173 B dX12_cheapest_173 1 rfl ?_
                refine V_csi 175 B (st := [.int 3630, .ref h1]) (As := [.int (nI (a44.1 0))]) (fun sz => rX12_simpleStroke l D Y (nI (a44.1 0)) sz) glS_RX12_181 ⟨rfl, rfl⟩ ⟨(Nat.le_of_ble_eq_true rfl), (Nat.le_of_ble_eq_true rfl)⟩ ⟨(Nat.le_of_ble_eq_true rfl), (Nat.le_of_ble_eq_true rfl)⟩ [] rfl rfl (Nat.le_of_ble_eq_true rfl) rfl (fun _ _ _ => rfl) dX12_cheapest_175 (fun j97 u98 w99 => ?_)
                refine V_ws [(h0, oC 13 [.ref h1, .ref h2, .int (a58.2.1 3), .ref h3, .ref h4, .int (nI k5), .int (nI k6), .int p7, .int p8, .int p9, .int (nI k10), .int p11, .long q12, .ref h5, .ref h6, .int (nI k15), .int (nI k16)]), (h1, aI Y 3640 (a58.2.2.2.1 0)), (h2, aZ Y 2 f1), (h3, aZ Y 80 (a58.2.2.2.1 1)), (h4, aB Y 1600 f4), (h5, aI Y 200 f13), (h6, aI Y 800 f14)] rfl ?_
                have hv100 : INV ph (upd (a58.2.2.2.1 0) 3630 j97) := INV_free x61 (show bd 3630 = FREE by decide +kernel)
                refine V_iast 178 B 1 rfl (vpin _ _ (by decide +kernel)) dX12_cheapest_178 [(h0, oC 13 [.ref h1, .ref h2, .int (a58.2.1 3), .ref h3, .ref h4, .int (nI k5), .int (nI k6), .int p7, .int p8, .int p9, .int (nI k10), .int p11, .long q12, .ref h5, .ref h6, .int (nI k15), .int (nI k16)]), (h1, aI Y 3640 (upd (a58.2.2.2.1 0) 3630 j97)), (h2, aZ Y 2 f1), (h3, aZ Y 80 (a58.2.2.2.1 1)), (h4, aB Y 1600 f4), (h5, aI Y 200 f13), (h6, aI Y 800 f14)] rfl ?_
                refine V_aload_n 179 B dX12_cheapest_179 5 rfl ?_
                refine V_get 180 B gf_RX12_9 0 rfl rfl dX12_cheapest_180 ?_
                refine V_sipush 183 B (v := 3631) dX12_cheapest_183 (by decide +kernel) ?_
                refine V_iload 186 B dX12_cheapest_186 0 rfl ?_
                refine V_csi 188 B (st := [.int 3631, .ref h1]) (As := [.int (nI (a58.1 0))]) (fun sz => rX12_simpleStroke l D Y (nI (a58.1 0)) sz) glS_RX12_181 ⟨rfl, rfl⟩ ⟨(Nat.le_of_ble_eq_true rfl), (Nat.le_of_ble_eq_true rfl)⟩ ⟨(Nat.le_of_ble_eq_true rfl), (Nat.le_of_ble_eq_true rfl)⟩ [] rfl rfl (Nat.le_of_ble_eq_true rfl) rfl (fun _ _ _ => rfl) dX12_cheapest_188 (fun j101 u102 w103 => ?_)
                refine V_ws [(h0, oC 13 [.ref h1, .ref h2, .int (a58.2.1 3), .ref h3, .ref h4, .int (nI k5), .int (nI k6), .int p7, .int p8, .int p9, .int (nI k10), .int p11, .long q12, .ref h5, .ref h6, .int (nI k15), .int (nI k16)]), (h1, aI Y 3640 (upd (a58.2.2.2.1 0) 3630 j97)), (h2, aZ Y 2 f1), (h3, aZ Y 80 (a58.2.2.2.1 1)), (h4, aB Y 1600 f4), (h5, aI Y 200 f13), (h6, aI Y 800 f14)] rfl ?_
                have hv104 : INV ph (upd (upd (a58.2.2.2.1 0) 3630 j97) 3631 j101) := INV_free hv100 (show bd 3631 = FREE by decide +kernel)
                refine V_iast 191 B 1 rfl (vpin _ _ (by decide +kernel)) dX12_cheapest_191 [(h0, oC 13 [.ref h1, .ref h2, .int (a58.2.1 3), .ref h3, .ref h4, .int (nI k5), .int (nI k6), .int p7, .int p8, .int p9, .int (nI k10), .int p11, .long q12, .ref h5, .ref h6, .int (nI k15), .int (nI k16)]), (h1, aI Y 3640 (upd (upd (a58.2.2.2.1 0) 3630 j97) 3631 j101)), (h2, aZ Y 2 f1), (h3, aZ Y 80 (a58.2.2.2.1 1)), (h4, aB Y 1600 f4), (h5, aI Y 200 f13), (h6, aI Y 800 f14)] rfl ?_
                refine V_aload_n 192 B dX12_cheapest_192 5 rfl ?_
                refine V_sipush 193 B (v := 3629) dX12_cheapest_193 (by decide +kernel) ?_
                refine V_cvi 196 B (st := []) (As := [.int 3629]) (fun sz => rX12_costOf l D Y h0 h1 h2 h3 h4 h5 h6 (a58.2.1 3) k5 k6 p7 p8 p9 k10 p11 q12 k15 k16 (upd (upd (a58.2.2.2.1 0) 3630 j97) 3631 j101) f1 (a58.2.2.2.1 1) f4 f13 f14 ph hv104 (by omega) HP 3629 (show SQ 3629 by unfold SQ; decide +kernel) sz) glV_RX12_76 ⟨rfl, rfl⟩ ⟨(Nat.le_of_ble_eq_true rfl), (Nat.le_of_ble_eq_true rfl)⟩ ⟨(Nat.le_of_ble_eq_true rfl), (Nat.le_of_ble_eq_true rfl)⟩ [0, 0, 0, 0, 0, 0, 0] rfl 13 0 rfl rfl rfl rfl (Nat.le_of_ble_eq_true rfl) rfl (fun _ _ _ => rfl) dX12_cheapest_196 (fun j105 u106 w107 => ?_)
                refine V_ws [(h0, oC 13 [.ref h1, .ref h2, .int (a58.2.1 3), .ref h3, .ref h4, .int (nI k5), .int (nI k6), .int p7, .int p8, .int p9, .int (nI k10), .int p11, .long q12, .ref h5, .ref h6, .int (nI k15), .int (nI k16)]), (h1, aI Y 3640 (upd (upd (a58.2.2.2.1 0) 3630 j97) 3631 j101)), (h2, aZ Y 2 f1), (h3, aZ Y 80 (a58.2.2.2.1 1)), (h4, aB Y 1600 f4), (h5, aI Y 200 f13), (h6, aI Y 800 f14)] rfl ?_
                refine V_istore 199 B (lv2 := [(9, .int j105), (8, .int (nI (a58.1 0))), (7, .int (nI (a44.1 0))), (6, .int (a58.2.1 0)), (5, .int (a58.2.1 1)), (4, .int (a58.2.1 2)), (0, .ref h0), (1, .int (nI n4)), (2, .int 1), (3, .int s2)]) dX12_cheapest_199 (by decide) rfl ?_
                refine V_iload 201 B dX12_cheapest_201 0 rfl ?_
                refine V_iload 203 B dX12_cheapest_203 5 rfl ?_
                refine V_icmp_ge 205 B 238 dX12_cheapest_205 (by decide) (fun kk108 => ?_) (fun kk108 => ?_)
                ·
                  have x109 := x_le kk108
                  refine V_iinc 238 B (v := (nI (1 + (a58.1 0)))) (lv2 := [(8, .int (nI (1 + (a58.1 0)))), (9, .int j105), (7, .int (nI (a44.1 0))), (6, .int (a58.2.1 0)), (5, .int (a58.2.1 1)), (4, .int (a58.2.1 2)), (0, .ref h0), (1, .int (nI n4)), (2, .int 1), (3, .int s2)]) dX12_cheapest_238 1 rfl (nI_addE (a := (a58.1 0)) (b := 1) (by omega)) (by decide) rfl ?_
                  refine V_goto 241 B 149 dX12_cheapest_241 (by decide) ?_
                  refine V_lv [(8, .int (nI (1 + (a58.1 0)))), (7, .int (nI (a44.1 0))), (6, .int (a58.2.1 0)), (5, .int (a58.2.1 1)), (4, .int (a58.2.1 2)), (0, .ref h0), (1, .int (nI n4)), (2, .int 1), (3, .int s2)] [0, 2, 3, 4, 5, 6, 7, 8, 9] rfl ?_
                  exact IH59 (mkW [1 + (a58.1 0)] [(a58.2.1 0), (a58.2.1 1), (a58.2.1 2), (a58.2.1 3)] [] [(upd (upd (a58.2.2.2.1 0) 3630 j97) 3631 j101), (a58.2.2.2.1 1)] [] []) ⟨hv104, (show 1 + (a58.1 0) ≤ 4000 by omega)⟩ (by show 100000 - (1 + (a58.1 0)) < 100000 - (a58.1 0); omega)
                ·
                  have x110 := x_nle kk108
                  refine V_aload_n 208 B dX12_cheapest_208 6 rfl ?_
                  refine V_iload_n 209 B dX12_cheapest_209 7 rfl ?_
                  refine V_iload_n 210 B dX12_cheapest_210 9 rfl ?_
                  refine V_cvi 211 B (st := []) (As := [.int (nI n4), .int s2]) (fun sz => rX12_isFreeHere l D Y h0 h1 h2 h3 h4 h5 h6 (a58.2.1 3) k5 k6 p7 p8 p9 k10 p11 q12 k15 k16 (upd (upd (a58.2.2.2.1 0) 3630 j97) 3631 j101) f1 (a58.2.2.2.1 1) f4 f13 f14 ph hv104 (by omega) HP (nI n4) s2 sz) glV_RX12_185 ⟨rfl, rfl⟩ ⟨(Nat.le_of_ble_eq_true rfl), (Nat.le_of_ble_eq_true rfl)⟩ ⟨(Nat.le_of_ble_eq_true rfl), (Nat.le_of_ble_eq_true rfl)⟩ [0, 0, 0, 0, 0, 0, 0] rfl 13 0 rfl rfl rfl rfl (Nat.le_of_ble_eq_true rfl) rfl (fun _ _ _ => rfl) dX12_cheapest_211 (fun j111 u112 w113 => ?_)
                  refine V_ws [(h0, oC 13 [.ref h1, .ref h2, .int (a58.2.1 3), .ref h3, .ref h4, .int (nI k5), .int (nI k6), .int p7, .int p8, .int p9, .int (nI k10), .int p11, .long q12, .ref h5, .ref h6, .int (nI k15), .int (nI k16)]), (h1, aI Y 3640 (upd (upd (a58.2.2.2.1 0) 3630 j97) 3631 j101)), (h2, aZ Y 2 f1), (h3, aZ Y 80 (a58.2.2.2.1 1)), (h4, aB Y 1600 f4), (h5, aI Y 200 f13), (h6, aI Y 800 f14)] rfl ?_
                  have x114 := w113
                  clear w113
                  rcases x114 with rfl | rfl
                  ·
                    refine V_if_ne_f 214 B 220 dX12_cheapest_214 (by decide) (by decide +kernel) ?_
                    refine V_goto 217 B 238 dX12_cheapest_217 (by decide) ?_
                    refine V_iinc 238 B (v := (nI (1 + (a58.1 0)))) (lv2 := [(8, .int (nI (1 + (a58.1 0)))), (9, .int j105), (7, .int (nI (a44.1 0))), (6, .int (a58.2.1 0)), (5, .int (a58.2.1 1)), (4, .int (a58.2.1 2)), (0, .ref h0), (1, .int (nI n4)), (2, .int 1), (3, .int s2)]) dX12_cheapest_238 1 rfl (nI_addE (a := (a58.1 0)) (b := 1) (by omega)) (by decide) rfl ?_
                    refine V_goto 241 B 149 dX12_cheapest_241 (by decide) ?_
                    refine V_lv [(8, .int (nI (1 + (a58.1 0)))), (7, .int (nI (a44.1 0))), (6, .int (a58.2.1 0)), (5, .int (a58.2.1 1)), (4, .int (a58.2.1 2)), (0, .ref h0), (1, .int (nI n4)), (2, .int 1), (3, .int s2)] [0, 2, 3, 4, 5, 6, 7, 8, 9] rfl ?_
                    exact IH59 (mkW [1 + (a58.1 0)] [(a58.2.1 0), (a58.2.1 1), (a58.2.1 2), (a58.2.1 3)] [] [(upd (upd (a58.2.2.2.1 0) 3630 j97) 3631 j101), (a58.2.2.2.1 1)] [] []) ⟨hv104, (show 1 + (a58.1 0) ≤ 4000 by omega)⟩ (by show 100000 - (1 + (a58.1 0)) < 100000 - (a58.1 0); omega)
                  ·
                    refine V_if_ne_t 214 B 220 dX12_cheapest_214 (by decide) (by decide +kernel) ?_
                    refine V_iload 220 B dX12_cheapest_220 0 rfl ?_
                    refine V_istore 222 B (lv2 := [(4, .int j105), (9, .int j105), (8, .int (nI (a58.1 0))), (7, .int (nI (a44.1 0))), (6, .int (a58.2.1 0)), (5, .int (a58.2.1 1)), (0, .ref h0), (1, .int (nI n4)), (2, .int 1), (3, .int s2)]) dX12_cheapest_222 (by decide) rfl ?_
                    refine V_iload 224 B dX12_cheapest_224 3 rfl ?_
                    refine V_csi 226 B (st := []) (As := [.int (nI (a44.1 0))]) (fun sz => rX12_simpleStroke l D Y (nI (a44.1 0)) sz) glS_RX12_181 ⟨rfl, rfl⟩ ⟨(Nat.le_of_ble_eq_true rfl), (Nat.le_of_ble_eq_true rfl)⟩ ⟨(Nat.le_of_ble_eq_true rfl), (Nat.le_of_ble_eq_true rfl)⟩ [] rfl rfl (Nat.le_of_ble_eq_true rfl) rfl (fun _ _ _ => rfl) dX12_cheapest_226 (fun j115 u116 w117 => ?_)
                    refine V_ws [(h0, oC 13 [.ref h1, .ref h2, .int (a58.2.1 3), .ref h3, .ref h4, .int (nI k5), .int (nI k6), .int p7, .int p8, .int p9, .int (nI k10), .int p11, .long q12, .ref h5, .ref h6, .int (nI k15), .int (nI k16)]), (h1, aI Y 3640 (upd (upd (a58.2.2.2.1 0) 3630 j97) 3631 j101)), (h2, aZ Y 2 f1), (h3, aZ Y 80 (a58.2.2.2.1 1)), (h4, aB Y 1600 f4), (h5, aI Y 200 f13), (h6, aI Y 800 f14)] rfl ?_
                    refine V_istore 229 B (lv2 := [(5, .int j115), (4, .int j105), (9, .int j105), (8, .int (nI (a58.1 0))), (7, .int (nI (a44.1 0))), (6, .int (a58.2.1 0)), (0, .ref h0), (1, .int (nI n4)), (2, .int 1), (3, .int s2)]) dX12_cheapest_229 (by decide) rfl ?_
                    refine V_iload 231 B dX12_cheapest_231 3 rfl ?_
                    refine V_csi 233 B (st := []) (As := [.int (nI (a58.1 0))]) (fun sz => rX12_simpleStroke l D Y (nI (a58.1 0)) sz) glS_RX12_181 ⟨rfl, rfl⟩ ⟨(Nat.le_of_ble_eq_true rfl), (Nat.le_of_ble_eq_true rfl)⟩ ⟨(Nat.le_of_ble_eq_true rfl), (Nat.le_of_ble_eq_true rfl)⟩ [] rfl rfl (Nat.le_of_ble_eq_true rfl) rfl (fun _ _ _ => rfl) dX12_cheapest_233 (fun j118 u119 w120 => ?_)
                    refine V_ws [(h0, oC 13 [.ref h1, .ref h2, .int (a58.2.1 3), .ref h3, .ref h4, .int (nI k5), .int (nI k6), .int p7, .int p8, .int p9, .int (nI k10), .int p11, .long q12, .ref h5, .ref h6, .int (nI k15), .int (nI k16)]), (h1, aI Y 3640 (upd (upd (a58.2.2.2.1 0) 3630 j97) 3631 j101)), (h2, aZ Y 2 f1), (h3, aZ Y 80 (a58.2.2.2.1 1)), (h4, aB Y 1600 f4), (h5, aI Y 200 f13), (h6, aI Y 800 f14)] rfl ?_
                    refine V_istore 236 B (lv2 := [(6, .int j118), (5, .int j115), (4, .int j105), (9, .int j105), (8, .int (nI (a58.1 0))), (7, .int (nI (a44.1 0))), (0, .ref h0), (1, .int (nI n4)), (2, .int 1), (3, .int s2)]) dX12_cheapest_236 (by decide) rfl ?_
                    refine V_iinc 238 B (v := (nI (1 + (a58.1 0)))) (lv2 := [(8, .int (nI (1 + (a58.1 0)))), (6, .int j118), (5, .int j115), (4, .int j105), (9, .int j105), (7, .int (nI (a44.1 0))), (0, .ref h0), (1, .int (nI n4)), (2, .int 1), (3, .int s2)]) dX12_cheapest_238 4 rfl (nI_addE (a := (a58.1 0)) (b := 1) (by omega)) (by decide) rfl ?_
                    refine V_goto 241 B 149 dX12_cheapest_241 (by decide) ?_
                    refine V_lv [(8, .int (nI (1 + (a58.1 0)))), (7, .int (nI (a44.1 0))), (6, .int j118), (5, .int j115), (4, .int j105), (0, .ref h0), (1, .int (nI n4)), (2, .int 1), (3, .int s2)] [0, 5, 1, 2, 3, 6, 7, 8, 9] rfl ?_
                    exact IH59 (mkW [1 + (a58.1 0)] [j118, j115, j105, (a58.2.1 3)] [] [(upd (upd (a58.2.2.2.1 0) 3630 j97) 3631 j101), (a58.2.2.2.1 1)] [] []) ⟨hv104, (show 1 + (a58.1 0) ≤ 4000 by omega)⟩ (by show 100000 - (1 + (a58.1 0)) < 100000 - (a58.1 0); omega)
        ·
          have x121 := n_nle (a := (gN (a35.2.2.2.1 0) 3)) (b := (a35.1 0)) kk41 (by omega) (by omega)
          refine V_aload_n 67 B dX12_cheapest_67 1 rfl ?_
          refine V_get 68 B gf_RX12_17 0 rfl rfl dX12_cheapest_68 ?_
          refine V_iload 71 B dX12_cheapest_71 0 rfl ?_
          refine V_aload_n 73 B dX12_cheapest_73 1 rfl ?_
          refine V_get 74 B gf_RX12_9 0 rfl rfl dX12_cheapest_74 ?_
          refine V_bipush 77 B (v := 16) dX12_cheapest_77 (by decide +kernel) ?_
          refine V_iload_n 79 B dX12_cheapest_79 2 rfl ?_
          refine V_iadd 80 B (v := (nI (16 + n4))) dX12_cheapest_80 (nI_addE (a := 16) (b := n4) (by omega)) ?_
          refine V_iald 81 B (v := (a35.2.2.2.1 0) (16 + n4)) 1 rfl (vp_in_nI (n := 16 + n4) (by omega) (by decide)) dX12_cheapest_81 (by rw [nI_clamp (show 16 + n4 < 2 ^ 31 by omega)]) ?_
          refine V_nmi (fun j122 e123 => ?_)
          have x124 : (-1) ≤ j122.toInt ∧ j122.toInt ≤ (((n4 : Nat) : Int) - 1) := by rw [e123]; exact ⟨INV_lo x38 (by omega) (rl6 n4 (by omega)), INV_hi x38 (by omega) (rl6 n4 (by omega))⟩
          refine V_iconst 82 B (v := (-1)) dX12_cheapest_82 (by decide +kernel) ?_
          refine V_icmp_eq 83 B 108 dX12_cheapest_83 (by decide) (fun kk125 => ?_) (fun kk125 => ?_)
          ·
            obtain rfl : j122 = (-1) := kk125
            have e127 : ((-1) : Int32).toInt = (-1) := by decide +kernel
            refine V_iconst 108 B (v := 0) dX12_cheapest_108 (by decide +kernel) ?_
            refine V_zast 109 B 3 rfl (vp_in_nI (n := (a35.1 0)) (by omega) (by decide)) dX12_cheapest_109 [(h0, oC 13 [.ref h1, .ref h2, .int (a35.2.1 0), .ref h3, .ref h4, .int (nI k5), .int (nI k6), .int p7, .int p8, .int p9, .int (nI k10), .int p11, .long q12, .ref h5, .ref h6, .int (nI k15), .int (nI k16)]), (h1, aI Y 3640 (a35.2.2.2.1 0)), (h2, aZ Y 2 f1), (h3, aZ Y 80 (upd (a35.2.2.2.1 1) (a35.1 0) (vp_nar .boolean 0))), (h4, aB Y 1600 f4), (h5, aI Y 200 f13), (h6, aI Y 800 f14)] (by rw [nI_clamp (show (a35.1 0) < 2 ^ 31 by omega)]; rfl) ?_
            refine V_iinc 110 B (v := (nI (1 + (a35.1 0)))) (lv2 := [(4, .int (nI (1 + (a35.1 0)))), (0, .ref h0), (1, .int (nI n4)), (2, .int s1), (3, .int s2)]) dX12_cheapest_110 0 rfl (nI_addE (a := (a35.1 0)) (b := 1) (by omega)) (by decide) rfl ?_
            refine V_goto 113 B 56 dX12_cheapest_113 (by decide) ?_
            refine V_lv [(4, .int (nI (1 + (a35.1 0)))), (0, .ref h0), (1, .int (nI n4)), (2, .int s1), (3, .int s2)] [0, 1, 2, 3, 4] rfl ?_
            exact IH36 (mkW [1 + (a35.1 0)] [(a35.2.1 0)] [] [(a35.2.2.2.1 0), (upd (a35.2.2.2.1 1) (a35.1 0) (vp_nar .boolean 0))] [] []) ⟨x38, (show 1 + (a35.1 0) ≤ 4000 by omega)⟩ (by show 100000 - (1 + (a35.1 0)) < 100000 - (a35.1 0); omega)
          ·
            have x128 := x_ne kk125
            rw [show ((-1) : Int32).toInt = (-1) by decide +kernel] at x128
            refine V_aload_n 86 B dX12_cheapest_86 1 rfl ?_
            refine V_aload_n 87 B dX12_cheapest_87 1 rfl ?_
            refine V_get 88 B gf_RX12_9 0 rfl rfl dX12_cheapest_88 ?_
            refine V_bipush 91 B (v := 16) dX12_cheapest_91 (by decide +kernel) ?_
            refine V_iload_n 93 B dX12_cheapest_93 2 rfl ?_
            refine V_iadd 94 B (v := (nI (16 + n4))) dX12_cheapest_94 (nI_addE (a := 16) (b := n4) (by omega)) ?_
            refine V_iald 95 B (v := (a35.2.2.2.1 0) (16 + n4)) 1 rfl (vp_in_nI (n := 16 + n4) (by omega) (by decide)) dX12_cheapest_95 (by rw [nI_clamp (show 16 + n4 < 2 ^ 31 by omega)]) ?_
            refine V_nmi (fun j129 e130 => ?_)
            have x131 : (-1) ≤ j129.toInt ∧ j129.toInt ≤ (((n4 : Nat) : Int) - 1) := by rw [e130]; exact ⟨INV_lo x38 (by omega) (rl6 n4 (by omega)), INV_hi x38 (by omega) (rl6 n4 (by omega))⟩
            refine V_iload 96 B dX12_cheapest_96 0 rfl ?_
            refine V_cvi 98 B (st := [.int (nI (a35.1 0)), .ref h3]) (As := [.int j129, .int (nI (a35.1 0))]) (fun sz => rX12_isVisible l D Y h0 h1 h2 h3 h4 h5 h6 (a35.2.1 0) k5 k6 p7 p8 p9 k10 p11 q12 k15 k16 (a35.2.2.2.1 0) f1 (a35.2.2.2.1 1) f4 f13 f14 ph x38 (by omega) HP j129 (a35.1 0) (by omega) (by omega) sz) glV_RX12_154 ⟨rfl, rfl⟩ ⟨(Nat.le_of_ble_eq_true rfl), (Nat.le_of_ble_eq_true rfl)⟩ ⟨(Nat.le_of_ble_eq_true rfl), (Nat.le_of_ble_eq_true rfl)⟩ [0, 0, 0, 0, 0, 0, 0] rfl 13 0 rfl rfl rfl rfl (Nat.le_of_ble_eq_true rfl) rfl (fun _ _ _ => rfl) dX12_cheapest_98 (fun j132 u133 w134 => ?_)
            refine V_ws [(h0, oC 13 [.ref h1, .ref h2, .int (a35.2.1 0), .ref h3, .ref h4, .int (nI k5), .int (nI k6), .int p7, .int p8, .int p9, .int (nI k10), .int p11, .long q12, .ref h5, .ref h6, .int (nI k15), .int (nI k16)]), (h1, aI Y 3640 (a35.2.2.2.1 0)), (h2, aZ Y 2 f1), (h3, aZ Y 80 (a35.2.2.2.1 1)), (h4, aB Y 1600 f4), (h5, aI Y 200 f13), (h6, aI Y 800 f14)] rfl ?_
            have x135 := w134
            clear w134
            rcases x135 with ⟨rfl, x136⟩ | ⟨rfl, x136⟩
            ·
              refine V_if_eq_t 101 B 108 dX12_cheapest_101 (by decide) (by decide +kernel) ?_
              refine V_iconst 108 B (v := 0) dX12_cheapest_108 (by decide +kernel) ?_
              refine V_zast 109 B 3 rfl (vp_in_nI (n := (a35.1 0)) (by omega) (by decide)) dX12_cheapest_109 [(h0, oC 13 [.ref h1, .ref h2, .int (a35.2.1 0), .ref h3, .ref h4, .int (nI k5), .int (nI k6), .int p7, .int p8, .int p9, .int (nI k10), .int p11, .long q12, .ref h5, .ref h6, .int (nI k15), .int (nI k16)]), (h1, aI Y 3640 (a35.2.2.2.1 0)), (h2, aZ Y 2 f1), (h3, aZ Y 80 (upd (a35.2.2.2.1 1) (a35.1 0) (vp_nar .boolean 0))), (h4, aB Y 1600 f4), (h5, aI Y 200 f13), (h6, aI Y 800 f14)] (by rw [nI_clamp (show (a35.1 0) < 2 ^ 31 by omega)]; rfl) ?_
              refine V_iinc 110 B (v := (nI (1 + (a35.1 0)))) (lv2 := [(4, .int (nI (1 + (a35.1 0)))), (0, .ref h0), (1, .int (nI n4)), (2, .int s1), (3, .int s2)]) dX12_cheapest_110 0 rfl (nI_addE (a := (a35.1 0)) (b := 1) (by omega)) (by decide) rfl ?_
              refine V_goto 113 B 56 dX12_cheapest_113 (by decide) ?_
              refine V_lv [(4, .int (nI (1 + (a35.1 0)))), (0, .ref h0), (1, .int (nI n4)), (2, .int s1), (3, .int s2)] [0, 1, 2, 3, 4] rfl ?_
              exact IH36 (mkW [1 + (a35.1 0)] [(a35.2.1 0)] [] [(a35.2.2.2.1 0), (upd (a35.2.2.2.1 1) (a35.1 0) (vp_nar .boolean 0))] [] []) ⟨x38, (show 1 + (a35.1 0) ≤ 4000 by omega)⟩ (by show 100000 - (1 + (a35.1 0)) < 100000 - (a35.1 0); omega)
            ·
              refine V_if_eq_f 101 B 108 dX12_cheapest_101 (by decide) (by decide +kernel) ?_
              refine V_iconst 104 B (v := 1) dX12_cheapest_104 (by decide +kernel) ?_
              refine V_goto 105 B 109 dX12_cheapest_105 (by decide) ?_
              refine V_zast 109 B 3 rfl (vp_in_nI (n := (a35.1 0)) (by omega) (by decide)) dX12_cheapest_109 [(h0, oC 13 [.ref h1, .ref h2, .int (a35.2.1 0), .ref h3, .ref h4, .int (nI k5), .int (nI k6), .int p7, .int p8, .int p9, .int (nI k10), .int p11, .long q12, .ref h5, .ref h6, .int (nI k15), .int (nI k16)]), (h1, aI Y 3640 (a35.2.2.2.1 0)), (h2, aZ Y 2 f1), (h3, aZ Y 80 (upd (a35.2.2.2.1 1) (a35.1 0) (vp_nar .boolean 1))), (h4, aB Y 1600 f4), (h5, aI Y 200 f13), (h6, aI Y 800 f14)] (by rw [nI_clamp (show (a35.1 0) < 2 ^ 31 by omega)]; rfl) ?_
              refine V_iinc 110 B (v := (nI (1 + (a35.1 0)))) (lv2 := [(4, .int (nI (1 + (a35.1 0)))), (0, .ref h0), (1, .int (nI n4)), (2, .int s1), (3, .int s2)]) dX12_cheapest_110 0 rfl (nI_addE (a := (a35.1 0)) (b := 1) (by omega)) (by decide) rfl ?_
              refine V_goto 113 B 56 dX12_cheapest_113 (by decide) ?_
              refine V_lv [(4, .int (nI (1 + (a35.1 0)))), (0, .ref h0), (1, .int (nI n4)), (2, .int s1), (3, .int s2)] [0, 1, 2, 3, 4] rfl ?_
              exact IH36 (mkW [1 + (a35.1 0)] [(a35.2.1 0)] [] [(a35.2.2.2.1 0), (upd (a35.2.2.2.1 1) (a35.1 0) (vp_nar .boolean 1))] [] []) ⟨x38, (show 1 + (a35.1 0) ≤ 4000 by omega)⟩ (by show 100000 - (1 + (a35.1 0)) < 100000 - (a35.1 0); omega))
