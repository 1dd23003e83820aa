theorem dX12_meanCostBits_0 : decode cX12_meanCostBits 0 = .ok (.aload_n 0, 1) := by decide +kernel
theorem dX12_meanCostBits_1 : decode cX12_meanCostBits 1 = .ok (.iconst 0, 1) := by decide +kernel
theorem dX12_meanCostBits_2 : decode cX12_meanCostBits 2 = .ok (.putfield 38, 3) := by decide +kernel
theorem dX12_meanCostBits_5 : decode cX12_meanCostBits 5 = .ok (.aload_n 0, 1) := by decide +kernel
theorem dX12_meanCostBits_6 : decode cX12_meanCostBits 6 = .ok (.aload_n 0, 1) := by decide +kernel
theorem dX12_meanCostBits_7 : decode cX12_meanCostBits 7 = .ok (.iload_n 1, 1) := by decide +kernel
theorem dX12_meanCostBits_8 : decode cX12_meanCostBits 8 = .ok (.invokevirtual 91, 3) := by decide +kernel
theorem dX12_meanCostBits_11 : decode cX12_meanCostBits 11 = .ok (.ifCond .ne 7, 3) := by decide +kernel
theorem dX12_meanCostBits_14 : decode cX12_meanCostBits 14 = .ok (.iconst 1, 1) := by decide +kernel
theorem dX12_meanCostBits_15 : decode cX12_meanCostBits 15 = .ok (.goto 4, 3) := by decide +kernel
theorem dX12_meanCostBits_19 : decode cX12_meanCostBits 19 = .ok (.iconst 1, 1) := by decide +kernel
theorem dX12_meanCostBits_20 : decode cX12_meanCostBits 20 = .ok (.invokevirtual 69, 3) := by decide +kernel
theorem dX12_meanCostBits_23 : decode cX12_meanCostBits 23 = .ok (.ifCond .ne 24, 3) := by decide +kernel
theorem dX12_meanCostBits_47 : decode cX12_meanCostBits 47 = .ok (.iconst 0, 1) := by decide +kernel
theorem dX12_meanCostBits_48 : decode cX12_meanCostBits 48 = .ok (.ireturn, 1) := by decide +kernel
theorem dX12_meanCostBits_18 : decode cX12_meanCostBits 18 = .ok (.iconst 0, 1) := by decide +kernel
theorem dX12_meanCostBits_26 : decode cX12_meanCostBits 26 = .ok (.aload_n 0, 1) := by decide +kernel
theorem dX12_meanCostBits_27 : decode cX12_meanCostBits 27 = .ok (.aload_n 0, 1) := by decide +kernel
theorem dX12_meanCostBits_28 : decode cX12_meanCostBits 28 = .ok (.iload_n 1, 1) := by decide +kernel
theorem dX12_meanCostBits_29 : decode cX12_meanCostBits 29 = .ok (.invokevirtual 163, 3) := by decide +kernel
theorem dX12_meanCostBits_32 : decode cX12_meanCostBits 32 = .ok (.ifCond .ne 7, 3) := by decide +kernel
theorem dX12_meanCostBits_39 : decode cX12_meanCostBits 39 = .ok (.iconst 0, 1) := by decide +kernel
theorem dX12_meanCostBits_40 : decode cX12_meanCostBits 40 = .ok (.iconst 2, 1) := by decide +kernel
theorem dX12_meanCostBits_41 : decode cX12_meanCostBits 41 = .ok (.invokevirtual 69, 3) := by decide +kernel
theorem dX12_meanCostBits_44 : decode cX12_meanCostBits 44 = .ok (.ifCond .eq 5, 3) := by decide +kernel
theorem dX12_meanCostBits_49 : decode cX12_meanCostBits 49 = .ok (.iconst 0, 1) := by decide +kernel
theorem dX12_meanCostBits_50 : decode cX12_meanCostBits 50 = .ok (.istore_n 2, 1) := by decide +kernel
theorem dX12_meanCostBits_51 : decode cX12_meanCostBits 51 = .ok (.iconst 0, 1) := by decide +kernel
theorem dX12_meanCostBits_52 : decode cX12_meanCostBits 52 = .ok (.istore_n 3, 1) := by decide +kernel
theorem dX12_meanCostBits_53 : decode cX12_meanCostBits 53 = .ok (.iload_n 3, 1) := by decide +kernel
theorem dX12_meanCostBits_54 : decode cX12_meanCostBits 54 = .ok (.aload_n 0, 1) := by decide +kernel
theorem dX12_meanCostBits_55 : decode cX12_meanCostBits 55 = .ok (.getfield 9, 3) := by decide +kernel
theorem dX12_meanCostBits_58 : decode cX12_meanCostBits 58 = .ok (.iconst 3, 1) := by decide +kernel
theorem dX12_meanCostBits_59 : decode cX12_meanCostBits 59 = .ok (.iaload, 1) := by decide +kernel
theorem dX12_meanCostBits_60 : decode cX12_meanCostBits 60 = .ok (.if_icmp .ge 33, 3) := by decide +kernel
theorem dX12_meanCostBits_93 : decode cX12_meanCostBits 93 = .ok (.iload_n 2, 1) := by decide +kernel
theorem dX12_meanCostBits_94 : decode cX12_meanCostBits 94 = .ok (.i2f, 1) := by decide +kernel
theorem dX12_meanCostBits_95 : decode cX12_meanCostBits 95 = .ok (.aload_n 0, 1) := by decide +kernel
theorem dX12_meanCostBits_96 : decode cX12_meanCostBits 96 = .ok (.iload_n 1, 1) := by decide +kernel
theorem dX12_meanCostBits_97 : decode cX12_meanCostBits 97 = .ok (.invokevirtual 163, 3) := by decide +kernel
theorem dX12_meanCostBits_100 : decode cX12_meanCostBits 100 = .ok (.i2f, 1) := by decide +kernel
theorem dX12_meanCostBits_101 : decode cX12_meanCostBits 101 = .ok (.fdiv, 1) := by decide +kernel
theorem dX12_meanCostBits_102 : decode cX12_meanCostBits 102 = .ok (.invokestatic 175, 3) := by decide +kernel
theorem dJxf58ca_floatToIntBits_5c35a_0 : decode cJxf58ca_floatToIntBits_5c35a 0 = .ok (.fload_n 0, 1) := by decide +kernel
theorem dJxf58ca_floatToIntBits_5c35a_1 : decode cJxf58ca_floatToIntBits_5c35a 1 = .ok (.invokestatic 59, 3) := by decide +kernel
theorem dJxf58ca_isNaN_12338_0 : decode cJxf58ca_isNaN_12338 0 = .ok (.fload_n 0, 1) := by decide +kernel
theorem dJxf58ca_isNaN_12338_1 : decode cJxf58ca_isNaN_12338 1 = .ok (.fload_n 0, 1) := by decide +kernel
theorem dJxf58ca_isNaN_12338_2 : decode cJxf58ca_isNaN_12338 2 = .ok (.fcmp .l, 1) := by decide +kernel
theorem dJxf58ca_isNaN_12338_3 : decode cJxf58ca_isNaN_12338 3 = .ok (.ifCond .eq 7, 3) := by decide +kernel
theorem dJxf58ca_isNaN_12338_10 : decode cJxf58ca_isNaN_12338 10 = .ok (.iconst 0, 1) := by decide +kernel
theorem dJxf58ca_isNaN_12338_11 : decode cJxf58ca_isNaN_12338 11 = .ok (.ireturn, 1) := by decide +kernel
theorem dJxf58ca_isNaN_12338_6 : decode cJxf58ca_isNaN_12338 6 = .ok (.iconst 1, 1) := by decide +kernel
theorem dJxf58ca_isNaN_12338_7 : decode cJxf58ca_isNaN_12338 7 = .ok (.goto 4, 3) := by decide +kernel
set_option maxRecDepth 100000 in
set_option maxHeartbeats 4000000 in
theorem rJxf58ca_isNaN_12338 (l : Launch) (D : va_G) (Y : Nat → ClassId)  (s0 : UInt32) (hf0 : FP.Core.fIsNaN s0 = false) (sz : Nat) : Met l yJxf58ca_isNaN_12338 (WSm yJxf58ca_isNaN_12338 cJxf58ca_isNaN_12338 1 (some .boolean)) (mkR 0 0 0 0) (PreC D Y [.float s0] [] sz) (QI D (fun (r : Int32) (u : WU) => (r = 0 ∨ r = 1)) (fun (u : WU) => []) (va_A [] sz)) 0 0 (va_A [] sz) :=
  met_of (by decide +kernel) (Nat.le_of_ble_eq_true rfl) (fun p e s m args below meth c B hin hsz => by
    have B : VB p s m args meth c D Y (va_A [] sz) cJxf58ca_isNaN_12338 1 RJxf58ca (some .boolean) := B
    refine V_fload_n 0 B dJxf58ca_isNaN_12338_0 0 rfl ?_
    refine V_fload_n 1 B dJxf58ca_isNaN_12338_1 0 rfl ?_
    refine V_fcmp 2 B dJxf58ca_isNaN_12338_2 (fun j0 => ?_)
    refine V_if_eq 3 B 10 dJxf58ca_isNaN_12338_3 (by decide) (fun kk1 => ?_) (fun kk1 => ?_)
    ·
      obtain rfl : j0 = 0 := kk1
      have e3 : (0 : Int32).toInt = 0 := by decide +kernel
      refine V_iconst 10 B (v := 0) dJxf58ca_isNaN_12338_10 (by decide +kernel) ?_
      exact V_zret 11 B rfl dJxf58ca_isNaN_12338_11 (mkW [] [] [] [] [] []) (Or.inl rfl) rfl
    ·
      have x4 := x_ne kk1
      rw [show (0 : Int32).toInt = 0 by decide +kernel] at x4
      refine V_iconst 6 B (v := 1) dJxf58ca_isNaN_12338_6 (by decide +kernel) ?_
      refine V_goto 7 B 11 dJxf58ca_isNaN_12338_7 (by decide) ?_
      exact V_zret 11 B rfl dJxf58ca_isNaN_12338_11 (mkW [] [] [] [] [] []) (Or.inr rfl) rfl)
theorem glS_RJxf58ca_59 : GLS RJxf58ca 59 yJxf58ca_isNaN_12338 cJxf58ca_isNaN_12338 1 (some .boolean) 1 := ⟨⟨(mT9 3 rfl rfl), (mT9 4 rfl rfl), (mT1 27 rfl rfl), (mT9 5 rfl rfl)⟩, by decide +kernel⟩
theorem dJxf58ca_floatToIntBits_5c35a_4 : decode cJxf58ca_floatToIntBits_5c35a 4 = .ok (.ifCond .ne 8, 3) := by decide +kernel
theorem dJxf58ca_floatToIntBits_5c35a_7 : decode cJxf58ca_floatToIntBits_5c35a 7 = .ok (.fload_n 0, 1) := by decide +kernel
theorem dJxf58ca_floatToIntBits_5c35a_8 : decode cJxf58ca_floatToIntBits_5c35a 8 = .ok (.invokestatic 74, 3) := by decide +kernel
theorem dX12_clashPairs_0 : decode cX12_clashPairs 0 = .ok (.aload_n 0, 1) := by decide +kernel
theorem dX12_clashPairs_1 : decode cX12_clashPairs 1 = .ok (.iconst 0, 1) := by decide +kernel
theorem dX12_clashPairs_2 : decode cX12_clashPairs 2 = .ok (.putfield 38, 3) := by decide +kernel
theorem dX12_clashPairs_5 : decode cX12_clashPairs 5 = .ok (.aload_n 0, 1) := by decide +kernel
theorem dX12_clashPairs_6 : decode cX12_clashPairs 6 = .ok (.aload_n 0, 1) := by decide +kernel
theorem dX12_clashPairs_7 : decode cX12_clashPairs 7 = .ok (.iload_n 1, 1) := by decide +kernel
theorem dX12_clashPairs_8 : decode cX12_clashPairs 8 = .ok (.invokevirtual 91, 3) := by decide +kernel
theorem dX12_clashPairs_11 : decode cX12_clashPairs 11 = .ok (.ifCond .eq 11, 3) := by decide +kernel
theorem dX12_clashPairs_22 : decode cX12_clashPairs 22 = .ok (.iconst 1, 1) := by decide +kernel
theorem dX12_clashPairs_23 : decode cX12_clashPairs 23 = .ok (.goto 4, 3) := by decide +kernel
theorem dX12_clashPairs_27 : decode cX12_clashPairs 27 = .ok (.iconst 1, 1) := by decide +kernel
theorem dX12_clashPairs_28 : decode cX12_clashPairs 28 = .ok (.invokevirtual 69, 3) := by decide +kernel
theorem dX12_clashPairs_31 : decode cX12_clashPairs 31 = .ok (.ifCond .ne 21, 3) := by decide +kernel
theorem dX12_clashPairs_52 : decode cX12_clashPairs 52 = .ok (.iconst 0, 1) := by decide +kernel
theorem dX12_clashPairs_53 : decode cX12_clashPairs 53 = .ok (.ireturn, 1) := by decide +kernel
theorem dX12_clashPairs_14 : decode cX12_clashPairs 14 = .ok (.aload_n 0, 1) := by decide +kernel
theorem dX12_clashPairs_15 : decode cX12_clashPairs 15 = .ok (.iload_n 2, 1) := by decide +kernel
theorem dX12_clashPairs_16 : decode cX12_clashPairs 16 = .ok (.invokevirtual 91, 3) := by decide +kernel
theorem dX12_clashPairs_19 : decode cX12_clashPairs 19 = .ok (.ifCond .ne 7, 3) := by decide +kernel
theorem dX12_clashPairs_26 : decode cX12_clashPairs 26 = .ok (.iconst 0, 1) := by decide +kernel
theorem dX12_clashPairs_34 : decode cX12_clashPairs 34 = .ok (.aload_n 0, 1) := by decide +kernel
theorem dX12_clashPairs_35 : decode cX12_clashPairs 35 = .ok (.iload_n 1, 1) := by decide +kernel
theorem dX12_clashPairs_36 : decode cX12_clashPairs 36 = .ok (.iload_n 2, 1) := by decide +kernel
theorem dX12_clashPairs_37 : decode cX12_clashPairs 37 = .ok (.if_icmp .ne 7, 3) := by decide +kernel
theorem dX12_clashPairs_44 : decode cX12_clashPairs 44 = .ok (.iconst 0, 1) := by decide +kernel
theorem dX12_clashPairs_45 : decode cX12_clashPairs 45 = .ok (.iconst 2, 1) := by decide +kernel
theorem dX12_clashPairs_46 : decode cX12_clashPairs 46 = .ok (.invokevirtual 69, 3) := by decide +kernel
theorem dX12_clashPairs_49 : decode cX12_clashPairs 49 = .ok (.ifCond .eq 5, 3) := by decide +kernel
theorem dX12_clashPairs_54 : decode cX12_clashPairs 54 = .ok (.iconst 0, 1) := by decide +kernel
theorem dX12_clashPairs_55 : decode cX12_clashPairs 55 = .ok (.istore_n 3, 1) := by decide +kernel
theorem dX12_clashPairs_56 : decode cX12_clashPairs 56 = .ok (.iconst 0, 1) := by decide +kernel
theorem dX12_clashPairs_57 : decode cX12_clashPairs 57 = .ok (.istore 4, 2) := by decide +kernel
theorem dX12_clashPairs_59 : decode cX12_clashPairs 59 = .ok (.iload 4, 2) := by decide +kernel
theorem dX12_clashPairs_61 : decode cX12_clashPairs 61 = .ok (.aload_n 0, 1) := by decide +kernel
theorem dX12_clashPairs_62 : decode cX12_clashPairs 62 = .ok (.getfield 9, 3) := by decide +kernel
theorem dX12_clashPairs_65 : decode cX12_clashPairs 65 = .ok (.iconst 3, 1) := by decide +kernel
theorem dX12_clashPairs_66 : decode cX12_clashPairs 66 = .ok (.iaload, 1) := by decide +kernel
theorem dX12_clashPairs_67 : decode cX12_clashPairs 67 = .ok (.if_icmp .ge 32, 3) := by decide +kernel
theorem dX12_clashPairs_99 : decode cX12_clashPairs 99 = .ok (.iload_n 3, 1) := by decide +kernel
theorem dX12_clashPairs_100 : decode cX12_clashPairs 100 = .ok (.ireturn, 1) := by decide +kernel
theorem dX12_clashPairs_70 : decode cX12_clashPairs 70 = .ok (.aload_n 0, 1) := by decide +kernel
theorem dX12_clashPairs_71 : decode cX12_clashPairs 71 = .ok (.iload 4, 2) := by decide +kernel
theorem dX12_clashPairs_73 : decode cX12_clashPairs 73 = .ok (.invokevirtual 115, 3) := by decide +kernel
theorem dX12_clashPairs_76 : decode cX12_clashPairs 76 = .ok (.iload_n 1, 1) := by decide +kernel
theorem dX12_clashPairs_77 : decode cX12_clashPairs 77 = .ok (.if_icmp .ne 16, 3) := by decide +kernel
theorem dX12_clashPairs_93 : decode cX12_clashPairs 93 = .ok (.iinc 4 1, 3) := by decide +kernel
theorem dX12_clashPairs_96 : decode cX12_clashPairs 96 = .ok (.goto (-37), 3) := by decide +kernel
theorem dX12_clashPairs_80 : decode cX12_clashPairs 80 = .ok (.iload_n 3, 1) := by decide +kernel
theorem dX12_clashPairs_81 : decode cX12_clashPairs 81 = .ok (.aload_n 0, 1) := by decide +kernel
theorem dX12_clashPairs_82 : decode cX12_clashPairs 82 = .ok (.iload_n 2, 1) := by decide +kernel
theorem dX12_clashPairs_83 : decode cX12_clashPairs 83 = .ok (.iload 4, 2) := by decide +kernel
theorem dX12_clashPairs_85 : decode cX12_clashPairs 85 = .ok (.invokestatic 85, 3) := by decide +kernel
theorem dX12_clashPairs_88 : decode cX12_clashPairs 88 = .ok (.invokevirtual 139, 3) := by decide +kernel
theorem dX12_clashPairs_91 : decode cX12_clashPairs 91 = .ok (.iadd, 1) := by decide +kernel
theorem dX12_clashPairs_92 : decode cX12_clashPairs 92 = .ok (.istore_n 3, 1) := by decide +kernel
theorem dX12_clashPairs_40 : decode cX12_clashPairs 40 = .ok (.iconst 1, 1) := by decide +kernel
theorem dX12_clashPairs_41 : decode cX12_clashPairs 41 = .ok (.goto 4, 3) := by decide +kernel
set_option maxRecDepth 100000 in
set_option maxHeartbeats 4000000 in
theorem rX12_clashPairs (l : Launch) (D : va_G) (Y : Nat → ClassId) (h0 : Nat) (h1 : Nat) (h2 : Nat) (h3 : Nat) (h4 : Nat) (h5 : Nat) (h6 : Nat) (p2 : Int32) (k5 : Nat) (k6 : Nat) (p7 : Int32) (p8 : Int32) (p9 : Int32) (k10 : Nat) (p11 : Int32) (q12 : Int64) (k15 : Nat) (k16 : Nat) (f0 : Nat → Int32) (f1 : Nat → Int32) (f3 : Nat → Int32) (f4 : Nat → Int32) (f13 : Nat → Int32) (f14 : Nat → Int32) (HI : INV f0) (HL : k5 ≤ 1600) (HP : PLV f13) (s0 : Int32) (s1 : Int32)  (sz : Nat) : Met l yX12_clashPairs (WSm yX12_clashPairs cX12_clashPairs 5 (some .int)) (mkR 4 0 0 90) (PreC D Y [.ref h0, .int s0, .int s1] [(h0, oC 13 [.ref h1, .ref h2, .int p2, .ref h3, .ref h4, .int (nI k5), .int (nI k6), .int p7, .int p8, .int p9, .int (nI k10), .int p11, .long q12, .ref h5, .ref h6, .int (nI k15), .int (nI k16)]), (h1, aI Y 3640 f0), (h2, aZ Y 2 f1), (h3, aZ Y 80 f3), (h4, aB Y 1600 f4), (h5, aI Y 200 f13), (h6, aI Y 800 f14)] sz) (QI D (fun (r : Int32) (u : WU) => True) (fun (u : WU) => [(h0, oC 13 [.ref h1, .ref h2, .int (u.2.1 0), .ref h3, .ref h4, .int (nI k5), .int (nI k6), .int p7, .int p8, .int p9, .int (nI k10), .int p11, .long q12, .ref h5, .ref h6, .int (nI k15), .int (nI k16)]), (h1, aI Y 3640 f0), (h2, aZ Y 2 f1), (h3, aZ Y 80 f3), (h4, aB Y 1600 f4), (h5, aI Y 200 f13), (h6, aI Y 800 f14)]) (va_A [(h0, oC 13 [.ref h1, .ref h2, .int p2, .ref h3, .ref h4, .int (nI k5), .int (nI k6), .int p7, .int p8, .int p9, .int (nI k10), .int p11, .long q12, .ref h5, .ref h6, .int (nI k15), .int (nI k16)]), (h1, aI Y 3640 f0), (h2, aZ Y 2 f1), (h3, aZ Y 80 f3), (h4, aB Y 1600 f4), (h5, aI Y 200 f13), (h6, aI Y 800 f14)] sz)) 0 0 (va_A [(h0, oC 13 [.ref h1, .ref h2, .int p2, .ref h3, .ref h4, .int (nI k5), .int (nI k6), .int p7, .int p8, .int p9, .int (nI k10), .int p11, .long q12, .ref h5, .ref h6, .int (nI k15), .int (nI k16)]), (h1, aI Y 3640 f0), (h2, aZ Y 2 f1), (h3, aZ Y 80 f3), (h4, aB Y 1600 f4), (h5, aI Y 200 f13), (h6, aI Y 800 f14)] sz) :=
  met_of (by decide +kernel) (Nat.le_of_ble_eq_true rfl) (fun p e s m args below meth c B hin hsz => by
    have B : VB p s m args meth c D Y (va_A [(h0, oC 13 [.ref h1, .ref h2, .int p2, .ref h3, .ref h4, .int (nI k5), .int (nI k6), .int p7, .int p8, .int p9, .int (nI k10), .int p11, .long q12, .ref h5, .ref h6, .int (nI k15), .int (nI k16)]), (h1, aI Y 3640 f0), (h2, aZ Y 2 f1), (h3, aZ Y 80 f3), (h4, aB Y 1600 f4), (h5, aI Y 200 f13), (h6, aI Y 800 f14)] sz) cX12_clashPairs 5 RX12 (some .int) := B
    refine V_aload_n 0 B dX12_clashPairs_0 0 rfl ?_
    refine V_iconst 1 B (v := 0) dX12_clashPairs_1 (by decide +kernel) ?_
    refine V_put 2 B gp_RX12_38 0 rfl (Nat.le_of_ble_eq_true rfl) rfl rfl dX12_clashPairs_2 [(h0, oC 13 [.ref h1, .ref h2, .int 0, .ref h3, .ref h4, .int (nI k5), .int (nI k6), .int p7, .int p8, .int p9, .int (nI k10), .int p11, .long q12, .ref h5, .ref h6, .int (nI k15), .int (nI k16)]), (h1, aI Y 3640 f0), (h2, aZ Y 2 f1), (h3, aZ Y 80 f3), (h4, aB Y 1600 f4), (h5, aI Y 200 f13), (h6, aI Y 800 f14)] rfl ?_
    refine V_aload_n 5 B dX12_clashPairs_5 0 rfl ?_
    refine V_aload_n 6 B dX12_clashPairs_6 0 rfl ?_
    refine V_iload_n 7 B dX12_clashPairs_7 1 rfl ?_
    refine V_cvi 8 B (st := [.ref h0]) (As := [.int s0]) (fun sz => rX12_isMode l D Y h0 h1 h2 h3 h4 h5 h6 0 k5 k6 p7 p8 p9 k10 p11 q12 k15 k16 f0 f1 f3 f4 f13 f14 HI (by omega) HP s0 sz) glV_RX12_91 ⟨rfl, rfl⟩ ⟨(Nat.le_of_ble_eq_true rfl), (Nat.le_of_ble_eq_true rfl)⟩ ⟨(Nat.le_of_ble_eq_true rfl), (Nat.le_of_ble_eq_true rfl)⟩ [0, 0, 0, 0, 0, 0, 0] rfl 13 0 rfl rfl rfl rfl (Nat.le_of_ble_eq_true rfl) rfl (fun _ _ _ => rfl) dX12_clashPairs_8 (fun j0 u1 w2 => ?_)
    refine V_ws [(h0, oC 13 [.ref h1, .ref h2, .int 0, .ref h3, .ref h4, .int (nI k5), .int (nI k6), .int p7, .int p8, .int p9, .int (nI k10), .int p11, .long q12, .ref h5, .ref h6, .int (nI k15), .int (nI k16)]), (h1, aI Y 3640 f0), (h2, aZ Y 2 f1), (h3, aZ Y 80 f3), (h4, aB Y 1600 f4), (h5, aI Y 200 f13), (h6, aI Y 800 f14)] rfl ?_
    have x3 := w2
    have x7 : (gN f0 0) ≤ 6 := gN_le HI (by omega) (show bd 0 = (0, ((6 : Nat) : Int)) by decide +kernel)
    rcases x3 with rfl | ⟨rfl, n4, rfl, x6⟩
    ·
      refine V_if_eq_t 11 B 22 dX12_clashPairs_11 (by decide) (by decide +kernel) ?_
      refine V_iconst 22 B (v := 1) dX12_clashPairs_22 (by decide +kernel) ?_
      refine V_goto 23 B 27 dX12_clashPairs_23 (by decide) ?_
      refine V_iconst 27 B (v := 1) dX12_clashPairs_27 (by decide +kernel) ?_
      refine V_cvi 28 B (st := []) (As := [.int 1, .int 1]) (fun sz => rX12_throwsIf_1 l D Y h0 h1 h2 h3 h4 h5 h6 0 k5 k6 p7 p8 p9 k10 p11 q12 k15 k16 f0 f1 f3 f4 f13 f14 HI (by omega) HP 1 sz) glV_RX12_69 ⟨rfl, rfl⟩ ⟨(Nat.le_of_ble_eq_true rfl), (Nat.le_of_ble_eq_true rfl)⟩ ⟨(Nat.le_of_ble_eq_true rfl), (Nat.le_of_ble_eq_true rfl)⟩ [0, 0, 0, 0, 0, 0, 0] rfl 13 0 rfl rfl rfl rfl (Nat.le_of_ble_eq_true rfl) rfl (fun _ _ _ => rfl) dX12_clashPairs_28 (fun j8 u9 w10 => ?_)
      refine V_ws [(h0, oC 13 [.ref h1, .ref h2, .int (u9.2.1 0), .ref h3, .ref h4, .int (nI k5), .int (nI k6), .int p7, .int p8, .int p9, .int (nI k10), .int p11, .long q12, .ref h5, .ref h6, .int (nI k15), .int (nI k16)]), (h1, aI Y 3640 f0), (h2, aZ Y 2 f1), (h3, aZ Y 80 f3), (h4, aB Y 1600 f4), (h5, aI Y 200 f13), (h6, aI Y 800 f14)] rfl ?_
      have x11 := w10
      obtain rfl := x11
      refine V_if_ne_t 31 B 52 dX12_clashPairs_31 (by decide) (by decide +kernel) ?_
      refine V_iconst 52 B (v := 0) dX12_clashPairs_52 (by decide +kernel) ?_
      exact V_iret 53 B dX12_clashPairs_53 (mkW [] [(u9.2.1 0)] [] [] [] []) trivial rfl
    ·
      have e12 := nI_toInt (show n4 < 2 ^ 31 by omega)
      have x13 : (gN f0 0) ≤ 6 := gN_le HI (by omega) (show bd 0 = (0, ((6 : Nat) : Int)) by decide +kernel)
      refine V_if_eq_f 11 B 22 dX12_clashPairs_11 (by decide) (by decide +kernel) ?_
      refine V_aload_n 14 B dX12_clashPairs_14 0 rfl ?_
      refine V_iload_n 15 B dX12_clashPairs_15 2 rfl ?_
      refine V_cvi 16 B (st := [.ref h0]) (As := [.int s1]) (fun sz => rX12_isMode l D Y h0 h1 h2 h3 h4 h5 h6 0 k5 k6 p7 p8 p9 k10 p11 q12 k15 k16 f0 f1 f3 f4 f13 f14 HI (by omega) HP s1 sz) glV_RX12_91 ⟨rfl, rfl⟩ ⟨(Nat.le_of_ble_eq_true rfl), (Nat.le_of_ble_eq_true rfl)⟩ ⟨(Nat.le_of_ble_eq_true rfl), (Nat.le_of_ble_eq_true rfl)⟩ [0, 0, 0, 0, 0, 0, 0] rfl 13 0 rfl rfl rfl rfl (Nat.le_of_ble_eq_true rfl) rfl (fun _ _ _ => rfl) dX12_clashPairs_16 (fun j14 u15 w16 => ?_)
      refine V_ws [(h0, oC 13 [.ref h1, .ref h2, .int 0, .ref h3, .ref h4, .int (nI k5), .int (nI k6), .int p7, .int p8, .int p9, .int (nI k10), .int p11, .long q12, .ref h5, .ref h6, .int (nI k15), .int (nI k16)]), (h1, aI Y 3640 f0), (h2, aZ Y 2 f1), (h3, aZ Y 80 f3), (h4, aB Y 1600 f4), (h5, aI Y 200 f13), (h6, aI Y 800 f14)] rfl ?_
      have x17 := w16
      have x21 : (gN f0 0) ≤ 6 := gN_le HI (by omega) (show bd 0 = (0, ((6 : Nat) : Int)) by decide +kernel)
      rcases x17 with rfl | ⟨rfl, n18, rfl, x20⟩
      ·
        refine V_if_ne_f 19 B 26 dX12_clashPairs_19 (by decide) (by decide +kernel) ?_
        refine V_iconst 22 B (v := 1) dX12_clashPairs_22 (by decide +kernel) ?_
        refine V_goto 23 B 27 dX12_clashPairs_23 (by decide) ?_
        refine V_iconst 27 B (v := 1) dX12_clashPairs_27 (by decide +kernel) ?_
        refine V_cvi 28 B (st := []) (As := [.int 1, .int 1]) (fun sz => rX12_throwsIf_1 l D Y h0 h1 h2 h3 h4 h5 h6 0 k5 k6 p7 p8 p9 k10 p11 q12 k15 k16 f0 f1 f3 f4 f13 f14 HI (by omega) HP 1 sz) glV_RX12_69 ⟨rfl, rfl⟩ ⟨(Nat.le_of_ble_eq_true rfl), (Nat.le_of_ble_eq_true rfl)⟩ ⟨(Nat.le_of_ble_eq_true rfl), (Nat.le_of_ble_eq_true rfl)⟩ [0, 0, 0, 0, 0, 0, 0] rfl 13 0 rfl rfl rfl rfl (Nat.le_of_ble_eq_true rfl) rfl (fun _ _ _ => rfl) dX12_clashPairs_28 (fun j22 u23 w24 => ?_)
        refine V_ws [(h0, oC 13 [.ref h1, .ref h2, .int (u23.2.1 0), .ref h3, .ref h4, .int (nI k5), .int (nI k6), .int p7, .int p8, .int p9, .int (nI k10), .int p11, .long q12, .ref h5, .ref h6, .int (nI k15), .int (nI k16)]), (h1, aI Y 3640 f0), (h2, aZ Y 2 f1), (h3, aZ Y 80 f3), (h4, aB Y 1600 f4), (h5, aI Y 200 f13), (h6, aI Y 800 f14)] rfl ?_
        have x25 := w24
        obtain rfl := x25
        refine V_if_ne_t 31 B 52 dX12_clashPairs_31 (by decide) (by decide +kernel) ?_
        refine V_iconst 52 B (v := 0) dX12_clashPairs_52 (by decide +kernel) ?_
        exact V_iret 53 B dX12_clashPairs_53 (mkW [] [(u23.2.1 0)] [] [] [] []) trivial rfl
      ·
        have e26 := nI_toInt (show n18 < 2 ^ 31 by omega)
        have x27 : (gN f0 0) ≤ 6 := gN_le HI (by omega) (show bd 0 = (0, ((6 : Nat) : Int)) by decide +kernel)
        refine V_if_ne_t 19 B 26 dX12_clashPairs_19 (by decide) (by decide +kernel) ?_
        refine V_iconst 26 B (v := 0) dX12_clashPairs_26 (by decide +kernel) ?_
        refine V_iconst 27 B (v := 1) dX12_clashPairs_27 (by decide +kernel) ?_
        refine V_cvi 28 B (st := []) (As := [.int 0, .int 1]) (fun sz => rX12_throwsIf_0 l D Y h0 h1 h2 h3 h4 h5 h6 0 k5 k6 p7 p8 p9 k10 p11 q12 k15 k16 f0 f1 f3 f4 f13 f14 HI (by omega) HP 1 sz) glV_RX12_69 ⟨rfl, rfl⟩ ⟨(Nat.le_of_ble_eq_true rfl), (Nat.le_of_ble_eq_true rfl)⟩ ⟨(Nat.le_of_ble_eq_true rfl), (Nat.le_of_ble_eq_true rfl)⟩ [0, 0, 0, 0, 0, 0, 0] rfl 13 0 rfl rfl rfl rfl (Nat.le_of_ble_eq_true rfl) rfl (fun _ _ _ => rfl) dX12_clashPairs_28 (fun j28 u29 w30 => ?_)
        refine V_ws [(h0, oC 13 [.ref h1, .ref h2, .int (u29.2.1 0), .ref h3, .ref h4, .int (nI k5), .int (nI k6), .int p7, .int p8, .int p9, .int (nI k10), .int p11, .long q12, .ref h5, .ref h6, .int (nI k15), .int (nI k16)]), (h1, aI Y 3640 f0), (h2, aZ Y 2 f1), (h3, aZ Y 80 f3), (h4, aB Y 1600 f4), (h5, aI Y 200 f13), (h6, aI Y 800 f14)] rfl ?_
        have x31 := w30
        obtain rfl := x31
        refine V_if_ne_f 31 B 52 dX12_clashPairs_31 (by decide) (by decide +kernel) ?_
        refine V_aload_n 34 B dX12_clashPairs_34 0 rfl ?_
        refine V_iload_n 35 B dX12_clashPairs_35 1 rfl ?_
        refine V_iload_n 36 B dX12_clashPairs_36 2 rfl ?_
        refine V_icmp_ne 37 B 44 dX12_clashPairs_37 (by decide) (fun kk32 => ?_) (fun kk32 => ?_)
        ·
          have x33 := n_ne (a := n4) (b := n18) kk32
          refine V_iconst 44 B (v := 0) dX12_clashPairs_44 (by decide +kernel) ?_
          refine V_iconst 45 B (v := 2) dX12_clashPairs_45 (by decide +kernel) ?_
          refine V_cvi 46 B (st := []) (As := [.int 0, .int 2]) (fun sz => rX12_throwsIf_0 l D Y h0 h1 h2 h3 h4 h5 h6 (u29.2.1 0) k5 k6 p7 p8 p9 k10 p11 q12 k15 k16 f0 f1 f3 f4 f13 f14 HI (by omega) HP 2 sz) glV_RX12_69 ⟨rfl, rfl⟩ ⟨(Nat.le_of_ble_eq_true rfl), (Nat.le_of_ble_eq_true rfl)⟩ ⟨(Nat.le_of_ble_eq_true rfl), (Nat.le_of_ble_eq_true rfl)⟩ [0, 0, 0, 0, 0, 0, 0] rfl 13 0 rfl rfl rfl rfl (Nat.le_of_ble_eq_true rfl) rfl (fun _ _ _ => rfl) dX12_clashPairs_46 (fun j34 u35 w36 => ?_)
          refine V_ws [(h0, oC 13 [.ref h1, .ref h2, .int (u35.2.1 0), .ref h3, .ref h4, .int (nI k5), .int (nI k6), .int p7, .int p8, .int p9, .int (nI k10), .int p11, .long q12, .ref h5, .ref h6, .int (nI k15), .int (nI k16)]), (h1, aI Y 3640 f0), (h2, aZ Y 2 f1), (h3, aZ Y 80 f3), (h4, aB Y 1600 f4), (h5, aI Y 200 f13), (h6, aI Y 800 f14)] rfl ?_
          have x37 := w36
          obtain rfl := x37
          refine V_if_eq_t 49 B 54 dX12_clashPairs_49 (by decide) (by decide +kernel) ?_
          refine V_iconst 54 B (v := 0) dX12_clashPairs_54 (by decide +kernel) ?_
          refine V_istore_n 55 B (lv2 := [(3, .int 0), (0, .ref h0), (1, .int (nI n4)), (2, .int (nI n18))]) dX12_clashPairs_55 (by decide) rfl ?_
          refine V_iconst 56 B (v := 0) dX12_clashPairs_56 (by decide +kernel) ?_
          refine V_istore 57 B (lv2 := [(4, .int 0), (3, .int 0), (0, .ref h0), (1, .int (nI n4)), (2, .int (nI n18))]) dX12_clashPairs_57 (by decide) rfl ?_
          refine V_wloop (α := WU) (fun a => 100000 - (a.1 0)) (fun a => (a.1 0) ≤ 4000) (fun a => [(4, .int (nI (a.1 0))), (3, .int (a.2.1 0)), (0, .ref h0), (1, .int (nI n4)), (2, .int (nI n18))]) (fun a => [(h0, oC 13 [.ref h1, .ref h2, .int (a.2.1 1), .ref h3, .ref h4, .int (nI k5), .int (nI k6), .int p7, .int p8, .int p9, .int (nI k10), .int p11, .long q12, .ref h5, .ref h6, .int (nI k15), .int (nI k16)]), (h1, aI Y 3640 f0), (h2, aZ Y 2 f1), (h3, aZ Y 80 f3), (h4, aB Y 1600 f4), (h5, aI Y 200 f13), (h6, aI Y 800 f14)]) (mkW [0] [0, (u35.2.1 0)] [] [] [] []) (show 0 ≤ 4000 by omega) rfl rfl (fun a38 hI40 IH39 => ?_)
          refine V_lv [(4, .int (nI (a38.1 0))), (3, .int (a38.2.1 0)), (0, .ref h0), (1, .int (nI n4)), (2, .int (nI n18))] [0, 1, 2, 3, 4] rfl ?_
          refine V_ws [(h0, oC 13 [.ref h1, .ref h2, .int (a38.2.1 1), .ref h3, .ref h4, .int (nI k5), .int (nI k6), .int p7, .int p8, .int p9, .int (nI k10), .int p11, .long q12, .ref h5, .ref h6, .int (nI k15), .int (nI k16)]), (h1, aI Y 3640 f0), (h2, aZ Y 2 f1), (h3, aZ Y 80 f3), (h4, aB Y 1600 f4), (h5, aI Y 200 f13), (h6, aI Y 800 f14)] rfl ?_
          have x41 := hI40
          refine V_iload 59 B dX12_clashPairs_59 0 rfl ?_
          refine V_aload_n 61 B dX12_clashPairs_61 2 rfl ?_
          refine V_get 62 B gf_RX12_9 0 rfl rfl dX12_clashPairs_62 ?_
          refine V_iconst 65 B (v := 3) dX12_clashPairs_65 (by decide +kernel) ?_
          have x42 : (gN f0 3) ≤ 80 := gN_le HI (by omega) (show bd 3 = (0, ((80 : Nat) : Int)) by decide +kernel)
          refine V_iald 66 B (v := (nI (gN f0 3))) 1 rfl (vpin _ _ (by decide +kernel)) dX12_clashPairs_66 (by show f0 3 = _; exact gN_eq HI (by omega) (show bd 3 = (0, ((80 : Nat) : Int)) by decide +kernel)) ?_
          refine V_icmp_ge 67 B 99 dX12_clashPairs_67 (by decide) (fun kk43 => ?_) (fun kk43 => ?_)
          ·
            have x44 := n_le (a := (gN f0 3)) (b := (a38.1 0)) kk43 (by omega) (by omega)
            refine V_iload_n 99 B dX12_clashPairs_99 1 rfl ?_
            exact V_iret 100 B dX12_clashPairs_100 (mkW [] [(a38.2.1 1)] [] [] [] []) trivial rfl
          ·
            have x45 := n_nle (a := (gN f0 3)) (b := (a38.1 0)) kk43 (by omega) (by omega)
            refine V_aload_n 70 B dX12_clashPairs_70 2 rfl ?_
            refine V_iload 71 B dX12_clashPairs_71 0 rfl ?_
            refine V_cvi 73 B (st := []) (As := [.int (nI (a38.1 0))]) (fun sz => rX12_modeOf l D Y h0 h1 h2 h3 h4 h5 h6 (a38.2.1 1) k5 k6 p7 p8 p9 k10 p11 q12 k15 k16 f0 f1 f3 f4 f13 f14 HI (by omega) HP (a38.1 0) (by omega) sz) glV_RX12_115 ⟨rfl, rfl⟩ ⟨(Nat.le_of_ble_eq_true rfl), (Nat.le_of_ble_eq_true rfl)⟩ ⟨(Nat.le_of_ble_eq_true rfl), (Nat.le_of_ble_eq_true rfl)⟩ [0, 0, 0, 0, 0, 0, 0] rfl 13 0 rfl rfl rfl rfl (Nat.le_of_ble_eq_true rfl) rfl (fun _ _ _ => rfl) dX12_clashPairs_73 (fun j46 u47 w48 => ?_)
            refine V_ws [(h0, oC 13 [.ref h1, .ref h2, .int (a38.2.1 1), .ref h3, .ref h4, .int (nI k5), .int (nI k6), .int p7, .int p8, .int p9, .int (nI k10), .int p11, .long q12, .ref h5, .ref h6, .int (nI k15), .int (nI k16)]), (h1, aI Y 3640 f0), (h2, aZ Y 2 f1), (h3, aZ Y 80 f3), (h4, aB Y 1600 f4), (h5, aI Y 200 f13), (h6, aI Y 800 f14)] rfl ?_
            have x49 := w48
            refine V_iload_n 76 B dX12_clashPairs_76 3 rfl ?_
            refine V_icmp_ne 77 B 93 dX12_clashPairs_77 (by decide) (fun kk50 => ?_) (fun kk50 => ?_)
            ·
              have x51 := x_ne kk50
              rw [nI_toInt (show n4 < 2 ^ 31 by omega)] at x51
              refine V_iinc 93 B (v := (nI (1 + (a38.1 0)))) (lv2 := [(4, .int (nI (1 + (a38.1 0)))), (3, .int (a38.2.1 0)), (0, .ref h0), (1, .int (nI n4)), (2, .int (nI n18))]) dX12_clashPairs_93 0 rfl (nI_addE (a := (a38.1 0)) (b := 1) (by omega)) (by decide) rfl ?_
              refine V_goto 96 B 59 dX12_clashPairs_96 (by decide) ?_
              refine V_lv [(4, .int (nI (1 + (a38.1 0)))), (3, .int (a38.2.1 0)), (0, .ref h0), (1, .int (nI n4)), (2, .int (nI n18))] [0, 1, 2, 3, 4] rfl ?_
              exact IH39 (mkW [1 + (a38.1 0)] [(a38.2.1 0), (a38.2.1 1)] [] [] [] []) (show 1 + (a38.1 0) ≤ 4000 by omega) (by show 100000 - (1 + (a38.1 0)) < 100000 - (a38.1 0); omega)
            ·
              obtain rfl : j46 = (nI n4) := kk50
              have e53 := nI_toInt (show n4 < 2 ^ 31 by omega)
              refine V_iload_n 80 B dX12_clashPairs_80 1 rfl ?_
              refine V_aload_n 81 B dX12_clashPairs_81 2 rfl ?_
              refine V_iload_n 82 B dX12_clashPairs_82 4 rfl ?_
              refine V_iload 83 B dX12_clashPairs_83 0 rfl ?_
              refine V_csi 85 B (st := [.int (nI n18), .ref h0, .int (a38.2.1 0)]) (As := [.int (nI (a38.1 0))]) (fun sz => rX12_sequenceOf l D Y (a38.1 0) (by omega) sz) glS_RX12_85 ⟨rfl, rfl⟩ ⟨(Nat.le_of_ble_eq_true rfl), (Nat.le_of_ble_eq_true rfl)⟩ ⟨(Nat.le_of_ble_eq_true rfl), (Nat.le_of_ble_eq_true rfl)⟩ [] rfl rfl (Nat.le_of_ble_eq_true rfl) rfl (fun _ _ _ => rfl) dX12_clashPairs_85 (fun j54 u55 w56 => ?_)
              refine V_ws [(h0, oC 13 [.ref h1, .ref h2, .int (a38.2.1 1), .ref h3, .ref h4, .int (nI k5), .int (nI k6), .int p7, .int p8, .int p9, .int (nI k10), .int p11, .long q12, .ref h5, .ref h6, .int (nI k15), .int (nI k16)]), (h1, aI Y 3640 f0), (h2, aZ Y 2 f1), (h3, aZ Y 80 f3), (h4, aB Y 1600 f4), (h5, aI Y 200 f13), (h6, aI Y 800 f14)] rfl ?_
              have x57 := w56
              obtain rfl := x57
              refine V_cvi 88 B (st := [.int (a38.2.1 0)]) (As := [.int (nI n18), .int (nI (186 + 7 * (a38.1 0)))]) (fun sz => rX12_clashCount l D Y h0 h1 h2 h3 h4 h5 h6 (a38.2.1 1) k5 k6 p7 p8 p9 k10 p11 q12 k15 k16 f0 f1 f3 f4 f13 f14 HI (by omega) HP (nI n18) (186 + 7 * (a38.1 0)) (rl5 (a38.1 0) (by omega)) sz) glV_RX12_139 ⟨rfl, rfl⟩ ⟨(Nat.le_of_ble_eq_true rfl), (Nat.le_of_ble_eq_true rfl)⟩ ⟨(Nat.le_of_ble_eq_true rfl), (Nat.le_of_ble_eq_true rfl)⟩ [0, 0, 0, 0, 0, 0, 0] rfl 13 0 rfl rfl rfl rfl (Nat.le_of_ble_eq_true rfl) rfl (fun _ _ _ => rfl) dX12_clashPairs_88 (fun j58 u59 w60 => ?_)
              refine V_ws [(h0, oC 13 [.ref h1, .ref h2, .int (a38.2.1 1), .ref h3, .ref h4, .int (nI k5), .int (nI k6), .int p7, .int p8, .int p9, .int (nI k10), .int p11, .long q12, .ref h5, .ref h6, .int (nI k15), .int (nI k16)]), (h1, aI Y 3640 f0), (h2, aZ Y 2 f1), (h3, aZ Y 80 f3), (h4, aB Y 1600 f4), (h5, aI Y 200 f13), (h6, aI Y 800 f14)] rfl ?_
              have x61 := w60
              refine V_iadd 91 B dX12_clashPairs_91 rfl ?_
              refine V_nmi (fun j62 e63 => ?_)
              refine V_istore_n 92 B (lv2 := [(3, .int j62), (4, .int (nI (a38.1 0))), (0, .ref h0), (1, .int (nI n4)), (2, .int (nI n18))]) dX12_clashPairs_92 (by decide) rfl ?_
              refine V_iinc 93 B (v := (nI (1 + (a38.1 0)))) (lv2 := [(4, .int (nI (1 + (a38.1 0)))), (3, .int j62), (0, .ref h0), (1, .int (nI n4)), (2, .int (nI n18))]) dX12_clashPairs_93 1 rfl (nI_addE (a := (a38.1 0)) (b := 1) (by omega)) (by decide) rfl ?_
              refine V_goto 96 B 59 dX12_clashPairs_96 (by decide) ?_
              refine V_lv [(4, .int (nI (1 + (a38.1 0)))), (3, .int j62), (0, .ref h0), (1, .int (nI n4)), (2, .int (nI n18))] [0, 1, 2, 3, 4] rfl ?_
              exact IH39 (mkW [1 + (a38.1 0)] [j62, (a38.2.1 1)] [] [] [] []) (show 1 + (a38.1 0) ≤ 4000 by omega) (by show 100000 - (1 + (a38.1 0)) < 100000 - (a38.1 0); omega)
        ·
          have x64 := n_eq (a := n4) (b := n18) kk32 (by omega) (by omega)
          refine V_iconst 40 B (v := 1) dX12_clashPairs_40 (by decide +kernel) ?_
          refine V_goto 41 B 45 dX12_clashPairs_41 (by decide) ?_
          refine V_iconst 45 B (v := 2) dX12_clashPairs_45 (by decide +kernel) ?_
          refine V_cvi 46 B (st := []) (As := [.int 1, .int 2]) (fun sz => rX12_throwsIf_1 l D Y h0 h1 h2 h3 h4 h5 h6 (u29.2.1 0) k5 k6 p7 p8 p9 k10 p11 q12 k15 k16 f0 f1 f3 f4 f13 f14 HI (by omega) HP 2 sz) glV_RX12_69 ⟨rfl, rfl⟩ ⟨(Nat.le_of_ble_eq_true rfl), (Nat.le_of_ble_eq_true rfl)⟩ ⟨(Nat.le_of_ble_eq_true rfl), (Nat.le_of_ble_eq_true rfl)⟩ [0, 0, 0, 0, 0, 0, 0] rfl 13 0 rfl rfl rfl rfl (Nat.le_of_ble_eq_true rfl) rfl (fun _ _ _ => rfl) dX12_clashPairs_46 (fun j65 u66 w67 => ?_)
          refine V_ws [(h0, oC 13 [.ref h1, .ref h2, .int (u66.2.1 0), .ref h3, .ref h4, .int (nI k5), .int (nI k6), .int p7, .int p8, .int p9, .int (nI k10), .int p11, .long q12, .ref h5, .ref h6, .int (nI k15), .int (nI k16)]), (h1, aI Y 3640 f0), (h2, aZ Y 2 f1), (h3, aZ Y 80 f3), (h4, aB Y 1600 f4), (h5, aI Y 200 f13), (h6, aI Y 800 f14)] rfl ?_
          have x68 := w67
          obtain rfl := x68
          refine V_if_eq_f 49 B 54 dX12_clashPairs_49 (by decide) (by decide +kernel) ?_
          refine V_iconst 52 B (v := 0) dX12_clashPairs_52 (by decide +kernel) ?_
          exact V_iret 53 B dX12_clashPairs_53 (mkW [] [(u66.2.1 0)] [] [] [] []) trivial rfl)
theorem dX12_simpleStroke_0 : decode cX12_simpleStroke 0 = .ok (.iload_n 0, 1) := by decide +kernel
theorem dX12_simpleStroke_1 : decode cX12_simpleStroke 1 = .ok (.bipush 26, 2) := by decide +kernel
theorem dX12_simpleStroke_3 : decode cX12_simpleStroke 3 = .ok (.idiv, 1) := by decide +kernel
theorem dX12_simpleStroke_4 : decode cX12_simpleStroke 4 = .ok (.istore_n 1, 1) := by decide +kernel
theorem dX12_simpleStroke_5 : decode cX12_simpleStroke 5 = .ok (.bipush 32, 2) := by decide +kernel
theorem dX12_simpleStroke_7 : decode cX12_simpleStroke 7 = .ok (.iload_n 1, 1) := by decide +kernel
theorem dX12_simpleStroke_8 : decode cX12_simpleStroke 8 = .ok (.ifCond .ne 7, 3) := by decide +kernel
theorem dX12_simpleStroke_15 : decode cX12_simpleStroke 15 = .ok (.iconst 1, 1) := by decide +kernel
theorem dX12_simpleStroke_16 : decode cX12_simpleStroke 16 = .ok (.iload_n 1, 1) := by decide +kernel
theorem dX12_simpleStroke_17 : decode cX12_simpleStroke 17 = .ok (.iconst 1, 1) := by decide +kernel
theorem dX12_simpleStroke_18 : decode cX12_simpleStroke 18 = .ok (.isub, 1) := by decide +kernel
theorem dX12_simpleStroke_19 : decode cX12_simpleStroke 19 = .ok (.ishl, 1) := by decide +kernel
theorem dX12_simpleStroke_20 : decode cX12_simpleStroke 20 = .ok (.imul, 1) := by decide +kernel
theorem dX12_simpleStroke_21 : decode cX12_simpleStroke 21 = .ok (.iload_n 0, 1) := by decide +kernel
theorem dX12_simpleStroke_22 : decode cX12_simpleStroke 22 = .ok (.bipush 26, 2) := by decide +kernel
theorem dX12_simpleStroke_24 : decode cX12_simpleStroke 24 = .ok (.irem, 1) := by decide +kernel
theorem dX12_simpleStroke_25 : decode cX12_simpleStroke 25 = .ok (.iadd, 1) := by decide +kernel
theorem dX12_simpleStroke_26 : decode cX12_simpleStroke 26 = .ok (.ireturn, 1) := by decide +kernel
theorem dX12_simpleStroke_11 : decode cX12_simpleStroke 11 = .ok (.iconst 0, 1) := by decide +kernel
theorem dX12_simpleStroke_12 : decode cX12_simpleStroke 12 = .ok (.goto 8, 3) := by decide +kernel
set_option maxRecDepth 100000 in
set_option maxHeartbeats 4000000 in
theorem rX12_simpleStroke (l : Launch) (D : va_G) (Y : Nat → ClassId)  (s0 : Int32)  (sz : Nat) : Met l yX12_simpleStroke (WSm yX12_simpleStroke cX12_simpleStroke 2 (some .int)) (mkR 0 0 0 0) (PreC D Y [.int s0] [] sz) (QI D (fun (r : Int32) (u : WU) => True) (fun (u : WU) => []) (va_A [] sz)) 0 0 (va_A [] sz) :=
  met_of (by decide +kernel) (Nat.le_of_ble_eq_true rfl) (fun p e s m args below meth c B hin hsz => by
    have B : VB p s m args meth c D Y (va_A [] sz) cX12_simpleStroke 2 RX12 (some .int) := B
    refine V_iload_n 0 B dX12_simpleStroke_0 0 rfl ?_
    refine V_bipush 1 B (v := 26) dX12_simpleStroke_1 (by decide +kernel) ?_
    refine V_idiv 3 B dX12_simpleStroke_3 (by decide +kernel) rfl ?_
    refine V_nmi (fun j0 e1 => ?_)
    refine V_istore_n 4 B (lv2 := [(1, .int j0), (0, .int s0)]) dX12_simpleStroke_4 (by decide) rfl ?_
    refine V_bipush 5 B (v := 32) dX12_simpleStroke_5 (by decide +kernel) ?_
    refine V_iload_n 7 B dX12_simpleStroke_7 0 rfl ?_
    refine V_if_ne 8 B 15 dX12_simpleStroke_8 (by decide) (fun kk2 => ?_) (fun kk2 => ?_)
    ·
      have x3 := x_ne kk2
      rw [show (0 : Int32).toInt = 0 by decide +kernel] at x3
      refine V_iconst 15 B (v := 1) dX12_simpleStroke_15 (by decide +kernel) ?_
      refine V_iload_n 16 B dX12_simpleStroke_16 0 rfl ?_
      refine V_iconst 17 B (v := 1) dX12_simpleStroke_17 (by decide +kernel) ?_
      refine V_isub 18 B dX12_simpleStroke_18 rfl ?_
      refine V_nmi (fun j4 e5 => ?_)
      refine V_ishl 19 B dX12_simpleStroke_19 rfl ?_
      refine V_nmi (fun j6 _ => ?_)
      refine V_imul 20 B dX12_simpleStroke_20 rfl ?_
      refine V_nmi (fun j7 e8 => ?_)
      refine V_iload_n 21 B dX12_simpleStroke_21 1 rfl ?_
      refine V_bipush 22 B (v := 26) dX12_simpleStroke_22 (by decide +kernel) ?_
      refine V_irem 24 B dX12_simpleStroke_24 (by decide +kernel) rfl ?_
      refine V_nmi (fun j9 e10 => ?_)
      refine V_iadd 25 B dX12_simpleStroke_25 rfl ?_
      refine V_nmi (fun j11 e12 => ?_)
      exact V_iret 26 B dX12_simpleStroke_26 (mkW [] [] [] [] [] []) trivial rfl
    ·
      obtain rfl : j0 = 0 := kk2
      have e14 : (0 : Int32).toInt = 0 := by decide +kernel
      refine V_iconst 11 B (v := 0) dX12_simpleStroke_11 (by decide +kernel) ?_
      refine V_goto 12 B 20 dX12_simpleStroke_12 (by decide) ?_
      refine V_imul 20 B (v := 0) dX12_simpleStroke_20 (by decide +kernel) ?_
      refine V_iload_n 21 B dX12_simpleStroke_21 1 rfl ?_
      refine V_bipush 22 B (v := 26) dX12_simpleStroke_22 (by decide +kernel) ?_
      refine V_irem 24 B dX12_simpleStroke_24 (by decide +kernel) rfl ?_
      refine V_nmi (fun j15 e16 => ?_)
      refine V_iadd 25 B dX12_simpleStroke_25 rfl ?_
      refine V_nmi (fun j17 e18 => ?_)
      exact V_iret 26 B dX12_simpleStroke_26 (mkW [] [] [] [] [] []) trivial rfl)
theorem dX12_freeStrokes_0 : decode cX12_freeStrokes 0 = .ok (.aload_n 0, 1) := by decide +kernel
theorem dX12_freeStrokes_1 : decode cX12_freeStrokes 1 = .ok (.iconst 0, 1) := by decide +kernel
theorem dX12_freeStrokes_2 : decode cX12_freeStrokes 2 = .ok (.putfield 38, 3) := by decide +kernel
theorem dX12_freeStrokes_5 : decode cX12_freeStrokes 5 = .ok (.aload_n 0, 1) := by decide +kernel
theorem dX12_freeStrokes_6 : decode cX12_freeStrokes 6 = .ok (.aload_n 0, 1) := by decide +kernel
theorem dX12_freeStrokes_7 : decode cX12_freeStrokes 7 = .ok (.iload_n 1, 1) := by decide +kernel
theorem dX12_freeStrokes_8 : decode cX12_freeStrokes 8 = .ok (.invokevirtual 91, 3) := by decide +kernel
theorem dX12_freeStrokes_11 : decode cX12_freeStrokes 11 = .ok (.ifCond .ne 7, 3) := by decide +kernel
theorem dX12_freeStrokes_14 : decode cX12_freeStrokes 14 = .ok (.iconst 1, 1) := by decide +kernel
theorem dX12_freeStrokes_15 : decode cX12_freeStrokes 15 = .ok (.goto 4, 3) := by decide +kernel
theorem dX12_freeStrokes_19 : decode cX12_freeStrokes 19 = .ok (.iconst 1, 1) := by decide +kernel
theorem dX12_freeStrokes_20 : decode cX12_freeStrokes 20 = .ok (.invokevirtual 69, 3) := by decide +kernel
theorem dX12_freeStrokes_23 : decode cX12_freeStrokes 23 = .ok (.ifCond .eq 5, 3) := by decide +kernel
theorem dX12_freeStrokes_26 : decode cX12_freeStrokes 26 = .ok (.iconst 0, 1) := by decide +kernel
theorem dX12_freeStrokes_27 : decode cX12_freeStrokes 27 = .ok (.ireturn, 1) := by decide +kernel
theorem dX12_freeStrokes_18 : decode cX12_freeStrokes 18 = .ok (.iconst 0, 1) := by decide +kernel
theorem dX12_freeStrokes_28 : decode cX12_freeStrokes 28 = .ok (.iconst 0, 1) := by decide +kernel
theorem dX12_freeStrokes_29 : decode cX12_freeStrokes 29 = .ok (.istore_n 2, 1) := by decide +kernel
theorem dX12_freeStrokes_30 : decode cX12_freeStrokes 30 = .ok (.aload_n 0, 1) := by decide +kernel
theorem dX12_freeStrokes_31 : decode cX12_freeStrokes 31 = .ok (.getfield 9, 3) := by decide +kernel
theorem dX12_freeStrokes_34 : decode cX12_freeStrokes 34 = .ok (.sipush 3629, 3) := by decide +kernel
theorem dX12_freeStrokes_37 : decode cX12_freeStrokes 37 = .ok (.iconst 1, 1) := by decide +kernel
theorem dX12_freeStrokes_38 : decode cX12_freeStrokes 38 = .ok (.iastore, 1) := by decide +kernel
theorem dX12_freeStrokes_39 : decode cX12_freeStrokes 39 = .ok (.iconst 0, 1) := by decide +kernel
theorem dX12_freeStrokes_40 : decode cX12_freeStrokes 40 = .ok (.istore_n 3, 1) := by decide +kernel
theorem dX12_freeStrokes_41 : decode cX12_freeStrokes 41 = .ok (.iload_n 3, 1) := by decide +kernel
theorem dX12_freeStrokes_42 : decode cX12_freeStrokes 42 = .ok (.sipush 130, 3) := by decide +kernel
theorem dX12_freeStrokes_45 : decode cX12_freeStrokes 45 = .ok (.if_icmp .ge 40, 3) := by decide +kernel
theorem dX12_freeStrokes_85 : decode cX12_freeStrokes 85 = .ok (.iload_n 2, 1) := by decide +kernel
theorem dX12_freeStrokes_86 : decode cX12_freeStrokes 86 = .ok (.ireturn, 1) := by decide +kernel
theorem dX12_freeStrokes_48 : decode cX12_freeStrokes 48 = .ok (.aload_n 0, 1) := by decide +kernel
theorem dX12_freeStrokes_49 : decode cX12_freeStrokes 49 = .ok (.getfield 9, 3) := by decide +kernel
theorem dX12_freeStrokes_52 : decode cX12_freeStrokes 52 = .ok (.sipush 3630, 3) := by decide +kernel
theorem dX12_freeStrokes_55 : decode cX12_freeStrokes 55 = .ok (.iload_n 3, 1) := by decide +kernel
theorem dX12_freeStrokes_56 : decode cX12_freeStrokes 56 = .ok (.invokestatic 181, 3) := by decide +kernel
theorem glS_RX12_181 : GLS RX12 181 yX12_simpleStroke cX12_simpleStroke 2 (some .int) 1 := ⟨⟨(mT9 18 rfl rfl), (mT9 19 rfl rfl), (mT1 13 rfl rfl), (mT9 20 rfl rfl)⟩, by decide +kernel⟩
theorem dX12_freeStrokes_59 : decode cX12_freeStrokes 59 = .ok (.iastore, 1) := by decide +kernel
theorem dX12_freeStrokes_60 : decode cX12_freeStrokes 60 = .ok (.iload_n 2, 1) := by decide +kernel
theorem dX12_freeStrokes_61 : decode cX12_freeStrokes 61 = .ok (.aload_n 0, 1) := by decide +kernel
theorem dX12_freeStrokes_62 : decode cX12_freeStrokes 62 = .ok (.iload_n 1, 1) := by decide +kernel
theorem dX12_freeStrokes_63 : decode cX12_freeStrokes 63 = .ok (.sipush 3629, 3) := by decide +kernel
theorem dX12_freeStrokes_66 : decode cX12_freeStrokes 66 = .ok (.invokevirtual 129, 3) := by decide +kernel
theorem dX12_freeStrokes_69 : decode cX12_freeStrokes 69 = .ok (.ifCond .eq 7, 3) := by decide +kernel
theorem dX12_freeStrokes_76 : decode cX12_freeStrokes 76 = .ok (.iconst 0, 1) := by decide +kernel
theorem dX12_freeStrokes_77 : decode cX12_freeStrokes 77 = .ok (.iadd, 1) := by decide +kernel
theorem dX12_freeStrokes_78 : decode cX12_freeStrokes 78 = .ok (.istore_n 2, 1) := by decide +kernel
theorem dX12_freeStrokes_79 : decode cX12_freeStrokes 79 = .ok (.iinc 3 1, 3) := by decide +kernel
theorem dX12_freeStrokes_82 : decode cX12_freeStrokes 82 = .ok (.goto (-41), 3) := by decide +kernel
theorem dX12_freeStrokes_72 : decode cX12_freeStrokes 72 = .ok (.iconst 1, 1) := by decide +kernel
theorem dX12_freeStrokes_73 : decode cX12_freeStrokes 73 = .ok (.goto 4, 3) := by decide +kernel
set_option maxRecDepth 100000 in
set_option maxHeartbeats 4000000 in
theorem rX12_freeStrokes (l : Launch) (D : va_G) (Y : Nat → ClassId) (h0 : Nat) (h1 : Nat) (h2 : Nat) (h3 : Nat) (h4 : Nat) (h5 : Nat) (h6 : Nat) (p2 : Int32) (k5 : Nat) (k6 : Nat) (p7 : Int32) (p8 : Int32) (p9 : Int32) (k10 : Nat) (p11 : Int32) (q12 : Int64) (k15 : Nat) (k16 : Nat) (f0 : Nat → Int32) (f1 : Nat → Int32) (f3 : Nat → Int32) (f4 : Nat → Int32) (f13 : Nat → Int32) (f14 : Nat → Int32) (HI : INV f0) (HL : k5 ≤ 1600) (HP : PLV f13) (s0 : Int32)  (sz : Nat) : Met l yX12_freeStrokes (WSm yX12_freeStrokes cX12_freeStrokes 4 (some .int)) (mkR 5 0 0 112) (PreC D Y [.ref h0, .int s0] [(h0, oC 13 [.ref h1, .ref h2, .int p2, .ref h3, .ref h4, .int (nI k5), .int (nI k6), .int p7, .int p8, .int p9, .int (nI k10), .int p11, .long q12, .ref h5, .ref h6, .int (nI k15), .int (nI k16)]), (h1, aI Y 3640 f0), (h2, aZ Y 2 f1), (h3, aZ Y 80 f3), (h4, aB Y 1600 f4), (h5, aI Y 200 f13), (h6, aI Y 800 f14)] sz) (QI D (fun (r : Int32) (u : WU) => INV (u.2.2.2.1 0)) (fun (u : WU) => [(h0, oC 13 [.ref h1, .ref h2, .int (u.2.1 0), .ref h3, .ref h4, .int (nI k5), .int (nI k6), .int p7, .int p8, .int p9, .int (nI k10), .int p11, .long q12, .ref h5, .ref h6, .int (nI k15), .int (nI k16)]), (h1, aI Y 3640 (u.2.2.2.1 0)), (h2, aZ Y 2 f1), (h3, aZ Y 80 f3), (h4, aB Y 1600 f4), (h5, aI Y 200 f13), (h6, aI Y 800 f14)]) (va_A [(h0, oC 13 [.ref h1, .ref h2, .int p2, .ref h3, .ref h4, .int (nI k5), .int (nI k6), .int p7, .int p8, .int p9, .int (nI k10), .int p11, .long q12, .ref h5, .ref h6, .int (nI k15), .int (nI k16)]), (h1, aI Y 3640 f0), (h2, aZ Y 2 f1), (h3, aZ Y 80 f3), (h4, aB Y 1600 f4), (h5, aI Y 200 f13), (h6, aI Y 800 f14)] sz)) 0 0 (va_A [(h0, oC 13 [.ref h1, .ref h2, .int p2, .ref h3, .ref h4, .int (nI k5), .int (nI k6), .int p7, .int p8, .int p9, .int (nI k10), .int p11, .long q12, .ref h5, .ref h6, .int (nI k15), .int (nI k16)]), (h1, aI Y 3640 f0), (h2, aZ Y 2 f1), (h3, aZ Y 80 f3), (h4, aB Y 1600 f4), (h5, aI Y 200 f13), (h6, aI Y 800 f14)] sz) :=
  met_of (by decide +kernel) (Nat.le_of_ble_eq_true rfl) (fun p e s m args below meth c B hin hsz => by
    have B : VB p s m args meth c D Y (va_A [(h0, oC 13 [.ref h1, .ref h2, .int p2, .ref h3, .ref h4, .int (nI k5), .int (nI k6), .int p7, .int p8, .int p9, .int (nI k10), .int p11, .long q12, .ref h5, .ref h6, .int (nI k15), .int (nI k16)]), (h1, aI Y 3640 f0), (h2, aZ Y 2 f1), (h3, aZ Y 80 f3), (h4, aB Y 1600 f4), (h5, aI Y 200 f13), (h6, aI Y 800 f14)] sz) cX12_freeStrokes 4 RX12 (some .int) := B
    refine V_aload_n 0 B dX12_freeStrokes_0 0 rfl ?_
    refine V_iconst 1 B (v := 0) dX12_freeStrokes_1 (by decide +kernel) ?_
    refine V_put 2 B gp_RX12_38 0 rfl (Nat.le_of_ble_eq_true rfl) rfl rfl dX12_freeStrokes_2 [(h0, oC 13 [.ref h1, .ref h2, .int 0, .ref h3, .ref h4, .int (nI k5), .int (nI k6), .int p7, .int p8, .int p9, .int (nI k10), .int p11, .long q12, .ref h5, .ref h6, .int (nI k15), .int (nI k16)]), (h1, aI Y 3640 f0), (h2, aZ Y 2 f1), (h3, aZ Y 80 f3), (h4, aB Y 1600 f4), (h5, aI Y 200 f13), (h6, aI Y 800 f14)] rfl ?_
    refine V_aload_n 5 B dX12_freeStrokes_5 0 rfl ?_
    refine V_aload_n 6 B dX12_freeStrokes_6 0 rfl ?_
    refine V_iload_n 7 B dX12_freeStrokes_7 1 rfl ?_
    refine V_cvi 8 B (st := [.ref h0]) (As := [.int s0]) (fun sz => rX12_isMode l D Y h0 h1 h2 h3 h4 h5 h6 0 k5 k6 p7 p8 p9 k10 p11 q12 k15 k16 f0 f1 f3 f4 f13 f14 HI (by omega) HP s0 sz) glV_RX12_91 ⟨rfl, rfl⟩ ⟨(Nat.le_of_ble_eq_true rfl), (Nat.le_of_ble_eq_true rfl)⟩ ⟨(Nat.le_of_ble_eq_true rfl), (Nat.le_of_ble_eq_true rfl)⟩ [0, 0, 0, 0, 0, 0, 0] rfl 13 0 rfl rfl rfl rfl (Nat.le_of_ble_eq_true rfl) rfl (fun _ _ _ => rfl) dX12_freeStrokes_8 (fun j0 u1 w2 => ?_)
    refine V_ws [(h0, oC 13 [.ref h1, .ref h2, .int 0, .ref h3, .ref h4, .int (nI k5), .int (nI k6), .int p7, .int p8, .int p9, .int (nI k10), .int p11, .long q12, .ref h5, .ref h6, .int (nI k15), .int (nI k16)]), (h1, aI Y 3640 f0), (h2, aZ Y 2 f1), (h3, aZ Y 80 f3), (h4, aB Y 1600 f4), (h5, aI Y 200 f13), (h6, aI Y 800 f14)] rfl ?_
    have x3 := w2
    have x7 : (gN f0 0) ≤ 6 := gN_le HI (by omega) (show bd 0 = (0, ((6 : Nat) : Int)) by decide +kernel)
    rcases x3 with rfl | ⟨rfl, n4, rfl, x6⟩
    ·
      refine V_if_ne_f 11 B 18 dX12_freeStrokes_11 (by decide) (by decide +kernel) ?_
      refine V_iconst 14 B (v := 1) dX12_freeStrokes_14 (by decide +kernel) ?_
      refine V_goto 15 B 19 dX12_freeStrokes_15 (by decide) ?_
      refine V_iconst 19 B (v := 1) dX12_freeStrokes_19 (by decide +kernel) ?_
      refine V_cvi 20 B (st := []) (As := [.int 1, .int 1]) (fun sz => rX12_throwsIf_1 l D Y h0 h1 h2 h3 h4 h5 h6 0 k5 k6 p7 p8 p9 k10 p11 q12 k15 k16 f0 f1 f3 f4 f13 f14 HI (by omega) HP 1 sz) glV_RX12_69 ⟨rfl, rfl⟩ ⟨(Nat.le_of_ble_eq_true rfl), (Nat.le_of_ble_eq_true rfl)⟩ ⟨(Nat.le_of_ble_eq_true rfl), (Nat.le_of_ble_eq_true rfl)⟩ [0, 0, 0, 0, 0, 0, 0] rfl 13 0 rfl rfl rfl rfl (Nat.le_of_ble_eq_true rfl) rfl (fun _ _ _ => rfl) dX12_freeStrokes_20 (fun j8 u9 w10 => ?_)
      refine V_ws [(h0, oC 13 [.ref h1, .ref h2, .int (u9.2.1 0), .ref h3, .ref h4, .int (nI k5), .int (nI k6), .int p7, .int p8, .int p9, .int (nI k10), .int p11, .long q12, .ref h5, .ref h6, .int (nI k15), .int (nI k16)]), (h1, aI Y 3640 f0), (h2, aZ Y 2 f1), (h3, aZ Y 80 f3), (h4, aB Y 1600 f4), (h5, aI Y 200 f13), (h6, aI Y 800 f14)] rfl ?_
      have x11 := w10
      obtain rfl := x11
      refine V_if_eq_f 23 B 28 dX12_freeStrokes_23 (by decide) (by decide +kernel) ?_
      refine V_iconst 26 B (v := 0) dX12_freeStrokes_26 (by decide +kernel) ?_
      exact V_iret 27 B dX12_freeStrokes_27 (mkW [] [(u9.2.1 0)] [] [f0] [] []) HI rfl
    ·
      have e12 := nI_toInt (show n4 < 2 ^ 31 by omega)
      have x13 : (gN f0 0) ≤ 6 := gN_le HI (by omega) (show bd 0 = (0, ((6 : Nat) : Int)) by decide +kernel)
      refine V_if_ne_t 11 B 18 dX12_freeStrokes_11 (by decide) (by decide +kernel) ?_
      refine V_iconst 18 B (v := 0) dX12_freeStrokes_18 (by decide +kernel) ?_
      refine V_iconst 19 B (v := 1) dX12_freeStrokes_19 (by decide +kernel) ?_
      refine V_cvi 20 B (st := []) (As := [.int 0, .int 1]) (fun sz => rX12_throwsIf_0 l D Y h0 h1 h2 h3 h4 h5 h6 0 k5 k6 p7 p8 p9 k10 p11 q12 k15 k16 f0 f1 f3 f4 f13 f14 HI (by omega) HP 1 sz) glV_RX12_69 ⟨rfl, rfl⟩ ⟨(Nat.le_of_ble_eq_true rfl), (Nat.le_of_ble_eq_true rfl)⟩ ⟨(Nat.le_of_ble_eq_true rfl), (Nat.le_of_ble_eq_true rfl)⟩ [0, 0, 0, 0, 0, 0, 0] rfl 13 0 rfl rfl rfl rfl (Nat.le_of_ble_eq_true rfl) rfl (fun _ _ _ => rfl) dX12_freeStrokes_20 (fun j14 u15 w16 => ?_)
      refine V_ws [(h0, oC 13 [.ref h1, .ref h2, .int (u15.2.1 0), .ref h3, .ref h4, .int (nI k5), .int (nI k6), .int p7, .int p8, .int p9, .int (nI k10), .int p11, .long q12, .ref h5, .ref h6, .int (nI k15), .int (nI k16)]), (h1, aI Y 3640 f0), (h2, aZ Y 2 f1), (h3, aZ Y 80 f3), (h4, aB Y 1600 f4), (h5, aI Y 200 f13), (h6, aI Y 800 f14)] rfl ?_
      have x17 := w16
      obtain rfl := x17
      refine V_if_eq_t 23 B 28 dX12_freeStrokes_23 (by decide) (by decide +kernel) ?_
      refine V_iconst 28 B (v := 0) dX12_freeStrokes_28 (by decide +kernel) ?_
      refine V_istore_n 29 B (lv2 := [(2, .int 0), (0, .ref h0), (1, .int (nI n4))]) dX12_freeStrokes_29 (by decide) rfl ?_
      refine V_aload_n 30 B dX12_freeStrokes_30 1 rfl ?_
      refine V_get 31 B gf_RX12_9 0 rfl rfl dX12_freeStrokes_31 ?_
      refine V_sipush 34 B (v := 3629) dX12_freeStrokes_34 (by decide +kernel) ?_
      refine V_iconst 37 B (v := 1) dX12_freeStrokes_37 (by decide +kernel) ?_
      have hv18 : INV (upd f0 3629 1) := INV_nat (v := 1) HI (show bd 3629 = (0, ((4 : Nat) : Int)) by decide +kernel) (by omega) (by decide)
      refine V_iast 38 B 1 rfl (vpin _ _ (by decide +kernel)) dX12_freeStrokes_38 [(h0, oC 13 [.ref h1, .ref h2, .int (u15.2.1 0), .ref h3, .ref h4, .int (nI k5), .int (nI k6), .int p7, .int p8, .int p9, .int (nI k10), .int p11, .long q12, .ref h5, .ref h6, .int (nI k15), .int (nI k16)]), (h1, aI Y 3640 (upd f0 3629 1)), (h2, aZ Y 2 f1), (h3, aZ Y 80 f3), (h4, aB Y 1600 f4), (h5, aI Y 200 f13), (h6, aI Y 800 f14)] rfl ?_
      refine V_iconst 39 B (v := 0) dX12_freeStrokes_39 (by decide +kernel) ?_
      refine V_istore_n 40 B (lv2 := [(3, .int 0), (2, .int 0), (0, .ref h0), (1, .int (nI n4))]) dX12_freeStrokes_40 (by decide) rfl ?_
      refine V_wloop (α := WU) (fun a => 100000 - (a.1 0)) (fun a => INV (a.2.2.2.1 0) ∧ (a.1 0) ≤ 4000) (fun a => [(3, .int (nI (a.1 0))), (2, .int (a.2.1 0)), (0, .ref h0), (1, .int (nI n4))]) (fun a => [(h0, oC 13 [.ref h1, .ref h2, .int (a.2.1 1), .ref h3, .ref h4, .int (nI k5), .int (nI k6), .int p7, .int p8, .int p9, .int (nI k10), .int p11, .long q12, .ref h5, .ref h6, .int (nI k15), .int (nI k16)]), (h1, aI Y 3640 (a.2.2.2.1 0)), (h2, aZ Y 2 f1), (h3, aZ Y 80 f3), (h4, aB Y 1600 f4), (h5, aI Y 200 f13), (h6, aI Y 800 f14)]) (mkW [0] [0, (u15.2.1 0)] [] [(upd f0 3629 1)] [] []) ⟨hv18, (show 0 ≤ 4000 by omega)⟩ rfl rfl (fun a19 hI21 IH20 => ?_)
      refine V_lv [(3, .int (nI (a19.1 0))), (2, .int (a19.2.1 0)), (0, .ref h0), (1, .int (nI n4))] [0, 1, 2, 3] rfl ?_
      refine V_ws [(h0, oC 13 [.ref h1, .ref h2, .int (a19.2.1 1), .ref h3, .ref h4, .int (nI k5), .int (nI k6), .int p7, .int p8, .int p9, .int (nI k10), .int p11, .long q12, .ref h5, .ref h6, .int (nI k15), .int (nI k16)]), (h1, aI Y 3640 (a19.2.2.2.1 0)), (h2, aZ Y 2 f1), (h3, aZ Y 80 f3), (h4, aB Y 1600 f4), (h5, aI Y 200 f13), (h6, aI Y 800 f14)] rfl ?_
      obtain ⟨x22, x23⟩ := hI21
      refine V_iload_n 41 B dX12_freeStrokes_41 0 rfl ?_
      refine V_sipush 42 B (v := 130) dX12_freeStrokes_42 (by decide +kernel) ?_
      refine V_icmp_ge 45 B 85 dX12_freeStrokes_45 (by decide) (fun kk24 => ?_) (fun kk24 => ?_)
      ·
        have x25 := n_le (a := 130) (b := (a19.1 0)) kk24 (by omega) (by omega)
        refine V_iload_n 85 B dX12_freeStrokes_85 1 rfl ?_
        exact V_iret 86 B dX12_freeStrokes_86 (mkW [] [(a19.2.1 1)] [] [(a19.2.2.2.1 0)] [] []) x22 rfl
      ·
        have x26 := n_nle (a := 130) (b := (a19.1 0)) kk24 (by omega) (by omega)
        refine V_aload_n 48 B dX12_freeStrokes_48 2 rfl ?_
        refine V_get 49 B gf_RX12_9 0 rfl rfl dX12_freeStrokes_49 ?_
        refine V_sipush 52 B (v := 3630) dX12_freeStrokes_52 (by decide +kernel) ?_
        refine V_iload_n 55 B dX12_freeStrokes_55 0 rfl ?_
        refine V_csi 56 B (st := [.int 3630, .ref h1]) (As := [.int (nI (a19.1 0))]) (fun sz => rX12_simpleStroke l D Y (nI (a19.1 0)) sz) glS_RX12_181 ⟨rfl, rfl⟩ ⟨(Nat.le_of_ble_eq_true rfl), (Nat.le_of_ble_eq_true rfl)⟩ ⟨(Nat.le_of_ble_eq_true rfl), (Nat.le_of_ble_eq_true rfl)⟩ [] rfl rfl (Nat.le_of_ble_eq_true rfl) rfl (fun _ _ _ => rfl) dX12_freeStrokes_56 (fun j27 u28 w29 => ?_)
        refine V_ws [(h0, oC 13 [.ref h1, .ref h2, .int (a19.2.1 1), .ref h3, .ref h4, .int (nI k5), .int (nI k6), .int p7, .int p8, .int p9, .int (nI k10), .int p11, .long q12, .ref h5, .ref h6, .int (nI k15), .int (nI k16)]), (h1, aI Y 3640 (a19.2.2.2.1 0)), (h2, aZ Y 2 f1), (h3, aZ Y 80 f3), (h4, aB Y 1600 f4), (h5, aI Y 200 f13), (h6, aI Y 800 f14)] rfl ?_
        have hv30 : INV (upd (a19.2.2.2.1 0) 3630 j27) := INV_free x22 (show bd 3630 = FREE by decide +kernel)
        refine V_iast 59 B 1 rfl (vpin _ _ (by decide +kernel)) dX12_freeStrokes_59 [(h0, oC 13 [.ref h1, .ref h2, .int (a19.2.1 1), .ref h3, .ref h4, .int (nI k5), .int (nI k6), .int p7, .int p8, .int p9, .int (nI k10), .int p11, .long q12, .ref h5, .ref h6, .int (nI k15), .int (nI k16)]), (h1, aI Y 3640 (upd (a19.2.2.2.1 0) 3630 j27)), (h2, aZ Y 2 f1), (h3, aZ Y 80 f3), (h4, aB Y 1600 f4), (h5, aI Y 200 f13), (h6, aI Y 800 f14)] rfl ?_
        refine V_iload_n 60 B dX12_freeStrokes_60 1 rfl ?_
        refine V_aload_n 61 B dX12_freeStrokes_61 2 rfl ?_
        refine V_iload_n 62 B dX12_freeStrokes_62 3 rfl ?_
        refine V_sipush 63 B (v := 3629) dX12_freeStrokes_63 (by decide +kernel) ?_
        refine V_cvi 66 B (st := [.int (a19.2.1 0)]) (As := [.int (nI n4), .int 3629]) (fun sz => rX12_canBind l D Y h0 h1 h2 h3 h4 h5 h6 (a19.2.1 1) k5 k6 p7 p8 p9 k10 p11 q12 k15 k16 (upd (a19.2.2.2.1 0) 3630 j27) f1 f3 f4 f13 f14 hv30 (by omega) HP (nI n4) 3629 (show SQ 3629 by unfold SQ; decide +kernel) sz) glV_RX12_129 ⟨rfl, rfl⟩ ⟨(Nat.le_of_ble_eq_true rfl), (Nat.le_of_ble_eq_true rfl)⟩ ⟨(Nat.le_of_ble_eq_true rfl), (Nat.le_of_ble_eq_true rfl)⟩ [0, 0, 0, 0, 0, 0, 0] rfl 13 0 rfl rfl rfl rfl (Nat.le_of_ble_eq_true rfl) rfl (fun _ _ _ => rfl) dX12_freeStrokes_66 (fun j31 u32 w33 => ?_)
        refine V_ws [(h0, oC 13 [.ref h1, .ref h2, .int (a19.2.1 1), .ref h3, .ref h4, .int (nI k5), .int (nI k6), .int p7, .int p8, .int p9, .int (nI k10), .int p11, .long q12, .ref h5, .ref h6, .int (nI k15), .int (nI k16)]), (h1, aI Y 3640 (upd (a19.2.2.2.1 0) 3630 j27)), (h2, aZ Y 2 f1), (h3, aZ Y 80 f3), (h4, aB Y 1600 f4), (h5, aI Y 200 f13), (h6, aI Y 800 f14)] rfl ?_
        have x34 := w33
        rcases x34 with rfl | rfl
        ·
          refine V_if_eq_t 69 B 76 dX12_freeStrokes_69 (by decide) (by decide +kernel) ?_
          refine V_iconst 76 B (v := 0) dX12_freeStrokes_76 (by decide +kernel) ?_
          refine V_iadd 77 B (v := (a19.2.1 0)) dX12_freeStrokes_77 (Int32.add_zero _) ?_
          refine V_istore_n 78 B (lv2 := [(2, .int (a19.2.1 0)), (3, .int (nI (a19.1 0))), (0, .ref h0), (1, .int (nI n4))]) dX12_freeStrokes_78 (by decide) rfl ?_
          refine V_iinc 79 B (v := (nI (1 + (a19.1 0)))) (lv2 := [(3, .int (nI (1 + (a19.1 0)))), (2, .int (a19.2.1 0)), (0, .ref h0), (1, .int (nI n4))]) dX12_freeStrokes_79 1 rfl (nI_addE (a := (a19.1 0)) (b := 1) (by omega)) (by decide) rfl ?_
          refine V_goto 82 B 41 dX12_freeStrokes_82 (by decide) ?_
          refine V_lv [(3, .int (nI (1 + (a19.1 0)))), (2, .int (a19.2.1 0)), (0, .ref h0), (1, .int (nI n4))] [0, 1, 2, 3] rfl ?_
          exact IH20 (mkW [1 + (a19.1 0)] [(a19.2.1 0), (a19.2.1 1)] [] [(upd (a19.2.2.2.1 0) 3630 j27)] [] []) ⟨hv30, (show 1 + (a19.1 0) ≤ 4000 by omega)⟩ (by show 100000 - (1 + (a19.1 0)) < 100000 - (a19.1 0); omega)
        ·
          refine V_if_eq_f 69 B 76 dX12_freeStrokes_69 (by decide) (by decide +kernel) ?_
          refine V_iconst 72 B (v := 1) dX12_freeStrokes_72 (by decide +kernel) ?_
          refine V_goto 73 B 77 dX12_freeStrokes_73 (by decide) ?_
          refine V_iadd 77 B dX12_freeStrokes_77 rfl ?_
          refine V_nmi (fun j35 e36 => ?_)
          refine V_istore_n 78 B (lv2 := [(2, .int j35), (3, .int (nI (a19.1 0))), (0, .ref h0), (1, .int (nI n4))]) dX12_freeStrokes_78 (by decide) rfl ?_
          refine V_iinc 79 B (v := (nI (1 + (a19.1 0)))) (lv2 := [(3, .int (nI (1 + (a19.1 0)))), (2, .int j35), (0, .ref h0), (1, .int (nI n4))]) dX12_freeStrokes_79 1 rfl (nI_addE (a := (a19.1 0)) (b := 1) (by omega)) (by decide) rfl ?_
          refine V_goto 82 B 41 dX12_freeStrokes_82 (by decide) ?_
          refine V_lv [(3, .int (nI (1 + (a19.1 0)))), (2, .int j35), (0, .ref h0), (1, .int (nI n4))] [0, 1, 2, 3] rfl ?_
          exact IH20 (mkW [1 + (a19.1 0)] [j35, (a19.2.1 1)] [] [(upd (a19.2.2.2.1 0) 3630 j27)] [] []) ⟨hv30, (show 1 + (a19.1 0) ≤ 4000 by omega)⟩ (by show 100000 - (1 + (a19.1 0)) < 100000 - (a19.1 0); omega))
theorem dX12_isFreeHere_0 : decode cX12_isFreeHere 0 = .ok (.aload_n 0, 1) := by decide +kernel
theorem dX12_isFreeHere_1 : decode cX12_isFreeHere 1 = .ok (.iload_n 1, 1) := by decide +kernel
theorem dX12_isFreeHere_2 : decode cX12_isFreeHere 2 = .ok (.sipush 3629, 3) := by decide +kernel
theorem dX12_isFreeHere_5 : decode cX12_isFreeHere 5 = .ok (.invokevirtual 129, 3) := by decide +kernel
theorem dX12_isFreeHere_8 : decode cX12_isFreeHere 8 = .ok (.ifCond .ne 5, 3) := by decide +kernel
theorem dX12_isFreeHere_11 : decode cX12_isFreeHere 11 = .ok (.iconst 0, 1) := by decide +kernel
theorem dX12_isFreeHere_12 : decode cX12_isFreeHere 12 = .ok (.ireturn, 1) := by decide +kernel
theorem dX12_isFreeHere_13 : decode cX12_isFreeHere 13 = .ok (.iconst 1, 1) := by decide +kernel
theorem dX12_isFreeHere_14 : decode cX12_isFreeHere 14 = .ok (.istore_n 3, 1) := by decide +kernel
theorem dX12_isFreeHere_15 : decode cX12_isFreeHere 15 = .ok (.iconst 0, 1) := by decide +kernel
theorem dX12_isFreeHere_16 : decode cX12_isFreeHere 16 = .ok (.istore 4, 2) := by decide +kernel
theorem dX12_isFreeHere_18 : decode cX12_isFreeHere 18 = .ok (.iload 4, 2) := by decide +kernel
theorem dX12_isFreeHere_20 : decode cX12_isFreeHere 20 = .ok (.aload_n 0, 1) := by decide +kernel
theorem dX12_isFreeHere_21 : decode cX12_isFreeHere 21 = .ok (.getfield 9, 3) := by decide +kernel
theorem dX12_isFreeHere_24 : decode cX12_isFreeHere 24 = .ok (.iconst 3, 1) := by decide +kernel
theorem dX12_isFreeHere_25 : decode cX12_isFreeHere 25 = .ok (.iaload, 1) := by decide +kernel
theorem dX12_isFreeHere_26 : decode cX12_isFreeHere 26 = .ok (.if_icmp .ge 46, 3) := by decide +kernel
theorem dX12_isFreeHere_72 : decode cX12_isFreeHere 72 = .ok (.iload_n 3, 1) := by decide +kernel
theorem dX12_isFreeHere_73 : decode cX12_isFreeHere 73 = .ok (.ireturn, 1) := by decide +kernel
theorem dX12_cheapest_0 : decode cX12_cheapest 0 = .ok (.aload_n 0, 1) := by decide +kernel
theorem dX12_cheapest_1 : decode cX12_cheapest 1 = .ok (.iconst 0, 1) := by decide +kernel
theorem dX12_cheapest_2 : decode cX12_cheapest 2 = .ok (.putfield 38, 3) := by decide +kernel
theorem dX12_cheapest_5 : decode cX12_cheapest 5 = .ok (.aload_n 0, 1) := by decide +kernel
theorem dX12_cheapest_6 : decode cX12_cheapest 6 = .ok (.aload_n 0, 1) := by decide +kernel
theorem dX12_cheapest_7 : decode cX12_cheapest 7 = .ok (.iload_n 1, 1) := by decide +kernel
theorem dX12_cheapest_8 : decode cX12_cheapest 8 = .ok (.invokevirtual 91, 3) := by decide +kernel
theorem dX12_cheapest_11 : decode cX12_cheapest 11 = .ok (.ifCond .ne 7, 3) := by decide +kernel
theorem dX12_cheapest_14 : decode cX12_cheapest 14 = .ok (.iconst 1, 1) := by decide +kernel
theorem dX12_cheapest_15 : decode cX12_cheapest 15 = .ok (.goto 4, 3) := by decide +kernel
theorem dX12_cheapest_19 : decode cX12_cheapest 19 = .ok (.iconst 1, 1) := by decide +kernel
theorem dX12_cheapest_20 : decode cX12_cheapest 20 = .ok (.invokevirtual 69, 3) := by decide +kernel
theorem dX12_cheapest_23 : decode cX12_cheapest 23 = .ok (.ifCond .ne 28, 3) := by decide +kernel
theorem dX12_cheapest_51 : decode cX12_cheapest 51 = .ok (.iconst 0, 1) := by decide +kernel
theorem dX12_cheapest_52 : decode cX12_cheapest 52 = .ok (.ireturn, 1) := by decide +kernel
theorem dX12_cheapest_18 : decode cX12_cheapest 18 = .ok (.iconst 0, 1) := by decide +kernel
theorem dX12_cheapest_26 : decode cX12_cheapest 26 = .ok (.aload_n 0, 1) := by decide +kernel
theorem dX12_cheapest_27 : decode cX12_cheapest 27 = .ok (.iload_n 2, 1) := by decide +kernel
theorem dX12_cheapest_28 : decode cX12_cheapest 28 = .ok (.i2l, 1) := by decide +kernel
theorem dX12_cheapest_29 : decode cX12_cheapest 29 = .ok (.lconst 1, 1) := by decide +kernel
theorem dX12_cheapest_30 : decode cX12_cheapest 30 = .ok (.ldc2_w 94, 3) := by decide +kernel
theorem dX12_cheapest_33 : decode cX12_cheapest 33 = .ok (.invokestatic 41, 3) := by decide +kernel
theorem dX12_cheapest_36 : decode cX12_cheapest 36 = .ok (.ifCond .ne 7, 3) := by decide +kernel
theorem dX12_cheapest_39 : decode cX12_cheapest 39 = .ok (.iconst 1, 1) := by decide +kernel
theorem dX12_cheapest_40 : decode cX12_cheapest 40 = .ok (.goto 4, 3) := by decide +kernel
theorem dX12_cheapest_44 : decode cX12_cheapest 44 = .ok (.iconst 2, 1) := by decide +kernel
theorem dX12_cheapest_45 : decode cX12_cheapest 45 = .ok (.invokevirtual 69, 3) := by decide +kernel
theorem dX12_cheapest_48 : decode cX12_cheapest 48 = .ok (.ifCond .eq 5, 3) := by decide +kernel
theorem dX12_cheapest_43 : decode cX12_cheapest 43 = .ok (.iconst 0, 1) := by decide +kernel
theorem dX12_cheapest_53 : decode cX12_cheapest 53 = .ok (.iconst 0, 1) := by decide +kernel
theorem dX12_cheapest_54 : decode cX12_cheapest 54 = .ok (.istore 4, 2) := by decide +kernel
theorem dX12_cheapest_56 : decode cX12_cheapest 56 = .ok (.iload 4, 2) := by decide +kernel
theorem dX12_cheapest_58 : decode cX12_cheapest 58 = .ok (.aload_n 0, 1) := by decide +kernel
theorem dX12_cheapest_59 : decode cX12_cheapest 59 = .ok (.getfield 9, 3) := by decide +kernel
theorem dX12_cheapest_62 : decode cX12_cheapest 62 = .ok (.iconst 3, 1) := by decide +kernel
theorem dX12_cheapest_63 : decode cX12_cheapest 63 = .ok (.iaload, 1) := by decide +kernel
theorem dX12_cheapest_64 : decode cX12_cheapest 64 = .ok (.if_icmp .ge 52, 3) := by decide +kernel
theorem dX12_cheapest_116 : decode cX12_cheapest 116 = .ok (.ldc 184, 2) := by decide +kernel
theorem dX12_cheapest_118 : decode cX12_cheapest 118 = .ok (.istore 4, 2) := by decide +kernel
theorem dX12_cheapest_120 : decode cX12_cheapest 120 = .ok (.iconst 0, 1) := by decide +kernel
theorem dX12_cheapest_121 : decode cX12_cheapest 121 = .ok (.istore 5, 2) := by decide +kernel
theorem dX12_cheapest_123 : decode cX12_cheapest 123 = .ok (.iconst 0, 1) := by decide +kernel
theorem dX12_cheapest_124 : decode cX12_cheapest 124 = .ok (.istore 6, 2) := by decide +kernel
theorem dX12_cheapest_126 : decode cX12_cheapest 126 = .ok (.aload_n 0, 1) := by decide +kernel
theorem dX12_cheapest_127 : decode cX12_cheapest 127 = .ok (.getfield 9, 3) := by decide +kernel
theorem dX12_cheapest_130 : decode cX12_cheapest 130 = .ok (.sipush 3629, 3) := by decide +kernel
theorem dX12_cheapest_133 : decode cX12_cheapest 133 = .ok (.iload_n 2, 1) := by decide +kernel
theorem dX12_cheapest_134 : decode cX12_cheapest 134 = .ok (.iastore, 1) := by decide +kernel
theorem dX12_cheapest_135 : decode cX12_cheapest 135 = .ok (.iconst 0, 1) := by decide +kernel
theorem dX12_cheapest_136 : decode cX12_cheapest 136 = .ok (.istore 7, 2) := by decide +kernel
theorem dX12_cheapest_138 : decode cX12_cheapest 138 = .ok (.iload 7, 2) := by decide +kernel
theorem dX12_cheapest_140 : decode cX12_cheapest 140 = .ok (.sipush 130, 3) := by decide +kernel
theorem dX12_cheapest_143 : decode cX12_cheapest 143 = .ok (.if_icmp .ge 107, 3) := by decide +kernel
theorem dX12_cheapest_250 : decode cX12_cheapest 250 = .ok (.iload 4, 2) := by decide +kernel
theorem dX12_cheapest_252 : decode cX12_cheapest 252 = .ok (.ldc 184, 2) := by decide +kernel
theorem dX12_cheapest_254 : decode cX12_cheapest 254 = .ok (.if_icmp .ne 5, 3) := by decide +kernel
theorem dX12_cheapest_259 : decode cX12_cheapest 259 = .ok (.aload_n 0, 1) := by decide +kernel
theorem dX12_cheapest_260 : decode cX12_cheapest 260 = .ok (.getfield 9, 3) := by decide +kernel
theorem dX12_cheapest_263 : decode cX12_cheapest 263 = .ok (.sipush 3624, 3) := by decide +kernel
theorem dX12_cheapest_266 : decode cX12_cheapest 266 = .ok (.iload_n 2, 1) := by decide +kernel
theorem dX12_cheapest_267 : decode cX12_cheapest 267 = .ok (.iastore, 1) := by decide +kernel
theorem dX12_cheapest_268 : decode cX12_cheapest 268 = .ok (.aload_n 0, 1) := by decide +kernel
theorem dX12_cheapest_269 : decode cX12_cheapest 269 = .ok (.getfield 9, 3) := by decide +kernel
theorem dX12_cheapest_272 : decode cX12_cheapest 272 = .ok (.sipush 3625, 3) := by decide +kernel
theorem dX12_cheapest_275 : decode cX12_cheapest 275 = .ok (.iload 5, 2) := by decide +kernel
theorem dX12_cheapest_277 : decode cX12_cheapest 277 = .ok (.iastore, 1) := by decide +kernel
theorem dX12_cheapest_278 : decode cX12_cheapest 278 = .ok (.aload_n 0, 1) := by decide +kernel
theorem dX12_cheapest_279 : decode cX12_cheapest 279 = .ok (.getfield 9, 3) := by decide +kernel
theorem dX12_cheapest_282 : decode cX12_cheapest 282 = .ok (.sipush 3626, 3) := by decide +kernel
theorem dX12_cheapest_285 : decode cX12_cheapest 285 = .ok (.iload 6, 2) := by decide +kernel
theorem dX12_cheapest_287 : decode cX12_cheapest 287 = .ok (.iastore, 1) := by decide +kernel
theorem dX12_cheapest_288 : decode cX12_cheapest 288 = .ok (.iload 4, 2) := by decide +kernel
theorem dX12_cheapest_290 : decode cX12_cheapest 290 = .ok (.ireturn, 1) := by decide +kernel
theorem dX12_cheapest_257 : decode cX12_cheapest 257 = .ok (.iconst (-1), 1) := by decide +kernel
theorem dX12_cheapest_258 : decode cX12_cheapest 258 = .ok (.ireturn, 1) := by decide +kernel
theorem dX12_cheapest_146 : decode cX12_cheapest 146 = .ok (.iconst 0, 1) := by decide +kernel
theorem dX12_cheapest_147 : decode cX12_cheapest 147 = .ok (.istore 8, 2) := by decide +kernel
theorem dX12_cheapest_149 : decode cX12_cheapest 149 = .ok (.iload 8, 2) := by decide +kernel
theorem dX12_cheapest_151 : decode cX12_cheapest 151 = .ok (.iload_n 2, 1) := by decide +kernel
theorem dX12_cheapest_152 : decode cX12_cheapest 152 = .ok (.iconst 1, 1) := by decide +kernel
theorem dX12_cheapest_153 : decode cX12_cheapest 153 = .ok (.if_icmp .ne 7, 3) := by decide +kernel
theorem dX12_cheapest_160 : decode cX12_cheapest 160 = .ok (.sipush 130, 3) := by decide +kernel
theorem dX12_cheapest_163 : decode cX12_cheapest 163 = .ok (.if_icmp .ge 81, 3) := by decide +kernel
theorem dX12_cheapest_244 : decode cX12_cheapest 244 = .ok (.iinc 7 1, 3) := by decide +kernel
theorem dX12_cheapest_247 : decode cX12_cheapest 247 = .ok (.goto (-109), 3) := by decide +kernel
theorem dX12_cheapest_166 : decode cX12_cheapest 166 = .ok (.aload_n 0, 1) := by decide +kernel
theorem dX12_cheapest_167 : decode cX12_cheapest 167 = .ok (.getfield 9, 3) := by decide +kernel
theorem dX12_cheapest_170 : decode cX12_cheapest 170 = .ok (.sipush 3630, 3) := by decide +kernel
theorem dX12_cheapest_173 : decode cX12_cheapest 173 = .ok (.iload 7, 2) := by decide +kernel
theorem dX12_cheapest_175 : decode cX12_cheapest 175 = .ok (.invokestatic 181, 3) := by decide +kernel
theorem dX12_cheapest_178 : decode cX12_cheapest 178 = .ok (.iastore, 1) := by decide +kernel
theorem dX12_cheapest_179 : decode cX12_cheapest 179 = .ok (.aload_n 0, 1) := by decide +kernel
theorem dX12_cheapest_180 : decode cX12_cheapest 180 = .ok (.getfield 9, 3) := by decide +kernel
theorem dX12_cheapest_183 : decode cX12_cheapest 183 = .ok (.sipush 3631, 3) := by decide +kernel
theorem dX12_cheapest_186 : decode cX12_cheapest 186 = .ok (.iload 8, 2) := by decide +kernel
theorem dX12_cheapest_188 : decode cX12_cheapest 188 = .ok (.invokestatic 181, 3) := by decide +kernel
theorem dX12_cheapest_191 : decode cX12_cheapest 191 = .ok (.iastore, 1) := by decide +kernel
theorem dX12_cheapest_192 : decode cX12_cheapest 192 = .ok (.aload_n 0, 1) := by decide +kernel
theorem dX12_cheapest_193 : decode cX12_cheapest 193 = .ok (.sipush 3629, 3) := by decide +kernel
theorem dX12_cheapest_196 : decode cX12_cheapest 196 = .ok (.invokevirtual 76, 3) := by decide +kernel
theorem dX12_cheapest_199 : decode cX12_cheapest 199 = .ok (.istore 9, 2) := by decide +kernel
theorem dX12_cheapest_201 : decode cX12_cheapest 201 = .ok (.iload 9, 2) := by decide +kernel
theorem dX12_cheapest_203 : decode cX12_cheapest 203 = .ok (.iload 4, 2) := by decide +kernel
theorem dX12_cheapest_205 : decode cX12_cheapest 205 = .ok (.if_icmp .ge 33, 3) := by decide +kernel
theorem dX12_cheapest_238 : decode cX12_cheapest 238 = .ok (.iinc 8 1, 3) := by decide +kernel
theorem dX12_cheapest_241 : decode cX12_cheapest 241 = .ok (.goto (-92), 3) := by decide +kernel
theorem dX12_cheapest_208 : decode cX12_cheapest 208 = .ok (.aload_n 0, 1) := by decide +kernel
theorem dX12_cheapest_209 : decode cX12_cheapest 209 = .ok (.iload_n 1, 1) := by decide +kernel
theorem dX12_cheapest_210 : decode cX12_cheapest 210 = .ok (.iload_n 3, 1) := by decide +kernel
theorem dX12_cheapest_211 : decode cX12_cheapest 211 = .ok (.invokevirtual 185, 3) := by decide +kernel
theorem dX12_packed_0 : decode cX12_packed 0 = .ok (.aload_n 0, 1) := by decide +kernel
theorem dX12_packed_1 : decode cX12_packed 1 = .ok (.iconst 0, 1) := by decide +kernel
theorem dX12_packed_2 : decode cX12_packed 2 = .ok (.putfield 38, 3) := by decide +kernel
theorem dX12_packed_5 : decode cX12_packed 5 = .ok (.aload_n 0, 1) := by decide +kernel
theorem dX12_packed_6 : decode cX12_packed 6 = .ok (.aload_n 0, 1) := by decide +kernel
theorem dX12_packed_7 : decode cX12_packed 7 = .ok (.iload_n 1, 1) := by decide +kernel
theorem dX12_packed_8 : decode cX12_packed 8 = .ok (.invokevirtual 82, 3) := by decide +kernel
theorem dX12_packed_11 : decode cX12_packed 11 = .ok (.ifCond .ne 7, 3) := by decide +kernel
theorem dX12_packed_14 : decode cX12_packed 14 = .ok (.iconst 1, 1) := by decide +kernel
theorem dX12_packed_15 : decode cX12_packed 15 = .ok (.goto 4, 3) := by decide +kernel
theorem dX12_packed_19 : decode cX12_packed 19 = .ok (.iconst 1, 1) := by decide +kernel
theorem dX12_packed_20 : decode cX12_packed 20 = .ok (.invokevirtual 69, 3) := by decide +kernel
theorem dX12_packed_23 : decode cX12_packed 23 = .ok (.ifCond .ne 28, 3) := by decide +kernel
theorem dX12_packed_51 : decode cX12_packed 51 = .ok (.iconst 0, 1) := by decide +kernel
theorem dX12_packed_52 : decode cX12_packed 52 = .ok (.ireturn, 1) := by decide +kernel
theorem dX12_packed_18 : decode cX12_packed 18 = .ok (.iconst 0, 1) := by decide +kernel
theorem dX12_packed_26 : decode cX12_packed 26 = .ok (.aload_n 0, 1) := by decide +kernel
theorem dX12_packed_27 : decode cX12_packed 27 = .ok (.iload_n 2, 1) := by decide +kernel
theorem dX12_packed_28 : decode cX12_packed 28 = .ok (.i2l, 1) := by decide +kernel
theorem dX12_packed_29 : decode cX12_packed 29 = .ok (.lconst 0, 1) := by decide +kernel
theorem dX12_packed_30 : decode cX12_packed 30 = .ok (.ldc2_w 189, 3) := by decide +kernel
theorem dX12_packed_33 : decode cX12_packed 33 = .ok (.invokestatic 41, 3) := by decide +kernel
theorem dX12_packed_36 : decode cX12_packed 36 = .ok (.ifCond .ne 7, 3) := by decide +kernel
theorem dX12_packed_39 : decode cX12_packed 39 = .ok (.iconst 1, 1) := by decide +kernel
theorem dX12_packed_40 : decode cX12_packed 40 = .ok (.goto 4, 3) := by decide +kernel
theorem dX12_packed_44 : decode cX12_packed 44 = .ok (.iconst 2, 1) := by decide +kernel
theorem dX12_packed_45 : decode cX12_packed 45 = .ok (.invokevirtual 69, 3) := by decide +kernel
theorem dX12_packed_48 : decode cX12_packed 48 = .ok (.ifCond .eq 5, 3) := by decide +kernel
theorem dX12_packed_43 : decode cX12_packed 43 = .ok (.iconst 0, 1) := by decide +kernel
theorem dX12_packed_53 : decode cX12_packed 53 = .ok (.lconst 0, 1) := by decide +kernel
theorem dX12_packed_54 : decode cX12_packed 54 = .ok (.lstore_n 3, 1) := by decide +kernel
theorem dX12_packed_55 : decode cX12_packed 55 = .ok (.iconst 1, 1) := by decide +kernel
theorem dX12_packed_56 : decode cX12_packed 56 = .ok (.istore 5, 2) := by decide +kernel
theorem dX12_packed_58 : decode cX12_packed 58 = .ok (.iload 5, 2) := by decide +kernel
theorem dX12_packed_60 : decode cX12_packed 60 = .ok (.aload_n 0, 1) := by decide +kernel
theorem dX12_packed_61 : decode cX12_packed 61 = .ok (.getfield 9, 3) := by decide +kernel
theorem dX12_packed_64 : decode cX12_packed 64 = .ok (.iload_n 1, 1) := by decide +kernel
theorem dX12_packed_65 : decode cX12_packed 65 = .ok (.invokestatic 85, 3) := by decide +kernel
theorem dX12_packed_68 : decode cX12_packed 68 = .ok (.iaload, 1) := by decide +kernel
theorem dX12_packed_69 : decode cX12_packed 69 = .ok (.if_icmp .gt 31, 3) := by decide +kernel
theorem dX12_packed_100 : decode cX12_packed 100 = .ok (.iload_n 2, 1) := by decide +kernel
theorem dX12_packed_101 : decode cX12_packed 101 = .ok (.ifCond .ne 9, 3) := by decide +kernel
theorem dX12_packed_110 : decode cX12_packed 110 = .ok (.iload_n 2, 1) := by decide +kernel
theorem dX12_packed_111 : decode cX12_packed 111 = .ok (.iconst 1, 1) := by decide +kernel
theorem dX12_packed_112 : decode cX12_packed 112 = .ok (.if_icmp .ne 9, 3) := by decide +kernel
theorem dX12_packed_121 : decode cX12_packed 121 = .ok (.iload_n 2, 1) := by decide +kernel
theorem dX12_packed_122 : decode cX12_packed 122 = .ok (.iconst 2, 1) := by decide +kernel
theorem dX12_packed_123 : decode cX12_packed 123 = .ok (.if_icmp .ne 9, 3) := by decide +kernel
theorem dX12_packed_132 : decode cX12_packed 132 = .ok (.lload_n 3, 1) := by decide +kernel
theorem dX12_packed_133 : decode cX12_packed 133 = .ok (.l2i, 1) := by decide +kernel
theorem dX12_packed_134 : decode cX12_packed 134 = .ok (.ireturn, 1) := by decide +kernel
theorem dX12_packed_126 : decode cX12_packed 126 = .ok (.lload_n 3, 1) := by decide +kernel
theorem dX12_packed_127 : decode cX12_packed 127 = .ok (.l2i, 1) := by decide +kernel
theorem dX12_packed_128 : decode cX12_packed 128 = .ok (.i2c, 1) := by decide +kernel
theorem dX12_packed_129 : decode cX12_packed 129 = .ok (.goto 5, 3) := by decide +kernel
theorem dX12_packed_115 : decode cX12_packed 115 = .ok (.lload_n 3, 1) := by decide +kernel
theorem dX12_packed_116 : decode cX12_packed 116 = .ok (.l2i, 1) := by decide +kernel
theorem dX12_packed_117 : decode cX12_packed 117 = .ok (.i2s, 1) := by decide +kernel
theorem dX12_packed_118 : decode cX12_packed 118 = .ok (.goto 16, 3) := by decide +kernel
theorem dX12_packed_104 : decode cX12_packed 104 = .ok (.lload_n 3, 1) := by decide +kernel
theorem dX12_packed_105 : decode cX12_packed 105 = .ok (.l2i, 1) := by decide +kernel
theorem dX12_packed_106 : decode cX12_packed 106 = .ok (.i2b, 1) := by decide +kernel
theorem dX12_packed_107 : decode cX12_packed 107 = .ok (.goto 27, 3) := by decide +kernel
theorem dX12_packed_72 : decode cX12_packed 72 = .ok (.ldc2_w 191, 3) := by decide +kernel
theorem dX12_packed_75 : decode cX12_packed 75 = .ok (.lload_n 3, 1) := by decide +kernel
theorem dX12_packed_76 : decode cX12_packed 76 = .ok (.lmul, 1) := by decide +kernel
theorem dX12_packed_77 : decode cX12_packed 77 = .ok (.aload_n 0, 1) := by decide +kernel
theorem dX12_packed_78 : decode cX12_packed 78 = .ok (.getfield 9, 3) := by decide +kernel
theorem dX12_packed_81 : decode cX12_packed 81 = .ok (.iload_n 1, 1) := by decide +kernel
theorem dX12_packed_82 : decode cX12_packed 82 = .ok (.invokestatic 85, 3) := by decide +kernel
theorem dX12_packed_85 : decode cX12_packed 85 = .ok (.iload 5, 2) := by decide +kernel
theorem dX12_packed_87 : decode cX12_packed 87 = .ok (.iadd, 1) := by decide +kernel
theorem dX12_packed_88 : decode cX12_packed 88 = .ok (.iaload, 1) := by decide +kernel
theorem dX12_packed_89 : decode cX12_packed 89 = .ok (.i2l, 1) := by decide +kernel
theorem dX12_packed_90 : decode cX12_packed 90 = .ok (.ladd, 1) := by decide +kernel
theorem dX12_packed_91 : decode cX12_packed 91 = .ok (.lconst 1, 1) := by decide +kernel
theorem dX12_packed_92 : decode cX12_packed 92 = .ok (.ladd, 1) := by decide +kernel
theorem dX12_packed_93 : decode cX12_packed 93 = .ok (.lstore_n 3, 1) := by decide +kernel
theorem dX12_packed_94 : decode cX12_packed 94 = .ok (.iinc 5 1, 3) := by decide +kernel
theorem dX12_packed_97 : decode cX12_packed 97 = .ok (.goto (-39), 3) := by decide +kernel
set_option maxRecDepth 100000 in
set_option maxHeartbeats 4000000 in
theorem rX12_packed (l : Launch) (D : va_G) (Y : Nat → ClassId) (h0 : Nat) (h1 : Nat) (h2 : Nat) (h3 : Nat) (h4 : Nat) (h5 : Nat) (h6 : Nat) (p2 : Int32) (k5 : Nat) (k6 : Nat) (p7 : Int32) (p8 : Int32) (p9 : Int32) (k10 : Nat) (p11 : Int32) (q12 : Int64) (k15 : Nat) (k16 : Nat) (f0 : Nat → Int32) (f1 : Nat → Int32) (f3 : Nat → Int32) (f4 : Nat → Int32) (f13 : Nat → Int32) (f14 : Nat → Int32) (HI : INV f0) (HL : k5 ≤ 1600) (HP : PLV f13) (s0 : Int32) (s1 : Int32)  (sz : Nat) : Met l yX12_packed (WSm yX12_packed cX12_packed 6 (some .int)) (mkR 2 0 0 46) (PreC D Y [.ref h0, .int s0, .int s1] [(h0, oC 13 [.ref h1, .ref h2, .int p2, .ref h3, .ref h4, .int (nI k5), .int (nI k6), .int p7, .int p8, .int p9, .int (nI k10), .int p11, .long q12, .ref h5, .ref h6, .int (nI k15), .int (nI k16)]), (h1, aI Y 3640 f0), (h2, aZ Y 2 f1), (h3, aZ Y 80 f3), (h4, aB Y 1600 f4), (h5, aI Y 200 f13), (h6, aI Y 800 f14)] sz) (QI D (fun (r : Int32) (u : WU) => True) (fun (u : WU) => [(h0, oC 13 [.ref h1, .ref h2, .int (u.2.1 0), .ref h3, .ref h4, .int (nI k5), .int (nI k6), .int p7, .int p8, .int p9, .int (nI k10), .int p11, .long q12, .ref h5, .ref h6, .int (nI k15), .int (nI k16)]), (h1, aI Y 3640 f0), (h2, aZ Y 2 f1), (h3, aZ Y 80 f3), (h4, aB Y 1600 f4), (h5, aI Y 200 f13), (h6, aI Y 800 f14)]) (va_A [(h0, oC 13 [.ref h1, .ref h2, .int p2, .ref h3, .ref h4, .int (nI k5), .int (nI k6), .int p7, .int p8, .int p9, .int (nI k10), .int p11, .long q12, .ref h5, .ref h6, .int (nI k15), .int (nI k16)]), (h1, aI Y 3640 f0), (h2, aZ Y 2 f1), (h3, aZ Y 80 f3), (h4, aB Y 1600 f4), (h5, aI Y 200 f13), (h6, aI Y 800 f14)] sz)) 0 0 (va_A [(h0, oC 13 [.ref h1, .ref h2, .int p2, .ref h3, .ref h4, .int (nI k5), .int (nI k6), .int p7, .int p8, .int p9, .int (nI k10), .int p11, .long q12, .ref h5, .ref h6, .int (nI k15), .int (nI k16)]), (h1, aI Y 3640 f0), (h2, aZ Y 2 f1), (h3, aZ Y 80 f3), (h4, aB Y 1600 f4), (h5, aI Y 200 f13), (h6, aI Y 800 f14)] sz) :=
  met_of (by decide +kernel) (Nat.le_of_ble_eq_true rfl) (fun p e s m args below meth c B hin hsz => by
    have B : VB p s m args meth c D Y (va_A [(h0, oC 13 [.ref h1, .ref h2, .int p2, .ref h3, .ref h4, .int (nI k5), .int (nI k6), .int p7, .int p8, .int p9, .int (nI k10), .int p11, .long q12, .ref h5, .ref h6, .int (nI k15), .int (nI k16)]), (h1, aI Y 3640 f0), (h2, aZ Y 2 f1), (h3, aZ Y 80 f3), (h4, aB Y 1600 f4), (h5, aI Y 200 f13), (h6, aI Y 800 f14)] sz) cX12_packed 6 RX12 (some .int) := B
    refine V_aload_n 0 B dX12_packed_0 0 rfl ?_
    refine V_iconst 1 B (v := 0) dX12_packed_1 (by decide +kernel) ?_
    refine V_put 2 B gp_RX12_38 0 rfl (Nat.le_of_ble_eq_true rfl) rfl rfl dX12_packed_2 [(h0, oC 13 [.ref h1, .ref h2, .int 0, .ref h3, .ref h4, .int (nI k5), .int (nI k6), .int p7, .int p8, .int p9, .int (nI k10), .int p11, .long q12, .ref h5, .ref h6, .int (nI k15), .int (nI k16)]), (h1, aI Y 3640 f0), (h2, aZ Y 2 f1), (h3, aZ Y 80 f3), (h4, aB Y 1600 f4), (h5, aI Y 200 f13), (h6, aI Y 800 f14)] rfl ?_
    refine V_aload_n 5 B dX12_packed_5 0 rfl ?_
    refine V_aload_n 6 B dX12_packed_6 0 rfl ?_
    refine V_iload_n 7 B dX12_packed_7 1 rfl ?_
    refine V_cvi 8 B (st := [.ref h0]) (As := [.int s0]) (fun sz => rX12_isBinding l D Y h0 h1 h2 h3 h4 h5 h6 0 k5 k6 p7 p8 p9 k10 p11 q12 k15 k16 f0 f1 f3 f4 f13 f14 HI (by omega) HP s0 sz) glV_RX12_82 ⟨rfl, rfl⟩ ⟨(Nat.le_of_ble_eq_true rfl), (Nat.le_of_ble_eq_true rfl)⟩ ⟨(Nat.le_of_ble_eq_true rfl), (Nat.le_of_ble_eq_true rfl)⟩ [0, 0, 0, 0, 0, 0, 0] rfl 13 0 rfl rfl rfl rfl (Nat.le_of_ble_eq_true rfl) rfl (fun _ _ _ => rfl) dX12_packed_8 (fun j0 u1 w2 => ?_)
    refine V_ws [(h0, oC 13 [.ref h1, .ref h2, .int 0, .ref h3, .ref h4, .int (nI k5), .int (nI k6), .int p7, .int p8, .int p9, .int (nI k10), .int p11, .long q12, .ref h5, .ref h6, .int (nI k15), .int (nI k16)]), (h1, aI Y 3640 f0), (h2, aZ Y 2 f1), (h3, aZ Y 80 f3), (h4, aB Y 1600 f4), (h5, aI Y 200 f13), (h6, aI Y 800 f14)] rfl ?_
    have x3 := w2
    have x7 : (gN f0 3) ≤ 80 := gN_le HI (by omega) (show bd 3 = (0, ((80 : Nat) : Int)) by decide +kernel)
    rcases x3 with rfl | ⟨rfl, n4, rfl, x6⟩
    ·
      refine V_if_ne_f 11 B 18 dX12_packed_11 (by decide) (by decide +kernel) ?_
      refine V_iconst 14 B (v := 1) dX12_packed_14 (by decide +kernel) ?_
      refine V_goto 15 B 19 dX12_packed_15 (by decide) ?_
      refine V_iconst 19 B (v := 1) dX12_packed_19 (by decide +kernel) ?_
      refine V_cvi 20 B (st := []) (As := [.int 1, .int 1]) (fun sz => rX12_throwsIf_1 l D Y h0 h1 h2 h3 h4 h5 h6 0 k5 k6 p7 p8 p9 k10 p11 q12 k15 k16 f0 f1 f3 f4 f13 f14 HI (by omega) HP 1 sz) glV_RX12_69 ⟨rfl, rfl⟩ ⟨(Nat.le_of_ble_eq_true rfl), (Nat.le_of_ble_eq_true rfl)⟩ ⟨(Nat.le_of_ble_eq_true rfl), (Nat.le_of_ble_eq_true rfl)⟩ [0, 0, 0, 0, 0, 0, 0] rfl 13 0 rfl rfl rfl rfl (Nat.le_of_ble_eq_true rfl) rfl (fun _ _ _ => rfl) dX12_packed_20 (fun j8 u9 w10 => ?_)
      refine V_ws [(h0, oC 13 [.ref h1, .ref h2, .int (u9.2.1 0), .ref h3, .ref h4, .int (nI k5), .int (nI k6), .int p7, .int p8, .int p9, .int (nI k10), .int p11, .long q12, .ref h5, .ref h6, .int (nI k15), .int (nI k16)]), (h1, aI Y 3640 f0), (h2, aZ Y 2 f1), (h3, aZ Y 80 f3), (h4, aB Y 1600 f4), (h5, aI Y 200 f13), (h6, aI Y 800 f14)] rfl ?_
      have x11 := w10
      obtain rfl := x11
      refine V_if_ne_t 23 B 51 dX12_packed_23 (by decide) (by decide +kernel) ?_
      refine V_iconst 51 B (v := 0) dX12_packed_51 (by decide +kernel) ?_
      exact V_iret 52 B dX12_packed_52 (mkW [] [(u9.2.1 0)] [] [] [] []) trivial rfl
    ·
      have e12 := nI_toInt (show n4 < 2 ^ 31 by omega)
      have x13 : (gN f0 3) ≤ 80 := gN_le HI (by omega) (show bd 3 = (0, ((80 : Nat) : Int)) by decide +kernel)
      refine V_if_ne_t 11 B 18 dX12_packed_11 (by decide) (by decide +kernel) ?_
      refine V_iconst 18 B (v := 0) dX12_packed_18 (by decide +kernel) ?_
      refine V_iconst 19 B (v := 1) dX12_packed_19 (by decide +kernel) ?_
      refine V_cvi 20 B (st := []) (As := [.int 0, .int 1]) (fun sz => rX12_throwsIf_0 l D Y h0 h1 h2 h3 h4 h5 h6 0 k5 k6 p7 p8 p9 k10 p11 q12 k15 k16 f0 f1 f3 f4 f13 f14 HI (by omega) HP 1 sz) glV_RX12_69 ⟨rfl, rfl⟩ ⟨(Nat.le_of_ble_eq_true rfl), (Nat.le_of_ble_eq_true rfl)⟩ ⟨(Nat.le_of_ble_eq_true rfl), (Nat.le_of_ble_eq_true rfl)⟩ [0, 0, 0, 0, 0, 0, 0] rfl 13 0 rfl rfl rfl rfl (Nat.le_of_ble_eq_true rfl) rfl (fun _ _ _ => rfl) dX12_packed_20 (fun j14 u15 w16 => ?_)
      refine V_ws [(h0, oC 13 [.ref h1, .ref h2, .int (u15.2.1 0), .ref h3, .ref h4, .int (nI k5), .int (nI k6), .int p7, .int p8, .int p9, .int (nI k10), .int p11, .long q12, .ref h5, .ref h6, .int (nI k15), .int (nI k16)]), (h1, aI Y 3640 f0), (h2, aZ Y 2 f1), (h3, aZ Y 80 f3), (h4, aB Y 1600 f4), (h5, aI Y 200 f13), (h6, aI Y 800 f14)] rfl ?_
      have x17 := w16
      obtain rfl := x17
      refine V_if_ne_f 23 B 51 dX12_packed_23 (by decide) (by decide +kernel) ?_
      refine V_aload_n 26 B dX12_packed_26 0 rfl ?_
      refine V_iload_n 27 B dX12_packed_27 2 rfl ?_
      refine V_i2l 28 B dX12_packed_28 rfl ?_
      refine V_nml (fun o18 e19 => ?_)
      have x20 : o18.toInt = s1.toInt := by rw [e19, Int32.toInt_toInt64]
      refine V_lconst 29 B (v := 0) dX12_packed_29 (by decide +kernel) ?_
      refine V_ldc2 30 B (v := 3) dX12_packed_30 (mT9 34 rfl rfl) ?_
      refine V_csi 33 B (st := [.ref h0]) (As := [.long o18, .long 0, .long 3]) (fun sz => rX12_inRange l D Y o18 0 3 sz) glS_RX12_41 ⟨rfl, rfl⟩ ⟨(Nat.le_of_ble_eq_true rfl), (Nat.le_of_ble_eq_true rfl)⟩ ⟨(Nat.le_of_ble_eq_true rfl), (Nat.le_of_ble_eq_true rfl)⟩ [] rfl rfl (Nat.le_of_ble_eq_true rfl) rfl (fun _ _ _ => rfl) dX12_packed_33 (fun j21 u22 w23 => ?_)
      refine V_ws [(h0, oC 13 [.ref h1, .ref h2, .int (u15.2.1 0), .ref h3, .ref h4, .int (nI k5), .int (nI k6), .int p7, .int p8, .int p9, .int (nI k10), .int p11, .long q12, .ref h5, .ref h6, .int (nI k15), .int (nI k16)]), (h1, aI Y 3640 f0), (h2, aZ Y 2 f1), (h3, aZ Y 80 f3), (h4, aB Y 1600 f4), (h5, aI Y 200 f13), (h6, aI Y 800 f14)] rfl ?_
      rcases w23 with rfl | ⟨rfl, x24, x25⟩
      ·
        refine V_if_ne_f 36 B 43 dX12_packed_36 (by decide) (by decide +kernel) ?_
        refine V_iconst 39 B (v := 1) dX12_packed_39 (by decide +kernel) ?_
        refine V_goto 40 B 44 dX12_packed_40 (by decide) ?_
        refine V_iconst 44 B (v := 2) dX12_packed_44 (by decide +kernel) ?_
        refine V_cvi 45 B (st := []) (As := [.int 1, .int 2]) (fun sz => rX12_throwsIf_1 l D Y h0 h1 h2 h3 h4 h5 h6 (u15.2.1 0) k5 k6 p7 p8 p9 k10 p11 q12 k15 k16 f0 f1 f3 f4 f13 f14 HI (by omega) HP 2 sz) glV_RX12_69 ⟨rfl, rfl⟩ ⟨(Nat.le_of_ble_eq_true rfl), (Nat.le_of_ble_eq_true rfl)⟩ ⟨(Nat.le_of_ble_eq_true rfl), (Nat.le_of_ble_eq_true rfl)⟩ [0, 0, 0, 0, 0, 0, 0] rfl 13 0 rfl rfl rfl rfl (Nat.le_of_ble_eq_true rfl) rfl (fun _ _ _ => rfl) dX12_packed_45 (fun j26 u27 w28 => ?_)
        refine V_ws [(h0, oC 13 [.ref h1, .ref h2, .int (u27.2.1 0), .ref h3, .ref h4, .int (nI k5), .int (nI k6), .int p7, .int p8, .int p9, .int (nI k10), .int p11, .long q12, .ref h5, .ref h6, .int (nI k15), .int (nI k16)]), (h1, aI Y 3640 f0), (h2, aZ Y 2 f1), (h3, aZ Y 80 f3), (h4, aB Y 1600 f4), (h5, aI Y 200 f13), (h6, aI Y 800 f14)] rfl ?_
        have x29 := w28
        obtain rfl := x29
        refine V_if_eq_f 48 B 53 dX12_packed_48 (by decide) (by decide +kernel) ?_
        refine V_iconst 51 B (v := 0) dX12_packed_51 (by decide +kernel) ?_
        exact V_iret 52 B dX12_packed_52 (mkW [] [(u27.2.1 0)] [] [] [] []) trivial rfl
      ·
        rw [show (0 : Int64).toInt = 0 by decide +kernel] at x24
        rw [show (3 : Int64).toInt = 3 by decide +kernel] at x25
        refine V_if_ne_t 36 B 43 dX12_packed_36 (by decide) (by decide +kernel) ?_
        refine V_iconst 43 B (v := 0) dX12_packed_43 (by decide +kernel) ?_
        refine V_iconst 44 B (v := 2) dX12_packed_44 (by decide +kernel) ?_
        refine V_cvi 45 B (st := []) (As := [.int 0, .int 2]) (fun sz => rX12_throwsIf_0 l D Y h0 h1 h2 h3 h4 h5 h6 (u15.2.1 0) k5 k6 p7 p8 p9 k10 p11 q12 k15 k16 f0 f1 f3 f4 f13 f14 HI (by omega) HP 2 sz) glV_RX12_69 ⟨rfl, rfl⟩ ⟨(Nat.le_of_ble_eq_true rfl), (Nat.le_of_ble_eq_true rfl)⟩ ⟨(Nat.le_of_ble_eq_true rfl), (Nat.le_of_ble_eq_true rfl)⟩ [0, 0, 0, 0, 0, 0, 0] rfl 13 0 rfl rfl rfl rfl (Nat.le_of_ble_eq_true rfl) rfl (fun _ _ _ => rfl) dX12_packed_45 (fun j30 u31 w32 => ?_)
        refine V_ws [(h0, oC 13 [.ref h1, .ref h2, .int (u31.2.1 0), .ref h3, .ref h4, .int (nI k5), .int (nI k6), .int p7, .int p8, .int p9, .int (nI k10), .int p11, .long q12, .ref h5, .ref h6, .int (nI k15), .int (nI k16)]), (h1, aI Y 3640 f0), (h2, aZ Y 2 f1), (h3, aZ Y 80 f3), (h4, aB Y 1600 f4), (h5, aI Y 200 f13), (h6, aI Y 800 f14)] rfl ?_
        have x33 := w32
        obtain rfl := x33
        refine V_if_eq_t 48 B 53 dX12_packed_48 (by decide) (by decide +kernel) ?_
        refine V_lconst 53 B (v := 0) dX12_packed_53 (by decide +kernel) ?_
        refine V_lstore_n 54 B (lv2 := [(3, .long 0), (0, .ref h0), (1, .int (nI n4)), (2, .int s1)]) dX12_packed_54 (by decide) rfl ?_
        refine V_iconst 55 B (v := 1) dX12_packed_55 (by decide +kernel) ?_
        refine V_istore 56 B (lv2 := [(5, .int 1), (3, .long 0), (0, .ref h0), (1, .int (nI n4)), (2, .int s1)]) dX12_packed_56 (by decide) rfl ?_
        refine V_wloop (α := WU) (fun a => 100000 - (a.1 0)) (fun a => (a.1 0) ≤ 4000) (fun a => [(5, .int (nI (a.1 0))), (3, .long (a.2.2.1 0)), (0, .ref h0), (1, .int (nI n4)), (2, .int s1)]) (fun a => [(h0, oC 13 [.ref h1, .ref h2, .int (a.2.1 0), .ref h3, .ref h4, .int (nI k5), .int (nI k6), .int p7, .int p8, .int p9, .int (nI k10), .int p11, .long q12, .ref h5, .ref h6, .int (nI k15), .int (nI k16)]), (h1, aI Y 3640 f0), (h2, aZ Y 2 f1), (h3, aZ Y 80 f3), (h4, aB Y 1600 f4), (h5, aI Y 200 f13), (h6, aI Y 800 f14)]) (mkW [1] [(u31.2.1 0)] [0] [] [] []) (show 1 ≤ 4000 by omega) rfl rfl (fun a34 hI36 IH35 => ?_)
        refine V_lv [(5, .int (nI (a34.1 0))), (3, .long (a34.2.2.1 0)), (0, .ref h0), (1, .int (nI n4)), (2, .int s1)] [0, 1, 2, 3, 4] rfl ?_
        refine V_ws [(h0, oC 13 [.ref h1, .ref h2, .int (a34.2.1 0), .ref h3, .ref h4, .int (nI k5), .int (nI k6), .int p7, .int p8, .int p9, .int (nI k10), .int p11, .long q12, .ref h5, .ref h6, .int (nI k15), .int (nI k16)]), (h1, aI Y 3640 f0), (h2, aZ Y 2 f1), (h3, aZ Y 80 f3), (h4, aB Y 1600 f4), (h5, aI Y 200 f13), (h6, aI Y 800 f14)] rfl ?_
        have x37 := hI36
        refine V_iload 58 B dX12_packed_58 0 rfl ?_
        refine V_aload_n 60 B dX12_packed_60 2 rfl ?_
        refine V_get 61 B gf_RX12_9 0 rfl rfl dX12_packed_61 ?_
        refine V_iload_n 64 B dX12_packed_64 3 rfl ?_
        refine V_csi 65 B (st := [.ref h1, .int (nI (a34.1 0))]) (As := [.int (nI n4)]) (fun sz => rX12_sequenceOf l D Y n4 (by omega) sz) glS_RX12_85 ⟨rfl, rfl⟩ ⟨(Nat.le_of_ble_eq_true rfl), (Nat.le_of_ble_eq_true rfl)⟩ ⟨(Nat.le_of_ble_eq_true rfl), (Nat.le_of_ble_eq_true rfl)⟩ [] rfl rfl (Nat.le_of_ble_eq_true rfl) rfl (fun _ _ _ => rfl) dX12_packed_65 (fun j38 u39 w40 => ?_)
        refine V_ws [(h0, oC 13 [.ref h1, .ref h2, .int (a34.2.1 0), .ref h3, .ref h4, .int (nI k5), .int (nI k6), .int p7, .int p8, .int p9, .int (nI k10), .int p11, .long q12, .ref h5, .ref h6, .int (nI k15), .int (nI k16)]), (h1, aI Y 3640 f0), (h2, aZ Y 2 f1), (h3, aZ Y 80 f3), (h4, aB Y 1600 f4), (h5, aI Y 200 f13), (h6, aI Y 800 f14)] rfl ?_
        have x41 := w40
        obtain rfl := x41
        have x42 : (gN f0 (186 + 7 * n4)) ≤ 4 := gN_le HI (by omega) (rl12 n4 (by omega))
        refine V_iald 68 B (v := (nI ((gN f0 (186 + 7 * n4))))) 1 rfl (vp_in_nI (n := 186 + 7 * n4) (by omega) (by decide)) dX12_packed_68 (by rw [nI_clamp (show 186 + 7 * n4 < 2 ^ 31 by omega)]; exact gN_eq HI (by omega) (rl12 n4 (by omega))) ?_
        refine V_icmp_gt 69 B 100 dX12_packed_69 (by decide) (fun kk43 => ?_) (fun kk43 => ?_)
        ·
          have x44 := n_lt (a := (gN f0 (186 + 7 * n4))) (b := (a34.1 0)) kk43 (by omega) (by omega)
          refine V_iload_n 100 B dX12_packed_100 4 rfl ?_
          refine V_if_ne 101 B 110 dX12_packed_101 (by decide) (fun kk45 => ?_) (fun kk45 => ?_)
          ·
            have x46 := x_ne kk45
            rw [show (0 : Int32).toInt = 0 by decide +kernel] at x46
            refine V_iload_n 110 B dX12_packed_110 4 rfl ?_
            refine V_iconst 111 B (v := 1) dX12_packed_111 (by decide +kernel) ?_
            refine V_icmp_ne 112 B 121 dX12_packed_112 (by decide) (fun kk47 => ?_) (fun kk47 => ?_)
            ·
              have x48 := x_ne kk47
              rw [show (1 : Int32).toInt = 1 by decide +kernel] at x48
              refine V_iload_n 121 B dX12_packed_121 4 rfl ?_
              refine V_iconst 122 B (v := 2) dX12_packed_122 (by decide +kernel) ?_
              refine V_icmp_ne 123 B 132 dX12_packed_123 (by decide) (fun kk49 => ?_) (fun kk49 => ?_)
              ·
                have x50 := x_ne kk49
                rw [show (2 : Int32).toInt = 2 by decide +kernel] at x50
                refine V_lload_n 132 B dX12_packed_132 1 rfl ?_
                refine V_l2i 133 B dX12_packed_133 rfl ?_
                refine V_nmi (fun j51 e52 => ?_)
                exact V_iret 134 B dX12_packed_134 (mkW [] [(a34.2.1 0)] [] [] [] []) trivial rfl
              ·
                obtain rfl : s1 = 2 := kk49
                have e54 : (2 : Int32).toInt = 2 := by decide +kernel
                refine V_lload_n 126 B dX12_packed_126 1 rfl ?_
                refine V_l2i 127 B dX12_packed_127 rfl ?_
                refine V_nmi (fun j55 e56 => ?_)
                refine V_i2c 128 B dX12_packed_128 rfl ?_
                refine V_nmi (fun j57 e58 => ?_)
                refine V_goto 129 B 134 dX12_packed_129 (by decide) ?_
                exact V_iret 134 B dX12_packed_134 (mkW [] [(a34.2.1 0)] [] [] [] []) trivial rfl
            ·
              obtain rfl : s1 = 1 := kk47
              have e60 : (1 : Int32).toInt = 1 := by decide +kernel
              refine V_lload_n 115 B dX12_packed_115 1 rfl ?_
              refine V_l2i 116 B dX12_packed_116 rfl ?_
              refine V_nmi (fun j61 e62 => ?_)
              refine V_i2s 117 B dX12_packed_117 rfl ?_
              refine V_nmi (fun j63 e64 => ?_)
              refine V_goto 118 B 134 dX12_packed_118 (by decide) ?_
              exact V_iret 134 B dX12_packed_134 (mkW [] [(a34.2.1 0)] [] [] [] []) trivial rfl
          ·
            obtain rfl : s1 = 0 := kk45
            have e66 : (0 : Int32).toInt = 0 := by decide +kernel
            refine V_lload_n 104 B dX12_packed_104 1 rfl ?_
            refine V_l2i 105 B dX12_packed_105 rfl ?_
            refine V_nmi (fun j67 e68 => ?_)
            refine V_i2b 106 B dX12_packed_106 rfl ?_
            refine V_nmi (fun j69 e70 => ?_)
            refine V_goto 107 B 134 dX12_packed_107 (by decide) ?_
            exact V_iret 134 B dX12_packed_134 (mkW [] [(a34.2.1 0)] [] [] [] []) trivial rfl
        ·
          have x71 := n_nlt (a := (gN f0 (186 + 7 * n4))) (b := (a34.1 0)) kk43 (by omega) (by omega)
          refine V_ldc2 72 B (v := 512) dX12_packed_72 (mT9 35 rfl rfl) ?_
          refine V_lload_n 75 B dX12_packed_75 1 rfl ?_
          refine V_lmul 76 B dX12_packed_76 rfl ?_
          refine V_nml (fun o72 e73 => ?_)
          refine V_aload_n 77 B dX12_packed_77 2 rfl ?_
          refine V_get 78 B gf_RX12_9 0 rfl rfl dX12_packed_78 ?_
          refine V_iload_n 81 B dX12_packed_81 3 rfl ?_
          refine V_csi 82 B (st := [.ref h1, .long o72]) (As := [.int (nI n4)]) (fun sz => rX12_sequenceOf l D Y n4 (by omega) sz) glS_RX12_85 ⟨rfl, rfl⟩ ⟨(Nat.le_of_ble_eq_true rfl), (Nat.le_of_ble_eq_true rfl)⟩ ⟨(Nat.le_of_ble_eq_true rfl), (Nat.le_of_ble_eq_true rfl)⟩ [] rfl rfl (Nat.le_of_ble_eq_true rfl) rfl (fun _ _ _ => rfl) dX12_packed_82 (fun j74 u75 w76 => ?_)
          refine V_ws [(h0, oC 13 [.ref h1, .ref h2, .int (a34.2.1 0), .ref h3, .ref h4, .int (nI k5), .int (nI k6), .int p7, .int p8, .int p9, .int (nI k10), .int p11, .long q12, .ref h5, .ref h6, .int (nI k15), .int (nI k16)]), (h1, aI Y 3640 f0), (h2, aZ Y 2 f1), (h3, aZ Y 80 f3), (h4, aB Y 1600 f4), (h5, aI Y 200 f13), (h6, aI Y 800 f14)] rfl ?_
          have x77 := w76
          obtain rfl := x77
          refine V_iload 85 B dX12_packed_85 0 rfl ?_
          refine V_iadd 87 B (v := (nI (186 + (a34.1 0) + 7 * n4))) dX12_packed_87 (nI_addE (a := 186 + 7 * n4) (b := (a34.1 0)) (by omega)) ?_
          refine V_iald 88 B (v := f0 (186 + (a34.1 0) + 7 * n4)) 1 rfl (vp_in_nI (n := 186 + (a34.1 0) + 7 * n4) (by omega) (by decide)) dX12_packed_88 (by rw [nI_clamp (show 186 + (a34.1 0) + 7 * n4 < 2 ^ 31 by omega)]) ?_
          refine V_nmi (fun j78 e79 => ?_)
          refine V_i2l 89 B dX12_packed_89 rfl ?_
          refine V_nml (fun o80 e81 => ?_)
          have x82 : o80.toInt = j78.toInt := by rw [e81, Int32.toInt_toInt64]
          refine V_ladd 90 B dX12_packed_90 rfl ?_
          refine V_nml (fun o83 e84 => ?_)
          refine V_lconst 91 B (v := 1) dX12_packed_91 (by decide +kernel) ?_
          refine V_ladd 92 B dX12_packed_92 rfl ?_
          refine V_nml (fun o85 e86 => ?_)
          refine V_lstore_n 93 B (lv2 := [(3, .long o85), (5, .int (nI (a34.1 0))), (0, .ref h0), (1, .int (nI n4)), (2, .int s1)]) dX12_packed_93 (by decide) rfl ?_
          refine V_iinc 94 B (v := (nI (1 + (a34.1 0)))) (lv2 := [(5, .int (nI (1 + (a34.1 0)))), (3, .long o85), (0, .ref h0), (1, .int (nI n4)), (2, .int s1)]) dX12_packed_94 1 rfl (nI_addE (a := (a34.1 0)) (b := 1) (by omega)) (by decide) rfl ?_
          refine V_goto 97 B 58 dX12_packed_97 (by decide) ?_
          refine V_lv [(5, .int (nI (1 + (a34.1 0)))), (3, .long o85), (0, .ref h0), (1, .int (nI n4)), (2, .int s1)] [0, 1, 2, 3, 4] rfl ?_
          exact IH35 (mkW [1 + (a34.1 0)] [(a34.2.1 0)] [o85] [] [] []) (show 1 + (a34.1 0) ≤ 4000 by omega) (by show 100000 - (1 + (a34.1 0)) < 100000 - (a34.1 0); omega))
theorem dX12_common_0 : decode cX12_common 0 = .ok (.aload_n 0, 1) := by decide +kernel
theorem dX12_common_1 : decode cX12_common 1 = .ok (.iconst 0, 1) := by decide +kernel
theorem dX12_common_2 : decode cX12_common 2 = .ok (.putfield 38, 3) := by decide +kernel
theorem dX12_common_5 : decode cX12_common 5 = .ok (.aload_n 0, 1) := by decide +kernel
theorem dX12_common_6 : decode cX12_common 6 = .ok (.aload_n 0, 1) := by decide +kernel
theorem dX12_common_7 : decode cX12_common 7 = .ok (.iload_n 1, 1) := by decide +kernel
theorem dX12_common_8 : decode cX12_common 8 = .ok (.invokevirtual 82, 3) := by decide +kernel
theorem dX12_common_11 : decode cX12_common 11 = .ok (.ifCond .eq 11, 3) := by decide +kernel
theorem dX12_common_22 : decode cX12_common 22 = .ok (.iconst 1, 1) := by decide +kernel
theorem dX12_common_23 : decode cX12_common 23 = .ok (.goto 4, 3) := by decide +kernel
theorem dX12_common_27 : decode cX12_common 27 = .ok (.iconst 1, 1) := by decide +kernel
theorem dX12_common_28 : decode cX12_common 28 = .ok (.invokevirtual 69, 3) := by decide +kernel
theorem dX12_common_31 : decode cX12_common 31 = .ok (.ifCond .eq 7, 3) := by decide +kernel
theorem dX12_common_34 : decode cX12_common 34 = .ok (.iconst 0, 1) := by decide +kernel
theorem dX12_common_35 : decode cX12_common 35 = .ok (.goto 15, 3) := by decide +kernel
theorem dX12_common_50 : decode cX12_common 50 = .ok (.ireturn, 1) := by decide +kernel
theorem dX12_common_14 : decode cX12_common 14 = .ok (.aload_n 0, 1) := by decide +kernel
theorem dX12_common_15 : decode cX12_common 15 = .ok (.iload_n 2, 1) := by decide +kernel
theorem dX12_common_16 : decode cX12_common 16 = .ok (.invokevirtual 82, 3) := by decide +kernel
theorem dX12_common_19 : decode cX12_common 19 = .ok (.ifCond .ne 7, 3) := by decide +kernel
theorem dX12_common_26 : decode cX12_common 26 = .ok (.iconst 0, 1) := by decide +kernel
theorem dX12_common_38 : decode cX12_common 38 = .ok (.aload_n 0, 1) := by decide +kernel
theorem dX12_common_39 : decode cX12_common 39 = .ok (.iload_n 1, 1) := by decide +kernel
theorem dX12_common_40 : decode cX12_common 40 = .ok (.invokestatic 85, 3) := by decide +kernel
theorem dX12_common_43 : decode cX12_common 43 = .ok (.iload_n 2, 1) := by decide +kernel
theorem dX12_common_44 : decode cX12_common 44 = .ok (.invokestatic 85, 3) := by decide +kernel
theorem dX12_common_47 : decode cX12_common 47 = .ok (.invokevirtual 62, 3) := by decide +kernel
set_option maxRecDepth 100000 in
set_option maxHeartbeats 4000000 in
theorem rX12_common (l : Launch) (D : va_G) (Y : Nat → ClassId) (h0 : Nat) (h1 : Nat) (h2 : Nat) (h3 : Nat) (h4 : Nat) (h5 : Nat) (h6 : Nat) (p2 : Int32) (k5 : Nat) (k6 : Nat) (p7 : Int32) (p8 : Int32) (p9 : Int32) (k10 : Nat) (p11 : Int32) (q12 : Int64) (k15 : Nat) (k16 : Nat) (f0 : Nat → Int32) (f1 : Nat → Int32) (f3 : Nat → Int32) (f4 : Nat → Int32) (f13 : Nat → Int32) (f14 : Nat → Int32) (HI : INV f0) (HL : k5 ≤ 1600) (HP : PLV f13) (s0 : Int32) (s1 : Int32)  (sz : Nat) : Met l yX12_common (WSm yX12_common cX12_common 3 (some .int)) (mkR 2 0 0 46) (PreC D Y [.ref h0, .int s0, .int s1] [(h0, oC 13 [.ref h1, .ref h2, .int p2, .ref h3, .ref h4, .int (nI k5), .int (nI k6), .int p7, .int p8, .int p9, .int (nI k10), .int p11, .long q12, .ref h5, .ref h6, .int (nI k15), .int (nI k16)]), (h1, aI Y 3640 f0), (h2, aZ Y 2 f1), (h3, aZ Y 80 f3), (h4, aB Y 1600 f4), (h5, aI Y 200 f13), (h6, aI Y 800 f14)] sz) (QI D (fun (r : Int32) (u : WU) => True) (fun (u : WU) => [(h0, oC 13 [.ref h1, .ref h2, .int (u.2.1 0), .ref h3, .ref h4, .int (nI k5), .int (nI k6), .int p7, .int p8, .int p9, .int (nI k10), .int p11, .long q12, .ref h5, .ref h6, .int (nI k15), .int (nI k16)]), (h1, aI Y 3640 f0), (h2, aZ Y 2 f1), (h3, aZ Y 80 f3), (h4, aB Y 1600 f4), (h5, aI Y 200 f13), (h6, aI Y 800 f14)]) (va_A [(h0, oC 13 [.ref h1, .ref h2, .int p2, .ref h3, .ref h4, .int (nI k5), .int (nI k6), .int p7, .int p8, .int p9, .int (nI k10), .int p11, .long q12, .ref h5, .ref h6, .int (nI k15), .int (nI k16)]), (h1, aI Y 3640 f0), (h2, aZ Y 2 f1), (h3, aZ Y 80 f3), (h4, aB Y 1600 f4), (h5, aI Y 200 f13), (h6, aI Y 800 f14)] sz)) 0 0 (va_A [(h0, oC 13 [.ref h1, .ref h2, .int p2, .ref h3, .ref h4, .int (nI k5), .int (nI k6), .int p7, .int p8, .int p9, .int (nI k10), .int p11, .long q12, .ref h5, .ref h6, .int (nI k15), .int (nI k16)]), (h1, aI Y 3640 f0), (h2, aZ Y 2 f1), (h3, aZ Y 80 f3), (h4, aB Y 1600 f4), (h5, aI Y 200 f13), (h6, aI Y 800 f14)] sz) :=
  met_of (by decide +kernel) (Nat.le_of_ble_eq_true rfl) (fun p e s m args below meth c B hin hsz => by
    have B : VB p s m args meth c D Y (va_A [(h0, oC 13 [.ref h1, .ref h2, .int p2, .ref h3, .ref h4, .int (nI k5), .int (nI k6), .int p7, .int p8, .int p9, .int (nI k10), .int p11, .long q12, .ref h5, .ref h6, .int (nI k15), .int (nI k16)]), (h1, aI Y 3640 f0), (h2, aZ Y 2 f1), (h3, aZ Y 80 f3), (h4, aB Y 1600 f4), (h5, aI Y 200 f13), (h6, aI Y 800 f14)] sz) cX12_common 3 RX12 (some .int) := B
    refine V_aload_n 0 B dX12_common_0 0 rfl ?_
    refine V_iconst 1 B (v := 0) dX12_common_1 (by decide +kernel) ?_
    refine V_put 2 B gp_RX12_38 0 rfl (Nat.le_of_ble_eq_true rfl) rfl rfl dX12_common_2 [(h0, oC 13 [.ref h1, .ref h2, .int 0, .ref h3, .ref h4, .int (nI k5), .int (nI k6), .int p7, .int p8, .int p9, .int (nI k10), .int p11, .long q12, .ref h5, .ref h6, .int (nI k15), .int (nI k16)]), (h1, aI Y 3640 f0), (h2, aZ Y 2 f1), (h3, aZ Y 80 f3), (h4, aB Y 1600 f4), (h5, aI Y 200 f13), (h6, aI Y 800 f14)] rfl ?_
    refine V_aload_n 5 B dX12_common_5 0 rfl ?_
    refine V_aload_n 6 B dX12_common_6 0 rfl ?_
    refine V_iload_n 7 B dX12_common_7 1 rfl ?_
    refine V_cvi 8 B (st := [.ref h0]) (As := [.int s0]) (fun sz => rX12_isBinding l D Y h0 h1 h2 h3 h4 h5 h6 0 k5 k6 p7 p8 p9 k10 p11 q12 k15 k16 f0 f1 f3 f4 f13 f14 HI (by omega) HP s0 sz) glV_RX12_82 ⟨rfl, rfl⟩ ⟨(Nat.le_of_ble_eq_true rfl), (Nat.le_of_ble_eq_true rfl)⟩ ⟨(Nat.le_of_ble_eq_true rfl), (Nat.le_of_ble_eq_true rfl)⟩ [0, 0, 0, 0, 0, 0, 0] rfl 13 0 rfl rfl rfl rfl (Nat.le_of_ble_eq_true rfl) rfl (fun _ _ _ => rfl) dX12_common_8 (fun j0 u1 w2 => ?_)
    refine V_ws [(h0, oC 13 [.ref h1, .ref h2, .int 0, .ref h3, .ref h4, .int (nI k5), .int (nI k6), .int p7, .int p8, .int p9, .int (nI k10), .int p11, .long q12, .ref h5, .ref h6, .int (nI k15), .int (nI k16)]), (h1, aI Y 3640 f0), (h2, aZ Y 2 f1), (h3, aZ Y 80 f3), (h4, aB Y 1600 f4), (h5, aI Y 200 f13), (h6, aI Y 800 f14)] rfl ?_
    have x3 := w2
    have x7 : (gN f0 3) ≤ 80 := gN_le HI (by omega) (show bd 3 = (0, ((80 : Nat) : Int)) by decide +kernel)
    rcases x3 with rfl | ⟨rfl, n4, rfl, x6⟩
    ·
      refine V_if_eq_t 11 B 22 dX12_common_11 (by decide) (by decide +kernel) ?_
      refine V_iconst 22 B (v := 1) dX12_common_22 (by decide +kernel) ?_
      refine V_goto 23 B 27 dX12_common_23 (by decide) ?_
      refine V_iconst 27 B (v := 1) dX12_common_27 (by decide +kernel) ?_
      refine V_cvi 28 B (st := []) (As := [.int 1, .int 1]) (fun sz => rX12_throwsIf_1 l D Y h0 h1 h2 h3 h4 h5 h6 0 k5 k6 p7 p8 p9 k10 p11 q12 k15 k16 f0 f1 f3 f4 f13 f14 HI (by omega) HP 1 sz) glV_RX12_69 ⟨rfl, rfl⟩ ⟨(Nat.le_of_ble_eq_true rfl), (Nat.le_of_ble_eq_true rfl)⟩ ⟨(Nat.le_of_ble_eq_true rfl), (Nat.le_of_ble_eq_true rfl)⟩ [0, 0, 0, 0, 0, 0, 0] rfl 13 0 rfl rfl rfl rfl (Nat.le_of_ble_eq_true rfl) rfl (fun _ _ _ => rfl) dX12_common_28 (fun j8 u9 w10 => ?_)
      refine V_ws [(h0, oC 13 [.ref h1, .ref h2, .int (u9.2.1 0), .ref h3, .ref h4, .int (nI k5), .int (nI k6), .int p7, .int p8, .int p9, .int (nI k10), .int p11, .long q12, .ref h5, .ref h6, .int (nI k15), .int (nI k16)]), (h1, aI Y 3640 f0), (h2, aZ Y 2 f1), (h3, aZ Y 80 f3), (h4, aB Y 1600 f4), (h5, aI Y 200 f13), (h6, aI Y 800 f14)] rfl ?_
      have x11 := w10
      obtain rfl := x11
      refine V_if_eq_f 31 B 38 dX12_common_31 (by decide) (by decide +kernel) ?_
      refine V_iconst 34 B (v := 0) dX12_common_34 (by decide +kernel) ?_
      refine V_goto 35 B 50 dX12_common_35 (by decide) ?_
      exact V_iret 50 B dX12_common_50 (mkW [] [(u9.2.1 0)] [] [] [] []) trivial rfl
    ·
      have e12 := nI_toInt (show n4 < 2 ^ 31 by omega)
      have x13 : (gN f0 3) ≤ 80 := gN_le HI (by omega) (show bd 3 = (0, ((80 : Nat) : Int)) by decide +kernel)
      refine V_if_eq_f 11 B 22 dX12_common_11 (by decide) (by decide +kernel) ?_
      refine V_aload_n 14 B dX12_common_14 0 rfl ?_
      refine V_iload_n 15 B dX12_common_15 2 rfl ?_
      refine V_cvi 16 B (st := [.ref h0]) (As := [.int s1]) (fun sz => rX12_isBinding l D Y h0 h1 h2 h3 h4 h5 h6 0 k5 k6 p7 p8 p9 k10 p11 q12 k15 k16 f0 f1 f3 f4 f13 f14 HI (by omega) HP s1 sz) glV_RX12_82 ⟨rfl, rfl⟩ ⟨(Nat.le_of_ble_eq_true rfl), (Nat.le_of_ble_eq_true rfl)⟩ ⟨(Nat.le_of_ble_eq_true rfl), (Nat.le_of_ble_eq_true rfl)⟩ [0, 0, 0, 0, 0, 0, 0] rfl 13 0 rfl rfl rfl rfl (Nat.le_of_ble_eq_true rfl) rfl (fun _ _ _ => rfl) dX12_common_16 (fun j14 u15 w16 => ?_)
      refine V_ws [(h0, oC 13 [.ref h1, .ref h2, .int 0, .ref h3, .ref h4, .int (nI k5), .int (nI k6), .int p7, .int p8, .int p9, .int (nI k10), .int p11, .long q12, .ref h5, .ref h6, .int (nI k15), .int (nI k16)]), (h1, aI Y 3640 f0), (h2, aZ Y 2 f1), (h3, aZ Y 80 f3), (h4, aB Y 1600 f4), (h5, aI Y 200 f13), (h6, aI Y 800 f14)] rfl ?_
      have x17 := w16
      have x21 : (gN f0 3) ≤ 80 := gN_le HI (by omega) (show bd 3 = (0, ((80 : Nat) : Int)) by decide +kernel)
      rcases x17 with rfl | ⟨rfl, n18, rfl, x20⟩
      ·
        refine V_if_ne_f 19 B 26 dX12_common_19 (by decide) (by decide +kernel) ?_
        refine V_iconst 22 B (v := 1) dX12_common_22 (by decide +kernel) ?_
        refine V_goto 23 B 27 dX12_common_23 (by decide) ?_
        refine V_iconst 27 B (v := 1) dX12_common_27 (by decide +kernel) ?_
        refine V_cvi 28 B (st := []) (As := [.int 1, .int 1]) (fun sz => rX12_throwsIf_1 l D Y h0 h1 h2 h3 h4 h5 h6 0 k5 k6 p7 p8 p9 k10 p11 q12 k15 k16 f0 f1 f3 f4 f13 f14 HI (by omega) HP 1 sz) glV_RX12_69 ⟨rfl, rfl⟩ ⟨(Nat.le_of_ble_eq_true rfl), (Nat.le_of_ble_eq_true rfl)⟩ ⟨(Nat.le_of_ble_eq_true rfl), (Nat.le_of_ble_eq_true rfl)⟩ [0, 0, 0, 0, 0, 0, 0] rfl 13 0 rfl rfl rfl rfl (Nat.le_of_ble_eq_true rfl) rfl (fun _ _ _ => rfl) dX12_common_28 (fun j22 u23 w24 => ?_)
        refine V_ws [(h0, oC 13 [.ref h1, .ref h2, .int (u23.2.1 0), .ref h3, .ref h4, .int (nI k5), .int (nI k6), .int p7, .int p8, .int p9, .int (nI k10), .int p11, .long q12, .ref h5, .ref h6, .int (nI k15), .int (nI k16)]), (h1, aI Y 3640 f0), (h2, aZ Y 2 f1), (h3, aZ Y 80 f3), (h4, aB Y 1600 f4), (h5, aI Y 200 f13), (h6, aI Y 800 f14)] rfl ?_
        have x25 := w24
        obtain rfl := x25
        refine V_if_eq_f 31 B 38 dX12_common_31 (by decide) (by decide +kernel) ?_
        refine V_iconst 34 B (v := 0) dX12_common_34 (by decide +kernel) ?_
        refine V_goto 35 B 50 dX12_common_35 (by decide) ?_
        exact V_iret 50 B dX12_common_50 (mkW [] [(u23.2.1 0)] [] [] [] []) trivial rfl
      ·
        have e26 := nI_toInt (show n18 < 2 ^ 31 by omega)
        have x27 : (gN f0 3) ≤ 80 := gN_le HI (by omega) (show bd 3 = (0, ((80 : Nat) : Int)) by decide +kernel)
        refine V_if_ne_t 19 B 26 dX12_common_19 (by decide) (by decide +kernel) ?_
        refine V_iconst 26 B (v := 0) dX12_common_26 (by decide +kernel) ?_
        refine V_iconst 27 B (v := 1) dX12_common_27 (by decide +kernel) ?_
        refine V_cvi 28 B (st := []) (As := [.int 0, .int 1]) (fun sz => rX12_throwsIf_0 l D Y h0 h1 h2 h3 h4 h5 h6 0 k5 k6 p7 p8 p9 k10 p11 q12 k15 k16 f0 f1 f3 f4 f13 f14 HI (by omega) HP 1 sz) glV_RX12_69 ⟨rfl, rfl⟩ ⟨(Nat.le_of_ble_eq_true rfl), (Nat.le_of_ble_eq_true rfl)⟩ ⟨(Nat.le_of_ble_eq_true rfl), (Nat.le_of_ble_eq_true rfl)⟩ [0, 0, 0, 0, 0, 0, 0] rfl 13 0 rfl rfl rfl rfl (Nat.le_of_ble_eq_true rfl) rfl (fun _ _ _ => rfl) dX12_common_28 (fun j28 u29 w30 => ?_)
        refine V_ws [(h0, oC 13 [.ref h1, .ref h2, .int (u29.2.1 0), .ref h3, .ref h4, .int (nI k5), .int (nI k6), .int p7, .int p8, .int p9, .int (nI k10), .int p11, .long q12, .ref h5, .ref h6, .int (nI k15), .int (nI k16)]), (h1, aI Y 3640 f0), (h2, aZ Y 2 f1), (h3, aZ Y 80 f3), (h4, aB Y 1600 f4), (h5, aI Y 200 f13), (h6, aI Y 800 f14)] rfl ?_
        have x31 := w30
        obtain rfl := x31
        refine V_if_eq_t 31 B 38 dX12_common_31 (by decide) (by decide +kernel) ?_
        refine V_aload_n 38 B dX12_common_38 0 rfl ?_
        refine V_iload_n 39 B dX12_common_39 1 rfl ?_
        refine V_csi 40 B (st := [.ref h0]) (As := [.int (nI n4)]) (fun sz => rX12_sequenceOf l D Y n4 (by omega) sz) glS_RX12_85 ⟨rfl, rfl⟩ ⟨(Nat.le_of_ble_eq_true rfl), (Nat.le_of_ble_eq_true rfl)⟩ ⟨(Nat.le_of_ble_eq_true rfl), (Nat.le_of_ble_eq_true rfl)⟩ [] rfl rfl (Nat.le_of_ble_eq_true rfl) rfl (fun _ _ _ => rfl) dX12_common_40 (fun j32 u33 w34 => ?_)
        refine V_ws [(h0, oC 13 [.ref h1, .ref h2, .int (u29.2.1 0), .ref h3, .ref h4, .int (nI k5), .int (nI k6), .int p7, .int p8, .int p9, .int (nI k10), .int p11, .long q12, .ref h5, .ref h6, .int (nI k15), .int (nI k16)]), (h1, aI Y 3640 f0), (h2, aZ Y 2 f1), (h3, aZ Y 80 f3), (h4, aB Y 1600 f4), (h5, aI Y 200 f13), (h6, aI Y 800 f14)] rfl ?_
        have x35 := w34
        obtain rfl := x35
        refine V_iload_n 43 B dX12_common_43 2 rfl ?_
        refine V_csi 44 B (st := [.int (nI (186 + 7 * n4)), .ref h0]) (As := [.int (nI n18)]) (fun sz => rX12_sequenceOf l D Y n18 (by omega) sz) glS_RX12_85 ⟨rfl, rfl⟩ ⟨(Nat.le_of_ble_eq_true rfl), (Nat.le_of_ble_eq_true rfl)⟩ ⟨(Nat.le_of_ble_eq_true rfl), (Nat.le_of_ble_eq_true rfl)⟩ [] rfl rfl (Nat.le_of_ble_eq_true rfl) rfl (fun _ _ _ => rfl) dX12_common_44 (fun j36 u37 w38 => ?_)
        refine V_ws [(h0, oC 13 [.ref h1, .ref h2, .int (u29.2.1 0), .ref h3, .ref h4, .int (nI k5), .int (nI k6), .int p7, .int p8, .int p9, .int (nI k10), .int p11, .long q12, .ref h5, .ref h6, .int (nI k15), .int (nI k16)]), (h1, aI Y 3640 f0), (h2, aZ Y 2 f1), (h3, aZ Y 80 f3), (h4, aB Y 1600 f4), (h5, aI Y 200 f13), (h6, aI Y 800 f14)] rfl ?_
        have x39 := w38
        obtain rfl := x39
        refine V_cvi 47 B (st := []) (As := [.int (nI (186 + 7 * n4)), .int (nI (186 + 7 * n18))]) (fun sz => rX12_commonOf l D Y h0 h1 h2 h3 h4 h5 h6 (u29.2.1 0) k5 k6 p7 p8 p9 k10 p11 q12 k15 k16 f0 f1 f3 f4 f13 f14 HI (by omega) HP (186 + 7 * n4) (186 + 7 * n18) (rl5 n4 (by omega)) (rl5 n18 (by omega)) sz) glV_RX12_62 ⟨rfl, rfl⟩ ⟨(Nat.le_of_ble_eq_true rfl), (Nat.le_of_ble_eq_true rfl)⟩ ⟨(Nat.le_of_ble_eq_true rfl), (Nat.le_of_ble_eq_true rfl)⟩ [0, 0, 0, 0, 0, 0, 0] rfl 13 0 rfl rfl rfl rfl (Nat.le_of_ble_eq_true rfl) rfl (fun _ _ _ => rfl) dX12_common_47 (fun j40 u41 w42 => ?_)
        refine V_ws [(h0, oC 13 [.ref h1, .ref h2, .int (u29.2.1 0), .ref h3, .ref h4, .int (nI k5), .int (nI k6), .int p7, .int p8, .int p9, .int (nI k10), .int p11, .long q12, .ref h5, .ref h6, .int (nI k15), .int (nI k16)]), (h1, aI Y 3640 f0), (h2, aZ Y 2 f1), (h3, aZ Y 80 f3), (h4, aB Y 1600 f4), (h5, aI Y 200 f13), (h6, aI Y 800 f14)] rfl ?_
        have x43 := w42
        obtain rfl := x43
        have x44 := cmV_le f0 (186 + 7 * n4) (186 + 7 * n18)
        have x45 : gN f0 (186 + 7 * n4) ≤ 4 := gN_le HI (by omega) (rl12 n4 (by omega))
        have x46 : gN f0 (186 + 7 * n18) ≤ 4 := gN_le HI (by omega) (rl12 n18 (by omega))
        exact V_iret 50 B dX12_common_50 (mkW [] [(u29.2.1 0)] [] [] [] []) trivial rfl)
theorem dX12_leadingSwitches_0 : decode cX12_leadingSwitches 0 = .ok (.aload_n 0, 1) := by decide +kernel
theorem dX12_leadingSwitches_1 : decode cX12_leadingSwitches 1 = .ok (.iconst 0, 1) := by decide +kernel
theorem dX12_leadingSwitches_2 : decode cX12_leadingSwitches 2 = .ok (.putfield 38, 3) := by decide +kernel
theorem dX12_leadingSwitches_5 : decode cX12_leadingSwitches 5 = .ok (.iconst 0, 1) := by decide +kernel
theorem dX12_leadingSwitches_6 : decode cX12_leadingSwitches 6 = .ok (.istore_n 1, 1) := by decide +kernel
theorem dX12_leadingSwitches_7 : decode cX12_leadingSwitches 7 = .ok (.iload_n 1, 1) := by decide +kernel
theorem dX12_leadingSwitches_8 : decode cX12_leadingSwitches 8 = .ok (.aload_n 0, 1) := by decide +kernel
theorem dX12_leadingSwitches_9 : decode cX12_leadingSwitches 9 = .ok (.getfield 9, 3) := by decide +kernel
theorem dX12_leadingSwitches_12 : decode cX12_leadingSwitches 12 = .ok (.iconst 3, 1) := by decide +kernel
theorem dX12_leadingSwitches_13 : decode cX12_leadingSwitches 13 = .ok (.iaload, 1) := by decide +kernel
theorem dX12_leadingSwitches_14 : decode cX12_leadingSwitches 14 = .ok (.if_icmp .ge 23, 3) := by decide +kernel
theorem dX12_leadingSwitches_37 : decode cX12_leadingSwitches 37 = .ok (.iload_n 1, 1) := by decide +kernel
theorem dX12_leadingSwitches_38 : decode cX12_leadingSwitches 38 = .ok (.ireturn, 1) := by decide +kernel
theorem dX12_leadingSwitches_17 : decode cX12_leadingSwitches 17 = .ok (.aload_n 0, 1) := by decide +kernel
theorem dX12_leadingSwitches_18 : decode cX12_leadingSwitches 18 = .ok (.aload_n 0, 1) := by decide +kernel
theorem dX12_leadingSwitches_19 : decode cX12_leadingSwitches 19 = .ok (.iload_n 1, 1) := by decide +kernel
theorem dX12_leadingSwitches_20 : decode cX12_leadingSwitches 20 = .ok (.invokevirtual 96, 3) := by decide +kernel
theorem dX12_leadingSwitches_23 : decode cX12_leadingSwitches 23 = .ok (.iconst 0, 1) := by decide +kernel
theorem dX12_leadingSwitches_24 : decode cX12_leadingSwitches 24 = .ok (.invokevirtual 102, 3) := by decide +kernel
theorem dX12_leadingSwitches_27 : decode cX12_leadingSwitches 27 = .ok (.iconst 1, 1) := by decide +kernel
theorem dX12_leadingSwitches_28 : decode cX12_leadingSwitches 28 = .ok (.if_icmp .ne 9, 3) := by decide +kernel
theorem dX12_leadingSwitches_31 : decode cX12_leadingSwitches 31 = .ok (.iinc 1 1, 3) := by decide +kernel
theorem dX12_leadingSwitches_34 : decode cX12_leadingSwitches 34 = .ok (.goto (-27), 3) := by decide +kernel
set_option maxRecDepth 100000 in
set_option maxHeartbeats 4000000 in
theorem rX12_leadingSwitches (l : Launch) (D : va_G) (Y : Nat → ClassId) (h0 : Nat) (h1 : Nat) (h2 : Nat) (h3 : Nat) (h4 : Nat) (h5 : Nat) (h6 : Nat) (p2 : Int32) (k5 : Nat) (k6 : Nat) (p7 : Int32) (p8 : Int32) (p9 : Int32) (k10 : Nat) (p11 : Int32) (q12 : Int64) (k15 : Nat) (k16 : Nat) (f0 : Nat → Int32) (f1 : Nat → Int32) (f3 : Nat → Int32) (f4 : Nat → Int32) (f13 : Nat → Int32) (f14 : Nat → Int32) (HI : INV f0) (HL : k5 ≤ 1600) (HP : PLV f13)   (sz : Nat) : Met l yX12_leadingSwitches (WSm yX12_leadingSwitches cX12_leadingSwitches 2 (some .int)) (mkR 2 0 0 41) (PreC D Y [.ref h0] [(h0, oC 13 [.ref h1, .ref h2, .int p2, .ref h3, .ref h4, .int (nI k5), .int (nI k6), .int p7, .int p8, .int p9, .int (nI k10), .int p11, .long q12, .ref h5, .ref h6, .int (nI k15), .int (nI k16)]), (h1, aI Y 3640 f0), (h2, aZ Y 2 f1), (h3, aZ Y 80 f3), (h4, aB Y 1600 f4), (h5, aI Y 200 f13), (h6, aI Y 800 f14)] sz) (QI D (fun (r : Int32) (u : WU) => True) (fun (u : WU) => [(h0, oC 13 [.ref h1, .ref h2, .int (u.2.1 0), .ref h3, .ref h4, .int (nI k5), .int (nI k6), .int p7, .int p8, .int p9, .int (nI k10), .int p11, .long q12, .ref h5, .ref h6, .int (nI k15), .int (nI k16)]), (h1, aI Y 3640 f0), (h2, aZ Y 2 f1), (h3, aZ Y 80 f3), (h4, aB Y 1600 f4), (h5, aI Y 200 f13), (h6, aI Y 800 f14)]) (va_A [(h0, oC 13 [.ref h1, .ref h2, .int p2, .ref h3, .ref h4, .int (nI k5), .int (nI k6), .int p7, .int p8, .int p9, .int (nI k10), .int p11, .long q12, .ref h5, .ref h6, .int (nI k15), .int (nI k16)]), (h1, aI Y 3640 f0), (h2, aZ Y 2 f1), (h3, aZ Y 80 f3), (h4, aB Y 1600 f4), (h5, aI Y 200 f13), (h6, aI Y 800 f14)] sz)) 0 0 (va_A [(h0, oC 13 [.ref h1, .ref h2, .int p2, .ref h3, .ref h4, .int (nI k5), .int (nI k6), .int p7, .int p8, .int p9, .int (nI k10), .int p11, .long q12, .ref h5, .ref h6, .int (nI k15), .int (nI k16)]), (h1, aI Y 3640 f0), (h2, aZ Y 2 f1), (h3, aZ Y 80 f3), (h4, aB Y 1600 f4), (h5, aI Y 200 f13), (h6, aI Y 800 f14)] sz) :=
  met_of (by decide +kernel) (Nat.le_of_ble_eq_true rfl) (fun p e s m args below meth c B hin hsz => by
    have B : VB p s m args meth c D Y (va_A [(h0, oC 13 [.ref h1, .ref h2, .int p2, .ref h3, .ref h4, .int (nI k5), .int (nI k6), .int p7, .int p8, .int p9, .int (nI k10), .int p11, .long q12, .ref h5, .ref h6, .int (nI k15), .int (nI k16)]), (h1, aI Y 3640 f0), (h2, aZ Y 2 f1), (h3, aZ Y 80 f3), (h4, aB Y 1600 f4), (h5, aI Y 200 f13), (h6, aI Y 800 f14)] sz) cX12_leadingSwitches 2 RX12 (some .int) := B
    refine V_aload_n 0 B dX12_leadingSwitches_0 0 rfl ?_
    refine V_iconst 1 B (v := 0) dX12_leadingSwitches_1 (by decide +kernel) ?_
    refine V_put 2 B gp_RX12_38 0 rfl (Nat.le_of_ble_eq_true rfl) rfl rfl dX12_leadingSwitches_2 [(h0, oC 13 [.ref h1, .ref h2, .int 0, .ref h3, .ref h4, .int (nI k5), .int (nI k6), .int p7, .int p8, .int p9, .int (nI k10), .int p11, .long q12, .ref h5, .ref h6, .int (nI k15), .int (nI k16)]), (h1, aI Y 3640 f0), (h2, aZ Y 2 f1), (h3, aZ Y 80 f3), (h4, aB Y 1600 f4), (h5, aI Y 200 f13), (h6, aI Y 800 f14)] rfl ?_
    refine V_iconst 5 B (v := 0) dX12_leadingSwitches_5 (by decide +kernel) ?_
    refine V_istore_n 6 B (lv2 := [(1, .int 0), (0, .ref h0)]) dX12_leadingSwitches_6 (by decide) rfl ?_
    refine V_wloop (α := WU) (fun a => 100000 - (a.1 0)) (fun a => (a.1 0) ≤ 4000) (fun a => [(1, .int (nI (a.1 0))), (0, .ref h0)]) (fun a => [(h0, oC 13 [.ref h1, .ref h2, .int (a.2.1 0), .ref h3, .ref h4, .int (nI k5), .int (nI k6), .int p7, .int p8, .int p9, .int (nI k10), .int p11, .long q12, .ref h5, .ref h6, .int (nI k15), .int (nI k16)]), (h1, aI Y 3640 f0), (h2, aZ Y 2 f1), (h3, aZ Y 80 f3), (h4, aB Y 1600 f4), (h5, aI Y 200 f13), (h6, aI Y 800 f14)]) (mkW [0] [0] [] [] [] []) (show 0 ≤ 4000 by omega) rfl rfl (fun a0 hI2 IH1 => ?_)
    refine V_lv [(1, .int (nI (a0.1 0))), (0, .ref h0)] [0, 1] rfl ?_
    refine V_ws [(h0, oC 13 [.ref h1, .ref h2, .int (a0.2.1 0), .ref h3, .ref h4, .int (nI k5), .int (nI k6), .int p7, .int p8, .int p9, .int (nI k10), .int p11, .long q12, .ref h5, .ref h6, .int (nI k15), .int (nI k16)]), (h1, aI Y 3640 f0), (h2, aZ Y 2 f1), (h3, aZ Y 80 f3), (h4, aB Y 1600 f4), (h5, aI Y 200 f13), (h6, aI Y 800 f14)] rfl ?_
    have x3 := hI2
    refine V_iload_n 7 B dX12_leadingSwitches_7 0 rfl ?_
    refine V_aload_n 8 B dX12_leadingSwitches_8 1 rfl ?_
    refine V_get 9 B gf_RX12_9 0 rfl rfl dX12_leadingSwitches_9 ?_
    refine V_iconst 12 B (v := 3) dX12_leadingSwitches_12 (by decide +kernel) ?_
    have x4 : (gN f0 3) ≤ 80 := gN_le HI (by omega) (show bd 3 = (0, ((80 : Nat) : Int)) by decide +kernel)
    refine V_iald 13 B (v := (nI (gN f0 3))) 1 rfl (vpin _ _ (by decide +kernel)) dX12_leadingSwitches_13 (by show f0 3 = _; exact gN_eq HI (by omega) (show bd 3 = (0, ((80 : Nat) : Int)) by decide +kernel)) ?_
    refine V_icmp_ge 14 B 37 dX12_leadingSwitches_14 (by decide) (fun kk5 => ?_) (fun kk5 => ?_)
    ·
      have x6 := n_le (a := (gN f0 3)) (b := (a0.1 0)) kk5 (by omega) (by omega)
      refine V_iload_n 37 B dX12_leadingSwitches_37 0 rfl ?_
      exact V_iret 38 B dX12_leadingSwitches_38 (mkW [] [(a0.2.1 0)] [] [] [] []) trivial rfl
    ·
      have x7 := n_nle (a := (gN f0 3)) (b := (a0.1 0)) kk5 (by omega) (by omega)
      refine V_aload_n 17 B dX12_leadingSwitches_17 1 rfl ?_
      refine V_aload_n 18 B dX12_leadingSwitches_18 1 rfl ?_
      refine V_iload_n 19 B dX12_leadingSwitches_19 0 rfl ?_
      refine V_cvi 20 B (st := [.ref h0]) (As := [.int (nI (a0.1 0))]) (fun sz => rX12_commandOf l D Y h0 h1 h2 h3 h4 h5 h6 (a0.2.1 0) k5 k6 p7 p8 p9 k10 p11 q12 k15 k16 f0 f1 f3 f4 f13 f14 HI (by omega) HP (a0.1 0) (by omega) sz) glV_RX12_96 ⟨rfl, rfl⟩ ⟨(Nat.le_of_ble_eq_true rfl), (Nat.le_of_ble_eq_true rfl)⟩ ⟨(Nat.le_of_ble_eq_true rfl), (Nat.le_of_ble_eq_true rfl)⟩ [0, 0, 0, 0, 0, 0, 0] rfl 13 0 rfl rfl rfl rfl (Nat.le_of_ble_eq_true rfl) rfl (fun _ _ _ => rfl) dX12_leadingSwitches_20 (fun j8 u9 w10 => ?_)
      refine V_ws [(h0, oC 13 [.ref h1, .ref h2, .int (a0.2.1 0), .ref h3, .ref h4, .int (nI k5), .int (nI k6), .int p7, .int p8, .int p9, .int (nI k10), .int p11, .long q12, .ref h5, .ref h6, .int (nI k15), .int (nI k16)]), (h1, aI Y 3640 f0), (h2, aZ Y 2 f1), (h3, aZ Y 80 f3), (h4, aB Y 1600 f4), (h5, aI Y 200 f13), (h6, aI Y 800 f14)] rfl ?_
      have x11 := w10
      obtain rfl := x11
      have x12 : (gN f0 (185 + 7 * (a0.1 0))) ≤ 39 := gN_le HI (by omega) (rl2 (a0.1 0) (by omega))
      refine V_iconst 23 B (v := 0) dX12_leadingSwitches_23 (by decide +kernel) ?_
      refine V_cvi 24 B (st := []) (As := [.int (nI ((gN f0 (185 + 7 * (a0.1 0))))), .int 0]) (fun sz => rX12_ofCommand l D Y h0 h1 h2 h3 h4 h5 h6 (a0.2.1 0) k5 k6 p7 p8 p9 k10 p11 q12 k15 k16 f0 f1 f3 f4 f13 f14 HI (by omega) HP ((gN f0 (185 + 7 * (a0.1 0)))) 0 (by omega) (by omega) sz) glV_RX12_102 ⟨rfl, rfl⟩ ⟨(Nat.le_of_ble_eq_true rfl), (Nat.le_of_ble_eq_true rfl)⟩ ⟨(Nat.le_of_ble_eq_true rfl), (Nat.le_of_ble_eq_true rfl)⟩ [0, 0, 0, 0, 0, 0, 0] rfl 13 0 rfl rfl rfl rfl (Nat.le_of_ble_eq_true rfl) rfl (fun _ _ _ => rfl) dX12_leadingSwitches_24 (fun j13 u14 w15 => ?_)
      refine V_ws [(h0, oC 13 [.ref h1, .ref h2, .int (a0.2.1 0), .ref h3, .ref h4, .int (nI k5), .int (nI k6), .int p7, .int p8, .int p9, .int (nI k10), .int p11, .long q12, .ref h5, .ref h6, .int (nI k15), .int (nI k16)]), (h1, aI Y 3640 f0), (h2, aZ Y 2 f1), (h3, aZ Y 80 f3), (h4, aB Y 1600 f4), (h5, aI Y 200 f13), (h6, aI Y 800 f14)] rfl ?_
      have x16 := w15
      refine V_iconst 27 B (v := 1) dX12_leadingSwitches_27 (by decide +kernel) ?_
      refine V_icmp_ne 28 B 37 dX12_leadingSwitches_28 (by decide) (fun kk17 => ?_) (fun kk17 => ?_)
      ·
        have x18 := x_ne kk17
        rw [show (1 : Int32).toInt = 1 by decide +kernel] at x18
        refine V_iload_n 37 B dX12_leadingSwitches_37 0 rfl ?_
        exact V_iret 38 B dX12_leadingSwitches_38 (mkW [] [(a0.2.1 0)] [] [] [] []) trivial rfl
      ·
        obtain rfl : j13 = 1 := kk17
        have e20 : (1 : Int32).toInt = 1 := by decide +kernel
        refine V_iinc 31 B (v := (nI (1 + (a0.1 0)))) (lv2 := [(1, .int (nI (1 + (a0.1 0)))), (0, .ref h0)]) dX12_leadingSwitches_31 0 rfl (nI_addE (a := (a0.1 0)) (b := 1) (by omega)) (by decide) rfl ?_
        refine V_goto 34 B 7 dX12_leadingSwitches_34 (by decide) ?_
        refine V_lv [(1, .int (nI (1 + (a0.1 0)))), (0, .ref h0)] [0, 1] rfl ?_
        exact IH1 (mkW [1 + (a0.1 0)] [(a0.2.1 0)] [] [] [] []) (show 1 + (a0.1 0) ≤ 4000 by omega) (by show 100000 - (1 + (a0.1 0)) < 100000 - (a0.1 0); omega))
theorem dX12_digest_0 : decode cX12_digest 0 = .ok (.aload_n 0, 1) := by decide +kernel
theorem dX12_digest_1 : decode cX12_digest 1 = .ok (.iconst 0, 1) := by decide +kernel
theorem dX12_digest_2 : decode cX12_digest 2 = .ok (.putfield 38, 3) := by decide +kernel
theorem dX12_digest_5 : decode cX12_digest 5 = .ok (.bipush 7, 2) := by decide +kernel
theorem dX12_digest_7 : decode cX12_digest 7 = .ok (.istore_n 1, 1) := by decide +kernel
theorem dX12_digest_8 : decode cX12_digest 8 = .ok (.iconst 0, 1) := by decide +kernel
theorem dX12_digest_9 : decode cX12_digest 9 = .ok (.istore_n 2, 1) := by decide +kernel
theorem dX12_digest_10 : decode cX12_digest 10 = .ok (.iload_n 2, 1) := by decide +kernel
theorem dX12_digest_11 : decode cX12_digest 11 = .ok (.aload_n 0, 1) := by decide +kernel
theorem dX12_digest_12 : decode cX12_digest 12 = .ok (.getfield 9, 3) := by decide +kernel
theorem dX12_digest_15 : decode cX12_digest 15 = .ok (.iconst 3, 1) := by decide +kernel
theorem dX12_digest_16 : decode cX12_digest 16 = .ok (.iaload, 1) := by decide +kernel
theorem dX12_digest_17 : decode cX12_digest 17 = .ok (.if_icmp .ge 67, 3) := by decide +kernel
theorem dX12_digest_84 : decode cX12_digest 84 = .ok (.iload_n 1, 1) := by decide +kernel
theorem dX12_digest_85 : decode cX12_digest 85 = .ok (.ireturn, 1) := by decide +kernel
theorem dX12_digest_20 : decode cX12_digest 20 = .ok (.bipush 31, 2) := by decide +kernel
theorem dX12_digest_22 : decode cX12_digest 22 = .ok (.bipush 31, 2) := by decide +kernel
theorem dX12_digest_24 : decode cX12_digest 24 = .ok (.iload_n 1, 1) := by decide +kernel
theorem dX12_digest_25 : decode cX12_digest 25 = .ok (.imul, 1) := by decide +kernel
theorem dX12_digest_26 : decode cX12_digest 26 = .ok (.aload_n 0, 1) := by decide +kernel
theorem dX12_digest_27 : decode cX12_digest 27 = .ok (.iload_n 2, 1) := by decide +kernel
theorem dX12_digest_28 : decode cX12_digest 28 = .ok (.invokevirtual 115, 3) := by decide +kernel
theorem dX12_digest_31 : decode cX12_digest 31 = .ok (.iadd, 1) := by decide +kernel
theorem dX12_digest_32 : decode cX12_digest 32 = .ok (.imul, 1) := by decide +kernel
theorem dX12_digest_33 : decode cX12_digest 33 = .ok (.aload_n 0, 1) := by decide +kernel
theorem dX12_digest_34 : decode cX12_digest 34 = .ok (.iload_n 2, 1) := by decide +kernel
theorem dX12_digest_35 : decode cX12_digest 35 = .ok (.invokevirtual 96, 3) := by decide +kernel
theorem dX12_digest_38 : decode cX12_digest 38 = .ok (.iadd, 1) := by decide +kernel
theorem dX12_digest_39 : decode cX12_digest 39 = .ok (.istore_n 1, 1) := by decide +kernel
theorem dX12_digest_40 : decode cX12_digest 40 = .ok (.iconst 1, 1) := by decide +kernel
theorem dX12_digest_41 : decode cX12_digest 41 = .ok (.istore_n 3, 1) := by decide +kernel
theorem dX12_digest_42 : decode cX12_digest 42 = .ok (.iload_n 3, 1) := by decide +kernel
theorem dX12_digest_43 : decode cX12_digest 43 = .ok (.aload_n 0, 1) := by decide +kernel
theorem dX12_digest_44 : decode cX12_digest 44 = .ok (.getfield 9, 3) := by decide +kernel
theorem dX12_digest_47 : decode cX12_digest 47 = .ok (.iload_n 2, 1) := by decide +kernel
theorem dX12_digest_48 : decode cX12_digest 48 = .ok (.invokestatic 85, 3) := by decide +kernel
theorem dX12_digest_51 : decode cX12_digest 51 = .ok (.iaload, 1) := by decide +kernel
theorem dX12_digest_52 : decode cX12_digest 52 = .ok (.if_icmp .gt 26, 3) := by decide +kernel
theorem dX12_digest_78 : decode cX12_digest 78 = .ok (.iinc 2 1, 3) := by decide +kernel
theorem dX12_digest_81 : decode cX12_digest 81 = .ok (.goto (-71), 3) := by decide +kernel
theorem dX12_digest_55 : decode cX12_digest 55 = .ok (.bipush 31, 2) := by decide +kernel
theorem dX12_digest_57 : decode cX12_digest 57 = .ok (.iload_n 1, 1) := by decide +kernel
theorem dX12_digest_58 : decode cX12_digest 58 = .ok (.imul, 1) := by decide +kernel
theorem dX12_digest_59 : decode cX12_digest 59 = .ok (.aload_n 0, 1) := by decide +kernel
theorem dX12_digest_60 : decode cX12_digest 60 = .ok (.getfield 9, 3) := by decide +kernel
theorem dX12_digest_63 : decode cX12_digest 63 = .ok (.iload_n 2, 1) := by decide +kernel
theorem dX12_digest_64 : decode cX12_digest 64 = .ok (.invokestatic 85, 3) := by decide +kernel
theorem dX12_digest_67 : decode cX12_digest 67 = .ok (.iload_n 3, 1) := by decide +kernel
theorem dX12_digest_68 : decode cX12_digest 68 = .ok (.iadd, 1) := by decide +kernel
theorem dX12_digest_69 : decode cX12_digest 69 = .ok (.iaload, 1) := by decide +kernel
theorem dX12_digest_70 : decode cX12_digest 70 = .ok (.iadd, 1) := by decide +kernel
theorem dX12_digest_71 : decode cX12_digest 71 = .ok (.istore_n 1, 1) := by decide +kernel
theorem dX12_digest_72 : decode cX12_digest 72 = .ok (.iinc 3 1, 3) := by decide +kernel
theorem dX12_digest_75 : decode cX12_digest 75 = .ok (.goto (-33), 3) := by decide +kernel
set_option maxRecDepth 100000 in
set_option maxHeartbeats 4000000 in
theorem rX12_digest (l : Launch) (D : va_G) (Y : Nat → ClassId) (h0 : Nat) (h1 : Nat) (h2 : Nat) (h3 : Nat) (h4 : Nat) (h5 : Nat) (h6 : Nat) (p2 : Int32) (k5 : Nat) (k6 : Nat) (p7 : Int32) (p8 : Int32) (p9 : Int32) (k10 : Nat) (p11 : Int32) (q12 : Int64) (k15 : Nat) (k16 : Nat) (f0 : Nat → Int32) (f1 : Nat → Int32) (f3 : Nat → Int32) (f4 : Nat → Int32) (f13 : Nat → Int32) (f14 : Nat → Int32) (HI : INV f0) (HL : k5 ≤ 1600) (HP : PLV f13)   (sz : Nat) : Met l yX12_digest (WSm yX12_digest cX12_digest 4 (some .int)) (mkR 2 0 0 41) (PreC D Y [.ref h0] [(h0, oC 13 [.ref h1, .ref h2, .int p2, .ref h3, .ref h4, .int (nI k5), .int (nI k6), .int p7, .int p8, .int p9, .int (nI k10), .int p11, .long q12, .ref h5, .ref h6, .int (nI k15), .int (nI k16)]), (h1, aI Y 3640 f0), (h2, aZ Y 2 f1), (h3, aZ Y 80 f3), (h4, aB Y 1600 f4), (h5, aI Y 200 f13), (h6, aI Y 800 f14)] sz) (QI D (fun (r : Int32) (u : WU) => True) (fun (u : WU) => [(h0, oC 13 [.ref h1, .ref h2, .int (u.2.1 0), .ref h3, .ref h4, .int (nI k5), .int (nI k6), .int p7, .int p8, .int p9, .int (nI k10), .int p11, .long q12, .ref h5, .ref h6, .int (nI k15), .int (nI k16)]), (h1, aI Y 3640 f0), (h2, aZ Y 2 f1), (h3, aZ Y 80 f3), (h4, aB Y 1600 f4), (h5, aI Y 200 f13), (h6, aI Y 800 f14)]) (va_A [(h0, oC 13 [.ref h1, .ref h2, .int p2, .ref h3, .ref h4, .int (nI k5), .int (nI k6), .int p7, .int p8, .int p9, .int (nI k10), .int p11, .long q12, .ref h5, .ref h6, .int (nI k15), .int (nI k16)]), (h1, aI Y 3640 f0), (h2, aZ Y 2 f1), (h3, aZ Y 80 f3), (h4, aB Y 1600 f4), (h5, aI Y 200 f13), (h6, aI Y 800 f14)] sz)) 0 0 (va_A [(h0, oC 13 [.ref h1, .ref h2, .int p2, .ref h3, .ref h4, .int (nI k5), .int (nI k6), .int p7, .int p8, .int p9, .int (nI k10), .int p11, .long q12, .ref h5, .ref h6, .int (nI k15), .int (nI k16)]), (h1, aI Y 3640 f0), (h2, aZ Y 2 f1), (h3, aZ Y 80 f3), (h4, aB Y 1600 f4), (h5, aI Y 200 f13), (h6, aI Y 800 f14)] sz) :=
  met_of (by decide +kernel) (Nat.le_of_ble_eq_true rfl) (fun p e s m args below meth c B hin hsz => by
    have B : VB p s m args meth c D Y (va_A [(h0, oC 13 [.ref h1, .ref h2, .int p2, .ref h3, .ref h4, .int (nI k5), .int (nI k6), .int p7, .int p8, .int p9, .int (nI k10), .int p11, .long q12, .ref h5, .ref h6, .int (nI k15), .int (nI k16)]), (h1, aI Y 3640 f0), (h2, aZ Y 2 f1), (h3, aZ Y 80 f3), (h4, aB Y 1600 f4), (h5, aI Y 200 f13), (h6, aI Y 800 f14)] sz) cX12_digest 4 RX12 (some .int) := B
    refine V_aload_n 0 B dX12_digest_0 0 rfl ?_
    refine V_iconst 1 B (v := 0) dX12_digest_1 (by decide +kernel) ?_
    refine V_put 2 B gp_RX12_38 0 rfl (Nat.le_of_ble_eq_true rfl) rfl rfl dX12_digest_2 [(h0, oC 13 [.ref h1, .ref h2, .int 0, .ref h3, .ref h4, .int (nI k5), .int (nI k6), .int p7, .int p8, .int p9, .int (nI k10), .int p11, .long q12, .ref h5, .ref h6, .int (nI k15), .int (nI k16)]), (h1, aI Y 3640 f0), (h2, aZ Y 2 f1), (h3, aZ Y 80 f3), (h4, aB Y 1600 f4), (h5, aI Y 200 f13), (h6, aI Y 800 f14)] rfl ?_
    refine V_bipush 5 B (v := 7) dX12_digest_5 (by decide +kernel) ?_
    refine V_istore_n 7 B (lv2 := [(1, .int 7), (0, .ref h0)]) dX12_digest_7 (by decide) rfl ?_
    refine V_iconst 8 B (v := 0) dX12_digest_8 (by decide +kernel) ?_
    refine V_istore_n 9 B (lv2 := [(2, .int 0), (1, .int 7), (0, .ref h0)]) dX12_digest_9 (by decide) rfl ?_
    refine V_wloop (α := WU) (fun a => 100000 - (a.1 0)) (fun a => (a.1 0) ≤ 4000) (fun a => [(2, .int (nI (a.1 0))), (1, .int (a.2.1 0)), (0, .ref h0)]) (fun a => [(h0, oC 13 [.ref h1, .ref h2, .int (a.2.1 1), .ref h3, .ref h4, .int (nI k5), .int (nI k6), .int p7, .int p8, .int p9, .int (nI k10), .int p11, .long q12, .ref h5, .ref h6, .int (nI k15), .int (nI k16)]), (h1, aI Y 3640 f0), (h2, aZ Y 2 f1), (h3, aZ Y 80 f3), (h4, aB Y 1600 f4), (h5, aI Y 200 f13), (h6, aI Y 800 f14)]) (mkW [0] [7, 0] [] [] [] []) (show 0 ≤ 4000 by omega) rfl rfl (fun a0 hI2 IH1 => ?_)
    refine V_lv [(2, .int (nI (a0.1 0))), (1, .int (a0.2.1 0)), (0, .ref h0)] [0, 1, 2] rfl ?_
    refine V_ws [(h0, oC 13 [.ref h1, .ref h2, .int (a0.2.1 1), .ref h3, .ref h4, .int (nI k5), .int (nI k6), .int p7, .int p8, .int p9, .int (nI k10), .int p11, .long q12, .ref h5, .ref h6, .int (nI k15), .int (nI k16)]), (h1, aI Y 3640 f0), (h2, aZ Y 2 f1), (h3, aZ Y 80 f3), (h4, aB Y 1600 f4), (h5, aI Y 200 f13), (h6, aI Y 800 f14)] rfl ?_
    have x3 := hI2
    refine V_iload_n 10 B dX12_digest_10 0 rfl ?_
    refine V_aload_n 11 B dX12_digest_11 2 rfl ?_
    refine V_get 12 B gf_RX12_9 0 rfl rfl dX12_digest_12 ?_
    refine V_iconst 15 B (v := 3) dX12_digest_15 (by decide +kernel) ?_
    have x4 : (gN f0 3) ≤ 80 := gN_le HI (by omega) (show bd 3 = (0, ((80 : Nat) : Int)) by decide +kernel)
    refine V_iald 16 B (v := (nI (gN f0 3))) 1 rfl (vpin _ _ (by decide +kernel)) dX12_digest_16 (by show f0 3 = _; exact gN_eq HI (by omega) (show bd 3 = (0, ((80 : Nat) : Int)) by decide +kernel)) ?_
    refine V_icmp_ge 17 B 84 dX12_digest_17 (by decide) (fun kk5 => ?_) (fun kk5 => ?_)
    ·
      have x6 := n_le (a := (gN f0 3)) (b := (a0.1 0)) kk5 (by omega) (by omega)
      refine V_iload_n 84 B dX12_digest_84 1 rfl ?_
      exact V_iret 85 B dX12_digest_85 (mkW [] [(a0.2.1 1)] [] [] [] []) trivial rfl
    ·
      have x7 := n_nle (a := (gN f0 3)) (b := (a0.1 0)) kk5 (by omega) (by omega)
      refine V_bipush 20 B (v := 31) dX12_digest_20 (by decide +kernel) ?_
      refine V_bipush 22 B (v := 31) dX12_digest_22 (by decide +kernel) ?_
      refine V_iload_n 24 B dX12_digest_24 1 rfl ?_
      refine V_imul 25 B dX12_digest_25 rfl ?_
      refine V_nmi (fun j8 e9 => ?_)
      refine V_aload_n 26 B dX12_digest_26 2 rfl ?_
      refine V_iload_n 27 B dX12_digest_27 0 rfl ?_
      refine V_cvi 28 B (st := [.int j8, .int 31]) (As := [.int (nI (a0.1 0))]) (fun sz => rX12_modeOf l D Y h0 h1 h2 h3 h4 h5 h6 (a0.2.1 1) k5 k6 p7 p8 p9 k10 p11 q12 k15 k16 f0 f1 f3 f4 f13 f14 HI (by omega) HP (a0.1 0) (by omega) sz) glV_RX12_115 ⟨rfl, rfl⟩ ⟨(Nat.le_of_ble_eq_true rfl), (Nat.le_of_ble_eq_true rfl)⟩ ⟨(Nat.le_of_ble_eq_true rfl), (Nat.le_of_ble_eq_true rfl)⟩ [0, 0, 0, 0, 0, 0, 0] rfl 13 0 rfl rfl rfl rfl (Nat.le_of_ble_eq_true rfl) rfl (fun _ _ _ => rfl) dX12_digest_28 (fun j10 u11 w12 => ?_)
      refine V_ws [(h0, oC 13 [.ref h1, .ref h2, .int (a0.2.1 1), .ref h3, .ref h4, .int (nI k5), .int (nI k6), .int p7, .int p8, .int p9, .int (nI k10), .int p11, .long q12, .ref h5, .ref h6, .int (nI k15), .int (nI k16)]), (h1, aI Y 3640 f0), (h2, aZ Y 2 f1), (h3, aZ Y 80 f3), (h4, aB Y 1600 f4), (h5, aI Y 200 f13), (h6, aI Y 800 f14)] rfl ?_
      have x13 := w12
      refine V_iadd 31 B dX12_digest_31 rfl ?_
      refine V_nmi (fun j14 e15 => ?_)
      refine V_imul 32 B dX12_digest_32 rfl ?_
      refine V_nmi (fun j16 e17 => ?_)
      refine V_aload_n 33 B dX12_digest_33 2 rfl ?_
      refine V_iload_n 34 B dX12_digest_34 0 rfl ?_
      refine V_cvi 35 B (st := [.int j16]) (As := [.int (nI (a0.1 0))]) (fun sz => rX12_commandOf l D Y h0 h1 h2 h3 h4 h5 h6 (a0.2.1 1) k5 k6 p7 p8 p9 k10 p11 q12 k15 k16 f0 f1 f3 f4 f13 f14 HI (by omega) HP (a0.1 0) (by omega) sz) glV_RX12_96 ⟨rfl, rfl⟩ ⟨(Nat.le_of_ble_eq_true rfl), (Nat.le_of_ble_eq_true rfl)⟩ ⟨(Nat.le_of_ble_eq_true rfl), (Nat.le_of_ble_eq_true rfl)⟩ [0, 0, 0, 0, 0, 0, 0] rfl 13 0 rfl rfl rfl rfl (Nat.le_of_ble_eq_true rfl) rfl (fun _ _ _ => rfl) dX12_digest_35 (fun j18 u19 w20 => ?_)
      refine V_ws [(h0, oC 13 [.ref h1, .ref h2, .int (a0.2.1 1), .ref h3, .ref h4, .int (nI k5), .int (nI k6), .int p7, .int p8, .int p9, .int (nI k10), .int p11, .long q12, .ref h5, .ref h6, .int (nI k15), .int (nI k16)]), (h1, aI Y 3640 f0), (h2, aZ Y 2 f1), (h3, aZ Y 80 f3), (h4, aB Y 1600 f4), (h5, aI Y 200 f13), (h6, aI Y 800 f14)] rfl ?_
      have x21 := w20
      obtain rfl := x21
      have x22 : (gN f0 (185 + 7 * (a0.1 0))) ≤ 39 := gN_le HI (by omega) (rl2 (a0.1 0) (by omega))
      refine V_iadd 38 B dX12_digest_38 rfl ?_
      refine V_nmi (fun j23 e24 => ?_)
      refine V_istore_n 39 B (lv2 := [(1, .int j23), (2, .int (nI (a0.1 0))), (0, .ref h0)]) dX12_digest_39 (by decide) rfl ?_
      refine V_iconst 40 B (v := 1) dX12_digest_40 (by decide +kernel) ?_
      refine V_istore_n 41 B (lv2 := [(3, .int 1), (1, .int j23), (2, .int (nI (a0.1 0))), (0, .ref h0)]) dX12_digest_41 (by decide) rfl ?_
      refine V_wloop (α := WU) (fun a => 100000 - (a.1 0)) (fun a => (a.1 0) ≤ 4000) (fun a => [(3, .int (nI (a.1 0))), (1, .int (a.2.1 0)), (2, .int (nI (a0.1 0))), (0, .ref h0)]) (fun a => [(h0, oC 13 [.ref h1, .ref h2, .int (a.2.1 1), .ref h3, .ref h4, .int (nI k5), .int (nI k6), .int p7, .int p8, .int p9, .int (nI k10), .int p11, .long q12, .ref h5, .ref h6, .int (nI k15), .int (nI k16)]), (h1, aI Y 3640 f0), (h2, aZ Y 2 f1), (h3, aZ Y 80 f3), (h4, aB Y 1600 f4), (h5, aI Y 200 f13), (h6, aI Y 800 f14)]) (mkW [1] [j23, (a0.2.1 1)] [] [] [] []) (show 1 ≤ 4000 by omega) rfl rfl (fun a25 hI27 IH26 => ?_)
      refine V_lv [(3, .int (nI (a25.1 0))), (1, .int (a25.2.1 0)), (2, .int (nI (a0.1 0))), (0, .ref h0)] [0, 1, 2, 3] rfl ?_
      refine V_ws [(h0, oC 13 [.ref h1, .ref h2, .int (a25.2.1 1), .ref h3, .ref h4, .int (nI k5), .int (nI k6), .int p7, .int p8, .int p9, .int (nI k10), .int p11, .long q12, .ref h5, .ref h6, .int (nI k15), .int (nI k16)]), (h1, aI Y 3640 f0), (h2, aZ Y 2 f1), (h3, aZ Y 80 f3), (h4, aB Y 1600 f4), (h5, aI Y 200 f13), (h6, aI Y 800 f14)] rfl ?_
      have x28 := hI27
      refine V_iload_n 42 B dX12_digest_42 0 rfl ?_
      refine V_aload_n 43 B dX12_digest_43 3 rfl ?_
      refine V_get 44 B gf_RX12_9 0 rfl rfl dX12_digest_44 ?_
      refine V_iload_n 47 B dX12_digest_47 2 rfl ?_
      refine V_csi 48 B (st := [.ref h1, .int (nI (a25.1 0))]) (As := [.int (nI (a0.1 0))]) (fun sz => rX12_sequenceOf l D Y (a0.1 0) (by omega) sz) glS_RX12_85 ⟨rfl, rfl⟩ ⟨(Nat.le_of_ble_eq_true rfl), (Nat.le_of_ble_eq_true rfl)⟩ ⟨(Nat.le_of_ble_eq_true rfl), (Nat.le_of_ble_eq_true rfl)⟩ [] rfl rfl (Nat.le_of_ble_eq_true rfl) rfl (fun _ _ _ => rfl) dX12_digest_48 (fun j29 u30 w31 => ?_)
      refine V_ws [(h0, oC 13 [.ref h1, .ref h2, .int (a25.2.1 1), .ref h3, .ref h4, .int (nI k5), .int (nI k6), .int p7, .int p8, .int p9, .int (nI k10), .int p11, .long q12, .ref h5, .ref h6, .int (nI k15), .int (nI k16)]), (h1, aI Y 3640 f0), (h2, aZ Y 2 f1), (h3, aZ Y 80 f3), (h4, aB Y 1600 f4), (h5, aI Y 200 f13), (h6, aI Y 800 f14)] rfl ?_
      have x32 := w31
      obtain rfl := x32
      have x33 : (gN f0 (186 + 7 * (a0.1 0))) ≤ 4 := gN_le HI (by omega) (rl12 (a0.1 0) (by omega))
      refine V_iald 51 B (v := (nI ((gN f0 (186 + 7 * (a0.1 0)))))) 1 rfl (vp_in_nI (n := 186 + 7 * (a0.1 0)) (by omega) (by decide)) dX12_digest_51 (by rw [nI_clamp (show 186 + 7 * (a0.1 0) < 2 ^ 31 by omega)]; exact gN_eq HI (by omega) (rl12 (a0.1 0) (by omega))) ?_
      refine V_icmp_gt 52 B 78 dX12_digest_52 (by decide) (fun kk34 => ?_) (fun kk34 => ?_)
      ·
        have x35 := n_lt (a := (gN f0 (186 + 7 * (a0.1 0)))) (b := (a25.1 0)) kk34 (by omega) (by omega)
        refine V_iinc 78 B (v := (nI (1 + (a0.1 0)))) (lv2 := [(2, .int (nI (1 + (a0.1 0)))), (3, .int (nI (a25.1 0))), (1, .int (a25.2.1 0)), (0, .ref h0)]) dX12_digest_78 2 rfl (nI_addE (a := (a0.1 0)) (b := 1) (by omega)) (by decide) rfl ?_
        refine V_goto 81 B 10 dX12_digest_81 (by decide) ?_
        refine V_lv [(2, .int (nI (1 + (a0.1 0)))), (1, .int (a25.2.1 0)), (0, .ref h0)] [0, 2, 3] rfl ?_
        exact IH1 (mkW [1 + (a0.1 0)] [(a25.2.1 0), (a25.2.1 1)] [] [] [] []) (show 1 + (a0.1 0) ≤ 4000 by omega) (by show 100000 - (1 + (a0.1 0)) < 100000 - (a0.1 0); omega)
      ·
        have x36 := n_nlt (a := (gN f0 (186 + 7 * (a0.1 0)))) (b := (a25.1 0)) kk34 (by omega) (by omega)
        refine V_bipush 55 B (v := 31) dX12_digest_55 (by decide +kernel) ?_
        refine V_iload_n 57 B dX12_digest_57 1 rfl ?_
        refine V_imul 58 B dX12_digest_58 rfl ?_
        refine V_nmi (fun j37 e38 => ?_)
        refine V_aload_n 59 B dX12_digest_59 3 rfl ?_
        refine V_get 60 B gf_RX12_9 0 rfl rfl dX12_digest_60 ?_
        refine V_iload_n 63 B dX12_digest_63 2 rfl ?_
        refine V_csi 64 B (st := [.ref h1, .int j37]) (As := [.int (nI (a0.1 0))]) (fun sz => rX12_sequenceOf l D Y (a0.1 0) (by omega) sz) glS_RX12_85 ⟨rfl, rfl⟩ ⟨(Nat.le_of_ble_eq_true rfl), (Nat.le_of_ble_eq_true rfl)⟩ ⟨(Nat.le_of_ble_eq_true rfl), (Nat.le_of_ble_eq_true rfl)⟩ [] rfl rfl (Nat.le_of_ble_eq_true rfl) rfl (fun _ _ _ => rfl) dX12_digest_64 (fun j39 u40 w41 => ?_)
        refine V_ws [(h0, oC 13 [.ref h1, .ref h2, .int (a25.2.1 1), .ref h3, .ref h4, .int (nI k5), .int (nI k6), .int p7, .int p8, .int p9, .int (nI k10), .int p11, .long q12, .ref h5, .ref h6, .int (nI k15), .int (nI k16)]), (h1, aI Y 3640 f0), (h2, aZ Y 2 f1), (h3, aZ Y 80 f3), (h4, aB Y 1600 f4), (h5, aI Y 200 f13), (h6, aI Y 800 f14)] rfl ?_
        have x42 := w41
        obtain rfl := x42
        refine V_iload_n 67 B dX12_digest_67 0 rfl ?_
        refine V_iadd 68 B (v := (nI (186 + 7 * (a0.1 0) + (a25.1 0)))) dX12_digest_68 (nI_addE (a := 186 + 7 * (a0.1 0)) (b := (a25.1 0)) (by omega)) ?_
        refine V_iald 69 B (v := f0 (186 + 7 * (a0.1 0) + (a25.1 0))) 1 rfl (vp_in_nI (n := 186 + 7 * (a0.1 0) + (a25.1 0)) (by omega) (by decide)) dX12_digest_69 (by rw [nI_clamp (show 186 + 7 * (a0.1 0) + (a25.1 0) < 2 ^ 31 by omega)]) ?_
        refine V_nmi (fun j43 e44 => ?_)
        refine V_iadd 70 B dX12_digest_70 rfl ?_
        refine V_nmi (fun j45 e46 => ?_)
        refine V_istore_n 71 B (lv2 := [(1, .int j45), (3, .int (nI (a25.1 0))), (2, .int (nI (a0.1 0))), (0, .ref h0)]) dX12_digest_71 (by decide) rfl ?_
        refine V_iinc 72 B (v := (nI (1 + (a25.1 0)))) (lv2 := [(3, .int (nI (1 + (a25.1 0)))), (1, .int j45), (2, .int (nI (a0.1 0))), (0, .ref h0)]) dX12_digest_72 1 rfl (nI_addE (a := (a25.1 0)) (b := 1) (by omega)) (by decide) rfl ?_
        refine V_goto 75 B 42 dX12_digest_75 (by decide) ?_
        refine V_lv [(3, .int (nI (1 + (a25.1 0)))), (1, .int j45), (2, .int (nI (a0.1 0))), (0, .ref h0)] [0, 1, 2, 3] rfl ?_
        exact IH26 (mkW [1 + (a25.1 0)] [j45, (a25.2.1 1)] [] [] [] []) (show 1 + (a25.1 0) ≤ 4000 by omega) (by show 100000 - (1 + (a25.1 0)) < 100000 - (a25.1 0); omega))
