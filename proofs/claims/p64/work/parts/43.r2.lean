theorem dX12_addCommand_0 : decode cX12_addCommand 0 = .ok (.aload_n 0, 1) := by decide +kernel
theorem dX12_addCommand_1 : decode cX12_addCommand 1 = .ok (.iconst 0, 1) := by decide +kernel
theorem dX12_addCommand_2 : decode cX12_addCommand 2 = .ok (.putfield 38, 3) := by decide +kernel
theorem dX12_addCommand_5 : decode cX12_addCommand 5 = .ok (.aload_n 0, 1) := by decide +kernel
theorem dX12_addCommand_6 : decode cX12_addCommand 6 = .ok (.iload_n 1, 1) := by decide +kernel
theorem dX12_addCommand_7 : decode cX12_addCommand 7 = .ok (.i2l, 1) := by decide +kernel
theorem dX12_addCommand_8 : decode cX12_addCommand 8 = .ok (.lconst 0, 1) := by decide +kernel
theorem dX12_addCommand_9 : decode cX12_addCommand 9 = .ok (.ldc2_w 94, 3) := by decide +kernel
theorem dX12_addCommand_12 : decode cX12_addCommand 12 = .ok (.invokestatic 41, 3) := by decide +kernel
theorem dX12_addCommand_15 : decode cX12_addCommand 15 = .ok (.ifCond .ne 7, 3) := by decide +kernel
theorem dX12_addCommand_18 : decode cX12_addCommand 18 = .ok (.iconst 1, 1) := by decide +kernel
theorem dX12_addCommand_19 : decode cX12_addCommand 19 = .ok (.goto 4, 3) := by decide +kernel
theorem dX12_addCommand_23 : decode cX12_addCommand 23 = .ok (.iconst 1, 1) := by decide +kernel
theorem dX12_addCommand_24 : decode cX12_addCommand 24 = .ok (.invokevirtual 69, 3) := by decide +kernel
theorem dX12_addCommand_27 : decode cX12_addCommand 27 = .ok (.ifCond .ne 29, 3) := by decide +kernel
theorem dX12_addCommand_56 : decode cX12_addCommand 56 = .ok (.iconst 0, 1) := by decide +kernel
theorem dX12_addCommand_57 : decode cX12_addCommand 57 = .ok (.ireturn, 1) := by decide +kernel
theorem dX12_addCommand_22 : decode cX12_addCommand 22 = .ok (.iconst 0, 1) := by decide +kernel
theorem dX12_addCommand_30 : decode cX12_addCommand 30 = .ok (.aload_n 0, 1) := by decide +kernel
theorem dX12_addCommand_31 : decode cX12_addCommand 31 = .ok (.iload_n 1, 1) := by decide +kernel
theorem dX12_addCommand_32 : decode cX12_addCommand 32 = .ok (.iconst 1, 1) := by decide +kernel
theorem dX12_addCommand_33 : decode cX12_addCommand 33 = .ok (.if_icmp .ne 15, 3) := by decide +kernel
theorem dX12_addCommand_48 : decode cX12_addCommand 48 = .ok (.iconst 0, 1) := by decide +kernel
theorem dX12_addCommand_49 : decode cX12_addCommand 49 = .ok (.iconst 2, 1) := by decide +kernel
theorem dX12_addCommand_50 : decode cX12_addCommand 50 = .ok (.invokevirtual 69, 3) := by decide +kernel
theorem dX12_addCommand_53 : decode cX12_addCommand 53 = .ok (.ifCond .eq 5, 3) := by decide +kernel
theorem dX12_addCommand_58 : decode cX12_addCommand 58 = .ok (.aload_n 0, 1) := by decide +kernel
theorem dX12_addCommand_59 : decode cX12_addCommand 59 = .ok (.getfield 9, 3) := by decide +kernel
theorem dX12_addCommand_62 : decode cX12_addCommand 62 = .ok (.iconst 1, 1) := by decide +kernel
theorem dX12_addCommand_63 : decode cX12_addCommand 63 = .ok (.iaload, 1) := by decide +kernel
theorem dX12_addCommand_64 : decode cX12_addCommand 64 = .ok (.bipush 40, 2) := by decide +kernel
theorem dX12_addCommand_66 : decode cX12_addCommand 66 = .ok (.if_icmp .ne 6, 3) := by decide +kernel
theorem dX12_addCommand_72 : decode cX12_addCommand 72 = .ok (.bipush 34, 2) := by decide +kernel
theorem dX12_addCommand_74 : decode cX12_addCommand 74 = .ok (.iconst 3, 1) := by decide +kernel
theorem dX12_addCommand_75 : decode cX12_addCommand 75 = .ok (.aload_n 0, 1) := by decide +kernel
theorem dX12_addCommand_76 : decode cX12_addCommand 76 = .ok (.getfield 9, 3) := by decide +kernel
theorem dX12_addCommand_79 : decode cX12_addCommand 79 = .ok (.iconst 1, 1) := by decide +kernel
theorem dX12_addCommand_80 : decode cX12_addCommand 80 = .ok (.iaload, 1) := by decide +kernel
theorem dX12_addCommand_81 : decode cX12_addCommand 81 = .ok (.imul, 1) := by decide +kernel
theorem dX12_addCommand_82 : decode cX12_addCommand 82 = .ok (.iadd, 1) := by decide +kernel
theorem dX12_addCommand_83 : decode cX12_addCommand 83 = .ok (.istore_n 3, 1) := by decide +kernel
theorem dX12_addCommand_84 : decode cX12_addCommand 84 = .ok (.aload_n 0, 1) := by decide +kernel
theorem dX12_addCommand_85 : decode cX12_addCommand 85 = .ok (.getfield 9, 3) := by decide +kernel
theorem dX12_addCommand_88 : decode cX12_addCommand 88 = .ok (.iload_n 3, 1) := by decide +kernel
theorem dX12_addCommand_89 : decode cX12_addCommand 89 = .ok (.iconst 0, 1) := by decide +kernel
theorem dX12_addCommand_90 : decode cX12_addCommand 90 = .ok (.iadd, 1) := by decide +kernel
theorem dX12_addCommand_91 : decode cX12_addCommand 91 = .ok (.iload_n 1, 1) := by decide +kernel
theorem dX12_addCommand_92 : decode cX12_addCommand 92 = .ok (.iastore, 1) := by decide +kernel
theorem rl7 : ∀ z0, z0 < 40 → bd (34 + 3 * z0) = FREE := by decide +kernel
theorem dX12_addCommand_93 : decode cX12_addCommand 93 = .ok (.aload_n 0, 1) := by decide +kernel
theorem dX12_addCommand_94 : decode cX12_addCommand 94 = .ok (.getfield 9, 3) := by decide +kernel
theorem dX12_addCommand_97 : decode cX12_addCommand 97 = .ok (.iload_n 3, 1) := by decide +kernel
theorem dX12_addCommand_98 : decode cX12_addCommand 98 = .ok (.iconst 1, 1) := by decide +kernel
theorem dX12_addCommand_99 : decode cX12_addCommand 99 = .ok (.iadd, 1) := by decide +kernel
theorem dX12_addCommand_100 : decode cX12_addCommand 100 = .ok (.iload_n 1, 1) := by decide +kernel
theorem dX12_addCommand_101 : decode cX12_addCommand 101 = .ok (.iconst 1, 1) := by decide +kernel
theorem dX12_addCommand_102 : decode cX12_addCommand 102 = .ok (.if_icmp .ne 7, 3) := by decide +kernel
theorem dX12_addCommand_109 : decode cX12_addCommand 109 = .ok (.iconst (-1), 1) := by decide +kernel
theorem dX12_addCommand_110 : decode cX12_addCommand 110 = .ok (.iastore, 1) := by decide +kernel
theorem rl8 : ∀ z0, z0 < 40 → bd (35 + 3 * z0) = ((-1), 5) := by decide +kernel
theorem dX12_addCommand_111 : decode cX12_addCommand 111 = .ok (.aload_n 0, 1) := by decide +kernel
theorem dX12_addCommand_112 : decode cX12_addCommand 112 = .ok (.getfield 9, 3) := by decide +kernel
theorem dX12_addCommand_115 : decode cX12_addCommand 115 = .ok (.iload_n 3, 1) := by decide +kernel
theorem dX12_addCommand_116 : decode cX12_addCommand 116 = .ok (.iconst 2, 1) := by decide +kernel
theorem dX12_addCommand_117 : decode cX12_addCommand 117 = .ok (.iadd, 1) := by decide +kernel
theorem dX12_addCommand_118 : decode cX12_addCommand 118 = .ok (.iconst 0, 1) := by decide +kernel
theorem dX12_addCommand_119 : decode cX12_addCommand 119 = .ok (.iastore, 1) := by decide +kernel
theorem rl9 : ∀ z0, z0 < 40 → bd (36 + 3 * z0) = FREE := by decide +kernel
theorem dX12_addCommand_120 : decode cX12_addCommand 120 = .ok (.aload_n 0, 1) := by decide +kernel
theorem dX12_addCommand_121 : decode cX12_addCommand 121 = .ok (.getfield 9, 3) := by decide +kernel
theorem dX12_addCommand_124 : decode cX12_addCommand 124 = .ok (.iconst 1, 1) := by decide +kernel
theorem dX12_addCommand_125 : decode cX12_addCommand 125 = .ok (.dup2, 1) := by decide +kernel
theorem dX12_addCommand_126 : decode cX12_addCommand 126 = .ok (.iaload, 1) := by decide +kernel
theorem dX12_addCommand_127 : decode cX12_addCommand 127 = .ok (.iconst 1, 1) := by decide +kernel
theorem dX12_addCommand_128 : decode cX12_addCommand 128 = .ok (.iadd, 1) := by decide +kernel
theorem dX12_addCommand_129 : decode cX12_addCommand 129 = .ok (.iastore, 1) := by decide +kernel
theorem dX12_addCommand_130 : decode cX12_addCommand 130 = .ok (.aload_n 0, 1) := by decide +kernel
theorem dX12_addCommand_131 : decode cX12_addCommand 131 = .ok (.getfield 9, 3) := by decide +kernel
theorem dX12_addCommand_134 : decode cX12_addCommand 134 = .ok (.iconst 1, 1) := by decide +kernel
theorem dX12_addCommand_135 : decode cX12_addCommand 135 = .ok (.iaload, 1) := by decide +kernel
theorem dX12_addCommand_136 : decode cX12_addCommand 136 = .ok (.iconst 1, 1) := by decide +kernel
theorem dX12_addCommand_137 : decode cX12_addCommand 137 = .ok (.isub, 1) := by decide +kernel
theorem dX12_addCommand_138 : decode cX12_addCommand 138 = .ok (.ireturn, 1) := by decide +kernel
theorem dX12_addCommand_105 : decode cX12_addCommand 105 = .ok (.iload_n 2, 1) := by decide +kernel
theorem dX12_addCommand_106 : decode cX12_addCommand 106 = .ok (.goto 4, 3) := by decide +kernel
theorem dX12_addCommand_69 : decode cX12_addCommand 69 = .ok (.bipush (-2), 2) := by decide +kernel
theorem dX12_addCommand_71 : decode cX12_addCommand 71 = .ok (.ireturn, 1) := by decide +kernel
theorem dX12_addCommand_36 : decode cX12_addCommand 36 = .ok (.aload_n 0, 1) := by decide +kernel
theorem dX12_addCommand_37 : decode cX12_addCommand 37 = .ok (.iload_n 2, 1) := by decide +kernel
theorem dX12_addCommand_38 : decode cX12_addCommand 38 = .ok (.invokevirtual 91, 3) := by decide +kernel
theorem dX12_addCommand_41 : decode cX12_addCommand 41 = .ok (.ifCond .ne 7, 3) := by decide +kernel
theorem dX12_addCommand_44 : decode cX12_addCommand 44 = .ok (.iconst 1, 1) := by decide +kernel
theorem dX12_addCommand_45 : decode cX12_addCommand 45 = .ok (.goto 4, 3) := by decide +kernel
set_option maxRecDepth 100000 in
set_option maxHeartbeats 4000000 in
theorem rX12_addCommand (l : Launch) (D : va_G) (Y : Nat → ClassId) (h0 : Nat) (h1 : Nat) (h2 : Nat) (h3 : Nat) (h4 : Nat) (h5 : Nat) (h6 : Nat) (p2 : Int32) (k5 : Nat) (k6 : Nat) (p7 : Int32) (p8 : Int32) (p9 : Int32) (k10 : Nat) (p11 : Int32) (q12 : Int64) (k15 : Nat) (k16 : Nat) (f0 : Nat → Int32) (f1 : Nat → Int32) (f3 : Nat → Int32) (f4 : Nat → Int32) (f13 : Nat → Int32) (f14 : Nat → Int32) (HI : INV f0) (HL : k5 ≤ 1600) (HP : PLV f13) (s0 : Int32) (s1 : Int32)  (sz : Nat) : Met l yX12_addCommand (WSm yX12_addCommand cX12_addCommand 4 (some .int)) (mkR 2 0 0 46) (PreC D Y [.ref h0, .int s0, .int s1] [(h0, oC 13 [.ref h1, .ref h2, .int p2, .ref h3, .ref h4, .int (nI k5), .int (nI k6), .int p7, .int p8, .int p9, .int (nI k10), .int p11, .long q12, .ref h5, .ref h6, .int (nI k15), .int (nI k16)]), (h1, aI Y 3640 f0), (h2, aZ Y 2 f1), (h3, aZ Y 80 f3), (h4, aB Y 1600 f4), (h5, aI Y 200 f13), (h6, aI Y 800 f14)] sz) (QI D (fun (r : Int32) (u : WU) => INV (u.2.2.2.1 0)) (fun (u : WU) => [(h0, oC 13 [.ref h1, .ref h2, .int (u.2.1 0), .ref h3, .ref h4, .int (nI k5), .int (nI k6), .int p7, .int p8, .int p9, .int (nI k10), .int p11, .long q12, .ref h5, .ref h6, .int (nI k15), .int (nI k16)]), (h1, aI Y 3640 (u.2.2.2.1 0)), (h2, aZ Y 2 f1), (h3, aZ Y 80 f3), (h4, aB Y 1600 f4), (h5, aI Y 200 f13), (h6, aI Y 800 f14)]) (va_A [(h0, oC 13 [.ref h1, .ref h2, .int p2, .ref h3, .ref h4, .int (nI k5), .int (nI k6), .int p7, .int p8, .int p9, .int (nI k10), .int p11, .long q12, .ref h5, .ref h6, .int (nI k15), .int (nI k16)]), (h1, aI Y 3640 f0), (h2, aZ Y 2 f1), (h3, aZ Y 80 f3), (h4, aB Y 1600 f4), (h5, aI Y 200 f13), (h6, aI Y 800 f14)] sz)) 0 0 (va_A [(h0, oC 13 [.ref h1, .ref h2, .int p2, .ref h3, .ref h4, .int (nI k5), .int (nI k6), .int p7, .int p8, .int p9, .int (nI k10), .int p11, .long q12, .ref h5, .ref h6, .int (nI k15), .int (nI k16)]), (h1, aI Y 3640 f0), (h2, aZ Y 2 f1), (h3, aZ Y 80 f3), (h4, aB Y 1600 f4), (h5, aI Y 200 f13), (h6, aI Y 800 f14)] sz) :=
  met_of (by decide +kernel) (Nat.le_of_ble_eq_true rfl) (fun p e s m args below meth c B hin hsz => by
    have B : VB p s m args meth c D Y (va_A [(h0, oC 13 [.ref h1, .ref h2, .int p2, .ref h3, .ref h4, .int (nI k5), .int (nI k6), .int p7, .int p8, .int p9, .int (nI k10), .int p11, .long q12, .ref h5, .ref h6, .int (nI k15), .int (nI k16)]), (h1, aI Y 3640 f0), (h2, aZ Y 2 f1), (h3, aZ Y 80 f3), (h4, aB Y 1600 f4), (h5, aI Y 200 f13), (h6, aI Y 800 f14)] sz) cX12_addCommand 4 RX12 (some .int) := B
    refine V_aload_n 0 B dX12_addCommand_0 0 rfl ?_
    refine V_iconst 1 B (v := 0) dX12_addCommand_1 (by decide +kernel) ?_
    refine V_put 2 B gp_RX12_38 0 rfl (Nat.le_of_ble_eq_true rfl) rfl rfl dX12_addCommand_2 [(h0, oC 13 [.ref h1, .ref h2, .int 0, .ref h3, .ref h4, .int (nI k5), .int (nI k6), .int p7, .int p8, .int p9, .int (nI k10), .int p11, .long q12, .ref h5, .ref h6, .int (nI k15), .int (nI k16)]), (h1, aI Y 3640 f0), (h2, aZ Y 2 f1), (h3, aZ Y 80 f3), (h4, aB Y 1600 f4), (h5, aI Y 200 f13), (h6, aI Y 800 f14)] rfl ?_
    refine V_aload_n 5 B dX12_addCommand_5 0 rfl ?_
    refine V_iload_n 6 B dX12_addCommand_6 1 rfl ?_
    refine V_i2l 7 B dX12_addCommand_7 rfl ?_
    refine V_nml (fun o0 e1 => ?_)
    have x2 : o0.toInt = s0.toInt := by rw [e1, Int32.toInt_toInt64]
    refine V_lconst 8 B (v := 0) dX12_addCommand_8 (by decide +kernel) ?_
    refine V_ldc2 9 B (v := 2) dX12_addCommand_9 (mT8 41 rfl rfl) ?_
    refine V_csi 12 B (st := [.ref h0]) (As := [.long o0, .long 0, .long 2]) (fun sz => rX12_inRange l D Y o0 0 2 sz) glS_RX12_41 ⟨rfl, rfl⟩ ⟨(Nat.le_of_ble_eq_true rfl), (Nat.le_of_ble_eq_true rfl)⟩ ⟨(Nat.le_of_ble_eq_true rfl), (Nat.le_of_ble_eq_true rfl)⟩ [] rfl rfl (Nat.le_of_ble_eq_true rfl) rfl (fun _ _ _ => rfl) dX12_addCommand_12 (fun j3 u4 w5 => ?_)
    refine V_ws [(h0, oC 13 [.ref h1, .ref h2, .int 0, .ref h3, .ref h4, .int (nI k5), .int (nI k6), .int p7, .int p8, .int p9, .int (nI k10), .int p11, .long q12, .ref h5, .ref h6, .int (nI k15), .int (nI k16)]), (h1, aI Y 3640 f0), (h2, aZ Y 2 f1), (h3, aZ Y 80 f3), (h4, aB Y 1600 f4), (h5, aI Y 200 f13), (h6, aI Y 800 f14)] rfl ?_
    rcases w5 with rfl | ⟨rfl, x6, x7⟩
    ·
      refine V_if_ne_f 15 B 22 dX12_addCommand_15 (by decide) (by decide +kernel) ?_
      refine V_iconst 18 B (v := 1) dX12_addCommand_18 (by decide +kernel) ?_
      refine V_goto 19 B 23 dX12_addCommand_19 (by decide) ?_
      refine V_iconst 23 B (v := 1) dX12_addCommand_23 (by decide +kernel) ?_
      refine V_cvi 24 B (st := []) (As := [.int 1, .int 1]) (fun sz => rX12_throwsIf_1 l D Y h0 h1 h2 h3 h4 h5 h6 0 k5 k6 p7 p8 p9 k10 p11 q12 k15 k16 f0 f1 f3 f4 f13 f14 HI (by omega) HP 1 sz) glV_RX12_69 ⟨rfl, rfl⟩ ⟨(Nat.le_of_ble_eq_true rfl), (Nat.le_of_ble_eq_true rfl)⟩ ⟨(Nat.le_of_ble_eq_true rfl), (Nat.le_of_ble_eq_true rfl)⟩ [0, 0, 0, 0, 0, 0, 0] rfl 13 0 rfl rfl rfl rfl (Nat.le_of_ble_eq_true rfl) rfl (fun _ _ _ => rfl) dX12_addCommand_24 (fun j8 u9 w10 => ?_)
      refine V_ws [(h0, oC 13 [.ref h1, .ref h2, .int (u9.2.1 0), .ref h3, .ref h4, .int (nI k5), .int (nI k6), .int p7, .int p8, .int p9, .int (nI k10), .int p11, .long q12, .ref h5, .ref h6, .int (nI k15), .int (nI k16)]), (h1, aI Y 3640 f0), (h2, aZ Y 2 f1), (h3, aZ Y 80 f3), (h4, aB Y 1600 f4), (h5, aI Y 200 f13), (h6, aI Y 800 f14)] rfl ?_
      have x11 := w10
      obtain rfl := x11
      refine V_if_ne_t 27 B 56 dX12_addCommand_27 (by decide) (by decide +kernel) ?_
      refine V_iconst 56 B (v := 0) dX12_addCommand_56 (by decide +kernel) ?_
      exact V_iret 57 B dX12_addCommand_57 (mkW [] [(u9.2.1 0)] [] [f0] [] []) HI rfl
    ·
      rw [show (0 : Int64).toInt = 0 by decide +kernel] at x6
      rw [show (2 : Int64).toInt = 2 by decide +kernel] at x7
      refine V_if_ne_t 15 B 22 dX12_addCommand_15 (by decide) (by decide +kernel) ?_
      refine V_iconst 22 B (v := 0) dX12_addCommand_22 (by decide +kernel) ?_
      refine V_iconst 23 B (v := 1) dX12_addCommand_23 (by decide +kernel) ?_
      refine V_cvi 24 B (st := []) (As := [.int 0, .int 1]) (fun sz => rX12_throwsIf_0 l D Y h0 h1 h2 h3 h4 h5 h6 0 k5 k6 p7 p8 p9 k10 p11 q12 k15 k16 f0 f1 f3 f4 f13 f14 HI (by omega) HP 1 sz) glV_RX12_69 ⟨rfl, rfl⟩ ⟨(Nat.le_of_ble_eq_true rfl), (Nat.le_of_ble_eq_true rfl)⟩ ⟨(Nat.le_of_ble_eq_true rfl), (Nat.le_of_ble_eq_true rfl)⟩ [0, 0, 0, 0, 0, 0, 0] rfl 13 0 rfl rfl rfl rfl (Nat.le_of_ble_eq_true rfl) rfl (fun _ _ _ => rfl) dX12_addCommand_24 (fun j12 u13 w14 => ?_)
      refine V_ws [(h0, oC 13 [.ref h1, .ref h2, .int (u13.2.1 0), .ref h3, .ref h4, .int (nI k5), .int (nI k6), .int p7, .int p8, .int p9, .int (nI k10), .int p11, .long q12, .ref h5, .ref h6, .int (nI k15), .int (nI k16)]), (h1, aI Y 3640 f0), (h2, aZ Y 2 f1), (h3, aZ Y 80 f3), (h4, aB Y 1600 f4), (h5, aI Y 200 f13), (h6, aI Y 800 f14)] rfl ?_
      have x15 := w14
      obtain rfl := x15
      refine V_if_ne_f 27 B 56 dX12_addCommand_27 (by decide) (by decide +kernel) ?_
      refine V_aload_n 30 B dX12_addCommand_30 0 rfl ?_
      refine V_iload_n 31 B dX12_addCommand_31 1 rfl ?_
      refine V_iconst 32 B (v := 1) dX12_addCommand_32 (by decide +kernel) ?_
      refine V_icmp_ne 33 B 48 dX12_addCommand_33 (by decide) (fun kk16 => ?_) (fun kk16 => ?_)
      ·
        have x17 := x_ne kk16
        rw [show (1 : Int32).toInt = 1 by decide +kernel] at x17
        refine V_iconst 48 B (v := 0) dX12_addCommand_48 (by decide +kernel) ?_
        refine V_iconst 49 B (v := 2) dX12_addCommand_49 (by decide +kernel) ?_
        refine V_cvi 50 B (st := []) (As := [.int 0, .int 2]) (fun sz => rX12_throwsIf_0 l D Y h0 h1 h2 h3 h4 h5 h6 (u13.2.1 0) k5 k6 p7 p8 p9 k10 p11 q12 k15 k16 f0 f1 f3 f4 f13 f14 HI (by omega) HP 2 sz) glV_RX12_69 ⟨rfl, rfl⟩ ⟨(Nat.le_of_ble_eq_true rfl), (Nat.le_of_ble_eq_true rfl)⟩ ⟨(Nat.le_of_ble_eq_true rfl), (Nat.le_of_ble_eq_true rfl)⟩ [0, 0, 0, 0, 0, 0, 0] rfl 13 0 rfl rfl rfl rfl (Nat.le_of_ble_eq_true rfl) rfl (fun _ _ _ => rfl) dX12_addCommand_50 (fun j18 u19 w20 => ?_)
        refine V_ws [(h0, oC 13 [.ref h1, .ref h2, .int (u19.2.1 0), .ref h3, .ref h4, .int (nI k5), .int (nI k6), .int p7, .int p8, .int p9, .int (nI k10), .int p11, .long q12, .ref h5, .ref h6, .int (nI k15), .int (nI k16)]), (h1, aI Y 3640 f0), (h2, aZ Y 2 f1), (h3, aZ Y 80 f3), (h4, aB Y 1600 f4), (h5, aI Y 200 f13), (h6, aI Y 800 f14)] rfl ?_
        have x21 := w20
        obtain rfl := x21
        refine V_if_eq_t 53 B 58 dX12_addCommand_53 (by decide) (by decide +kernel) ?_
        refine V_aload_n 58 B dX12_addCommand_58 0 rfl ?_
        refine V_get 59 B gf_RX12_9 0 rfl rfl dX12_addCommand_59 ?_
        refine V_iconst 62 B (v := 1) dX12_addCommand_62 (by decide +kernel) ?_
        have x22 : (gN f0 1) ≤ 40 := gN_le HI (by omega) (show bd 1 = (0, ((40 : Nat) : Int)) by decide +kernel)
        refine V_iald 63 B (v := (nI (gN f0 1))) 1 rfl (vpin _ _ (by decide +kernel)) dX12_addCommand_63 (by show f0 1 = _; exact gN_eq HI (by omega) (show bd 1 = (0, ((40 : Nat) : Int)) by decide +kernel)) ?_
        refine V_bipush 64 B (v := 40) dX12_addCommand_64 (by decide +kernel) ?_
        refine V_icmp_ne 66 B 72 dX12_addCommand_66 (by decide) (fun kk23 => ?_) (fun kk23 => ?_)
        ·
          have x24 := n_ne (a := (gN f0 1)) (b := 40) kk23
          refine V_bipush 72 B (v := 34) dX12_addCommand_72 (by decide +kernel) ?_
          refine V_iconst 74 B (v := 3) dX12_addCommand_74 (by decide +kernel) ?_
          refine V_aload_n 75 B dX12_addCommand_75 0 rfl ?_
          refine V_get 76 B gf_RX12_9 0 rfl rfl dX12_addCommand_76 ?_
          refine V_iconst 79 B (v := 1) dX12_addCommand_79 (by decide +kernel) ?_
          have x25 : (gN f0 1) ≤ 40 := gN_le HI (by omega) (show bd 1 = (0, ((40 : Nat) : Int)) by decide +kernel)
          refine V_iald 80 B (v := (nI (gN f0 1))) 1 rfl (vpin _ _ (by decide +kernel)) dX12_addCommand_80 (by show f0 1 = _; exact gN_eq HI (by omega) (show bd 1 = (0, ((40 : Nat) : Int)) by decide +kernel)) ?_
          refine V_imul 81 B (v := (nI (3 * (gN f0 1)))) dX12_addCommand_81 (nI_mulE (a := 3) (b := (gN f0 1)) (by omega)) ?_
          refine V_iadd 82 B (v := (nI (34 + 3 * (gN f0 1)))) dX12_addCommand_82 (nI_addE (a := 34) (b := 3 * (gN f0 1)) (by omega)) ?_
          refine V_istore_n 83 B (lv2 := [(3, .int (nI (34 + 3 * (gN f0 1)))), (0, .ref h0), (1, .int s0), (2, .int s1)]) dX12_addCommand_83 (by decide) rfl ?_
          refine V_aload_n 84 B dX12_addCommand_84 1 rfl ?_
          refine V_get 85 B gf_RX12_9 0 rfl rfl dX12_addCommand_85 ?_
          refine V_iload_n 88 B dX12_addCommand_88 0 rfl ?_
          refine V_iconst 89 B (v := 0) dX12_addCommand_89 (by decide +kernel) ?_
          refine V_iadd 90 B (v := (nI (34 + 3 * (gN f0 1)))) dX12_addCommand_90 (nI_addE (a := 34 + 3 * (gN f0 1)) (b := 0) (by omega)) ?_
          refine V_iload_n 91 B dX12_addCommand_91 2 rfl ?_
          have hv26 : INV (upd f0 (34 + 3 * (gN f0 1)) s0) := INV_free HI (rl7 (gN f0 1) (by omega))
          refine V_iast 92 B 1 rfl (vp_in_nI (n := 34 + 3 * (gN f0 1)) (by omega) (by decide)) dX12_addCommand_92 [(h0, oC 13 [.ref h1, .ref h2, .int (u19.2.1 0), .ref h3, .ref h4, .int (nI k5), .int (nI k6), .int p7, .int p8, .int p9, .int (nI k10), .int p11, .long q12, .ref h5, .ref h6, .int (nI k15), .int (nI k16)]), (h1, aI Y 3640 (upd f0 (34 + 3 * (gN f0 1)) s0)), (h2, aZ Y 2 f1), (h3, aZ Y 80 f3), (h4, aB Y 1600 f4), (h5, aI Y 200 f13), (h6, aI Y 800 f14)] (by rw [nI_clamp (show 34 + 3 * (gN f0 1) < 2 ^ 31 by omega)]; rfl) ?_
          refine V_aload_n 93 B dX12_addCommand_93 1 rfl ?_
          refine V_get 94 B gf_RX12_9 0 rfl rfl dX12_addCommand_94 ?_
          refine V_iload_n 97 B dX12_addCommand_97 0 rfl ?_
          refine V_iconst 98 B (v := 1) dX12_addCommand_98 (by decide +kernel) ?_
          refine V_iadd 99 B (v := (nI (35 + 3 * (gN f0 1)))) dX12_addCommand_99 (nI_addE (a := 34 + 3 * (gN f0 1)) (b := 1) (by omega)) ?_
          refine V_iload_n 100 B dX12_addCommand_100 2 rfl ?_
          refine V_iconst 101 B (v := 1) dX12_addCommand_101 (by decide +kernel) ?_
          refine V_icmp_ne 102 B 109 dX12_addCommand_102 (by decide) (fun kk27 => ?_) (fun kk27 => ?_)
          ·
            have x28 := x_ne kk27
            rw [show (1 : Int32).toInt = 1 by decide +kernel] at x28
            refine V_iconst 109 B (v := (-1)) dX12_addCommand_109 (by decide +kernel) ?_
            have hv29 : INV (upd (upd f0 (34 + 3 * (gN f0 1)) s0) (35 + 3 * (gN f0 1)) (-1)) := INV_upd hv26 (rl8 (gN f0 1) (by omega)) (by decide +kernel) (by decide +kernel)
            refine V_iast 110 B 1 rfl (vp_in_nI (n := 35 + 3 * (gN f0 1)) (by omega) (by decide)) dX12_addCommand_110 [(h0, oC 13 [.ref h1, .ref h2, .int (u19.2.1 0), .ref h3, .ref h4, .int (nI k5), .int (nI k6), .int p7, .int p8, .int p9, .int (nI k10), .int p11, .long q12, .ref h5, .ref h6, .int (nI k15), .int (nI k16)]), (h1, aI Y 3640 (upd (upd f0 (34 + 3 * (gN f0 1)) s0) (35 + 3 * (gN f0 1)) (-1))), (h2, aZ Y 2 f1), (h3, aZ Y 80 f3), (h4, aB Y 1600 f4), (h5, aI Y 200 f13), (h6, aI Y 800 f14)] (by rw [nI_clamp (show 35 + 3 * (gN f0 1) < 2 ^ 31 by omega)]; rfl) ?_
            refine V_aload_n 111 B dX12_addCommand_111 1 rfl ?_
            refine V_get 112 B gf_RX12_9 0 rfl rfl dX12_addCommand_112 ?_
            refine V_iload_n 115 B dX12_addCommand_115 0 rfl ?_
            refine V_iconst 116 B (v := 2) dX12_addCommand_116 (by decide +kernel) ?_
            refine V_iadd 117 B (v := (nI (36 + 3 * (gN f0 1)))) dX12_addCommand_117 (nI_addE (a := 34 + 3 * (gN f0 1)) (b := 2) (by omega)) ?_
            refine V_iconst 118 B (v := 0) dX12_addCommand_118 (by decide +kernel) ?_
            have hv30 : INV (upd (upd (upd f0 (34 + 3 * (gN f0 1)) s0) (35 + 3 * (gN f0 1)) (-1)) (36 + 3 * (gN f0 1)) 0) := INV_free hv29 (rl9 (gN f0 1) (by omega))
            refine V_iast 119 B 1 rfl (vp_in_nI (n := 36 + 3 * (gN f0 1)) (by omega) (by decide)) dX12_addCommand_119 [(h0, oC 13 [.ref h1, .ref h2, .int (u19.2.1 0), .ref h3, .ref h4, .int (nI k5), .int (nI k6), .int p7, .int p8, .int p9, .int (nI k10), .int p11, .long q12, .ref h5, .ref h6, .int (nI k15), .int (nI k16)]), (h1, aI Y 3640 (upd (upd (upd f0 (34 + 3 * (gN f0 1)) s0) (35 + 3 * (gN f0 1)) (-1)) (36 + 3 * (gN f0 1)) 0)), (h2, aZ Y 2 f1), (h3, aZ Y 80 f3), (h4, aB Y 1600 f4), (h5, aI Y 200 f13), (h6, aI Y 800 f14)] (by rw [nI_clamp (show 36 + 3 * (gN f0 1) < 2 ^ 31 by omega)]; rfl) ?_
            refine V_aload_n 120 B dX12_addCommand_120 1 rfl ?_
            refine V_get 121 B gf_RX12_9 0 rfl rfl dX12_addCommand_121 ?_
            refine V_iconst 124 B (v := 1) dX12_addCommand_124 (by decide +kernel) ?_
            refine V_dup2_11 125 B dX12_addCommand_125 rfl rfl ?_
            have x31 : (gN f0 1) ≤ 40 := gN_le HI (by omega) (show bd 1 = (0, ((40 : Nat) : Int)) by decide +kernel)
            refine V_iald 126 B (v := (nI (gN f0 1))) 1 rfl (vpin _ _ (by decide +kernel)) dX12_addCommand_126 (by show (upd (upd (upd f0 (34 + 3 * (gN f0 1)) s0) (35 + 3 * (gN f0 1)) (-1)) (36 + 3 * (gN f0 1)) 0) 1 = _; rw [upd_ne (by omega)]; rw [upd_ne (by omega)]; rw [upd_ne (by omega)]; exact gN_eq HI (by omega) (show bd 1 = (0, ((40 : Nat) : Int)) by decide +kernel)) ?_
            refine V_iconst 127 B (v := 1) dX12_addCommand_127 (by decide +kernel) ?_
            refine V_iadd 128 B (v := (nI (1 + (gN f0 1)))) dX12_addCommand_128 (nI_addE (a := (gN f0 1)) (b := 1) (by omega)) ?_
            have hv32 : INV (upd (upd (upd (upd f0 (34 + 3 * (gN f0 1)) s0) (35 + 3 * (gN f0 1)) (-1)) (36 + 3 * (gN f0 1)) 0) 1 (nI (1 + (gN f0 1)))) := INV_nat (v := 1 + (gN f0 1)) hv30 (show bd 1 = (0, ((40 : Nat) : Int)) by decide +kernel) (by omega) (by decide)
            refine V_iast 129 B 1 rfl (vpin _ _ (by decide +kernel)) dX12_addCommand_129 [(h0, oC 13 [.ref h1, .ref h2, .int (u19.2.1 0), .ref h3, .ref h4, .int (nI k5), .int (nI k6), .int p7, .int p8, .int p9, .int (nI k10), .int p11, .long q12, .ref h5, .ref h6, .int (nI k15), .int (nI k16)]), (h1, aI Y 3640 (upd (upd (upd (upd f0 (34 + 3 * (gN f0 1)) s0) (35 + 3 * (gN f0 1)) (-1)) (36 + 3 * (gN f0 1)) 0) 1 (nI (1 + (gN f0 1))))), (h2, aZ Y 2 f1), (h3, aZ Y 80 f3), (h4, aB Y 1600 f4), (h5, aI Y 200 f13), (h6, aI Y 800 f14)] rfl ?_
            refine V_aload_n 130 B dX12_addCommand_130 1 rfl ?_
            refine V_get 131 B gf_RX12_9 0 rfl rfl dX12_addCommand_131 ?_
            refine V_iconst 134 B (v := 1) dX12_addCommand_134 (by decide +kernel) ?_
            refine V_iald 135 B (v := (nI (1 + (gN f0 1)))) 1 rfl (vpin _ _ (by decide +kernel)) dX12_addCommand_135 (by show (upd (upd (upd (upd f0 (34 + 3 * (gN f0 1)) s0) (35 + 3 * (gN f0 1)) (-1)) (36 + 3 * (gN f0 1)) 0) 1 (nI (1 + (gN f0 1)))) 1 = _; exact upd_at) ?_
            refine V_iconst 136 B (v := 1) dX12_addCommand_136 (by decide +kernel) ?_
            refine V_isub 137 B (v := (nI (gN f0 1))) dX12_addCommand_137 (nI_subE (a := 1 + (gN f0 1)) (b := 1) (by omega)) ?_
            exact V_iret 138 B dX12_addCommand_138 (mkW [] [(u19.2.1 0)] [] [(upd (upd (upd (upd f0 (34 + 3 * (gN f0 1)) s0) (35 + 3 * (gN f0 1)) (-1)) (36 + 3 * (gN f0 1)) 0) 1 (nI (1 + (gN f0 1))))] [] []) hv32 rfl
          ·
            obtain rfl : s0 = 1 := kk27
            have e34 : (1 : Int32).toInt = 1 := by decide +kernel
            refine V_iload_n 105 B dX12_addCommand_105 3 rfl ?_
            refine V_goto 106 B 110 dX12_addCommand_106 (by decide) ?_
            have hv35 : INV (upd (upd f0 (34 + 3 * (gN f0 1)) 1) (35 + 3 * (gN f0 1)) s1) := INV_upd hv26 (rl8 (gN f0 1) (by omega)) (by omega) (by omega)
            refine V_iast 110 B 1 rfl (vp_in_nI (n := 35 + 3 * (gN f0 1)) (by omega) (by decide)) dX12_addCommand_110 [(h0, oC 13 [.ref h1, .ref h2, .int (u19.2.1 0), .ref h3, .ref h4, .int (nI k5), .int (nI k6), .int p7, .int p8, .int p9, .int (nI k10), .int p11, .long q12, .ref h5, .ref h6, .int (nI k15), .int (nI k16)]), (h1, aI Y 3640 (upd (upd f0 (34 + 3 * (gN f0 1)) 1) (35 + 3 * (gN f0 1)) s1)), (h2, aZ Y 2 f1), (h3, aZ Y 80 f3), (h4, aB Y 1600 f4), (h5, aI Y 200 f13), (h6, aI Y 800 f14)] (by rw [nI_clamp (show 35 + 3 * (gN f0 1) < 2 ^ 31 by omega)]; rfl) ?_
            refine V_aload_n 111 B dX12_addCommand_111 1 rfl ?_
            refine V_get 112 B gf_RX12_9 0 rfl rfl dX12_addCommand_112 ?_
            refine V_iload_n 115 B dX12_addCommand_115 0 rfl ?_
            refine V_iconst 116 B (v := 2) dX12_addCommand_116 (by decide +kernel) ?_
            refine V_iadd 117 B (v := (nI (36 + 3 * (gN f0 1)))) dX12_addCommand_117 (nI_addE (a := 34 + 3 * (gN f0 1)) (b := 2) (by omega)) ?_
            refine V_iconst 118 B (v := 0) dX12_addCommand_118 (by decide +kernel) ?_
            have hv36 : INV (upd (upd (upd f0 (34 + 3 * (gN f0 1)) 1) (35 + 3 * (gN f0 1)) s1) (36 + 3 * (gN f0 1)) 0) := INV_free hv35 (rl9 (gN f0 1) (by omega))
            refine V_iast 119 B 1 rfl (vp_in_nI (n := 36 + 3 * (gN f0 1)) (by omega) (by decide)) dX12_addCommand_119 [(h0, oC 13 [.ref h1, .ref h2, .int (u19.2.1 0), .ref h3, .ref h4, .int (nI k5), .int (nI k6), .int p7, .int p8, .int p9, .int (nI k10), .int p11, .long q12, .ref h5, .ref h6, .int (nI k15), .int (nI k16)]), (h1, aI Y 3640 (upd (upd (upd f0 (34 + 3 * (gN f0 1)) 1) (35 + 3 * (gN f0 1)) s1) (36 + 3 * (gN f0 1)) 0)), (h2, aZ Y 2 f1), (h3, aZ Y 80 f3), (h4, aB Y 1600 f4), (h5, aI Y 200 f13), (h6, aI Y 800 f14)] (by rw [nI_clamp (show 36 + 3 * (gN f0 1) < 2 ^ 31 by omega)]; rfl) ?_
            refine V_aload_n 120 B dX12_addCommand_120 1 rfl ?_
            refine V_get 121 B gf_RX12_9 0 rfl rfl dX12_addCommand_121 ?_
            refine V_iconst 124 B (v := 1) dX12_addCommand_124 (by decide +kernel) ?_
            refine V_dup2_11 125 B dX12_addCommand_125 rfl rfl ?_
            have x37 : (gN f0 1) ≤ 40 := gN_le HI (by omega) (show bd 1 = (0, ((40 : Nat) : Int)) by decide +kernel)
            refine V_iald 126 B (v := (nI (gN f0 1))) 1 rfl (vpin _ _ (by decide +kernel)) dX12_addCommand_126 (by show (upd (upd (upd f0 (34 + 3 * (gN f0 1)) 1) (35 + 3 * (gN f0 1)) s1) (36 + 3 * (gN f0 1)) 0) 1 = _; rw [upd_ne (by omega)]; rw [upd_ne (by omega)]; rw [upd_ne (by omega)]; exact gN_eq HI (by omega) (show bd 1 = (0, ((40 : Nat) : Int)) by decide +kernel)) ?_
            refine V_iconst 127 B (v := 1) dX12_addCommand_127 (by decide +kernel) ?_
            refine V_iadd 128 B (v := (nI (1 + (gN f0 1)))) dX12_addCommand_128 (nI_addE (a := (gN f0 1)) (b := 1) (by omega)) ?_
            have hv38 : INV (upd (upd (upd (upd f0 (34 + 3 * (gN f0 1)) 1) (35 + 3 * (gN f0 1)) s1) (36 + 3 * (gN f0 1)) 0) 1 (nI (1 + (gN f0 1)))) := INV_nat (v := 1 + (gN f0 1)) hv36 (show bd 1 = (0, ((40 : Nat) : Int)) by decide +kernel) (by omega) (by decide)
            refine V_iast 129 B 1 rfl (vpin _ _ (by decide +kernel)) dX12_addCommand_129 [(h0, oC 13 [.ref h1, .ref h2, .int (u19.2.1 0), .ref h3, .ref h4, .int (nI k5), .int (nI k6), .int p7, .int p8, .int p9, .int (nI k10), .int p11, .long q12, .ref h5, .ref h6, .int (nI k15), .int (nI k16)]), (h1, aI Y 3640 (upd (upd (upd (upd f0 (34 + 3 * (gN f0 1)) 1) (35 + 3 * (gN f0 1)) s1) (36 + 3 * (gN f0 1)) 0) 1 (nI (1 + (gN f0 1))))), (h2, aZ Y 2 f1), (h3, aZ Y 80 f3), (h4, aB Y 1600 f4), (h5, aI Y 200 f13), (h6, aI Y 800 f14)] rfl ?_
            refine V_aload_n 130 B dX12_addCommand_130 1 rfl ?_
            refine V_get 131 B gf_RX12_9 0 rfl rfl dX12_addCommand_131 ?_
            refine V_iconst 134 B (v := 1) dX12_addCommand_134 (by decide +kernel) ?_
            refine V_iald 135 B (v := (nI (1 + (gN f0 1)))) 1 rfl (vpin _ _ (by decide +kernel)) dX12_addCommand_135 (by show (upd (upd (upd (upd f0 (34 + 3 * (gN f0 1)) 1) (35 + 3 * (gN f0 1)) s1) (36 + 3 * (gN f0 1)) 0) 1 (nI (1 + (gN f0 1)))) 1 = _; exact upd_at) ?_
            refine V_iconst 136 B (v := 1) dX12_addCommand_136 (by decide +kernel) ?_
            refine V_isub 137 B (v := (nI (gN f0 1))) dX12_addCommand_137 (nI_subE (a := 1 + (gN f0 1)) (b := 1) (by omega)) ?_
            exact V_iret 138 B dX12_addCommand_138 (mkW [] [(u19.2.1 0)] [] [(upd (upd (upd (upd f0 (34 + 3 * (gN f0 1)) 1) (35 + 3 * (gN f0 1)) s1) (36 + 3 * (gN f0 1)) 0) 1 (nI (1 + (gN f0 1))))] [] []) hv38 rfl
        ·
          have x39 := n_eq (a := (gN f0 1)) (b := 40) kk23 (by omega) (by omega)
          refine V_bipush 69 B (v := (-2)) dX12_addCommand_69 (by decide +kernel) ?_
          exact V_iret 71 B dX12_addCommand_71 (mkW [] [(u19.2.1 0)] [] [f0] [] []) HI rfl
      ·
        obtain rfl : s0 = 1 := kk16
        have e41 : (1 : Int32).toInt = 1 := by decide +kernel
        refine V_aload_n 36 B dX12_addCommand_36 0 rfl ?_
        refine V_iload_n 37 B dX12_addCommand_37 2 rfl ?_
        refine V_cvi 38 B (st := [.ref h0]) (As := [.int s1]) (fun sz => rX12_isMode l D Y h0 h1 h2 h3 h4 h5 h6 (u13.2.1 0) k5 k6 p7 p8 p9 k10 p11 q12 k15 k16 f0 f1 f3 f4 f13 f14 HI (by omega) HP s1 sz) glV_RX12_91 ⟨rfl, rfl⟩ ⟨(Nat.le_of_ble_eq_true rfl), (Nat.le_of_ble_eq_true rfl)⟩ ⟨(Nat.le_of_ble_eq_true rfl), (Nat.le_of_ble_eq_true rfl)⟩ [0, 0, 0, 0, 0, 0, 0] rfl 13 0 rfl rfl rfl rfl (Nat.le_of_ble_eq_true rfl) rfl (fun _ _ _ => rfl) dX12_addCommand_38 (fun j42 u43 w44 => ?_)
        refine V_ws [(h0, oC 13 [.ref h1, .ref h2, .int (u13.2.1 0), .ref h3, .ref h4, .int (nI k5), .int (nI k6), .int p7, .int p8, .int p9, .int (nI k10), .int p11, .long q12, .ref h5, .ref h6, .int (nI k15), .int (nI k16)]), (h1, aI Y 3640 f0), (h2, aZ Y 2 f1), (h3, aZ Y 80 f3), (h4, aB Y 1600 f4), (h5, aI Y 200 f13), (h6, aI Y 800 f14)] rfl ?_
        have x45 := w44
        have x49 : (gN f0 0) ≤ 6 := gN_le HI (by omega) (show bd 0 = (0, ((6 : Nat) : Int)) by decide +kernel)
        rcases x45 with rfl | ⟨rfl, n46, rfl, x48⟩
        ·
          refine V_if_ne_f 41 B 48 dX12_addCommand_41 (by decide) (by decide +kernel) ?_
          refine V_iconst 44 B (v := 1) dX12_addCommand_44 (by decide +kernel) ?_
          refine V_goto 45 B 49 dX12_addCommand_45 (by decide) ?_
          refine V_iconst 49 B (v := 2) dX12_addCommand_49 (by decide +kernel) ?_
          refine V_cvi 50 B (st := []) (As := [.int 1, .int 2]) (fun sz => rX12_throwsIf_1 l D Y h0 h1 h2 h3 h4 h5 h6 (u13.2.1 0) k5 k6 p7 p8 p9 k10 p11 q12 k15 k16 f0 f1 f3 f4 f13 f14 HI (by omega) HP 2 sz) glV_RX12_69 ⟨rfl, rfl⟩ ⟨(Nat.le_of_ble_eq_true rfl), (Nat.le_of_ble_eq_true rfl)⟩ ⟨(Nat.le_of_ble_eq_true rfl), (Nat.le_of_ble_eq_true rfl)⟩ [0, 0, 0, 0, 0, 0, 0] rfl 13 0 rfl rfl rfl rfl (Nat.le_of_ble_eq_true rfl) rfl (fun _ _ _ => rfl) dX12_addCommand_50 (fun j50 u51 w52 => ?_)
          refine V_ws [(h0, oC 13 [.ref h1, .ref h2, .int (u51.2.1 0), .ref h3, .ref h4, .int (nI k5), .int (nI k6), .int p7, .int p8, .int p9, .int (nI k10), .int p11, .long q12, .ref h5, .ref h6, .int (nI k15), .int (nI k16)]), (h1, aI Y 3640 f0), (h2, aZ Y 2 f1), (h3, aZ Y 80 f3), (h4, aB Y 1600 f4), (h5, aI Y 200 f13), (h6, aI Y 800 f14)] rfl ?_
          have x53 := w52
          obtain rfl := x53
          refine V_if_eq_f 53 B 58 dX12_addCommand_53 (by decide) (by decide +kernel) ?_
          refine V_iconst 56 B (v := 0) dX12_addCommand_56 (by decide +kernel) ?_
          exact V_iret 57 B dX12_addCommand_57 (mkW [] [(u51.2.1 0)] [] [f0] [] []) HI rfl
        ·
          have e54 := nI_toInt (show n46 < 2 ^ 31 by omega)
          have x55 : (gN f0 0) ≤ 6 := gN_le HI (by omega) (show bd 0 = (0, ((6 : Nat) : Int)) by decide +kernel)
          refine V_if_ne_t 41 B 48 dX12_addCommand_41 (by decide) (by decide +kernel) ?_
          refine V_iconst 48 B (v := 0) dX12_addCommand_48 (by decide +kernel) ?_
          refine V_iconst 49 B (v := 2) dX12_addCommand_49 (by decide +kernel) ?_
          refine V_cvi 50 B (st := []) (As := [.int 0, .int 2]) (fun sz => rX12_throwsIf_0 l D Y h0 h1 h2 h3 h4 h5 h6 (u13.2.1 0) k5 k6 p7 p8 p9 k10 p11 q12 k15 k16 f0 f1 f3 f4 f13 f14 HI (by omega) HP 2 sz) glV_RX12_69 ⟨rfl, rfl⟩ ⟨(Nat.le_of_ble_eq_true rfl), (Nat.le_of_ble_eq_true rfl)⟩ ⟨(Nat.le_of_ble_eq_true rfl), (Nat.le_of_ble_eq_true rfl)⟩ [0, 0, 0, 0, 0, 0, 0] rfl 13 0 rfl rfl rfl rfl (Nat.le_of_ble_eq_true rfl) rfl (fun _ _ _ => rfl) dX12_addCommand_50 (fun j56 u57 w58 => ?_)
          refine V_ws [(h0, oC 13 [.ref h1, .ref h2, .int (u57.2.1 0), .ref h3, .ref h4, .int (nI k5), .int (nI k6), .int p7, .int p8, .int p9, .int (nI k10), .int p11, .long q12, .ref h5, .ref h6, .int (nI k15), .int (nI k16)]), (h1, aI Y 3640 f0), (h2, aZ Y 2 f1), (h3, aZ Y 80 f3), (h4, aB Y 1600 f4), (h5, aI Y 200 f13), (h6, aI Y 800 f14)] rfl ?_
          have x59 := w58
          obtain rfl := x59
          refine V_if_eq_t 53 B 58 dX12_addCommand_53 (by decide) (by decide +kernel) ?_
          refine V_aload_n 58 B dX12_addCommand_58 0 rfl ?_
          refine V_get 59 B gf_RX12_9 0 rfl rfl dX12_addCommand_59 ?_
          refine V_iconst 62 B (v := 1) dX12_addCommand_62 (by decide +kernel) ?_
          have x60 : (gN f0 1) ≤ 40 := gN_le HI (by omega) (show bd 1 = (0, ((40 : Nat) : Int)) by decide +kernel)
          refine V_iald 63 B (v := (nI (gN f0 1))) 1 rfl (vpin _ _ (by decide +kernel)) dX12_addCommand_63 (by show f0 1 = _; exact gN_eq HI (by omega) (show bd 1 = (0, ((40 : Nat) : Int)) by decide +kernel)) ?_
          refine V_bipush 64 B (v := 40) dX12_addCommand_64 (by decide +kernel) ?_
          refine V_icmp_ne 66 B 72 dX12_addCommand_66 (by decide) (fun kk61 => ?_) (fun kk61 => ?_)
          ·
            have x62 := n_ne (a := (gN f0 1)) (b := 40) kk61
            refine V_bipush 72 B (v := 34) dX12_addCommand_72 (by decide +kernel) ?_
            refine V_iconst 74 B (v := 3) dX12_addCommand_74 (by decide +kernel) ?_
            refine V_aload_n 75 B dX12_addCommand_75 0 rfl ?_
            refine V_get 76 B gf_RX12_9 0 rfl rfl dX12_addCommand_76 ?_
            refine V_iconst 79 B (v := 1) dX12_addCommand_79 (by decide +kernel) ?_
            have x63 : (gN f0 1) ≤ 40 := gN_le HI (by omega) (show bd 1 = (0, ((40 : Nat) : Int)) by decide +kernel)
            refine V_iald 80 B (v := (nI (gN f0 1))) 1 rfl (vpin _ _ (by decide +kernel)) dX12_addCommand_80 (by show f0 1 = _; exact gN_eq HI (by omega) (show bd 1 = (0, ((40 : Nat) : Int)) by decide +kernel)) ?_
            refine V_imul 81 B (v := (nI (3 * (gN f0 1)))) dX12_addCommand_81 (nI_mulE (a := 3) (b := (gN f0 1)) (by omega)) ?_
            refine V_iadd 82 B (v := (nI (34 + 3 * (gN f0 1)))) dX12_addCommand_82 (nI_addE (a := 34) (b := 3 * (gN f0 1)) (by omega)) ?_
            refine V_istore_n 83 B (lv2 := [(3, .int (nI (34 + 3 * (gN f0 1)))), (0, .ref h0), (1, .int 1), (2, .int (nI n46))]) dX12_addCommand_83 (by decide) rfl ?_
            refine V_aload_n 84 B dX12_addCommand_84 1 rfl ?_
            refine V_get 85 B gf_RX12_9 0 rfl rfl dX12_addCommand_85 ?_
            refine V_iload_n 88 B dX12_addCommand_88 0 rfl ?_
            refine V_iconst 89 B (v := 0) dX12_addCommand_89 (by decide +kernel) ?_
            refine V_iadd 90 B (v := (nI (34 + 3 * (gN f0 1)))) dX12_addCommand_90 (nI_addE (a := 34 + 3 * (gN f0 1)) (b := 0) (by omega)) ?_
            refine V_iload_n 91 B dX12_addCommand_91 2 rfl ?_
            have hv64 : INV (upd f0 (34 + 3 * (gN f0 1)) 1) := INV_free HI (rl7 (gN f0 1) (by omega))
            refine V_iast 92 B 1 rfl (vp_in_nI (n := 34 + 3 * (gN f0 1)) (by omega) (by decide)) dX12_addCommand_92 [(h0, oC 13 [.ref h1, .ref h2, .int (u57.2.1 0), .ref h3, .ref h4, .int (nI k5), .int (nI k6), .int p7, .int p8, .int p9, .int (nI k10), .int p11, .long q12, .ref h5, .ref h6, .int (nI k15), .int (nI k16)]), (h1, aI Y 3640 (upd f0 (34 + 3 * (gN f0 1)) 1)), (h2, aZ Y 2 f1), (h3, aZ Y 80 f3), (h4, aB Y 1600 f4), (h5, aI Y 200 f13), (h6, aI Y 800 f14)] (by rw [nI_clamp (show 34 + 3 * (gN f0 1) < 2 ^ 31 by omega)]; rfl) ?_
            refine V_aload_n 93 B dX12_addCommand_93 1 rfl ?_
            refine V_get 94 B gf_RX12_9 0 rfl rfl dX12_addCommand_94 ?_
            refine V_iload_n 97 B dX12_addCommand_97 0 rfl ?_
            refine V_iconst 98 B (v := 1) dX12_addCommand_98 (by decide +kernel) ?_
            refine V_iadd 99 B (v := (nI (35 + 3 * (gN f0 1)))) dX12_addCommand_99 (nI_addE (a := 34 + 3 * (gN f0 1)) (b := 1) (by omega)) ?_
            refine V_iload_n 100 B dX12_addCommand_100 2 rfl ?_
            refine V_iconst 101 B (v := 1) dX12_addCommand_101 (by decide +kernel) ?_
            refine V_icmp_ne_f 102 B 109 dX12_addCommand_102 (by decide) (by decide +kernel) ?_
            refine V_iload_n 105 B dX12_addCommand_105 3 rfl ?_
            refine V_goto 106 B 110 dX12_addCommand_106 (by decide) ?_
            have hv65 : INV (upd (upd f0 (34 + 3 * (gN f0 1)) 1) (35 + 3 * (gN f0 1)) (nI n46)) := INV_upd hv64 (rl8 (gN f0 1) (by omega)) (by rw [nI_toInt (by omega)]; omega) (by rw [nI_toInt (by omega)]; omega)
            refine V_iast 110 B 1 rfl (vp_in_nI (n := 35 + 3 * (gN f0 1)) (by omega) (by decide)) dX12_addCommand_110 [(h0, oC 13 [.ref h1, .ref h2, .int (u57.2.1 0), .ref h3, .ref h4, .int (nI k5), .int (nI k6), .int p7, .int p8, .int p9, .int (nI k10), .int p11, .long q12, .ref h5, .ref h6, .int (nI k15), .int (nI k16)]), (h1, aI Y 3640 (upd (upd f0 (34 + 3 * (gN f0 1)) 1) (35 + 3 * (gN f0 1)) (nI n46))), (h2, aZ Y 2 f1), (h3, aZ Y 80 f3), (h4, aB Y 1600 f4), (h5, aI Y 200 f13), (h6, aI Y 800 f14)] (by rw [nI_clamp (show 35 + 3 * (gN f0 1) < 2 ^ 31 by omega)]; rfl) ?_
            refine V_aload_n 111 B dX12_addCommand_111 1 rfl ?_
            refine V_get 112 B gf_RX12_9 0 rfl rfl dX12_addCommand_112 ?_
            refine V_iload_n 115 B dX12_addCommand_115 0 rfl ?_
            refine V_iconst 116 B (v := 2) dX12_addCommand_116 (by decide +kernel) ?_
            refine V_iadd 117 B (v := (nI (36 + 3 * (gN f0 1)))) dX12_addCommand_117 (nI_addE (a := 34 + 3 * (gN f0 1)) (b := 2) (by omega)) ?_
            refine V_iconst 118 B (v := 0) dX12_addCommand_118 (by decide +kernel) ?_
            have hv66 : INV (upd (upd (upd f0 (34 + 3 * (gN f0 1)) 1) (35 + 3 * (gN f0 1)) (nI n46)) (36 + 3 * (gN f0 1)) 0) := INV_free hv65 (rl9 (gN f0 1) (by omega))
            refine V_iast 119 B 1 rfl (vp_in_nI (n := 36 + 3 * (gN f0 1)) (by omega) (by decide)) dX12_addCommand_119 [(h0, oC 13 [.ref h1, .ref h2, .int (u57.2.1 0), .ref h3, .ref h4, .int (nI k5), .int (nI k6), .int p7, .int p8, .int p9, .int (nI k10), .int p11, .long q12, .ref h5, .ref h6, .int (nI k15), .int (nI k16)]), (h1, aI Y 3640 (upd (upd (upd f0 (34 + 3 * (gN f0 1)) 1) (35 + 3 * (gN f0 1)) (nI n46)) (36 + 3 * (gN f0 1)) 0)), (h2, aZ Y 2 f1), (h3, aZ Y 80 f3), (h4, aB Y 1600 f4), (h5, aI Y 200 f13), (h6, aI Y 800 f14)] (by rw [nI_clamp (show 36 + 3 * (gN f0 1) < 2 ^ 31 by omega)]; rfl) ?_
            refine V_aload_n 120 B dX12_addCommand_120 1 rfl ?_
            refine V_get 121 B gf_RX12_9 0 rfl rfl dX12_addCommand_121 ?_
            refine V_iconst 124 B (v := 1) dX12_addCommand_124 (by decide +kernel) ?_
            refine V_dup2_11 125 B dX12_addCommand_125 rfl rfl ?_
            have x67 : (gN f0 1) ≤ 40 := gN_le HI (by omega) (show bd 1 = (0, ((40 : Nat) : Int)) by decide +kernel)
            refine V_iald 126 B (v := (nI (gN f0 1))) 1 rfl (vpin _ _ (by decide +kernel)) dX12_addCommand_126 (by show (upd (upd (upd f0 (34 + 3 * (gN f0 1)) 1) (35 + 3 * (gN f0 1)) (nI n46)) (36 + 3 * (gN f0 1)) 0) 1 = _; rw [upd_ne (by omega)]; rw [upd_ne (by omega)]; rw [upd_ne (by omega)]; exact gN_eq HI (by omega) (show bd 1 = (0, ((40 : Nat) : Int)) by decide +kernel)) ?_
            refine V_iconst 127 B (v := 1) dX12_addCommand_127 (by decide +kernel) ?_
            refine V_iadd 128 B (v := (nI (1 + (gN f0 1)))) dX12_addCommand_128 (nI_addE (a := (gN f0 1)) (b := 1) (by omega)) ?_
            have hv68 : INV (upd (upd (upd (upd f0 (34 + 3 * (gN f0 1)) 1) (35 + 3 * (gN f0 1)) (nI n46)) (36 + 3 * (gN f0 1)) 0) 1 (nI (1 + (gN f0 1)))) := INV_nat (v := 1 + (gN f0 1)) hv66 (show bd 1 = (0, ((40 : Nat) : Int)) by decide +kernel) (by omega) (by decide)
            refine V_iast 129 B 1 rfl (vpin _ _ (by decide +kernel)) dX12_addCommand_129 [(h0, oC 13 [.ref h1, .ref h2, .int (u57.2.1 0), .ref h3, .ref h4, .int (nI k5), .int (nI k6), .int p7, .int p8, .int p9, .int (nI k10), .int p11, .long q12, .ref h5, .ref h6, .int (nI k15), .int (nI k16)]), (h1, aI Y 3640 (upd (upd (upd (upd f0 (34 + 3 * (gN f0 1)) 1) (35 + 3 * (gN f0 1)) (nI n46)) (36 + 3 * (gN f0 1)) 0) 1 (nI (1 + (gN f0 1))))), (h2, aZ Y 2 f1), (h3, aZ Y 80 f3), (h4, aB Y 1600 f4), (h5, aI Y 200 f13), (h6, aI Y 800 f14)] rfl ?_
            refine V_aload_n 130 B dX12_addCommand_130 1 rfl ?_
            refine V_get 131 B gf_RX12_9 0 rfl rfl dX12_addCommand_131 ?_
            refine V_iconst 134 B (v := 1) dX12_addCommand_134 (by decide +kernel) ?_
            refine V_iald 135 B (v := (nI (1 + (gN f0 1)))) 1 rfl (vpin _ _ (by decide +kernel)) dX12_addCommand_135 (by show (upd (upd (upd (upd f0 (34 + 3 * (gN f0 1)) 1) (35 + 3 * (gN f0 1)) (nI n46)) (36 + 3 * (gN f0 1)) 0) 1 (nI (1 + (gN f0 1)))) 1 = _; exact upd_at) ?_
            refine V_iconst 136 B (v := 1) dX12_addCommand_136 (by decide +kernel) ?_
            refine V_isub 137 B (v := (nI (gN f0 1))) dX12_addCommand_137 (nI_subE (a := 1 + (gN f0 1)) (b := 1) (by omega)) ?_
            exact V_iret 138 B dX12_addCommand_138 (mkW [] [(u57.2.1 0)] [] [(upd (upd (upd (upd f0 (34 + 3 * (gN f0 1)) 1) (35 + 3 * (gN f0 1)) (nI n46)) (36 + 3 * (gN f0 1)) 0) 1 (nI (1 + (gN f0 1))))] [] []) hv68 rfl
          ·
            have x69 := n_eq (a := (gN f0 1)) (b := 40) kk61 (by omega) (by omega)
            refine V_bipush 69 B (v := (-2)) dX12_addCommand_69 (by decide +kernel) ?_
            exact V_iret 71 B dX12_addCommand_71 (mkW [] [(u57.2.1 0)] [] [f0] [] []) HI rfl)
theorem dX12_bindingsWith_0 : decode cX12_bindingsWith 0 = .ok (.iconst 0, 1) := by decide +kernel
theorem dX12_bindingsWith_1 : decode cX12_bindingsWith 1 = .ok (.istore_n 2, 1) := by decide +kernel
theorem dX12_bindingsWith_2 : decode cX12_bindingsWith 2 = .ok (.iconst 0, 1) := by decide +kernel
theorem dX12_bindingsWith_3 : decode cX12_bindingsWith 3 = .ok (.istore_n 3, 1) := by decide +kernel
theorem dX12_bindingsWith_4 : decode cX12_bindingsWith 4 = .ok (.iload_n 3, 1) := by decide +kernel
theorem dX12_bindingsWith_5 : decode cX12_bindingsWith 5 = .ok (.aload_n 0, 1) := by decide +kernel
theorem dX12_bindingsWith_6 : decode cX12_bindingsWith 6 = .ok (.getfield 9, 3) := by decide +kernel
theorem dX12_bindingsWith_9 : decode cX12_bindingsWith 9 = .ok (.iconst 3, 1) := by decide +kernel
theorem dX12_bindingsWith_10 : decode cX12_bindingsWith 10 = .ok (.iaload, 1) := by decide +kernel
theorem dX12_bindingsWith_11 : decode cX12_bindingsWith 11 = .ok (.if_icmp .ge 26, 3) := by decide +kernel
theorem dX12_bindingsWith_37 : decode cX12_bindingsWith 37 = .ok (.iload_n 2, 1) := by decide +kernel
theorem dX12_bindingsWith_38 : decode cX12_bindingsWith 38 = .ok (.ireturn, 1) := by decide +kernel
theorem dX12_bindingsWith_14 : decode cX12_bindingsWith 14 = .ok (.iload_n 2, 1) := by decide +kernel
theorem dX12_bindingsWith_15 : decode cX12_bindingsWith 15 = .ok (.aload_n 0, 1) := by decide +kernel
theorem dX12_bindingsWith_16 : decode cX12_bindingsWith 16 = .ok (.iload_n 3, 1) := by decide +kernel
theorem dX12_bindingsWith_17 : decode cX12_bindingsWith 17 = .ok (.invokevirtual 96, 3) := by decide +kernel
theorem glV_RX12_96 : GLV RX12 96 yX12_commandOf RX12 cX12_commandOf 2 (some .int) 1 := ⟨⟨(mT8 58 rfl rfl), (mT8 60 rfl rfl), (mTs 38 rfl rfl), (mT1 13 rfl rfl), (mT8 61 rfl rfl)⟩, by decide +kernel⟩
theorem dX12_bindingsWith_20 : decode cX12_bindingsWith 20 = .ok (.iload_n 1, 1) := by decide +kernel
theorem dX12_bindingsWith_21 : decode cX12_bindingsWith 21 = .ok (.if_icmp .ne 7, 3) := by decide +kernel
theorem dX12_bindingsWith_28 : decode cX12_bindingsWith 28 = .ok (.iconst 0, 1) := by decide +kernel
theorem dX12_bindingsWith_29 : decode cX12_bindingsWith 29 = .ok (.iadd, 1) := by decide +kernel
theorem dX12_bindingsWith_30 : decode cX12_bindingsWith 30 = .ok (.istore_n 2, 1) := by decide +kernel
theorem dX12_bindingsWith_31 : decode cX12_bindingsWith 31 = .ok (.iinc 3 1, 3) := by decide +kernel
theorem dX12_bindingsWith_34 : decode cX12_bindingsWith 34 = .ok (.goto (-30), 3) := by decide +kernel
theorem dX12_bindingsWith_24 : decode cX12_bindingsWith 24 = .ok (.iconst 1, 1) := by decide +kernel
theorem dX12_bindingsWith_25 : decode cX12_bindingsWith 25 = .ok (.goto 4, 3) := by decide +kernel
set_option maxRecDepth 100000 in
set_option maxHeartbeats 4000000 in
theorem rX12_bindingsWith (l : Launch) (D : va_G) (Y : Nat → ClassId) (h0 : Nat) (h1 : Nat) (h2 : Nat) (h3 : Nat) (h4 : Nat) (h5 : Nat) (h6 : Nat) (p2 : Int32) (k5 : Nat) (k6 : Nat) (p7 : Int32) (p8 : Int32) (p9 : Int32) (k10 : Nat) (p11 : Int32) (q12 : Int64) (k15 : Nat) (k16 : Nat) (f0 : Nat → Int32) (f1 : Nat → Int32) (f3 : Nat → Int32) (f4 : Nat → Int32) (f13 : Nat → Int32) (f14 : Nat → Int32) (HI : INV f0) (HL : k5 ≤ 1600) (HP : PLV f13) (s0 : Int32)  (sz : Nat) : Met l yX12_bindingsWith (WSm yX12_bindingsWith cX12_bindingsWith 4 (some .int)) (mkR 2 0 0 41) (PreC D Y [.ref h0, .int s0] [(h0, oC 13 [.ref h1, .ref h2, .int p2, .ref h3, .ref h4, .int (nI k5), .int (nI k6), .int p7, .int p8, .int p9, .int (nI k10), .int p11, .long q12, .ref h5, .ref h6, .int (nI k15), .int (nI k16)]), (h1, aI Y 3640 f0), (h2, aZ Y 2 f1), (h3, aZ Y 80 f3), (h4, aB Y 1600 f4), (h5, aI Y 200 f13), (h6, aI Y 800 f14)] sz) (QI D (fun (r : Int32) (u : WU) => True) (fun (u : WU) => [(h0, oC 13 [.ref h1, .ref h2, .int p2, .ref h3, .ref h4, .int (nI k5), .int (nI k6), .int p7, .int p8, .int p9, .int (nI k10), .int p11, .long q12, .ref h5, .ref h6, .int (nI k15), .int (nI k16)]), (h1, aI Y 3640 f0), (h2, aZ Y 2 f1), (h3, aZ Y 80 f3), (h4, aB Y 1600 f4), (h5, aI Y 200 f13), (h6, aI Y 800 f14)]) (va_A [(h0, oC 13 [.ref h1, .ref h2, .int p2, .ref h3, .ref h4, .int (nI k5), .int (nI k6), .int p7, .int p8, .int p9, .int (nI k10), .int p11, .long q12, .ref h5, .ref h6, .int (nI k15), .int (nI k16)]), (h1, aI Y 3640 f0), (h2, aZ Y 2 f1), (h3, aZ Y 80 f3), (h4, aB Y 1600 f4), (h5, aI Y 200 f13), (h6, aI Y 800 f14)] sz)) 0 0 (va_A [(h0, oC 13 [.ref h1, .ref h2, .int p2, .ref h3, .ref h4, .int (nI k5), .int (nI k6), .int p7, .int p8, .int p9, .int (nI k10), .int p11, .long q12, .ref h5, .ref h6, .int (nI k15), .int (nI k16)]), (h1, aI Y 3640 f0), (h2, aZ Y 2 f1), (h3, aZ Y 80 f3), (h4, aB Y 1600 f4), (h5, aI Y 200 f13), (h6, aI Y 800 f14)] sz) :=
  met_of (by decide +kernel) (Nat.le_of_ble_eq_true rfl) (fun p e s m args below meth c B hin hsz => by
    have B : VB p s m args meth c D Y (va_A [(h0, oC 13 [.ref h1, .ref h2, .int p2, .ref h3, .ref h4, .int (nI k5), .int (nI k6), .int p7, .int p8, .int p9, .int (nI k10), .int p11, .long q12, .ref h5, .ref h6, .int (nI k15), .int (nI k16)]), (h1, aI Y 3640 f0), (h2, aZ Y 2 f1), (h3, aZ Y 80 f3), (h4, aB Y 1600 f4), (h5, aI Y 200 f13), (h6, aI Y 800 f14)] sz) cX12_bindingsWith 4 RX12 (some .int) := B
    refine V_iconst 0 B (v := 0) dX12_bindingsWith_0 (by decide +kernel) ?_
    refine V_istore_n 1 B (lv2 := [(2, .int 0), (0, .ref h0), (1, .int s0)]) dX12_bindingsWith_1 (by decide) rfl ?_
    refine V_iconst 2 B (v := 0) dX12_bindingsWith_2 (by decide +kernel) ?_
    refine V_istore_n 3 B (lv2 := [(3, .int 0), (2, .int 0), (0, .ref h0), (1, .int s0)]) dX12_bindingsWith_3 (by decide) rfl ?_
    refine V_wloop (α := WU) (fun a => 100000 - (a.1 0)) (fun a => (a.1 0) ≤ 4000) (fun a => [(3, .int (nI (a.1 0))), (2, .int (a.2.1 0)), (0, .ref h0), (1, .int s0)]) (fun a => [(h0, oC 13 [.ref h1, .ref h2, .int p2, .ref h3, .ref h4, .int (nI k5), .int (nI k6), .int p7, .int p8, .int p9, .int (nI k10), .int p11, .long q12, .ref h5, .ref h6, .int (nI k15), .int (nI k16)]), (h1, aI Y 3640 f0), (h2, aZ Y 2 f1), (h3, aZ Y 80 f3), (h4, aB Y 1600 f4), (h5, aI Y 200 f13), (h6, aI Y 800 f14)]) (mkW [0] [0] [] [] [] []) (show 0 ≤ 4000 by omega) rfl rfl (fun a0 hI2 IH1 => ?_)
    refine V_lv [(3, .int (nI (a0.1 0))), (2, .int (a0.2.1 0)), (0, .ref h0), (1, .int s0)] [0, 1, 2, 3] rfl ?_
    refine V_ws [(h0, oC 13 [.ref h1, .ref h2, .int p2, .ref h3, .ref h4, .int (nI k5), .int (nI k6), .int p7, .int p8, .int p9, .int (nI k10), .int p11, .long q12, .ref h5, .ref h6, .int (nI k15), .int (nI k16)]), (h1, aI Y 3640 f0), (h2, aZ Y 2 f1), (h3, aZ Y 80 f3), (h4, aB Y 1600 f4), (h5, aI Y 200 f13), (h6, aI Y 800 f14)] rfl ?_
    have x3 := hI2
    refine V_iload_n 4 B dX12_bindingsWith_4 0 rfl ?_
    refine V_aload_n 5 B dX12_bindingsWith_5 2 rfl ?_
    refine V_get 6 B gf_RX12_9 0 rfl rfl dX12_bindingsWith_6 ?_
    refine V_iconst 9 B (v := 3) dX12_bindingsWith_9 (by decide +kernel) ?_
    have x4 : (gN f0 3) ≤ 80 := gN_le HI (by omega) (show bd 3 = (0, ((80 : Nat) : Int)) by decide +kernel)
    refine V_iald 10 B (v := (nI (gN f0 3))) 1 rfl (vpin _ _ (by decide +kernel)) dX12_bindingsWith_10 (by show f0 3 = _; exact gN_eq HI (by omega) (show bd 3 = (0, ((80 : Nat) : Int)) by decide +kernel)) ?_
    refine V_icmp_ge 11 B 37 dX12_bindingsWith_11 (by decide) (fun kk5 => ?_) (fun kk5 => ?_)
    ·
      have x6 := n_le (a := (gN f0 3)) (b := (a0.1 0)) kk5 (by omega) (by omega)
      refine V_iload_n 37 B dX12_bindingsWith_37 1 rfl ?_
      exact V_iret 38 B dX12_bindingsWith_38 (mkW [] [] [] [] [] []) trivial rfl
    ·
      have x7 := n_nle (a := (gN f0 3)) (b := (a0.1 0)) kk5 (by omega) (by omega)
      refine V_iload_n 14 B dX12_bindingsWith_14 1 rfl ?_
      refine V_aload_n 15 B dX12_bindingsWith_15 2 rfl ?_
      refine V_iload_n 16 B dX12_bindingsWith_16 0 rfl ?_
      refine V_cvi 17 B (st := [.int (a0.2.1 0)]) (As := [.int (nI (a0.1 0))]) (fun sz => rX12_commandOf l D Y h0 h1 h2 h3 h4 h5 h6 p2 k5 k6 p7 p8 p9 k10 p11 q12 k15 k16 f0 f1 f3 f4 f13 f14 HI (by omega) HP (a0.1 0) (by omega) sz) glV_RX12_96 ⟨rfl, rfl⟩ ⟨(Nat.le_of_ble_eq_true rfl), (Nat.le_of_ble_eq_true rfl)⟩ ⟨(Nat.le_of_ble_eq_true rfl), (Nat.le_of_ble_eq_true rfl)⟩ [0, 0, 0, 0, 0, 0, 0] rfl 13 0 rfl rfl rfl rfl (Nat.le_of_ble_eq_true rfl) rfl (fun _ _ _ => rfl) dX12_bindingsWith_17 (fun j8 u9 w10 => ?_)
      refine V_ws [(h0, oC 13 [.ref h1, .ref h2, .int p2, .ref h3, .ref h4, .int (nI k5), .int (nI k6), .int p7, .int p8, .int p9, .int (nI k10), .int p11, .long q12, .ref h5, .ref h6, .int (nI k15), .int (nI k16)]), (h1, aI Y 3640 f0), (h2, aZ Y 2 f1), (h3, aZ Y 80 f3), (h4, aB Y 1600 f4), (h5, aI Y 200 f13), (h6, aI Y 800 f14)] rfl ?_
      have x11 := w10
      obtain rfl := x11
      have x12 : (gN f0 (185 + 7 * (a0.1 0))) ≤ 39 := gN_le HI (by omega) (rl2 (a0.1 0) (by omega))
      refine V_iload_n 20 B dX12_bindingsWith_20 3 rfl ?_
      refine V_icmp_ne 21 B 28 dX12_bindingsWith_21 (by decide) (fun kk13 => ?_) (fun kk13 => ?_)
      ·
        have x14 := x_ne kk13
        rw [nI_toInt (show (gN f0 (185 + 7 * (a0.1 0))) < 2 ^ 31 by omega)] at x14
        refine V_iconst 28 B (v := 0) dX12_bindingsWith_28 (by decide +kernel) ?_
        refine V_iadd 29 B (v := (a0.2.1 0)) dX12_bindingsWith_29 (Int32.add_zero _) ?_
        refine V_istore_n 30 B (lv2 := [(2, .int (a0.2.1 0)), (3, .int (nI (a0.1 0))), (0, .ref h0), (1, .int s0)]) dX12_bindingsWith_30 (by decide) rfl ?_
        refine V_iinc 31 B (v := (nI (1 + (a0.1 0)))) (lv2 := [(3, .int (nI (1 + (a0.1 0)))), (2, .int (a0.2.1 0)), (0, .ref h0), (1, .int s0)]) dX12_bindingsWith_31 1 rfl (nI_addE (a := (a0.1 0)) (b := 1) (by omega)) (by decide) rfl ?_
        refine V_goto 34 B 4 dX12_bindingsWith_34 (by decide) ?_
        refine V_lv [(3, .int (nI (1 + (a0.1 0)))), (2, .int (a0.2.1 0)), (0, .ref h0), (1, .int s0)] [0, 1, 2, 3] rfl ?_
        exact IH1 (mkW [1 + (a0.1 0)] [(a0.2.1 0)] [] [] [] []) (show 1 + (a0.1 0) ≤ 4000 by omega) (by show 100000 - (1 + (a0.1 0)) < 100000 - (a0.1 0); omega)
      ·
        have x15 := x_eq kk13
        rw [nI_toInt (show (gN f0 (185 + 7 * (a0.1 0))) < 2 ^ 31 by omega)] at x15
        refine V_iconst 24 B (v := 1) dX12_bindingsWith_24 (by decide +kernel) ?_
        refine V_goto 25 B 29 dX12_bindingsWith_25 (by decide) ?_
        refine V_iadd 29 B dX12_bindingsWith_29 rfl ?_
        refine V_nmi (fun j16 e17 => ?_)
        refine V_istore_n 30 B (lv2 := [(2, .int j16), (3, .int (nI (a0.1 0))), (0, .ref h0), (1, .int s0)]) dX12_bindingsWith_30 (by decide) rfl ?_
        refine V_iinc 31 B (v := (nI (1 + (a0.1 0)))) (lv2 := [(3, .int (nI (1 + (a0.1 0)))), (2, .int j16), (0, .ref h0), (1, .int s0)]) dX12_bindingsWith_31 1 rfl (nI_addE (a := (a0.1 0)) (b := 1) (by omega)) (by decide) rfl ?_
        refine V_goto 34 B 4 dX12_bindingsWith_34 (by decide) ?_
        refine V_lv [(3, .int (nI (1 + (a0.1 0)))), (2, .int j16), (0, .ref h0), (1, .int s0)] [0, 1, 2, 3] rfl ?_
        exact IH1 (mkW [1 + (a0.1 0)] [j16] [] [] [] []) (show 1 + (a0.1 0) ≤ 4000 by omega) (by show 100000 - (1 + (a0.1 0)) < 100000 - (a0.1 0); omega))
theorem dX12_command_0 : decode cX12_command 0 = .ok (.aload_n 0, 1) := by decide +kernel
theorem dX12_command_1 : decode cX12_command 1 = .ok (.iconst 0, 1) := by decide +kernel
theorem dX12_command_2 : decode cX12_command 2 = .ok (.putfield 38, 3) := by decide +kernel
theorem dX12_command_5 : decode cX12_command 5 = .ok (.aload_n 0, 1) := by decide +kernel
theorem dX12_command_6 : decode cX12_command 6 = .ok (.aload_n 0, 1) := by decide +kernel
theorem dX12_command_7 : decode cX12_command 7 = .ok (.iload_n 1, 1) := by decide +kernel
theorem dX12_command_8 : decode cX12_command 8 = .ok (.invokevirtual 99, 3) := by decide +kernel
theorem glV_RX12_99 : GLV RX12 99 yX12_isCommand RX12 cX12_isCommand 2 (some .boolean) 1 := ⟨⟨(mT8 46 rfl rfl), (mT8 48 rfl rfl), (mTs 35 rfl rfl), (mT1 13 rfl rfl), (mT8 49 rfl rfl)⟩, by decide +kernel⟩
theorem dX12_command_11 : decode cX12_command 11 = .ok (.ifCond .ne 7, 3) := by decide +kernel
theorem dX12_command_14 : decode cX12_command 14 = .ok (.iconst 1, 1) := by decide +kernel
theorem dX12_command_15 : decode cX12_command 15 = .ok (.goto 4, 3) := by decide +kernel
theorem dX12_command_19 : decode cX12_command 19 = .ok (.iconst 1, 1) := by decide +kernel
theorem dX12_command_20 : decode cX12_command 20 = .ok (.invokevirtual 69, 3) := by decide +kernel
theorem dX12_command_23 : decode cX12_command 23 = .ok (.ifCond .eq 5, 3) := by decide +kernel
theorem dX12_command_26 : decode cX12_command 26 = .ok (.iconst 0, 1) := by decide +kernel
theorem dX12_command_27 : decode cX12_command 27 = .ok (.ireturn, 1) := by decide +kernel
theorem dX12_command_18 : decode cX12_command 18 = .ok (.iconst 0, 1) := by decide +kernel
theorem dX12_command_28 : decode cX12_command 28 = .ok (.iload_n 2, 1) := by decide +kernel
theorem dX12_command_29 : decode cX12_command 29 = .ok (.i2l, 1) := by decide +kernel
theorem dX12_command_30 : decode cX12_command 30 = .ok (.lconst 0, 1) := by decide +kernel
theorem dX12_command_31 : decode cX12_command 31 = .ok (.ldc2_w 94, 3) := by decide +kernel
theorem dX12_command_34 : decode cX12_command 34 = .ok (.invokestatic 41, 3) := by decide +kernel
theorem dX12_command_37 : decode cX12_command 37 = .ok (.ifCond .eq 12, 3) := by decide +kernel
theorem dX12_command_49 : decode cX12_command 49 = .ok (.iload_n 2, 1) := by decide +kernel
theorem dX12_command_50 : decode cX12_command 50 = .ok (.iconst 3, 1) := by decide +kernel
theorem dX12_command_51 : decode cX12_command 51 = .ok (.if_icmp .ne 11, 3) := by decide +kernel
theorem dX12_command_62 : decode cX12_command 62 = .ok (.iconst (-1), 1) := by decide +kernel
theorem dX12_command_63 : decode cX12_command 63 = .ok (.ireturn, 1) := by decide +kernel
theorem dX12_command_54 : decode cX12_command 54 = .ok (.aload_n 0, 1) := by decide +kernel
theorem dX12_command_55 : decode cX12_command 55 = .ok (.iload_n 1, 1) := by decide +kernel
theorem dX12_command_56 : decode cX12_command 56 = .ok (.invokevirtual 105, 3) := by decide +kernel
theorem glV_RX12_105 : GLV RX12 105 yX12_bindingsWith RX12 cX12_bindingsWith 4 (some .int) 1 := ⟨⟨(mT8 54 rfl rfl), (mT8 56 rfl rfl), (mTs 37 rfl rfl), (mT1 13 rfl rfl), (mT8 57 rfl rfl)⟩, by decide +kernel⟩
theorem dX12_command_59 : decode cX12_command 59 = .ok (.goto 4, 3) := by decide +kernel
theorem dX12_command_40 : decode cX12_command 40 = .ok (.aload_n 0, 1) := by decide +kernel
theorem dX12_command_41 : decode cX12_command 41 = .ok (.iload_n 1, 1) := by decide +kernel
theorem dX12_command_42 : decode cX12_command 42 = .ok (.iload_n 2, 1) := by decide +kernel
theorem dX12_command_43 : decode cX12_command 43 = .ok (.invokevirtual 102, 3) := by decide +kernel
theorem glV_RX12_102 : GLV RX12 102 yX12_ofCommand RX12 cX12_ofCommand 3 (some .int) 2 := ⟨⟨(mT8 50 rfl rfl), (mT8 52 rfl rfl), (mTs 36 rfl rfl), (mT1 13 rfl rfl), (mT8 53 rfl rfl)⟩, by decide +kernel⟩
theorem dX12_command_46 : decode cX12_command 46 = .ok (.goto 17, 3) := by decide +kernel
set_option maxRecDepth 100000 in
set_option maxHeartbeats 4000000 in
theorem rX12_command (l : Launch) (D : va_G) (Y : Nat → ClassId) (h0 : Nat) (h1 : Nat) (h2 : Nat) (h3 : Nat) (h4 : Nat) (h5 : Nat) (h6 : Nat) (p2 : Int32) (k5 : Nat) (k6 : Nat) (p7 : Int32) (p8 : Int32) (p9 : Int32) (k10 : Nat) (p11 : Int32) (q12 : Int64) (k15 : Nat) (k16 : Nat) (f0 : Nat → Int32) (f1 : Nat → Int32) (f3 : Nat → Int32) (f4 : Nat → Int32) (f13 : Nat → Int32) (f14 : Nat → Int32) (HI : INV f0) (HL : k5 ≤ 1600) (HP : PLV f13) (s0 : Int32) (s1 : Int32)  (sz : Nat) : Met l yX12_command (WSm yX12_command cX12_command 3 (some .int)) (mkR 3 0 0 64) (PreC D Y [.ref h0, .int s0, .int s1] [(h0, oC 13 [.ref h1, .ref h2, .int p2, .ref h3, .ref h4, .int (nI k5), .int (nI k6), .int p7, .int p8, .int p9, .int (nI k10), .int p11, .long q12, .ref h5, .ref h6, .int (nI k15), .int (nI k16)]), (h1, aI Y 3640 f0), (h2, aZ Y 2 f1), (h3, aZ Y 80 f3), (h4, aB Y 1600 f4), (h5, aI Y 200 f13), (h6, aI Y 800 f14)] sz) (QI D (fun (r : Int32) (u : WU) => True) (fun (u : WU) => [(h0, oC 13 [.ref h1, .ref h2, .int (u.2.1 0), .ref h3, .ref h4, .int (nI k5), .int (nI k6), .int p7, .int p8, .int p9, .int (nI k10), .int p11, .long q12, .ref h5, .ref h6, .int (nI k15), .int (nI k16)]), (h1, aI Y 3640 f0), (h2, aZ Y 2 f1), (h3, aZ Y 80 f3), (h4, aB Y 1600 f4), (h5, aI Y 200 f13), (h6, aI Y 800 f14)]) (va_A [(h0, oC 13 [.ref h1, .ref h2, .int p2, .ref h3, .ref h4, .int (nI k5), .int (nI k6), .int p7, .int p8, .int p9, .int (nI k10), .int p11, .long q12, .ref h5, .ref h6, .int (nI k15), .int (nI k16)]), (h1, aI Y 3640 f0), (h2, aZ Y 2 f1), (h3, aZ Y 80 f3), (h4, aB Y 1600 f4), (h5, aI Y 200 f13), (h6, aI Y 800 f14)] sz)) 0 0 (va_A [(h0, oC 13 [.ref h1, .ref h2, .int p2, .ref h3, .ref h4, .int (nI k5), .int (nI k6), .int p7, .int p8, .int p9, .int (nI k10), .int p11, .long q12, .ref h5, .ref h6, .int (nI k15), .int (nI k16)]), (h1, aI Y 3640 f0), (h2, aZ Y 2 f1), (h3, aZ Y 80 f3), (h4, aB Y 1600 f4), (h5, aI Y 200 f13), (h6, aI Y 800 f14)] sz) :=
  met_of (by decide +kernel) (Nat.le_of_ble_eq_true rfl) (fun p e s m args below meth c B hin hsz => by
    have B : VB p s m args meth c D Y (va_A [(h0, oC 13 [.ref h1, .ref h2, .int p2, .ref h3, .ref h4, .int (nI k5), .int (nI k6), .int p7, .int p8, .int p9, .int (nI k10), .int p11, .long q12, .ref h5, .ref h6, .int (nI k15), .int (nI k16)]), (h1, aI Y 3640 f0), (h2, aZ Y 2 f1), (h3, aZ Y 80 f3), (h4, aB Y 1600 f4), (h5, aI Y 200 f13), (h6, aI Y 800 f14)] sz) cX12_command 3 RX12 (some .int) := B
    refine V_aload_n 0 B dX12_command_0 0 rfl ?_
    refine V_iconst 1 B (v := 0) dX12_command_1 (by decide +kernel) ?_
    refine V_put 2 B gp_RX12_38 0 rfl (Nat.le_of_ble_eq_true rfl) rfl rfl dX12_command_2 [(h0, oC 13 [.ref h1, .ref h2, .int 0, .ref h3, .ref h4, .int (nI k5), .int (nI k6), .int p7, .int p8, .int p9, .int (nI k10), .int p11, .long q12, .ref h5, .ref h6, .int (nI k15), .int (nI k16)]), (h1, aI Y 3640 f0), (h2, aZ Y 2 f1), (h3, aZ Y 80 f3), (h4, aB Y 1600 f4), (h5, aI Y 200 f13), (h6, aI Y 800 f14)] rfl ?_
    refine V_aload_n 5 B dX12_command_5 0 rfl ?_
    refine V_aload_n 6 B dX12_command_6 0 rfl ?_
    refine V_iload_n 7 B dX12_command_7 1 rfl ?_
    refine V_cvi 8 B (st := [.ref h0]) (As := [.int s0]) (fun sz => rX12_isCommand l D Y h0 h1 h2 h3 h4 h5 h6 0 k5 k6 p7 p8 p9 k10 p11 q12 k15 k16 f0 f1 f3 f4 f13 f14 HI (by omega) HP s0 sz) glV_RX12_99 ⟨rfl, rfl⟩ ⟨(Nat.le_of_ble_eq_true rfl), (Nat.le_of_ble_eq_true rfl)⟩ ⟨(Nat.le_of_ble_eq_true rfl), (Nat.le_of_ble_eq_true rfl)⟩ [0, 0, 0, 0, 0, 0, 0] rfl 13 0 rfl rfl rfl rfl (Nat.le_of_ble_eq_true rfl) rfl (fun _ _ _ => rfl) dX12_command_8 (fun j0 u1 w2 => ?_)
    refine V_ws [(h0, oC 13 [.ref h1, .ref h2, .int 0, .ref h3, .ref h4, .int (nI k5), .int (nI k6), .int p7, .int p8, .int p9, .int (nI k10), .int p11, .long q12, .ref h5, .ref h6, .int (nI k15), .int (nI k16)]), (h1, aI Y 3640 f0), (h2, aZ Y 2 f1), (h3, aZ Y 80 f3), (h4, aB Y 1600 f4), (h5, aI Y 200 f13), (h6, aI Y 800 f14)] rfl ?_
    have x3 := w2
    have x7 : (gN f0 1) ≤ 40 := gN_le HI (by omega) (show bd 1 = (0, ((40 : Nat) : Int)) by decide +kernel)
    rcases x3 with rfl | ⟨rfl, n4, rfl, x6⟩
    ·
      refine V_if_ne_f 11 B 18 dX12_command_11 (by decide) (by decide +kernel) ?_
      refine V_iconst 14 B (v := 1) dX12_command_14 (by decide +kernel) ?_
      refine V_goto 15 B 19 dX12_command_15 (by decide) ?_
      refine V_iconst 19 B (v := 1) dX12_command_19 (by decide +kernel) ?_
      refine V_cvi 20 B (st := []) (As := [.int 1, .int 1]) (fun sz => rX12_throwsIf_1 l D Y h0 h1 h2 h3 h4 h5 h6 0 k5 k6 p7 p8 p9 k10 p11 q12 k15 k16 f0 f1 f3 f4 f13 f14 HI (by omega) HP 1 sz) glV_RX12_69 ⟨rfl, rfl⟩ ⟨(Nat.le_of_ble_eq_true rfl), (Nat.le_of_ble_eq_true rfl)⟩ ⟨(Nat.le_of_ble_eq_true rfl), (Nat.le_of_ble_eq_true rfl)⟩ [0, 0, 0, 0, 0, 0, 0] rfl 13 0 rfl rfl rfl rfl (Nat.le_of_ble_eq_true rfl) rfl (fun _ _ _ => rfl) dX12_command_20 (fun j8 u9 w10 => ?_)
      refine V_ws [(h0, oC 13 [.ref h1, .ref h2, .int (u9.2.1 0), .ref h3, .ref h4, .int (nI k5), .int (nI k6), .int p7, .int p8, .int p9, .int (nI k10), .int p11, .long q12, .ref h5, .ref h6, .int (nI k15), .int (nI k16)]), (h1, aI Y 3640 f0), (h2, aZ Y 2 f1), (h3, aZ Y 80 f3), (h4, aB Y 1600 f4), (h5, aI Y 200 f13), (h6, aI Y 800 f14)] rfl ?_
      have x11 := w10
      obtain rfl := x11
      refine V_if_eq_f 23 B 28 dX12_command_23 (by decide) (by decide +kernel) ?_
      refine V_iconst 26 B (v := 0) dX12_command_26 (by decide +kernel) ?_
      exact V_iret 27 B dX12_command_27 (mkW [] [(u9.2.1 0)] [] [] [] []) trivial rfl
    ·
      have e12 := nI_toInt (show n4 < 2 ^ 31 by omega)
      have x13 : (gN f0 1) ≤ 40 := gN_le HI (by omega) (show bd 1 = (0, ((40 : Nat) : Int)) by decide +kernel)
      refine V_if_ne_t 11 B 18 dX12_command_11 (by decide) (by decide +kernel) ?_
      refine V_iconst 18 B (v := 0) dX12_command_18 (by decide +kernel) ?_
      refine V_iconst 19 B (v := 1) dX12_command_19 (by decide +kernel) ?_
      refine V_cvi 20 B (st := []) (As := [.int 0, .int 1]) (fun sz => rX12_throwsIf_0 l D Y h0 h1 h2 h3 h4 h5 h6 0 k5 k6 p7 p8 p9 k10 p11 q12 k15 k16 f0 f1 f3 f4 f13 f14 HI (by omega) HP 1 sz) glV_RX12_69 ⟨rfl, rfl⟩ ⟨(Nat.le_of_ble_eq_true rfl), (Nat.le_of_ble_eq_true rfl)⟩ ⟨(Nat.le_of_ble_eq_true rfl), (Nat.le_of_ble_eq_true rfl)⟩ [0, 0, 0, 0, 0, 0, 0] rfl 13 0 rfl rfl rfl rfl (Nat.le_of_ble_eq_true rfl) rfl (fun _ _ _ => rfl) dX12_command_20 (fun j14 u15 w16 => ?_)
      refine V_ws [(h0, oC 13 [.ref h1, .ref h2, .int (u15.2.1 0), .ref h3, .ref h4, .int (nI k5), .int (nI k6), .int p7, .int p8, .int p9, .int (nI k10), .int p11, .long q12, .ref h5, .ref h6, .int (nI k15), .int (nI k16)]), (h1, aI Y 3640 f0), (h2, aZ Y 2 f1), (h3, aZ Y 80 f3), (h4, aB Y 1600 f4), (h5, aI Y 200 f13), (h6, aI Y 800 f14)] rfl ?_
      have x17 := w16
      obtain rfl := x17
      refine V_if_eq_t 23 B 28 dX12_command_23 (by decide) (by decide +kernel) ?_
      refine V_iload_n 28 B dX12_command_28 2 rfl ?_
      refine V_i2l 29 B dX12_command_29 rfl ?_
      refine V_nml (fun o18 e19 => ?_)
      have x20 : o18.toInt = s1.toInt := by rw [e19, Int32.toInt_toInt64]
      refine V_lconst 30 B (v := 0) dX12_command_30 (by decide +kernel) ?_
      refine V_ldc2 31 B (v := 2) dX12_command_31 (mT8 41 rfl rfl) ?_
      refine V_csi 34 B (st := []) (As := [.long o18, .long 0, .long 2]) (fun sz => rX12_inRange l D Y o18 0 2 sz) glS_RX12_41 ⟨rfl, rfl⟩ ⟨(Nat.le_of_ble_eq_true rfl), (Nat.le_of_ble_eq_true rfl)⟩ ⟨(Nat.le_of_ble_eq_true rfl), (Nat.le_of_ble_eq_true rfl)⟩ [] rfl rfl (Nat.le_of_ble_eq_true rfl) rfl (fun _ _ _ => rfl) dX12_command_34 (fun j21 u22 w23 => ?_)
      refine V_ws [(h0, oC 13 [.ref h1, .ref h2, .int (u15.2.1 0), .ref h3, .ref h4, .int (nI k5), .int (nI k6), .int p7, .int p8, .int p9, .int (nI k10), .int p11, .long q12, .ref h5, .ref h6, .int (nI k15), .int (nI k16)]), (h1, aI Y 3640 f0), (h2, aZ Y 2 f1), (h3, aZ Y 80 f3), (h4, aB Y 1600 f4), (h5, aI Y 200 f13), (h6, aI Y 800 f14)] rfl ?_
      rcases w23 with rfl | ⟨rfl, x24, x25⟩
      ·
        refine V_if_eq_t 37 B 49 dX12_command_37 (by decide) (by decide +kernel) ?_
        refine V_iload_n 49 B dX12_command_49 2 rfl ?_
        refine V_iconst 50 B (v := 3) dX12_command_50 (by decide +kernel) ?_
        refine V_icmp_ne 51 B 62 dX12_command_51 (by decide) (fun kk26 => ?_) (fun kk26 => ?_)
        ·
          have x27 := x_ne kk26
          rw [show (3 : Int32).toInt = 3 by decide +kernel] at x27
          refine V_iconst 62 B (v := (-1)) dX12_command_62 (by decide +kernel) ?_
          exact V_iret 63 B dX12_command_63 (mkW [] [(u15.2.1 0)] [] [] [] []) trivial rfl
        ·
          obtain rfl : s1 = 3 := kk26
          have e29 : (3 : Int32).toInt = 3 := by decide +kernel
          refine V_aload_n 54 B dX12_command_54 0 rfl ?_
          refine V_iload_n 55 B dX12_command_55 1 rfl ?_
          refine V_cvi 56 B (st := []) (As := [.int (nI n4)]) (fun sz => rX12_bindingsWith l D Y h0 h1 h2 h3 h4 h5 h6 (u15.2.1 0) k5 k6 p7 p8 p9 k10 p11 q12 k15 k16 f0 f1 f3 f4 f13 f14 HI (by omega) HP (nI n4) sz) glV_RX12_105 ⟨rfl, rfl⟩ ⟨(Nat.le_of_ble_eq_true rfl), (Nat.le_of_ble_eq_true rfl)⟩ ⟨(Nat.le_of_ble_eq_true rfl), (Nat.le_of_ble_eq_true rfl)⟩ [0, 0, 0, 0, 0, 0, 0] rfl 13 0 rfl rfl rfl rfl (Nat.le_of_ble_eq_true rfl) rfl (fun _ _ _ => rfl) dX12_command_56 (fun j30 u31 w32 => ?_)
          refine V_ws [(h0, oC 13 [.ref h1, .ref h2, .int (u15.2.1 0), .ref h3, .ref h4, .int (nI k5), .int (nI k6), .int p7, .int p8, .int p9, .int (nI k10), .int p11, .long q12, .ref h5, .ref h6, .int (nI k15), .int (nI k16)]), (h1, aI Y 3640 f0), (h2, aZ Y 2 f1), (h3, aZ Y 80 f3), (h4, aB Y 1600 f4), (h5, aI Y 200 f13), (h6, aI Y 800 f14)] rfl ?_
          refine V_goto 59 B 63 dX12_command_59 (by decide) ?_
          exact V_iret 63 B dX12_command_63 (mkW [] [(u15.2.1 0)] [] [] [] []) trivial rfl
      ·
        rw [show (0 : Int64).toInt = 0 by decide +kernel] at x24
        rw [show (2 : Int64).toInt = 2 by decide +kernel] at x25
        refine V_if_eq_f 37 B 49 dX12_command_37 (by decide) (by decide +kernel) ?_
        refine V_aload_n 40 B dX12_command_40 0 rfl ?_
        refine V_iload_n 41 B dX12_command_41 1 rfl ?_
        refine V_iload_n 42 B dX12_command_42 2 rfl ?_
        obtain ⟨n33, x34, rfl⟩ := nat_of (x := s1) (n := 2) (by omega) (by omega)
        have e35 := nI_toInt (show n33 < 2 ^ 31 by omega)
        refine V_cvi 43 B (st := []) (As := [.int (nI n4), .int (nI n33)]) (fun sz => rX12_ofCommand l D Y h0 h1 h2 h3 h4 h5 h6 (u15.2.1 0) k5 k6 p7 p8 p9 k10 p11 q12 k15 k16 f0 f1 f3 f4 f13 f14 HI (by omega) HP n4 n33 (by omega) (by omega) sz) glV_RX12_102 ⟨rfl, rfl⟩ ⟨(Nat.le_of_ble_eq_true rfl), (Nat.le_of_ble_eq_true rfl)⟩ ⟨(Nat.le_of_ble_eq_true rfl), (Nat.le_of_ble_eq_true rfl)⟩ [0, 0, 0, 0, 0, 0, 0] rfl 13 0 rfl rfl rfl rfl (Nat.le_of_ble_eq_true rfl) rfl (fun _ _ _ => rfl) dX12_command_43 (fun j36 u37 w38 => ?_)
        refine V_ws [(h0, oC 13 [.ref h1, .ref h2, .int (u15.2.1 0), .ref h3, .ref h4, .int (nI k5), .int (nI k6), .int p7, .int p8, .int p9, .int (nI k10), .int p11, .long q12, .ref h5, .ref h6, .int (nI k15), .int (nI k16)]), (h1, aI Y 3640 f0), (h2, aZ Y 2 f1), (h3, aZ Y 80 f3), (h4, aB Y 1600 f4), (h5, aI Y 200 f13), (h6, aI Y 800 f14)] rfl ?_
        have x39 := w38
        refine V_goto 46 B 63 dX12_command_46 (by decide) ?_
        exact V_iret 63 B dX12_command_63 (mkW [] [(u15.2.1 0)] [] [] [] []) trivial rfl)
theorem dX12_reservedAt_0 : decode cX12_reservedAt 0 = .ok (.sipush 154, 3) := by decide +kernel
theorem dX12_reservedAt_3 : decode cX12_reservedAt 3 = .ok (.iconst 5, 1) := by decide +kernel
theorem dX12_reservedAt_4 : decode cX12_reservedAt 4 = .ok (.iload_n 0, 1) := by decide +kernel
theorem dX12_reservedAt_5 : decode cX12_reservedAt 5 = .ok (.imul, 1) := by decide +kernel
theorem dX12_reservedAt_6 : decode cX12_reservedAt 6 = .ok (.iadd, 1) := by decide +kernel
theorem dX12_reservedAt_7 : decode cX12_reservedAt 7 = .ok (.ireturn, 1) := by decide +kernel
set_option maxRecDepth 100000 in
set_option maxHeartbeats 4000000 in
theorem rX12_reservedAt (l : Launch) (D : va_G) (Y : Nat → ClassId)  (s0 : Nat) (hn0 : s0 < 7) (sz : Nat) : Met l yX12_reservedAt (WSm yX12_reservedAt cX12_reservedAt 1 (some .int)) (mkR 0 0 0 0) (PreC D Y [.int (nI s0)] [] sz) (QI D (fun (r : Int32) (u : WU) => r = nI (154 + 5 * s0)) (fun (u : WU) => []) (va_A [] sz)) 0 0 (va_A [] sz) :=
  met_of (by decide +kernel) (Nat.le_of_ble_eq_true rfl) (fun p e s m args below meth c B hin hsz => by
    have B : VB p s m args meth c D Y (va_A [] sz) cX12_reservedAt 1 RX12 (some .int) := B
    refine V_sipush 0 B (v := 154) dX12_reservedAt_0 (by decide +kernel) ?_
    refine V_iconst 3 B (v := 5) dX12_reservedAt_3 (by decide +kernel) ?_
    refine V_iload_n 4 B dX12_reservedAt_4 0 rfl ?_
    refine V_imul 5 B (v := (nI (5 * s0))) dX12_reservedAt_5 (nI_mulE (a := 5) (b := s0) (by omega)) ?_
    refine V_iadd 6 B (v := (nI (154 + 5 * s0))) dX12_reservedAt_6 (nI_addE (a := 154) (b := 5 * s0) (by omega)) ?_
    exact V_iret 7 B dX12_reservedAt_7 (mkW [] [] [] [] [] []) (congrArg nI (by omega)) rfl)
theorem dX12_clashesReserved_0 : decode cX12_clashesReserved 0 = .ok (.iconst 0, 1) := by decide +kernel
theorem dX12_clashesReserved_1 : decode cX12_clashesReserved 1 = .ok (.istore_n 2, 1) := by decide +kernel
theorem dX12_clashesReserved_2 : decode cX12_clashesReserved 2 = .ok (.iconst 0, 1) := by decide +kernel
theorem dX12_clashesReserved_3 : decode cX12_clashesReserved 3 = .ok (.istore_n 3, 1) := by decide +kernel
theorem dX12_clashesReserved_4 : decode cX12_clashesReserved 4 = .ok (.iload_n 3, 1) := by decide +kernel
theorem dX12_clashesReserved_5 : decode cX12_clashesReserved 5 = .ok (.aload_n 0, 1) := by decide +kernel
theorem dX12_clashesReserved_6 : decode cX12_clashesReserved 6 = .ok (.getfield 9, 3) := by decide +kernel
theorem dX12_clashesReserved_9 : decode cX12_clashesReserved 9 = .ok (.iconst 2, 1) := by decide +kernel
theorem dX12_clashesReserved_10 : decode cX12_clashesReserved 10 = .ok (.iaload, 1) := by decide +kernel
theorem dX12_clashesReserved_11 : decode cX12_clashesReserved 11 = .ok (.if_icmp .ge 21, 3) := by decide +kernel
theorem dX12_clashesReserved_32 : decode cX12_clashesReserved 32 = .ok (.iload_n 2, 1) := by decide +kernel
theorem dX12_clashesReserved_33 : decode cX12_clashesReserved 33 = .ok (.ireturn, 1) := by decide +kernel
theorem dX12_clashesReserved_14 : decode cX12_clashesReserved 14 = .ok (.iload_n 2, 1) := by decide +kernel
theorem dX12_clashesReserved_15 : decode cX12_clashesReserved 15 = .ok (.aload_n 0, 1) := by decide +kernel
theorem dX12_clashesReserved_16 : decode cX12_clashesReserved 16 = .ok (.iload_n 3, 1) := by decide +kernel
theorem dX12_clashesReserved_17 : decode cX12_clashesReserved 17 = .ok (.invokestatic 108, 3) := by decide +kernel
theorem glS_RX12_108 : GLS RX12 108 yX12_reservedAt cX12_reservedAt 1 (some .int) 1 := ⟨⟨(mT8 89 rfl rfl), (mT8 90 rfl rfl), (mT1 13 rfl rfl), (mT8 91 rfl rfl)⟩, by decide +kernel⟩
theorem dX12_clashesReserved_20 : decode cX12_clashesReserved 20 = .ok (.iload_n 1, 1) := by decide +kernel
theorem dX12_clashesReserved_21 : decode cX12_clashesReserved 21 = .ok (.invokevirtual 111, 3) := by decide +kernel
theorem rl10 : ∀ z0, z0 < 6 → SQ (154 + 5 * z0) := by unfold SQ; decide +kernel
theorem glV_RX12_111 : GLV RX12 111 yX12_doClash RX12 cX12_doClash 3 (some .boolean) 2 := ⟨⟨(mT8 78 rfl rfl), (mT8 80 rfl rfl), (mTs 42 rfl rfl), (mT1 13 rfl rfl), (mT8 81 rfl rfl)⟩, by decide +kernel⟩
theorem dX12_clashesReserved_24 : decode cX12_clashesReserved 24 = .ok (.ior, 1) := by decide +kernel
theorem dX12_clashesReserved_25 : decode cX12_clashesReserved 25 = .ok (.istore_n 2, 1) := by decide +kernel
theorem dX12_clashesReserved_26 : decode cX12_clashesReserved 26 = .ok (.iinc 3 1, 3) := by decide +kernel
theorem dX12_clashesReserved_29 : decode cX12_clashesReserved 29 = .ok (.goto (-25), 3) := by decide +kernel
set_option maxRecDepth 100000 in
set_option maxHeartbeats 4000000 in
theorem rX12_clashesReserved (l : Launch) (D : va_G) (Y : Nat → ClassId) (h0 : Nat) (h1 : Nat) (h2 : Nat) (h3 : Nat) (h4 : Nat) (h5 : Nat) (h6 : Nat) (p2 : Int32) (k5 : Nat) (k6 : Nat) (p7 : Int32) (p8 : Int32) (p9 : Int32) (k10 : Nat) (p11 : Int32) (q12 : Int64) (k15 : Nat) (k16 : Nat) (f0 : Nat → Int32) (f1 : Nat → Int32) (f3 : Nat → Int32) (f4 : Nat → Int32) (f13 : Nat → Int32) (f14 : Nat → Int32) (HI : INV f0) (HL : k5 ≤ 1600) (HP : PLV f13) (s0 : Nat) (hs0 : SQ s0) (sz : Nat) : Met l yX12_clashesReserved (WSm yX12_clashesReserved cX12_clashesReserved 4 (some .boolean)) (mkR 3 0 0 66) (PreC D Y [.ref h0, .int (nI s0)] [(h0, oC 13 [.ref h1, .ref h2, .int p2, .ref h3, .ref h4, .int (nI k5), .int (nI k6), .int p7, .int p8, .int p9, .int (nI k10), .int p11, .long q12, .ref h5, .ref h6, .int (nI k15), .int (nI k16)]), (h1, aI Y 3640 f0), (h2, aZ Y 2 f1), (h3, aZ Y 80 f3), (h4, aB Y 1600 f4), (h5, aI Y 200 f13), (h6, aI Y 800 f14)] sz) (QI D (fun (r : Int32) (u : WU) => (r = 0 ∨ r = 1)) (fun (u : WU) => [(h0, oC 13 [.ref h1, .ref h2, .int p2, .ref h3, .ref h4, .int (nI k5), .int (nI k6), .int p7, .int p8, .int p9, .int (nI k10), .int p11, .long q12, .ref h5, .ref h6, .int (nI k15), .int (nI k16)]), (h1, aI Y 3640 f0), (h2, aZ Y 2 f1), (h3, aZ Y 80 f3), (h4, aB Y 1600 f4), (h5, aI Y 200 f13), (h6, aI Y 800 f14)]) (va_A [(h0, oC 13 [.ref h1, .ref h2, .int p2, .ref h3, .ref h4, .int (nI k5), .int (nI k6), .int p7, .int p8, .int p9, .int (nI k10), .int p11, .long q12, .ref h5, .ref h6, .int (nI k15), .int (nI k16)]), (h1, aI Y 3640 f0), (h2, aZ Y 2 f1), (h3, aZ Y 80 f3), (h4, aB Y 1600 f4), (h5, aI Y 200 f13), (h6, aI Y 800 f14)] sz)) 0 0 (va_A [(h0, oC 13 [.ref h1, .ref h2, .int p2, .ref h3, .ref h4, .int (nI k5), .int (nI k6), .int p7, .int p8, .int p9, .int (nI k10), .int p11, .long q12, .ref h5, .ref h6, .int (nI k15), .int (nI k16)]), (h1, aI Y 3640 f0), (h2, aZ Y 2 f1), (h3, aZ Y 80 f3), (h4, aB Y 1600 f4), (h5, aI Y 200 f13), (h6, aI Y 800 f14)] sz) :=
  met_of (by decide +kernel) (Nat.le_of_ble_eq_true rfl) (fun p e s m args below meth c B hin hsz => by
    have B : VB p s m args meth c D Y (va_A [(h0, oC 13 [.ref h1, .ref h2, .int p2, .ref h3, .ref h4, .int (nI k5), .int (nI k6), .int p7, .int p8, .int p9, .int (nI k10), .int p11, .long q12, .ref h5, .ref h6, .int (nI k15), .int (nI k16)]), (h1, aI Y 3640 f0), (h2, aZ Y 2 f1), (h3, aZ Y 80 f3), (h4, aB Y 1600 f4), (h5, aI Y 200 f13), (h6, aI Y 800 f14)] sz) cX12_clashesReserved 4 RX12 (some .boolean) := B
    have hq_s0 := hs0.1
    refine V_iconst 0 B (v := 0) dX12_clashesReserved_0 (by decide +kernel) ?_
    refine V_istore_n 1 B (lv2 := [(2, .int 0), (0, .ref h0), (1, .int (nI s0))]) dX12_clashesReserved_1 (by decide) rfl ?_
    refine V_iconst 2 B (v := 0) dX12_clashesReserved_2 (by decide +kernel) ?_
    refine V_istore_n 3 B (lv2 := [(3, .int 0), (2, .int 0), (0, .ref h0), (1, .int (nI s0))]) dX12_clashesReserved_3 (by decide) rfl ?_
    refine V_wloop (α := WU) (fun a => 100000 - (a.1 0)) (fun a => (a.1 0) ≤ 6 ∧ ((a.2.1 0) = 0 ∨ (a.2.1 0) = 1)) (fun a => [(3, .int (nI (a.1 0))), (2, .int (a.2.1 0)), (0, .ref h0), (1, .int (nI s0))]) (fun a => [(h0, oC 13 [.ref h1, .ref h2, .int p2, .ref h3, .ref h4, .int (nI k5), .int (nI k6), .int p7, .int p8, .int p9, .int (nI k10), .int p11, .long q12, .ref h5, .ref h6, .int (nI k15), .int (nI k16)]), (h1, aI Y 3640 f0), (h2, aZ Y 2 f1), (h3, aZ Y 80 f3), (h4, aB Y 1600 f4), (h5, aI Y 200 f13), (h6, aI Y 800 f14)]) (mkW [0] [0] [] [] [] []) ⟨(show 0 ≤ 6 by omega), (Or.inl rfl)⟩ rfl rfl (fun a0 hI2 IH1 => ?_)
    refine V_lv [(3, .int (nI (a0.1 0))), (2, .int (a0.2.1 0)), (0, .ref h0), (1, .int (nI s0))] [0, 1, 2, 3] rfl ?_
    refine V_ws [(h0, oC 13 [.ref h1, .ref h2, .int p2, .ref h3, .ref h4, .int (nI k5), .int (nI k6), .int p7, .int p8, .int p9, .int (nI k10), .int p11, .long q12, .ref h5, .ref h6, .int (nI k15), .int (nI k16)]), (h1, aI Y 3640 f0), (h2, aZ Y 2 f1), (h3, aZ Y 80 f3), (h4, aB Y 1600 f4), (h5, aI Y 200 f13), (h6, aI Y 800 f14)] rfl ?_
    obtain ⟨x3, x4⟩ := hI2
    rcases x4 with e5 | e5
    ·
      refine V_lv [(3, .int (nI (a0.1 0))), (2, .int 0), (0, .ref h0), (1, .int (nI s0))] [0, 1, 2, 3] (by rw [e5]; rfl) ?_
      refine V_iload_n 4 B dX12_clashesReserved_4 0 rfl ?_
      refine V_aload_n 5 B dX12_clashesReserved_5 2 rfl ?_
      refine V_get 6 B gf_RX12_9 0 rfl rfl dX12_clashesReserved_6 ?_
      refine V_iconst 9 B (v := 2) dX12_clashesReserved_9 (by decide +kernel) ?_
      have x6 : (gN f0 2) ≤ 6 := gN_le HI (by omega) (show bd 2 = (0, ((6 : Nat) : Int)) by decide +kernel)
      refine V_iald 10 B (v := (nI (gN f0 2))) 1 rfl (vpin _ _ (by decide +kernel)) dX12_clashesReserved_10 (by show f0 2 = _; exact gN_eq HI (by omega) (show bd 2 = (0, ((6 : Nat) : Int)) by decide +kernel)) ?_
      refine V_icmp_ge 11 B 32 dX12_clashesReserved_11 (by decide) (fun kk7 => ?_) (fun kk7 => ?_)
      ·
        have x8 := n_le (a := (gN f0 2)) (b := (a0.1 0)) kk7 (by omega) (by omega)
        refine V_iload_n 32 B dX12_clashesReserved_32 1 rfl ?_
        exact V_zret 33 B rfl dX12_clashesReserved_33 (mkW [] [] [] [] [] []) (Or.inl rfl) rfl
      ·
        have x9 := n_nle (a := (gN f0 2)) (b := (a0.1 0)) kk7 (by omega) (by omega)
        refine V_iload_n 14 B dX12_clashesReserved_14 1 rfl ?_
        refine V_aload_n 15 B dX12_clashesReserved_15 2 rfl ?_
        refine V_iload_n 16 B dX12_clashesReserved_16 0 rfl ?_
        refine V_csi 17 B (st := [.ref h0, .int 0]) (As := [.int (nI (a0.1 0))]) (fun sz => rX12_reservedAt l D Y (a0.1 0) (by omega) sz) glS_RX12_108 ⟨rfl, rfl⟩ ⟨(Nat.le_of_ble_eq_true rfl), (Nat.le_of_ble_eq_true rfl)⟩ ⟨(Nat.le_of_ble_eq_true rfl), (Nat.le_of_ble_eq_true rfl)⟩ [] rfl rfl (Nat.le_of_ble_eq_true rfl) rfl (fun _ _ _ => rfl) dX12_clashesReserved_17 (fun j10 u11 w12 => ?_)
        refine V_ws [(h0, oC 13 [.ref h1, .ref h2, .int p2, .ref h3, .ref h4, .int (nI k5), .int (nI k6), .int p7, .int p8, .int p9, .int (nI k10), .int p11, .long q12, .ref h5, .ref h6, .int (nI k15), .int (nI k16)]), (h1, aI Y 3640 f0), (h2, aZ Y 2 f1), (h3, aZ Y 80 f3), (h4, aB Y 1600 f4), (h5, aI Y 200 f13), (h6, aI Y 800 f14)] rfl ?_
        have x13 := w12
        obtain rfl := x13
        refine V_iload_n 20 B dX12_clashesReserved_20 3 rfl ?_
        refine V_cvi 21 B (st := [.int 0]) (As := [.int (nI (154 + 5 * (a0.1 0))), .int (nI s0)]) (fun sz => rX12_doClash l D Y h0 h1 h2 h3 h4 h5 h6 p2 k5 k6 p7 p8 p9 k10 p11 q12 k15 k16 f0 f1 f3 f4 f13 f14 HI (by omega) HP (154 + 5 * (a0.1 0)) s0 (rl10 (a0.1 0) (by omega)) hs0 sz) glV_RX12_111 ⟨rfl, rfl⟩ ⟨(Nat.le_of_ble_eq_true rfl), (Nat.le_of_ble_eq_true rfl)⟩ ⟨(Nat.le_of_ble_eq_true rfl), (Nat.le_of_ble_eq_true rfl)⟩ [0, 0, 0, 0, 0, 0, 0] rfl 13 0 rfl rfl rfl rfl (Nat.le_of_ble_eq_true rfl) rfl (fun _ _ _ => rfl) dX12_clashesReserved_21 (fun j14 u15 w16 => ?_)
        refine V_ws [(h0, oC 13 [.ref h1, .ref h2, .int p2, .ref h3, .ref h4, .int (nI k5), .int (nI k6), .int p7, .int p8, .int p9, .int (nI k10), .int p11, .long q12, .ref h5, .ref h6, .int (nI k15), .int (nI k16)]), (h1, aI Y 3640 f0), (h2, aZ Y 2 f1), (h3, aZ Y 80 f3), (h4, aB Y 1600 f4), (h5, aI Y 200 f13), (h6, aI Y 800 f14)] rfl ?_
        have x17 := w16
        rcases x17 with ⟨rfl, x18⟩ | ⟨rfl, x18⟩
        ·
          refine V_ior 24 B (v := 0) dX12_clashesReserved_24 (by decide +kernel) ?_
          refine V_istore_n 25 B (lv2 := [(2, .int 0), (3, .int (nI (a0.1 0))), (0, .ref h0), (1, .int (nI s0))]) dX12_clashesReserved_25 (by decide) rfl ?_
          refine V_iinc 26 B (v := (nI (1 + (a0.1 0)))) (lv2 := [(3, .int (nI (1 + (a0.1 0)))), (2, .int 0), (0, .ref h0), (1, .int (nI s0))]) dX12_clashesReserved_26 1 rfl (nI_addE (a := (a0.1 0)) (b := 1) (by omega)) (by decide) rfl ?_
          refine V_goto 29 B 4 dX12_clashesReserved_29 (by decide) ?_
          refine V_lv [(3, .int (nI (1 + (a0.1 0)))), (2, .int 0), (0, .ref h0), (1, .int (nI s0))] [0, 1, 2, 3] rfl ?_
          exact IH1 (mkW [1 + (a0.1 0)] [0] [] [] [] []) ⟨(show 1 + (a0.1 0) ≤ 6 by omega), (Or.inl rfl)⟩ (by show 100000 - (1 + (a0.1 0)) < 100000 - (a0.1 0); omega)
        ·
          refine V_ior 24 B (v := 1) dX12_clashesReserved_24 (by decide +kernel) ?_
          refine V_istore_n 25 B (lv2 := [(2, .int 1), (3, .int (nI (a0.1 0))), (0, .ref h0), (1, .int (nI s0))]) dX12_clashesReserved_25 (by decide) rfl ?_
          refine V_iinc 26 B (v := (nI (1 + (a0.1 0)))) (lv2 := [(3, .int (nI (1 + (a0.1 0)))), (2, .int 1), (0, .ref h0), (1, .int (nI s0))]) dX12_clashesReserved_26 1 rfl (nI_addE (a := (a0.1 0)) (b := 1) (by omega)) (by decide) rfl ?_
          refine V_goto 29 B 4 dX12_clashesReserved_29 (by decide) ?_
          refine V_lv [(3, .int (nI (1 + (a0.1 0)))), (2, .int 1), (0, .ref h0), (1, .int (nI s0))] [0, 1, 2, 3] rfl ?_
          exact IH1 (mkW [1 + (a0.1 0)] [1] [] [] [] []) ⟨(show 1 + (a0.1 0) ≤ 6 by omega), (Or.inr rfl)⟩ (by show 100000 - (1 + (a0.1 0)) < 100000 - (a0.1 0); omega)
    ·
      refine V_lv [(3, .int (nI (a0.1 0))), (2, .int 1), (0, .ref h0), (1, .int (nI s0))] [0, 1, 2, 3] (by rw [e5]; rfl) ?_
      refine V_iload_n 4 B dX12_clashesReserved_4 0 rfl ?_
      refine V_aload_n 5 B dX12_clashesReserved_5 2 rfl ?_
      refine V_get 6 B gf_RX12_9 0 rfl rfl dX12_clashesReserved_6 ?_
      refine V_iconst 9 B (v := 2) dX12_clashesReserved_9 (by decide +kernel) ?_
      have x19 : (gN f0 2) ≤ 6 := gN_le HI (by omega) (show bd 2 = (0, ((6 : Nat) : Int)) by decide +kernel)
      refine V_iald 10 B (v := (nI (gN f0 2))) 1 rfl (vpin _ _ (by decide +kernel)) dX12_clashesReserved_10 (by show f0 2 = _; exact gN_eq HI (by omega) (show bd 2 = (0, ((6 : Nat) : Int)) by decide +kernel)) ?_
      refine V_icmp_ge 11 B 32 dX12_clashesReserved_11 (by decide) (fun kk20 => ?_) (fun kk20 => ?_)
      ·
        have x21 := n_le (a := (gN f0 2)) (b := (a0.1 0)) kk20 (by omega) (by omega)
        refine V_iload_n 32 B dX12_clashesReserved_32 1 rfl ?_
        exact V_zret 33 B rfl dX12_clashesReserved_33 (mkW [] [] [] [] [] []) (Or.inr rfl) rfl
      ·
        have x22 := n_nle (a := (gN f0 2)) (b := (a0.1 0)) kk20 (by omega) (by omega)
        refine V_iload_n 14 B dX12_clashesReserved_14 1 rfl ?_
        refine V_aload_n 15 B dX12_clashesReserved_15 2 rfl ?_
        refine V_iload_n 16 B dX12_clashesReserved_16 0 rfl ?_
        refine V_csi 17 B (st := [.ref h0, .int 1]) (As := [.int (nI (a0.1 0))]) (fun sz => rX12_reservedAt l D Y (a0.1 0) (by omega) sz) glS_RX12_108 ⟨rfl, rfl⟩ ⟨(Nat.le_of_ble_eq_true rfl), (Nat.le_of_ble_eq_true rfl)⟩ ⟨(Nat.le_of_ble_eq_true rfl), (Nat.le_of_ble_eq_true rfl)⟩ [] rfl rfl (Nat.le_of_ble_eq_true rfl) rfl (fun _ _ _ => rfl) dX12_clashesReserved_17 (fun j23 u24 w25 => ?_)
        refine V_ws [(h0, oC 13 [.ref h1, .ref h2, .int p2, .ref h3, .ref h4, .int (nI k5), .int (nI k6), .int p7, .int p8, .int p9, .int (nI k10), .int p11, .long q12, .ref h5, .ref h6, .int (nI k15), .int (nI k16)]), (h1, aI Y 3640 f0), (h2, aZ Y 2 f1), (h3, aZ Y 80 f3), (h4, aB Y 1600 f4), (h5, aI Y 200 f13), (h6, aI Y 800 f14)] rfl ?_
        have x26 := w25
        obtain rfl := x26
        refine V_iload_n 20 B dX12_clashesReserved_20 3 rfl ?_
        refine V_cvi 21 B (st := [.int 1]) (As := [.int (nI (154 + 5 * (a0.1 0))), .int (nI s0)]) (fun sz => rX12_doClash l D Y h0 h1 h2 h3 h4 h5 h6 p2 k5 k6 p7 p8 p9 k10 p11 q12 k15 k16 f0 f1 f3 f4 f13 f14 HI (by omega) HP (154 + 5 * (a0.1 0)) s0 (rl10 (a0.1 0) (by omega)) hs0 sz) glV_RX12_111 ⟨rfl, rfl⟩ ⟨(Nat.le_of_ble_eq_true rfl), (Nat.le_of_ble_eq_true rfl)⟩ ⟨(Nat.le_of_ble_eq_true rfl), (Nat.le_of_ble_eq_true rfl)⟩ [0, 0, 0, 0, 0, 0, 0] rfl 13 0 rfl rfl rfl rfl (Nat.le_of_ble_eq_true rfl) rfl (fun _ _ _ => rfl) dX12_clashesReserved_21 (fun j27 u28 w29 => ?_)
        refine V_ws [(h0, oC 13 [.ref h1, .ref h2, .int p2, .ref h3, .ref h4, .int (nI k5), .int (nI k6), .int p7, .int p8, .int p9, .int (nI k10), .int p11, .long q12, .ref h5, .ref h6, .int (nI k15), .int (nI k16)]), (h1, aI Y 3640 f0), (h2, aZ Y 2 f1), (h3, aZ Y 80 f3), (h4, aB Y 1600 f4), (h5, aI Y 200 f13), (h6, aI Y 800 f14)] rfl ?_
        have x30 := w29
        rcases x30 with ⟨rfl, x31⟩ | ⟨rfl, x31⟩
        ·
          refine V_ior 24 B (v := 1) dX12_clashesReserved_24 (by decide +kernel) ?_
          refine V_istore_n 25 B (lv2 := [(2, .int 1), (3, .int (nI (a0.1 0))), (0, .ref h0), (1, .int (nI s0))]) dX12_clashesReserved_25 (by decide) rfl ?_
          refine V_iinc 26 B (v := (nI (1 + (a0.1 0)))) (lv2 := [(3, .int (nI (1 + (a0.1 0)))), (2, .int 1), (0, .ref h0), (1, .int (nI s0))]) dX12_clashesReserved_26 1 rfl (nI_addE (a := (a0.1 0)) (b := 1) (by omega)) (by decide) rfl ?_
          refine V_goto 29 B 4 dX12_clashesReserved_29 (by decide) ?_
          refine V_lv [(3, .int (nI (1 + (a0.1 0)))), (2, .int 1), (0, .ref h0), (1, .int (nI s0))] [0, 1, 2, 3] rfl ?_
          exact IH1 (mkW [1 + (a0.1 0)] [1] [] [] [] []) ⟨(show 1 + (a0.1 0) ≤ 6 by omega), (Or.inr rfl)⟩ (by show 100000 - (1 + (a0.1 0)) < 100000 - (a0.1 0); omega)
        ·
          refine V_ior 24 B (v := 1) dX12_clashesReserved_24 (by decide +kernel) ?_
          refine V_istore_n 25 B (lv2 := [(2, .int 1), (3, .int (nI (a0.1 0))), (0, .ref h0), (1, .int (nI s0))]) dX12_clashesReserved_25 (by decide) rfl ?_
          refine V_iinc 26 B (v := (nI (1 + (a0.1 0)))) (lv2 := [(3, .int (nI (1 + (a0.1 0)))), (2, .int 1), (0, .ref h0), (1, .int (nI s0))]) dX12_clashesReserved_26 1 rfl (nI_addE (a := (a0.1 0)) (b := 1) (by omega)) (by decide) rfl ?_
          refine V_goto 29 B 4 dX12_clashesReserved_29 (by decide) ?_
          refine V_lv [(3, .int (nI (1 + (a0.1 0)))), (2, .int 1), (0, .ref h0), (1, .int (nI s0))] [0, 1, 2, 3] rfl ?_
          exact IH1 (mkW [1 + (a0.1 0)] [1] [] [] [] []) ⟨(show 1 + (a0.1 0) ≤ 6 by omega), (Or.inr rfl)⟩ (by show 100000 - (1 + (a0.1 0)) < 100000 - (a0.1 0); omega))
theorem dX12_clashIn_0 : decode cX12_clashIn 0 = .ok (.iconst 0, 1) := by decide +kernel
theorem dX12_clashIn_1 : decode cX12_clashIn 1 = .ok (.istore 4, 2) := by decide +kernel
theorem dX12_clashIn_3 : decode cX12_clashIn 3 = .ok (.iload 4, 2) := by decide +kernel
theorem dX12_clashIn_5 : decode cX12_clashIn 5 = .ok (.aload_n 0, 1) := by decide +kernel
theorem dX12_clashIn_6 : decode cX12_clashIn 6 = .ok (.getfield 9, 3) := by decide +kernel
theorem dX12_clashIn_9 : decode cX12_clashIn 9 = .ok (.iconst 3, 1) := by decide +kernel
theorem dX12_clashIn_10 : decode cX12_clashIn 10 = .ok (.iaload, 1) := by decide +kernel
theorem dX12_clashIn_11 : decode cX12_clashIn 11 = .ok (.if_icmp .ge 46, 3) := by decide +kernel
theorem dX12_clashIn_57 : decode cX12_clashIn 57 = .ok (.iconst (-1), 1) := by decide +kernel
theorem dX12_clashIn_58 : decode cX12_clashIn 58 = .ok (.ireturn, 1) := by decide +kernel
theorem dX12_clashIn_14 : decode cX12_clashIn 14 = .ok (.iload 4, 2) := by decide +kernel
theorem dX12_clashIn_16 : decode cX12_clashIn 16 = .ok (.iload_n 3, 1) := by decide +kernel
theorem dX12_clashIn_17 : decode cX12_clashIn 17 = .ok (.if_icmp .eq 34, 3) := by decide +kernel
theorem dX12_clashIn_51 : decode cX12_clashIn 51 = .ok (.iinc 4 1, 3) := by decide +kernel
theorem dX12_clashIn_54 : decode cX12_clashIn 54 = .ok (.goto (-51), 3) := by decide +kernel
theorem dX12_clashIn_20 : decode cX12_clashIn 20 = .ok (.iload_n 1, 1) := by decide +kernel
theorem dX12_clashIn_21 : decode cX12_clashIn 21 = .ok (.iconst (-1), 1) := by decide +kernel
theorem dX12_clashIn_22 : decode cX12_clashIn 22 = .ok (.if_icmp .eq 13, 3) := by decide +kernel
theorem dX12_clashIn_35 : decode cX12_clashIn 35 = .ok (.aload_n 0, 1) := by decide +kernel
theorem dX12_clashIn_36 : decode cX12_clashIn 36 = .ok (.iload 4, 2) := by decide +kernel
theorem dX12_clashIn_38 : decode cX12_clashIn 38 = .ok (.invokestatic 85, 3) := by decide +kernel
theorem dX12_clashIn_41 : decode cX12_clashIn 41 = .ok (.iload_n 2, 1) := by decide +kernel
theorem dX12_clashIn_42 : decode cX12_clashIn 42 = .ok (.invokevirtual 111, 3) := by decide +kernel
theorem dX12_clashIn_45 : decode cX12_clashIn 45 = .ok (.ifCond .eq 6, 3) := by decide +kernel
theorem dX12_clashIn_48 : decode cX12_clashIn 48 = .ok (.iload 4, 2) := by decide +kernel
theorem dX12_clashIn_50 : decode cX12_clashIn 50 = .ok (.ireturn, 1) := by decide +kernel
theorem dX12_clashIn_25 : decode cX12_clashIn 25 = .ok (.aload_n 0, 1) := by decide +kernel
theorem dX12_clashIn_26 : decode cX12_clashIn 26 = .ok (.iload 4, 2) := by decide +kernel
theorem dX12_clashIn_28 : decode cX12_clashIn 28 = .ok (.invokevirtual 115, 3) := by decide +kernel
theorem glV_RX12_115 : GLV RX12 115 yX12_modeOf RX12 cX12_modeOf 2 (some .int) 1 := ⟨⟨(mT8 74 rfl rfl), (mT8 76 rfl rfl), (mTs 41 rfl rfl), (mT1 13 rfl rfl), (mT8 77 rfl rfl)⟩, by decide +kernel⟩
theorem dX12_clashIn_31 : decode cX12_clashIn 31 = .ok (.iload_n 1, 1) := by decide +kernel
theorem dX12_clashIn_32 : decode cX12_clashIn 32 = .ok (.if_icmp .ne 19, 3) := by decide +kernel
set_option maxRecDepth 100000 in
set_option maxHeartbeats 4000000 in
theorem rX12_clashIn (l : Launch) (D : va_G) (Y : Nat → ClassId) (h0 : Nat) (h1 : Nat) (h2 : Nat) (h3 : Nat) (h4 : Nat) (h5 : Nat) (h6 : Nat) (p2 : Int32) (k5 : Nat) (k6 : Nat) (p7 : Int32) (p8 : Int32) (p9 : Int32) (k10 : Nat) (p11 : Int32) (q12 : Int64) (k15 : Nat) (k16 : Nat) (f0 : Nat → Int32) (f1 : Nat → Int32) (f3 : Nat → Int32) (f4 : Nat → Int32) (f13 : Nat → Int32) (f14 : Nat → Int32) (HI : INV f0) (HL : k5 ≤ 1600) (HP : PLV f13) (s0 : Int32) (s1 : Nat) (s2 : Int32) (hs1 : SQ s1) (sz : Nat) : Met l yX12_clashIn (WSm yX12_clashIn cX12_clashIn 5 (some .int)) (mkR 3 0 0 66) (PreC D Y [.ref h0, .int s0, .int (nI s1), .int s2] [(h0, oC 13 [.ref h1, .ref h2, .int p2, .ref h3, .ref h4, .int (nI k5), .int (nI k6), .int p7, .int p8, .int p9, .int (nI k10), .int p11, .long q12, .ref h5, .ref h6, .int (nI k15), .int (nI k16)]), (h1, aI Y 3640 f0), (h2, aZ Y 2 f1), (h3, aZ Y 80 f3), (h4, aB Y 1600 f4), (h5, aI Y 200 f13), (h6, aI Y 800 f14)] sz) (QI D (fun (r : Int32) (u : WU) => ((r = -1 ∧ CLI f0 s0 s2 (gN f0 3) s1) ∨ ∃ b : Nat, r = nI b ∧ b < gN f0 3)) (fun (u : WU) => [(h0, oC 13 [.ref h1, .ref h2, .int p2, .ref h3, .ref h4, .int (nI k5), .int (nI k6), .int p7, .int p8, .int p9, .int (nI k10), .int p11, .long q12, .ref h5, .ref h6, .int (nI k15), .int (nI k16)]), (h1, aI Y 3640 f0), (h2, aZ Y 2 f1), (h3, aZ Y 80 f3), (h4, aB Y 1600 f4), (h5, aI Y 200 f13), (h6, aI Y 800 f14)]) (va_A [(h0, oC 13 [.ref h1, .ref h2, .int p2, .ref h3, .ref h4, .int (nI k5), .int (nI k6), .int p7, .int p8, .int p9, .int (nI k10), .int p11, .long q12, .ref h5, .ref h6, .int (nI k15), .int (nI k16)]), (h1, aI Y 3640 f0), (h2, aZ Y 2 f1), (h3, aZ Y 80 f3), (h4, aB Y 1600 f4), (h5, aI Y 200 f13), (h6, aI Y 800 f14)] sz)) 0 0 (va_A [(h0, oC 13 [.ref h1, .ref h2, .int p2, .ref h3, .ref h4, .int (nI k5), .int (nI k6), .int p7, .int p8, .int p9, .int (nI k10), .int p11, .long q12, .ref h5, .ref h6, .int (nI k15), .int (nI k16)]), (h1, aI Y 3640 f0), (h2, aZ Y 2 f1), (h3, aZ Y 80 f3), (h4, aB Y 1600 f4), (h5, aI Y 200 f13), (h6, aI Y 800 f14)] sz) :=
  met_of (by decide +kernel) (Nat.le_of_ble_eq_true rfl) (fun p e s m args below meth c B hin hsz => by
    have B : VB p s m args meth c D Y (va_A [(h0, oC 13 [.ref h1, .ref h2, .int p2, .ref h3, .ref h4, .int (nI k5), .int (nI k6), .int p7, .int p8, .int p9, .int (nI k10), .int p11, .long q12, .ref h5, .ref h6, .int (nI k15), .int (nI k16)]), (h1, aI Y 3640 f0), (h2, aZ Y 2 f1), (h3, aZ Y 80 f3), (h4, aB Y 1600 f4), (h5, aI Y 200 f13), (h6, aI Y 800 f14)] sz) cX12_clashIn 5 RX12 (some .int) := B
    have hq_s1 := hs1.1
    refine V_iconst 0 B (v := 0) dX12_clashIn_0 (by decide +kernel) ?_
    refine V_istore 1 B (lv2 := [(4, .int 0), (0, .ref h0), (1, .int s0), (2, .int (nI s1)), (3, .int s2)]) dX12_clashIn_1 (by decide) rfl ?_
    refine V_wloop (α := WU) (fun a => 100000 - (a.1 0)) (fun a => (a.1 0) ≤ 80 ∧ CLI f0 s0 s2 (a.1 0) s1) (fun a => [(4, .int (nI (a.1 0))), (0, .ref h0), (1, .int s0), (2, .int (nI s1)), (3, .int s2)]) (fun a => [(h0, oC 13 [.ref h1, .ref h2, .int p2, .ref h3, .ref h4, .int (nI k5), .int (nI k6), .int p7, .int p8, .int p9, .int (nI k10), .int p11, .long q12, .ref h5, .ref h6, .int (nI k15), .int (nI k16)]), (h1, aI Y 3640 f0), (h2, aZ Y 2 f1), (h3, aZ Y 80 f3), (h4, aB Y 1600 f4), (h5, aI Y 200 f13), (h6, aI Y 800 f14)]) (mkW [0] [] [] [] [] []) ⟨(show 0 ≤ 80 by omega), (fun _ _ h => absurd h (Nat.not_lt_zero _))⟩ rfl rfl (fun a0 hI2 IH1 => ?_)
    refine V_lv [(4, .int (nI (a0.1 0))), (0, .ref h0), (1, .int s0), (2, .int (nI s1)), (3, .int s2)] [0, 1, 2, 3, 4] rfl ?_
    refine V_ws [(h0, oC 13 [.ref h1, .ref h2, .int p2, .ref h3, .ref h4, .int (nI k5), .int (nI k6), .int p7, .int p8, .int p9, .int (nI k10), .int p11, .long q12, .ref h5, .ref h6, .int (nI k15), .int (nI k16)]), (h1, aI Y 3640 f0), (h2, aZ Y 2 f1), (h3, aZ Y 80 f3), (h4, aB Y 1600 f4), (h5, aI Y 200 f13), (h6, aI Y 800 f14)] rfl ?_
    obtain ⟨x3, x4⟩ := hI2
    refine V_iload 3 B dX12_clashIn_3 0 rfl ?_
    refine V_aload_n 5 B dX12_clashIn_5 1 rfl ?_
    refine V_get 6 B gf_RX12_9 0 rfl rfl dX12_clashIn_6 ?_
    refine V_iconst 9 B (v := 3) dX12_clashIn_9 (by decide +kernel) ?_
    have x5 : (gN f0 3) ≤ 80 := gN_le HI (by omega) (show bd 3 = (0, ((80 : Nat) : Int)) by decide +kernel)
    refine V_iald 10 B (v := (nI (gN f0 3))) 1 rfl (vpin _ _ (by decide +kernel)) dX12_clashIn_10 (by show f0 3 = _; exact gN_eq HI (by omega) (show bd 3 = (0, ((80 : Nat) : Int)) by decide +kernel)) ?_
    refine V_icmp_ge 11 B 57 dX12_clashIn_11 (by decide) (fun kk6 => ?_) (fun kk6 => ?_)
    ·
      have x7 := n_le (a := (gN f0 3)) (b := (a0.1 0)) kk6 (by omega) (by omega)
      refine V_iconst 57 B (v := (-1)) dX12_clashIn_57 (by decide +kernel) ?_
      exact V_iret 58 B dX12_clashIn_58 (mkW [] [] [] [] [] []) (Or.inl ⟨rfl, fun e b h => x4 e b (by omega)⟩) rfl
    ·
      have x8 := n_nle (a := (gN f0 3)) (b := (a0.1 0)) kk6 (by omega) (by omega)
      refine V_iload 14 B dX12_clashIn_14 0 rfl ?_
      refine V_iload_n 16 B dX12_clashIn_16 4 rfl ?_
      refine V_icmp_eq 17 B 51 dX12_clashIn_17 (by decide) (fun kk9 => ?_) (fun kk9 => ?_)
      ·
        have x10 := x_eq kk9
        rw [nI_toInt (show (a0.1 0) < 2 ^ 31 by omega)] at x10
        refine V_iinc 51 B (v := (nI (1 + (a0.1 0)))) (lv2 := [(4, .int (nI (1 + (a0.1 0)))), (0, .ref h0), (1, .int s0), (2, .int (nI s1)), (3, .int s2)]) dX12_clashIn_51 0 rfl (nI_addE (a := (a0.1 0)) (b := 1) (by omega)) (by decide) rfl ?_
        refine V_goto 54 B 3 dX12_clashIn_54 (by decide) ?_
        refine V_lv [(4, .int (nI (1 + (a0.1 0)))), (0, .ref h0), (1, .int s0), (2, .int (nI s1)), (3, .int s2)] [0, 1, 2, 3, 4] rfl ?_
        exact IH1 (mkW [1 + (a0.1 0)] [] [] [] [] []) ⟨(show 1 + (a0.1 0) ≤ 80 by omega), (cl_but x4 kk9 (by omega))⟩ (by show 100000 - (1 + (a0.1 0)) < 100000 - (a0.1 0); omega)
      ·
        have x11 := x_ne kk9
        rw [nI_toInt (show (a0.1 0) < 2 ^ 31 by omega)] at x11
        refine V_iload_n 20 B dX12_clashIn_20 2 rfl ?_
        refine V_iconst 21 B (v := (-1)) dX12_clashIn_21 (by decide +kernel) ?_
        refine V_icmp_eq 22 B 35 dX12_clashIn_22 (by decide) (fun kk12 => ?_) (fun kk12 => ?_)
        ·
          obtain rfl : s0 = (-1) := kk12
          have e14 : ((-1) : Int32).toInt = (-1) := by decide +kernel
          refine V_aload_n 35 B dX12_clashIn_35 1 rfl ?_
          refine V_iload 36 B dX12_clashIn_36 0 rfl ?_
          refine V_csi 38 B (st := [.ref h0]) (As := [.int (nI (a0.1 0))]) (fun sz => rX12_sequenceOf l D Y (a0.1 0) (by omega) sz) glS_RX12_85 ⟨rfl, rfl⟩ ⟨(Nat.le_of_ble_eq_true rfl), (Nat.le_of_ble_eq_true rfl)⟩ ⟨(Nat.le_of_ble_eq_true rfl), (Nat.le_of_ble_eq_true rfl)⟩ [] rfl rfl (Nat.le_of_ble_eq_true rfl) rfl (fun _ _ _ => rfl) dX12_clashIn_38 (fun j15 u16 w17 => ?_)
          refine V_ws [(h0, oC 13 [.ref h1, .ref h2, .int p2, .ref h3, .ref h4, .int (nI k5), .int (nI k6), .int p7, .int p8, .int p9, .int (nI k10), .int p11, .long q12, .ref h5, .ref h6, .int (nI k15), .int (nI k16)]), (h1, aI Y 3640 f0), (h2, aZ Y 2 f1), (h3, aZ Y 80 f3), (h4, aB Y 1600 f4), (h5, aI Y 200 f13), (h6, aI Y 800 f14)] rfl ?_
          have x18 := w17
          obtain rfl := x18
          refine V_iload_n 41 B dX12_clashIn_41 3 rfl ?_
          refine V_cvi 42 B (st := []) (As := [.int (nI (186 + 7 * (a0.1 0))), .int (nI s1)]) (fun sz => rX12_doClash l D Y h0 h1 h2 h3 h4 h5 h6 p2 k5 k6 p7 p8 p9 k10 p11 q12 k15 k16 f0 f1 f3 f4 f13 f14 HI (by omega) HP (186 + 7 * (a0.1 0)) s1 (rl5 (a0.1 0) (by omega)) hs1 sz) glV_RX12_111 ⟨rfl, rfl⟩ ⟨(Nat.le_of_ble_eq_true rfl), (Nat.le_of_ble_eq_true rfl)⟩ ⟨(Nat.le_of_ble_eq_true rfl), (Nat.le_of_ble_eq_true rfl)⟩ [0, 0, 0, 0, 0, 0, 0] rfl 13 0 rfl rfl rfl rfl (Nat.le_of_ble_eq_true rfl) rfl (fun _ _ _ => rfl) dX12_clashIn_42 (fun j19 u20 w21 => ?_)
          refine V_ws [(h0, oC 13 [.ref h1, .ref h2, .int p2, .ref h3, .ref h4, .int (nI k5), .int (nI k6), .int p7, .int p8, .int p9, .int (nI k10), .int p11, .long q12, .ref h5, .ref h6, .int (nI k15), .int (nI k16)]), (h1, aI Y 3640 f0), (h2, aZ Y 2 f1), (h3, aZ Y 80 f3), (h4, aB Y 1600 f4), (h5, aI Y 200 f13), (h6, aI Y 800 f14)] rfl ?_
          have x22 := w21
          rcases x22 with ⟨rfl, x23⟩ | ⟨rfl, x23⟩
          ·
            refine V_if_eq_t 45 B 51 dX12_clashIn_45 (by decide) (by decide +kernel) ?_
            refine V_iinc 51 B (v := (nI (1 + (a0.1 0)))) (lv2 := [(4, .int (nI (1 + (a0.1 0)))), (0, .ref h0), (1, .int (-1)), (2, .int (nI s1)), (3, .int s2)]) dX12_clashIn_51 0 rfl (nI_addE (a := (a0.1 0)) (b := 1) (by omega)) (by decide) rfl ?_
            refine V_goto 54 B 3 dX12_clashIn_54 (by decide) ?_
            refine V_lv [(4, .int (nI (1 + (a0.1 0)))), (0, .ref h0), (1, .int (-1)), (2, .int (nI s1)), (3, .int s2)] [0, 1, 2, 3, 4] rfl ?_
            exact IH1 (mkW [1 + (a0.1 0)] [] [] [] [] []) ⟨(show 1 + (a0.1 0) ≤ 80 by omega), (cl_dc x4 x23)⟩ (by show 100000 - (1 + (a0.1 0)) < 100000 - (a0.1 0); omega)
          ·
            refine V_if_eq_f 45 B 51 dX12_clashIn_45 (by decide) (by decide +kernel) ?_
            refine V_iload 48 B dX12_clashIn_48 0 rfl ?_
            exact V_iret 50 B dX12_clashIn_50 (mkW [] [] [] [] [] []) (Or.inr ⟨(a0.1 0), rfl, by omega⟩) rfl
        ·
          have x24 := x_ne kk12
          rw [show ((-1) : Int32).toInt = (-1) by decide +kernel] at x24
          refine V_aload_n 25 B dX12_clashIn_25 1 rfl ?_
          refine V_iload 26 B dX12_clashIn_26 0 rfl ?_
          refine V_cvi 28 B (st := []) (As := [.int (nI (a0.1 0))]) (fun sz => rX12_modeOf l D Y h0 h1 h2 h3 h4 h5 h6 p2 k5 k6 p7 p8 p9 k10 p11 q12 k15 k16 f0 f1 f3 f4 f13 f14 HI (by omega) HP (a0.1 0) (by omega) sz) glV_RX12_115 ⟨rfl, rfl⟩ ⟨(Nat.le_of_ble_eq_true rfl), (Nat.le_of_ble_eq_true rfl)⟩ ⟨(Nat.le_of_ble_eq_true rfl), (Nat.le_of_ble_eq_true rfl)⟩ [0, 0, 0, 0, 0, 0, 0] rfl 13 0 rfl rfl rfl rfl (Nat.le_of_ble_eq_true rfl) rfl (fun _ _ _ => rfl) dX12_clashIn_28 (fun j25 u26 w27 => ?_)
          refine V_ws [(h0, oC 13 [.ref h1, .ref h2, .int p2, .ref h3, .ref h4, .int (nI k5), .int (nI k6), .int p7, .int p8, .int p9, .int (nI k10), .int p11, .long q12, .ref h5, .ref h6, .int (nI k15), .int (nI k16)]), (h1, aI Y 3640 f0), (h2, aZ Y 2 f1), (h3, aZ Y 80 f3), (h4, aB Y 1600 f4), (h5, aI Y 200 f13), (h6, aI Y 800 f14)] rfl ?_
          have x28 := w27
          refine V_iload_n 31 B dX12_clashIn_31 2 rfl ?_
          refine V_icmp_ne 32 B 51 dX12_clashIn_32 (by decide) (fun kk29 => ?_) (fun kk29 => ?_)
          ·
            have x30 := x_ne kk29
            refine V_iinc 51 B (v := (nI (1 + (a0.1 0)))) (lv2 := [(4, .int (nI (1 + (a0.1 0)))), (0, .ref h0), (1, .int s0), (2, .int (nI s1)), (3, .int s2)]) dX12_clashIn_51 0 rfl (nI_addE (a := (a0.1 0)) (b := 1) (by omega)) (by decide) rfl ?_
            refine V_goto 54 B 3 dX12_clashIn_54 (by decide) ?_
            refine V_lv [(4, .int (nI (1 + (a0.1 0)))), (0, .ref h0), (1, .int s0), (2, .int (nI s1)), (3, .int s2)] [0, 1, 2, 3, 4] rfl ?_
            exact IH1 (mkW [1 + (a0.1 0)] [] [] [] [] []) ⟨(show 1 + (a0.1 0) ≤ 80 by omega), (cl_mode x4 kk12 (fun z => kk29 (by rw [x28]; exact z)))⟩ (by show 100000 - (1 + (a0.1 0)) < 100000 - (a0.1 0); omega)
          ·
            have x31 := x_eq kk29
            refine V_aload_n 35 B dX12_clashIn_35 1 rfl ?_
            refine V_iload 36 B dX12_clashIn_36 0 rfl ?_
            refine V_csi 38 B (st := [.ref h0]) (As := [.int (nI (a0.1 0))]) (fun sz => rX12_sequenceOf l D Y (a0.1 0) (by omega) sz) glS_RX12_85 ⟨rfl, rfl⟩ ⟨(Nat.le_of_ble_eq_true rfl), (Nat.le_of_ble_eq_true rfl)⟩ ⟨(Nat.le_of_ble_eq_true rfl), (Nat.le_of_ble_eq_true rfl)⟩ [] rfl rfl (Nat.le_of_ble_eq_true rfl) rfl (fun _ _ _ => rfl) dX12_clashIn_38 (fun j32 u33 w34 => ?_)
            refine V_ws [(h0, oC 13 [.ref h1, .ref h2, .int p2, .ref h3, .ref h4, .int (nI k5), .int (nI k6), .int p7, .int p8, .int p9, .int (nI k10), .int p11, .long q12, .ref h5, .ref h6, .int (nI k15), .int (nI k16)]), (h1, aI Y 3640 f0), (h2, aZ Y 2 f1), (h3, aZ Y 80 f3), (h4, aB Y 1600 f4), (h5, aI Y 200 f13), (h6, aI Y 800 f14)] rfl ?_
            have x35 := w34
            obtain rfl := x35
            refine V_iload_n 41 B dX12_clashIn_41 3 rfl ?_
            refine V_cvi 42 B (st := []) (As := [.int (nI (186 + 7 * (a0.1 0))), .int (nI s1)]) (fun sz => rX12_doClash l D Y h0 h1 h2 h3 h4 h5 h6 p2 k5 k6 p7 p8 p9 k10 p11 q12 k15 k16 f0 f1 f3 f4 f13 f14 HI (by omega) HP (186 + 7 * (a0.1 0)) s1 (rl5 (a0.1 0) (by omega)) hs1 sz) glV_RX12_111 ⟨rfl, rfl⟩ ⟨(Nat.le_of_ble_eq_true rfl), (Nat.le_of_ble_eq_true rfl)⟩ ⟨(Nat.le_of_ble_eq_true rfl), (Nat.le_of_ble_eq_true rfl)⟩ [0, 0, 0, 0, 0, 0, 0] rfl 13 0 rfl rfl rfl rfl (Nat.le_of_ble_eq_true rfl) rfl (fun _ _ _ => rfl) dX12_clashIn_42 (fun j36 u37 w38 => ?_)
            refine V_ws [(h0, oC 13 [.ref h1, .ref h2, .int p2, .ref h3, .ref h4, .int (nI k5), .int (nI k6), .int p7, .int p8, .int p9, .int (nI k10), .int p11, .long q12, .ref h5, .ref h6, .int (nI k15), .int (nI k16)]), (h1, aI Y 3640 f0), (h2, aZ Y 2 f1), (h3, aZ Y 80 f3), (h4, aB Y 1600 f4), (h5, aI Y 200 f13), (h6, aI Y 800 f14)] rfl ?_
            have x39 := w38
            rcases x39 with ⟨rfl, x40⟩ | ⟨rfl, x40⟩
            ·
              refine V_if_eq_t 45 B 51 dX12_clashIn_45 (by decide) (by decide +kernel) ?_
              refine V_iinc 51 B (v := (nI (1 + (a0.1 0)))) (lv2 := [(4, .int (nI (1 + (a0.1 0)))), (0, .ref h0), (1, .int s0), (2, .int (nI s1)), (3, .int s2)]) dX12_clashIn_51 0 rfl (nI_addE (a := (a0.1 0)) (b := 1) (by omega)) (by decide) rfl ?_
              refine V_goto 54 B 3 dX12_clashIn_54 (by decide) ?_
              refine V_lv [(4, .int (nI (1 + (a0.1 0)))), (0, .ref h0), (1, .int s0), (2, .int (nI s1)), (3, .int s2)] [0, 1, 2, 3, 4] rfl ?_
              exact IH1 (mkW [1 + (a0.1 0)] [] [] [] [] []) ⟨(show 1 + (a0.1 0) ≤ 80 by omega), (cl_dc x4 x40)⟩ (by show 100000 - (1 + (a0.1 0)) < 100000 - (a0.1 0); omega)
            ·
              refine V_if_eq_f 45 B 51 dX12_clashIn_45 (by decide) (by decide +kernel) ?_
              refine V_iload 48 B dX12_clashIn_48 0 rfl ?_
              exact V_iret 50 B dX12_clashIn_50 (mkW [] [] [] [] [] []) (Or.inr ⟨(a0.1 0), rfl, by omega⟩) rfl)
theorem dX12_canBind_0 : decode cX12_canBind 0 = .ok (.aload_n 0, 1) := by decide +kernel
theorem dX12_canBind_1 : decode cX12_canBind 1 = .ok (.iload_n 2, 1) := by decide +kernel
theorem dX12_canBind_2 : decode cX12_canBind 2 = .ok (.invokevirtual 118, 3) := by decide +kernel
theorem glV_RX12_118 : GLV RX12 118 yX12_clashesReserved RX12 cX12_clashesReserved 4 (some .boolean) 1 := ⟨⟨(mT8 108 rfl rfl), (mT8 110 rfl rfl), (mTs 46 rfl rfl), (mT1 13 rfl rfl), (mT8 111 rfl rfl)⟩, by decide +kernel⟩
theorem dX12_canBind_5 : decode cX12_canBind 5 = .ok (.ifCond .ne 18, 3) := by decide +kernel
theorem dX12_canBind_8 : decode cX12_canBind 8 = .ok (.aload_n 0, 1) := by decide +kernel
theorem dX12_canBind_9 : decode cX12_canBind 9 = .ok (.iload_n 1, 1) := by decide +kernel
theorem dX12_canBind_10 : decode cX12_canBind 10 = .ok (.iload_n 2, 1) := by decide +kernel
theorem dX12_canBind_11 : decode cX12_canBind 11 = .ok (.iconst (-1), 1) := by decide +kernel
theorem dX12_canBind_12 : decode cX12_canBind 12 = .ok (.invokevirtual 121, 3) := by decide +kernel
theorem glV_RX12_121 : GLV RX12 121 yX12_clashIn RX12 cX12_clashIn 5 (some .int) 3 := ⟨⟨(mT8 70 rfl rfl), (mT8 72 rfl rfl), (mTs 40 rfl rfl), (mT1 13 rfl rfl), (mT8 73 rfl rfl)⟩, by decide +kernel⟩
theorem dX12_canBind_15 : decode cX12_canBind 15 = .ok (.iconst (-1), 1) := by decide +kernel
theorem dX12_canBind_16 : decode cX12_canBind 16 = .ok (.if_icmp .ne 7, 3) := by decide +kernel
theorem dX12_canBind_19 : decode cX12_canBind 19 = .ok (.iconst 1, 1) := by decide +kernel
theorem dX12_canBind_20 : decode cX12_canBind 20 = .ok (.goto 4, 3) := by decide +kernel
theorem dX12_canBind_24 : decode cX12_canBind 24 = .ok (.ireturn, 1) := by decide +kernel
theorem dX12_canBind_23 : decode cX12_canBind 23 = .ok (.iconst 0, 1) := by decide +kernel
set_option maxRecDepth 100000 in
set_option maxHeartbeats 4000000 in
theorem rX12_canBind (l : Launch) (D : va_G) (Y : Nat → ClassId) (h0 : Nat) (h1 : Nat) (h2 : Nat) (h3 : Nat) (h4 : Nat) (h5 : Nat) (h6 : Nat) (p2 : Int32) (k5 : Nat) (k6 : Nat) (p7 : Int32) (p8 : Int32) (p9 : Int32) (k10 : Nat) (p11 : Int32) (q12 : Int64) (k15 : Nat) (k16 : Nat) (f0 : Nat → Int32) (f1 : Nat → Int32) (f3 : Nat → Int32) (f4 : Nat → Int32) (f13 : Nat → Int32) (f14 : Nat → Int32) (HI : INV f0) (HL : k5 ≤ 1600) (HP : PLV f13) (s0 : Int32) (s1 : Nat) (hs1 : SQ s1) (sz : Nat) : Met l yX12_canBind (WSm yX12_canBind cX12_canBind 3 (some .boolean)) (mkR 4 0 0 90) (PreC D Y [.ref h0, .int s0, .int (nI s1)] [(h0, oC 13 [.ref h1, .ref h2, .int p2, .ref h3, .ref h4, .int (nI k5), .int (nI k6), .int p7, .int p8, .int p9, .int (nI k10), .int p11, .long q12, .ref h5, .ref h6, .int (nI k15), .int (nI k16)]), (h1, aI Y 3640 f0), (h2, aZ Y 2 f1), (h3, aZ Y 80 f3), (h4, aB Y 1600 f4), (h5, aI Y 200 f13), (h6, aI Y 800 f14)] sz) (QI D (fun (r : Int32) (u : WU) => (r = 0 ∨ r = 1)) (fun (u : WU) => [(h0, oC 13 [.ref h1, .ref h2, .int p2, .ref h3, .ref h4, .int (nI k5), .int (nI k6), .int p7, .int p8, .int p9, .int (nI k10), .int p11, .long q12, .ref h5, .ref h6, .int (nI k15), .int (nI k16)]), (h1, aI Y 3640 f0), (h2, aZ Y 2 f1), (h3, aZ Y 80 f3), (h4, aB Y 1600 f4), (h5, aI Y 200 f13), (h6, aI Y 800 f14)]) (va_A [(h0, oC 13 [.ref h1, .ref h2, .int p2, .ref h3, .ref h4, .int (nI k5), .int (nI k6), .int p7, .int p8, .int p9, .int (nI k10), .int p11, .long q12, .ref h5, .ref h6, .int (nI k15), .int (nI k16)]), (h1, aI Y 3640 f0), (h2, aZ Y 2 f1), (h3, aZ Y 80 f3), (h4, aB Y 1600 f4), (h5, aI Y 200 f13), (h6, aI Y 800 f14)] sz)) 0 0 (va_A [(h0, oC 13 [.ref h1, .ref h2, .int p2, .ref h3, .ref h4, .int (nI k5), .int (nI k6), .int p7, .int p8, .int p9, .int (nI k10), .int p11, .long q12, .ref h5, .ref h6, .int (nI k15), .int (nI k16)]), (h1, aI Y 3640 f0), (h2, aZ Y 2 f1), (h3, aZ Y 80 f3), (h4, aB Y 1600 f4), (h5, aI Y 200 f13), (h6, aI Y 800 f14)] sz) :=
  met_of (by decide +kernel) (Nat.le_of_ble_eq_true rfl) (fun p e s m args below meth c B hin hsz => by
    have B : VB p s m args meth c D Y (va_A [(h0, oC 13 [.ref h1, .ref h2, .int p2, .ref h3, .ref h4, .int (nI k5), .int (nI k6), .int p7, .int p8, .int p9, .int (nI k10), .int p11, .long q12, .ref h5, .ref h6, .int (nI k15), .int (nI k16)]), (h1, aI Y 3640 f0), (h2, aZ Y 2 f1), (h3, aZ Y 80 f3), (h4, aB Y 1600 f4), (h5, aI Y 200 f13), (h6, aI Y 800 f14)] sz) cX12_canBind 3 RX12 (some .boolean) := B
    have hq_s1 := hs1.1
    refine V_aload_n 0 B dX12_canBind_0 0 rfl ?_
    refine V_iload_n 1 B dX12_canBind_1 2 rfl ?_
    refine V_cvi 2 B (st := []) (As := [.int (nI s1)]) (fun sz => rX12_clashesReserved l D Y h0 h1 h2 h3 h4 h5 h6 p2 k5 k6 p7 p8 p9 k10 p11 q12 k15 k16 f0 f1 f3 f4 f13 f14 HI (by omega) HP s1 hs1 sz) glV_RX12_118 ⟨rfl, rfl⟩ ⟨(Nat.le_of_ble_eq_true rfl), (Nat.le_of_ble_eq_true rfl)⟩ ⟨(Nat.le_of_ble_eq_true rfl), (Nat.le_of_ble_eq_true rfl)⟩ [0, 0, 0, 0, 0, 0, 0] rfl 13 0 rfl rfl rfl rfl (Nat.le_of_ble_eq_true rfl) rfl (fun _ _ _ => rfl) dX12_canBind_2 (fun j0 u1 w2 => ?_)
    refine V_ws [(h0, oC 13 [.ref h1, .ref h2, .int p2, .ref h3, .ref h4, .int (nI k5), .int (nI k6), .int p7, .int p8, .int p9, .int (nI k10), .int p11, .long q12, .ref h5, .ref h6, .int (nI k15), .int (nI k16)]), (h1, aI Y 3640 f0), (h2, aZ Y 2 f1), (h3, aZ Y 80 f3), (h4, aB Y 1600 f4), (h5, aI Y 200 f13), (h6, aI Y 800 f14)] rfl ?_
    have x3 := w2
    rcases x3 with rfl | rfl
    ·
      refine V_if_ne_f 5 B 23 dX12_canBind_5 (by decide) (by decide +kernel) ?_
      refine V_aload_n 8 B dX12_canBind_8 0 rfl ?_
      refine V_iload_n 9 B dX12_canBind_9 1 rfl ?_
      refine V_iload_n 10 B dX12_canBind_10 2 rfl ?_
      refine V_iconst 11 B (v := (-1)) dX12_canBind_11 (by decide +kernel) ?_
      refine V_cvi 12 B (st := []) (As := [.int s0, .int (nI s1), .int (-1)]) (fun sz => rX12_clashIn l D Y h0 h1 h2 h3 h4 h5 h6 p2 k5 k6 p7 p8 p9 k10 p11 q12 k15 k16 f0 f1 f3 f4 f13 f14 HI (by omega) HP s0 s1 (-1) hs1 sz) glV_RX12_121 ⟨rfl, rfl⟩ ⟨(Nat.le_of_ble_eq_true rfl), (Nat.le_of_ble_eq_true rfl)⟩ ⟨(Nat.le_of_ble_eq_true rfl), (Nat.le_of_ble_eq_true rfl)⟩ [0, 0, 0, 0, 0, 0, 0] rfl 13 0 rfl rfl rfl rfl (Nat.le_of_ble_eq_true rfl) rfl (fun _ _ _ => rfl) dX12_canBind_12 (fun j4 u5 w6 => ?_)
      refine V_ws [(h0, oC 13 [.ref h1, .ref h2, .int p2, .ref h3, .ref h4, .int (nI k5), .int (nI k6), .int p7, .int p8, .int p9, .int (nI k10), .int p11, .long q12, .ref h5, .ref h6, .int (nI k15), .int (nI k16)]), (h1, aI Y 3640 f0), (h2, aZ Y 2 f1), (h3, aZ Y 80 f3), (h4, aB Y 1600 f4), (h5, aI Y 200 f13), (h6, aI Y 800 f14)] rfl ?_
      have x7 := w6
      have x10 : (gN f0 3) ≤ 80 := gN_le HI (by omega) (show bd 3 = (0, ((80 : Nat) : Int)) by decide +kernel)
      rcases x7 with ⟨rfl, x9⟩ | ⟨n8, rfl, x9⟩
      ·
        refine V_iconst 15 B (v := (-1)) dX12_canBind_15 (by decide +kernel) ?_
        refine V_icmp_ne_f 16 B 23 dX12_canBind_16 (by decide) (by decide +kernel) ?_
        refine V_iconst 19 B (v := 1) dX12_canBind_19 (by decide +kernel) ?_
        refine V_goto 20 B 24 dX12_canBind_20 (by decide) ?_
        exact V_zret 24 B rfl dX12_canBind_24 (mkW [] [] [] [] [] []) (Or.inr rfl) rfl
      ·
        refine V_iconst 15 B (v := (-1)) dX12_canBind_15 (by decide +kernel) ?_
        refine V_icmp_ne 16 B 23 dX12_canBind_16 (by decide) (fun kk11 => ?_) (fun kk11 => ?_)
        ·
          have x12 := x_ne kk11
          rw [nI_toInt (show n8 < 2 ^ 31 by omega)] at x12
          rw [show ((-1) : Int32).toInt = (-1) by decide +kernel] at x12
          refine V_iconst 23 B (v := 0) dX12_canBind_23 (by decide +kernel) ?_
          exact V_zret 24 B rfl dX12_canBind_24 (mkW [] [] [] [] [] []) (Or.inl rfl) rfl
        ·
          have x13 := x_eq kk11
          rw [nI_toInt (show n8 < 2 ^ 31 by omega)] at x13
          rw [show ((-1) : Int32).toInt = (-1) by decide +kernel] at x13
          refine V_iconst 19 B (v := 1) dX12_canBind_19 (by decide +kernel) ?_
          refine V_goto 20 B 24 dX12_canBind_20 (by decide) ?_
          exact V_zret 24 B rfl dX12_canBind_24 (mkW [] [] [] [] [] []) (Or.inr rfl) rfl
    ·
      refine V_if_ne_t 5 B 23 dX12_canBind_5 (by decide) (by decide +kernel) ?_
      refine V_iconst 23 B (v := 0) dX12_canBind_23 (by decide +kernel) ?_
      exact V_zret 24 B rfl dX12_canBind_24 (mkW [] [] [] [] [] []) (Or.inl rfl) rfl)
theorem dX12_reserve_0 : decode cX12_reserve 0 = .ok (.aload_n 0, 1) := by decide +kernel
theorem dX12_reserve_1 : decode cX12_reserve 1 = .ok (.iconst 0, 1) := by decide +kernel
theorem dX12_reserve_2 : decode cX12_reserve 2 = .ok (.putfield 38, 3) := by decide +kernel
theorem dX12_reserve_5 : decode cX12_reserve 5 = .ok (.aload_n 0, 1) := by decide +kernel
theorem dX12_reserve_6 : decode cX12_reserve 6 = .ok (.invokevirtual 125, 3) := by decide +kernel
theorem glV_RX12_125 : GLV RX12 125 yX12_hasNoDraft RX12 cX12_hasNoDraft 1 (some .boolean) 0 := ⟨⟨(mT8 66 rfl rfl), (mT8 68 rfl rfl), (mTs 39 rfl rfl), (mT1 13 rfl rfl), (mT8 69 rfl rfl)⟩, by decide +kernel⟩
theorem dX12_reserve_9 : decode cX12_reserve 9 = .ok (.ifCond .eq 6, 3) := by decide +kernel
theorem dX12_reserve_15 : decode cX12_reserve 15 = .ok (.aload_n 0, 1) := by decide +kernel
theorem dX12_reserve_16 : decode cX12_reserve 16 = .ok (.iconst (-1), 1) := by decide +kernel
theorem dX12_reserve_17 : decode cX12_reserve 17 = .ok (.sipush 3624, 3) := by decide +kernel
theorem dX12_reserve_20 : decode cX12_reserve 20 = .ok (.iconst (-1), 1) := by decide +kernel
theorem dX12_reserve_21 : decode cX12_reserve 21 = .ok (.invokevirtual 121, 3) := by decide +kernel
theorem dX12_reserve_24 : decode cX12_reserve 24 = .ok (.iconst (-1), 1) := by decide +kernel
theorem dX12_reserve_25 : decode cX12_reserve 25 = .ok (.if_icmp .eq 7, 3) := by decide +kernel
theorem dX12_reserve_32 : decode cX12_reserve 32 = .ok (.aload_n 0, 1) := by decide +kernel
theorem dX12_reserve_33 : decode cX12_reserve 33 = .ok (.getfield 9, 3) := by decide +kernel
theorem dX12_reserve_36 : decode cX12_reserve 36 = .ok (.iconst 2, 1) := by decide +kernel
theorem dX12_reserve_37 : decode cX12_reserve 37 = .ok (.iaload, 1) := by decide +kernel
theorem dX12_reserve_38 : decode cX12_reserve 38 = .ok (.bipush 6, 2) := by decide +kernel
theorem dX12_reserve_40 : decode cX12_reserve 40 = .ok (.if_icmp .ne 6, 3) := by decide +kernel
theorem dX12_reserve_46 : decode cX12_reserve 46 = .ok (.aload_n 0, 1) := by decide +kernel
theorem dX12_reserve_47 : decode cX12_reserve 47 = .ok (.sipush 3624, 3) := by decide +kernel
theorem dX12_reserve_50 : decode cX12_reserve 50 = .ok (.aload_n 0, 1) := by decide +kernel
theorem dX12_reserve_51 : decode cX12_reserve 51 = .ok (.getfield 9, 3) := by decide +kernel
theorem dX12_reserve_54 : decode cX12_reserve 54 = .ok (.iconst 2, 1) := by decide +kernel
theorem dX12_reserve_55 : decode cX12_reserve 55 = .ok (.iaload, 1) := by decide +kernel
theorem dX12_reserve_56 : decode cX12_reserve 56 = .ok (.invokestatic 108, 3) := by decide +kernel
theorem dX12_reserve_59 : decode cX12_reserve 59 = .ok (.invokevirtual 88, 3) := by decide +kernel
theorem dX12_reserve_62 : decode cX12_reserve 62 = .ok (.aload_n 0, 1) := by decide +kernel
theorem dX12_reserve_63 : decode cX12_reserve 63 = .ok (.getfield 9, 3) := by decide +kernel
theorem dX12_reserve_66 : decode cX12_reserve 66 = .ok (.iconst 2, 1) := by decide +kernel
theorem dX12_reserve_67 : decode cX12_reserve 67 = .ok (.dup2, 1) := by decide +kernel
theorem dX12_reserve_68 : decode cX12_reserve 68 = .ok (.iaload, 1) := by decide +kernel
theorem dX12_reserve_69 : decode cX12_reserve 69 = .ok (.iconst 1, 1) := by decide +kernel
theorem dX12_reserve_70 : decode cX12_reserve 70 = .ok (.iadd, 1) := by decide +kernel
theorem dX12_reserve_71 : decode cX12_reserve 71 = .ok (.iastore, 1) := by decide +kernel
theorem dX12_reserve_72 : decode cX12_reserve 72 = .ok (.aload_n 0, 1) := by decide +kernel
theorem dX12_reserve_73 : decode cX12_reserve 73 = .ok (.getfield 9, 3) := by decide +kernel
theorem dX12_reserve_76 : decode cX12_reserve 76 = .ok (.iconst 2, 1) := by decide +kernel
theorem dX12_reserve_77 : decode cX12_reserve 77 = .ok (.iaload, 1) := by decide +kernel
theorem dX12_reserve_78 : decode cX12_reserve 78 = .ok (.iconst 1, 1) := by decide +kernel
theorem dX12_reserve_79 : decode cX12_reserve 79 = .ok (.isub, 1) := by decide +kernel
theorem dX12_reserve_80 : decode cX12_reserve 80 = .ok (.ireturn, 1) := by decide +kernel
theorem dX12_reserve_43 : decode cX12_reserve 43 = .ok (.bipush (-2), 2) := by decide +kernel
theorem dX12_reserve_45 : decode cX12_reserve 45 = .ok (.ireturn, 1) := by decide +kernel
theorem dX12_reserve_28 : decode cX12_reserve 28 = .ok (.sipush (-1000), 3) := by decide +kernel
theorem dX12_reserve_31 : decode cX12_reserve 31 = .ok (.ireturn, 1) := by decide +kernel
theorem dX12_reserve_12 : decode cX12_reserve 12 = .ok (.bipush (-4), 2) := by decide +kernel
theorem dX12_reserve_14 : decode cX12_reserve 14 = .ok (.ireturn, 1) := by decide +kernel
set_option maxRecDepth 100000 in
set_option maxHeartbeats 4000000 in
theorem rX12_reserve (l : Launch) (D : va_G) (Y : Nat → ClassId) (h0 : Nat) (h1 : Nat) (h2 : Nat) (h3 : Nat) (h4 : Nat) (h5 : Nat) (h6 : Nat) (p2 : Int32) (k5 : Nat) (k6 : Nat) (p7 : Int32) (p8 : Int32) (p9 : Int32) (k10 : Nat) (p11 : Int32) (q12 : Int64) (k15 : Nat) (k16 : Nat) (f0 : Nat → Int32) (f1 : Nat → Int32) (f3 : Nat → Int32) (f4 : Nat → Int32) (f13 : Nat → Int32) (f14 : Nat → Int32) (HI : INV f0) (HL : k5 ≤ 1600) (HP : PLV f13)   (sz : Nat) : Met l yX12_reserve (WSm yX12_reserve cX12_reserve 1 (some .int)) (mkR 4 0 0 90) (PreC D Y [.ref h0] [(h0, oC 13 [.ref h1, .ref h2, .int p2, .ref h3, .ref h4, .int (nI k5), .int (nI k6), .int p7, .int p8, .int p9, .int (nI k10), .int p11, .long q12, .ref h5, .ref h6, .int (nI k15), .int (nI k16)]), (h1, aI Y 3640 f0), (h2, aZ Y 2 f1), (h3, aZ Y 80 f3), (h4, aB Y 1600 f4), (h5, aI Y 200 f13), (h6, aI Y 800 f14)] sz) (QI D (fun (r : Int32) (u : WU) => INV (u.2.2.2.1 0)) (fun (u : WU) => [(h0, oC 13 [.ref h1, .ref h2, .int (u.2.1 0), .ref h3, .ref h4, .int (nI k5), .int (nI k6), .int p7, .int p8, .int p9, .int (nI k10), .int p11, .long q12, .ref h5, .ref h6, .int (nI k15), .int (nI k16)]), (h1, aI Y 3640 (u.2.2.2.1 0)), (h2, aZ Y 2 f1), (h3, aZ Y 80 f3), (h4, aB Y 1600 f4), (h5, aI Y 200 f13), (h6, aI Y 800 f14)]) (va_A [(h0, oC 13 [.ref h1, .ref h2, .int p2, .ref h3, .ref h4, .int (nI k5), .int (nI k6), .int p7, .int p8, .int p9, .int (nI k10), .int p11, .long q12, .ref h5, .ref h6, .int (nI k15), .int (nI k16)]), (h1, aI Y 3640 f0), (h2, aZ Y 2 f1), (h3, aZ Y 80 f3), (h4, aB Y 1600 f4), (h5, aI Y 200 f13), (h6, aI Y 800 f14)] sz)) 0 0 (va_A [(h0, oC 13 [.ref h1, .ref h2, .int p2, .ref h3, .ref h4, .int (nI k5), .int (nI k6), .int p7, .int p8, .int p9, .int (nI k10), .int p11, .long q12, .ref h5, .ref h6, .int (nI k15), .int (nI k16)]), (h1, aI Y 3640 f0), (h2, aZ Y 2 f1), (h3, aZ Y 80 f3), (h4, aB Y 1600 f4), (h5, aI Y 200 f13), (h6, aI Y 800 f14)] sz) :=
  met_of (by decide +kernel) (Nat.le_of_ble_eq_true rfl) (fun p e s m args below meth c B hin hsz => by
    have B : VB p s m args meth c D Y (va_A [(h0, oC 13 [.ref h1, .ref h2, .int p2, .ref h3, .ref h4, .int (nI k5), .int (nI k6), .int p7, .int p8, .int p9, .int (nI k10), .int p11, .long q12, .ref h5, .ref h6, .int (nI k15), .int (nI k16)]), (h1, aI Y 3640 f0), (h2, aZ Y 2 f1), (h3, aZ Y 80 f3), (h4, aB Y 1600 f4), (h5, aI Y 200 f13), (h6, aI Y 800 f14)] sz) cX12_reserve 1 RX12 (some .int) := B
    refine V_aload_n 0 B dX12_reserve_0 0 rfl ?_
    refine V_iconst 1 B (v := 0) dX12_reserve_1 (by decide +kernel) ?_
    refine V_put 2 B gp_RX12_38 0 rfl (Nat.le_of_ble_eq_true rfl) rfl rfl dX12_reserve_2 [(h0, oC 13 [.ref h1, .ref h2, .int 0, .ref h3, .ref h4, .int (nI k5), .int (nI k6), .int p7, .int p8, .int p9, .int (nI k10), .int p11, .long q12, .ref h5, .ref h6, .int (nI k15), .int (nI k16)]), (h1, aI Y 3640 f0), (h2, aZ Y 2 f1), (h3, aZ Y 80 f3), (h4, aB Y 1600 f4), (h5, aI Y 200 f13), (h6, aI Y 800 f14)] rfl ?_
    refine V_aload_n 5 B dX12_reserve_5 0 rfl ?_
    refine V_cvi 6 B (st := []) (As := []) (fun sz => rX12_hasNoDraft l D Y h0 h1 h2 h3 h4 h5 h6 0 k5 k6 p7 p8 p9 k10 p11 q12 k15 k16 f0 f1 f3 f4 f13 f14 HI (by omega) HP sz) glV_RX12_125 ⟨rfl, rfl⟩ ⟨(Nat.le_of_ble_eq_true rfl), (Nat.le_of_ble_eq_true rfl)⟩ ⟨(Nat.le_of_ble_eq_true rfl), (Nat.le_of_ble_eq_true rfl)⟩ [0, 0, 0, 0, 0, 0, 0] rfl 13 0 rfl rfl rfl rfl (Nat.le_of_ble_eq_true rfl) rfl (fun _ _ _ => rfl) dX12_reserve_6 (fun j0 u1 w2 => ?_)
    refine V_ws [(h0, oC 13 [.ref h1, .ref h2, .int 0, .ref h3, .ref h4, .int (nI k5), .int (nI k6), .int p7, .int p8, .int p9, .int (nI k10), .int p11, .long q12, .ref h5, .ref h6, .int (nI k15), .int (nI k16)]), (h1, aI Y 3640 f0), (h2, aZ Y 2 f1), (h3, aZ Y 80 f3), (h4, aB Y 1600 f4), (h5, aI Y 200 f13), (h6, aI Y 800 f14)] rfl ?_
    have x3 := w2
    rcases x3 with rfl | rfl
    ·
      refine V_if_eq_t 9 B 15 dX12_reserve_9 (by decide) (by decide +kernel) ?_
      refine V_aload_n 15 B dX12_reserve_15 0 rfl ?_
      refine V_iconst 16 B (v := (-1)) dX12_reserve_16 (by decide +kernel) ?_
      refine V_sipush 17 B (v := 3624) dX12_reserve_17 (by decide +kernel) ?_
      refine V_iconst 20 B (v := (-1)) dX12_reserve_20 (by decide +kernel) ?_
      refine V_cvi 21 B (st := []) (As := [.int (-1), .int 3624, .int (-1)]) (fun sz => rX12_clashIn l D Y h0 h1 h2 h3 h4 h5 h6 0 k5 k6 p7 p8 p9 k10 p11 q12 k15 k16 f0 f1 f3 f4 f13 f14 HI (by omega) HP (-1) 3624 (-1) (show SQ 3624 by unfold SQ; decide +kernel) sz) glV_RX12_121 ⟨rfl, rfl⟩ ⟨(Nat.le_of_ble_eq_true rfl), (Nat.le_of_ble_eq_true rfl)⟩ ⟨(Nat.le_of_ble_eq_true rfl), (Nat.le_of_ble_eq_true rfl)⟩ [0, 0, 0, 0, 0, 0, 0] rfl 13 0 rfl rfl rfl rfl (Nat.le_of_ble_eq_true rfl) rfl (fun _ _ _ => rfl) dX12_reserve_21 (fun j4 u5 w6 => ?_)
      refine V_ws [(h0, oC 13 [.ref h1, .ref h2, .int 0, .ref h3, .ref h4, .int (nI k5), .int (nI k6), .int p7, .int p8, .int p9, .int (nI k10), .int p11, .long q12, .ref h5, .ref h6, .int (nI k15), .int (nI k16)]), (h1, aI Y 3640 f0), (h2, aZ Y 2 f1), (h3, aZ Y 80 f3), (h4, aB Y 1600 f4), (h5, aI Y 200 f13), (h6, aI Y 800 f14)] rfl ?_
      have x7 := w6
      have x10 : (gN f0 3) ≤ 80 := gN_le HI (by omega) (show bd 3 = (0, ((80 : Nat) : Int)) by decide +kernel)
      rcases x7 with ⟨rfl, x9⟩ | ⟨n8, rfl, x9⟩
      ·
        refine V_iconst 24 B (v := (-1)) dX12_reserve_24 (by decide +kernel) ?_
        refine V_icmp_eq_t 25 B 32 dX12_reserve_25 (by decide) (by decide +kernel) ?_
        refine V_aload_n 32 B dX12_reserve_32 0 rfl ?_
        refine V_get 33 B gf_RX12_9 0 rfl rfl dX12_reserve_33 ?_
        refine V_iconst 36 B (v := 2) dX12_reserve_36 (by decide +kernel) ?_
        have x11 : (gN f0 2) ≤ 6 := gN_le HI (by omega) (show bd 2 = (0, ((6 : Nat) : Int)) by decide +kernel)
        refine V_iald 37 B (v := (nI (gN f0 2))) 1 rfl (vpin _ _ (by decide +kernel)) dX12_reserve_37 (by show f0 2 = _; exact gN_eq HI (by omega) (show bd 2 = (0, ((6 : Nat) : Int)) by decide +kernel)) ?_
        refine V_bipush 38 B (v := 6) dX12_reserve_38 (by decide +kernel) ?_
        refine V_icmp_ne 40 B 46 dX12_reserve_40 (by decide) (fun kk12 => ?_) (fun kk12 => ?_)
        ·
          have x13 := n_ne (a := (gN f0 2)) (b := 6) kk12
          refine V_aload_n 46 B dX12_reserve_46 0 rfl ?_
          refine V_sipush 47 B (v := 3624) dX12_reserve_47 (by decide +kernel) ?_
          refine V_aload_n 50 B dX12_reserve_50 0 rfl ?_
          refine V_get 51 B gf_RX12_9 0 rfl rfl dX12_reserve_51 ?_
          refine V_iconst 54 B (v := 2) dX12_reserve_54 (by decide +kernel) ?_
          have x14 : (gN f0 2) ≤ 6 := gN_le HI (by omega) (show bd 2 = (0, ((6 : Nat) : Int)) by decide +kernel)
          refine V_iald 55 B (v := (nI (gN f0 2))) 1 rfl (vpin _ _ (by decide +kernel)) dX12_reserve_55 (by show f0 2 = _; exact gN_eq HI (by omega) (show bd 2 = (0, ((6 : Nat) : Int)) by decide +kernel)) ?_
          refine V_csi 56 B (st := [.int 3624, .ref h0]) (As := [.int (nI (gN f0 2))]) (fun sz => rX12_reservedAt l D Y (gN f0 2) (by omega) sz) glS_RX12_108 ⟨rfl, rfl⟩ ⟨(Nat.le_of_ble_eq_true rfl), (Nat.le_of_ble_eq_true rfl)⟩ ⟨(Nat.le_of_ble_eq_true rfl), (Nat.le_of_ble_eq_true rfl)⟩ [] rfl rfl (Nat.le_of_ble_eq_true rfl) rfl (fun _ _ _ => rfl) dX12_reserve_56 (fun j15 u16 w17 => ?_)
          refine V_ws [(h0, oC 13 [.ref h1, .ref h2, .int 0, .ref h3, .ref h4, .int (nI k5), .int (nI k6), .int p7, .int p8, .int p9, .int (nI k10), .int p11, .long q12, .ref h5, .ref h6, .int (nI k15), .int (nI k16)]), (h1, aI Y 3640 f0), (h2, aZ Y 2 f1), (h3, aZ Y 80 f3), (h4, aB Y 1600 f4), (h5, aI Y 200 f13), (h6, aI Y 800 f14)] rfl ?_
          have x18 := w17
          obtain rfl := x18
          refine V_cvv 59 B (st := []) (As := [.int 3624, .int (nI (154 + 5 * (gN f0 2)))]) (fun sz => rX12_copySequence l D Y h0 h1 h2 h3 h4 h5 h6 0 k5 k6 p7 p8 p9 k10 p11 q12 k15 k16 f0 f1 f3 f4 f13 f14 HI (by omega) HP 3624 (154 + 5 * (gN f0 2)) (show SQ 3624 by unfold SQ; decide +kernel) (rl10 (gN f0 2) (by omega)) sz) glV_RX12_88 ⟨rfl, rfl⟩ ⟨(Nat.le_of_ble_eq_true rfl), (Nat.le_of_ble_eq_true rfl)⟩ ⟨(Nat.le_of_ble_eq_true rfl), (Nat.le_of_ble_eq_true rfl)⟩ [0, 0, 0, 0, 0, 0, 0] rfl 13 0 rfl rfl rfl rfl (Nat.le_of_ble_eq_true rfl) rfl (fun _ _ => rfl) dX12_reserve_59 (fun u20 w21 => ?_)
          refine V_ws [(h0, oC 13 [.ref h1, .ref h2, .int 0, .ref h3, .ref h4, .int (nI k5), .int (nI k6), .int p7, .int p8, .int p9, .int (nI k10), .int p11, .long q12, .ref h5, .ref h6, .int (nI k15), .int (nI k16)]), (h1, aI Y 3640 (u20.2.2.2.1 0)), (h2, aZ Y 2 f1), (h3, aZ Y 80 f3), (h4, aB Y 1600 f4), (h5, aI Y 200 f13), (h6, aI Y 800 f14)] rfl ?_
          obtain ⟨x22, x23⟩ := w21
          refine V_aload_n 62 B dX12_reserve_62 0 rfl ?_
          refine V_get 63 B gf_RX12_9 0 rfl rfl dX12_reserve_63 ?_
          refine V_iconst 66 B (v := 2) dX12_reserve_66 (by decide +kernel) ?_
          refine V_dup2_11 67 B dX12_reserve_67 rfl rfl ?_
          have x24 : (gN f0 2) ≤ 6 := gN_le HI (by omega) (show bd 2 = (0, ((6 : Nat) : Int)) by decide +kernel)
          refine V_iald 68 B (v := (nI (gN f0 2))) 1 rfl (vpin _ _ (by decide +kernel)) dX12_reserve_68 (by show (u20.2.2.2.1 0) 2 = _; rw [x23 _ (by omega)]; exact gN_eq HI (by omega) (show bd 2 = (0, ((6 : Nat) : Int)) by decide +kernel)) ?_
          refine V_iconst 69 B (v := 1) dX12_reserve_69 (by decide +kernel) ?_
          refine V_iadd 70 B (v := (nI (1 + (gN f0 2)))) dX12_reserve_70 (nI_addE (a := (gN f0 2)) (b := 1) (by omega)) ?_
          have hv25 : INV (upd (u20.2.2.2.1 0) 2 (nI (1 + (gN f0 2)))) := INV_nat (v := 1 + (gN f0 2)) x22 (show bd 2 = (0, ((6 : Nat) : Int)) by decide +kernel) (by omega) (by decide)
          refine V_iast 71 B 1 rfl (vpin _ _ (by decide +kernel)) dX12_reserve_71 [(h0, oC 13 [.ref h1, .ref h2, .int 0, .ref h3, .ref h4, .int (nI k5), .int (nI k6), .int p7, .int p8, .int p9, .int (nI k10), .int p11, .long q12, .ref h5, .ref h6, .int (nI k15), .int (nI k16)]), (h1, aI Y 3640 (upd (u20.2.2.2.1 0) 2 (nI (1 + (gN f0 2))))), (h2, aZ Y 2 f1), (h3, aZ Y 80 f3), (h4, aB Y 1600 f4), (h5, aI Y 200 f13), (h6, aI Y 800 f14)] rfl ?_
          refine V_aload_n 72 B dX12_reserve_72 0 rfl ?_
          refine V_get 73 B gf_RX12_9 0 rfl rfl dX12_reserve_73 ?_
          refine V_iconst 76 B (v := 2) dX12_reserve_76 (by decide +kernel) ?_
          refine V_iald 77 B (v := (nI (1 + (gN f0 2)))) 1 rfl (vpin _ _ (by decide +kernel)) dX12_reserve_77 (by show (upd (u20.2.2.2.1 0) 2 (nI (1 + (gN f0 2)))) 2 = _; exact upd_at) ?_
          refine V_iconst 78 B (v := 1) dX12_reserve_78 (by decide +kernel) ?_
          refine V_isub 79 B (v := (nI (gN f0 2))) dX12_reserve_79 (nI_subE (a := 1 + (gN f0 2)) (b := 1) (by omega)) ?_
          exact V_iret 80 B dX12_reserve_80 (mkW [] [0] [] [(upd (u20.2.2.2.1 0) 2 (nI (1 + (gN f0 2))))] [] []) hv25 rfl
        ·
          have x26 := n_eq (a := (gN f0 2)) (b := 6) kk12 (by omega) (by omega)
          refine V_bipush 43 B (v := (-2)) dX12_reserve_43 (by decide +kernel) ?_
          exact V_iret 45 B dX12_reserve_45 (mkW [] [0] [] [f0] [] []) HI rfl
      ·
        refine V_iconst 24 B (v := (-1)) dX12_reserve_24 (by decide +kernel) ?_
        refine V_icmp_eq 25 B 32 dX12_reserve_25 (by decide) (fun kk27 => ?_) (fun kk27 => ?_)
        ·
          have x28 := x_eq kk27
          rw [nI_toInt (show n8 < 2 ^ 31 by omega)] at x28
          rw [show ((-1) : Int32).toInt = (-1) by decide +kernel] at x28
          refine V_aload_n 32 B dX12_reserve_32 0 rfl ?_
          refine V_get 33 B gf_RX12_9 0 rfl rfl dX12_reserve_33 ?_
          refine V_iconst 36 B (v := 2) dX12_reserve_36 (by decide +kernel) ?_
          have x29 : (gN f0 2) ≤ 6 := gN_le HI (by omega) (show bd 2 = (0, ((6 : Nat) : Int)) by decide +kernel)
          refine V_iald 37 B (v := (nI (gN f0 2))) 1 rfl (vpin _ _ (by decide +kernel)) dX12_reserve_37 (by show f0 2 = _; exact gN_eq HI (by omega) (show bd 2 = (0, ((6 : Nat) : Int)) by decide +kernel)) ?_
          refine V_bipush 38 B (v := 6) dX12_reserve_38 (by decide +kernel) ?_
          refine V_icmp_ne 40 B 46 dX12_reserve_40 (by decide) (fun kk30 => ?_) (fun kk30 => ?_)
          ·
            have x31 := n_ne (a := (gN f0 2)) (b := 6) kk30
            refine V_aload_n 46 B dX12_reserve_46 0 rfl ?_
            refine V_sipush 47 B (v := 3624) dX12_reserve_47 (by decide +kernel) ?_
            refine V_aload_n 50 B dX12_reserve_50 0 rfl ?_
            refine V_get 51 B gf_RX12_9 0 rfl rfl dX12_reserve_51 ?_
            refine V_iconst 54 B (v := 2) dX12_reserve_54 (by decide +kernel) ?_
            have x32 : (gN f0 2) ≤ 6 := gN_le HI (by omega) (show bd 2 = (0, ((6 : Nat) : Int)) by decide +kernel)
            refine V_iald 55 B (v := (nI (gN f0 2))) 1 rfl (vpin _ _ (by decide +kernel)) dX12_reserve_55 (by show f0 2 = _; exact gN_eq HI (by omega) (show bd 2 = (0, ((6 : Nat) : Int)) by decide +kernel)) ?_
            refine V_csi 56 B (st := [.int 3624, .ref h0]) (As := [.int (nI (gN f0 2))]) (fun sz => rX12_reservedAt l D Y (gN f0 2) (by omega) sz) glS_RX12_108 ⟨rfl, rfl⟩ ⟨(Nat.le_of_ble_eq_true rfl), (Nat.le_of_ble_eq_true rfl)⟩ ⟨(Nat.le_of_ble_eq_true rfl), (Nat.le_of_ble_eq_true rfl)⟩ [] rfl rfl (Nat.le_of_ble_eq_true rfl) rfl (fun _ _ _ => rfl) dX12_reserve_56 (fun j33 u34 w35 => ?_)
            refine V_ws [(h0, oC 13 [.ref h1, .ref h2, .int 0, .ref h3, .ref h4, .int (nI k5), .int (nI k6), .int p7, .int p8, .int p9, .int (nI k10), .int p11, .long q12, .ref h5, .ref h6, .int (nI k15), .int (nI k16)]), (h1, aI Y 3640 f0), (h2, aZ Y 2 f1), (h3, aZ Y 80 f3), (h4, aB Y 1600 f4), (h5, aI Y 200 f13), (h6, aI Y 800 f14)] rfl ?_
            have x36 := w35
            obtain rfl := x36
            refine V_cvv 59 B (st := []) (As := [.int 3624, .int (nI (154 + 5 * (gN f0 2)))]) (fun sz => rX12_copySequence l D Y h0 h1 h2 h3 h4 h5 h6 0 k5 k6 p7 p8 p9 k10 p11 q12 k15 k16 f0 f1 f3 f4 f13 f14 HI (by omega) HP 3624 (154 + 5 * (gN f0 2)) (show SQ 3624 by unfold SQ; decide +kernel) (rl10 (gN f0 2) (by omega)) sz) glV_RX12_88 ⟨rfl, rfl⟩ ⟨(Nat.le_of_ble_eq_true rfl), (Nat.le_of_ble_eq_true rfl)⟩ ⟨(Nat.le_of_ble_eq_true rfl), (Nat.le_of_ble_eq_true rfl)⟩ [0, 0, 0, 0, 0, 0, 0] rfl 13 0 rfl rfl rfl rfl (Nat.le_of_ble_eq_true rfl) rfl (fun _ _ => rfl) dX12_reserve_59 (fun u38 w39 => ?_)
            refine V_ws [(h0, oC 13 [.ref h1, .ref h2, .int 0, .ref h3, .ref h4, .int (nI k5), .int (nI k6), .int p7, .int p8, .int p9, .int (nI k10), .int p11, .long q12, .ref h5, .ref h6, .int (nI k15), .int (nI k16)]), (h1, aI Y 3640 (u38.2.2.2.1 0)), (h2, aZ Y 2 f1), (h3, aZ Y 80 f3), (h4, aB Y 1600 f4), (h5, aI Y 200 f13), (h6, aI Y 800 f14)] rfl ?_
            obtain ⟨x40, x41⟩ := w39
            refine V_aload_n 62 B dX12_reserve_62 0 rfl ?_
            refine V_get 63 B gf_RX12_9 0 rfl rfl dX12_reserve_63 ?_
            refine V_iconst 66 B (v := 2) dX12_reserve_66 (by decide +kernel) ?_
            refine V_dup2_11 67 B dX12_reserve_67 rfl rfl ?_
            have x42 : (gN f0 2) ≤ 6 := gN_le HI (by omega) (show bd 2 = (0, ((6 : Nat) : Int)) by decide +kernel)
            refine V_iald 68 B (v := (nI (gN f0 2))) 1 rfl (vpin _ _ (by decide +kernel)) dX12_reserve_68 (by show (u38.2.2.2.1 0) 2 = _; rw [x41 _ (by omega)]; exact gN_eq HI (by omega) (show bd 2 = (0, ((6 : Nat) : Int)) by decide +kernel)) ?_
            refine V_iconst 69 B (v := 1) dX12_reserve_69 (by decide +kernel) ?_
            refine V_iadd 70 B (v := (nI (1 + (gN f0 2)))) dX12_reserve_70 (nI_addE (a := (gN f0 2)) (b := 1) (by omega)) ?_
            have hv43 : INV (upd (u38.2.2.2.1 0) 2 (nI (1 + (gN f0 2)))) := INV_nat (v := 1 + (gN f0 2)) x40 (show bd 2 = (0, ((6 : Nat) : Int)) by decide +kernel) (by omega) (by decide)
            refine V_iast 71 B 1 rfl (vpin _ _ (by decide +kernel)) dX12_reserve_71 [(h0, oC 13 [.ref h1, .ref h2, .int 0, .ref h3, .ref h4, .int (nI k5), .int (nI k6), .int p7, .int p8, .int p9, .int (nI k10), .int p11, .long q12, .ref h5, .ref h6, .int (nI k15), .int (nI k16)]), (h1, aI Y 3640 (upd (u38.2.2.2.1 0) 2 (nI (1 + (gN f0 2))))), (h2, aZ Y 2 f1), (h3, aZ Y 80 f3), (h4, aB Y 1600 f4), (h5, aI Y 200 f13), (h6, aI Y 800 f14)] rfl ?_
            refine V_aload_n 72 B dX12_reserve_72 0 rfl ?_
            refine V_get 73 B gf_RX12_9 0 rfl rfl dX12_reserve_73 ?_
            refine V_iconst 76 B (v := 2) dX12_reserve_76 (by decide +kernel) ?_
            refine V_iald 77 B (v := (nI (1 + (gN f0 2)))) 1 rfl (vpin _ _ (by decide +kernel)) dX12_reserve_77 (by show (upd (u38.2.2.2.1 0) 2 (nI (1 + (gN f0 2)))) 2 = _; exact upd_at) ?_
            refine V_iconst 78 B (v := 1) dX12_reserve_78 (by decide +kernel) ?_
            refine V_isub 79 B (v := (nI (gN f0 2))) dX12_reserve_79 (nI_subE (a := 1 + (gN f0 2)) (b := 1) (by omega)) ?_
            exact V_iret 80 B dX12_reserve_80 (mkW [] [0] [] [(upd (u38.2.2.2.1 0) 2 (nI (1 + (gN f0 2))))] [] []) hv43 rfl
          ·
            have x44 := n_eq (a := (gN f0 2)) (b := 6) kk30 (by omega) (by omega)
            refine V_bipush 43 B (v := (-2)) dX12_reserve_43 (by decide +kernel) ?_
            exact V_iret 45 B dX12_reserve_45 (mkW [] [0] [] [f0] [] []) HI rfl
        ·
          have x45 := x_ne kk27
          rw [nI_toInt (show n8 < 2 ^ 31 by omega)] at x45
          rw [show ((-1) : Int32).toInt = (-1) by decide +kernel] at x45
          refine V_sipush 28 B (v := (-1000)) dX12_reserve_28 (by decide +kernel) ?_
          exact V_iret 31 B dX12_reserve_31 (mkW [] [0] [] [f0] [] []) HI rfl
    ·
      refine V_if_eq_f 9 B 15 dX12_reserve_9 (by decide) (by decide +kernel) ?_
      refine V_bipush 12 B (v := (-4)) dX12_reserve_12 (by decide +kernel) ?_
      exact V_iret 14 B dX12_reserve_14 (mkW [] [0] [] [f0] [] []) HI rfl)
