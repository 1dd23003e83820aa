theorem dX12_packed_0 : decode cX12_packed 0 = .ok (.aload_n 0, 1) := by decide +kernel
theorem dX12_packed_1 : decode cX12_packed 1 = .ok (.iconst 0, 1) := by decide +kernel
theorem dX12_packed_2 : decode cX12_packed 2 = .ok (.putfield 38, 3) := by decide +kernel
theorem dX12_packed_5 : decode cX12_packed 5 = .ok (.aload_n 0, 1) := by decide +kernel
theorem dX12_packed_6 : decode cX12_packed 6 = .ok (.aload_n 0, 1) := by decide +kernel
theorem dX12_packed_7 : decode cX12_packed 7 = .ok (.iload_n 1, 1) := by decide +kernel
theorem dX12_packed_8 : decode cX12_packed 8 = .ok (.invokevirtual 82, 3) := by decide +kernel
theorem dX12_packed_11 : decode cX12_packed 11 = .ok (.ifCond .ne 7, 3) := by decide +kernel
theorem dX12_packed_14 : decode cX12_packed 14 = .ok (.iconst 1, 1) := by decide +kernel
theorem dX12_packed_15 : decode cX12_packed 15 = .ok (.goto 4, 3) := by decide +kernel
theorem dX12_packed_19 : decode cX12_packed 19 = .ok (.iconst 1, 1) := by decide +kernel
theorem dX12_packed_20 : decode cX12_packed 20 = .ok (.invokevirtual 69, 3) := by decide +kernel
theorem dX12_packed_23 : decode cX12_packed 23 = .ok (.ifCond .ne 28, 3) := by decide +kernel
theorem dX12_packed_51 : decode cX12_packed 51 = .ok (.iconst 0, 1) := by decide +kernel
theorem dX12_packed_52 : decode cX12_packed 52 = .ok (.ireturn, 1) := by decide +kernel
theorem dX12_packed_18 : decode cX12_packed 18 = .ok (.iconst 0, 1) := by decide +kernel
theorem dX12_packed_26 : decode cX12_packed 26 = .ok (.aload_n 0, 1) := by decide +kernel
theorem dX12_packed_27 : decode cX12_packed 27 = .ok (.iload_n 2, 1) := by decide +kernel
theorem dX12_packed_28 : decode cX12_packed 28 = .ok (.i2l, 1) := by decide +kernel
theorem dX12_packed_29 : decode cX12_packed 29 = .ok (.lconst 0, 1) := by decide +kernel
theorem dX12_packed_30 : decode cX12_packed 30 = .ok (.ldc2_w 189, 3) := by decide +kernel
theorem dX12_packed_33 : decode cX12_packed 33 = .ok (.invokestatic 41, 3) := by decide +kernel
theorem dX12_packed_36 : decode cX12_packed 36 = .ok (.ifCond .ne 7, 3) := by decide +kernel
theorem dX12_packed_39 : decode cX12_packed 39 = .ok (.iconst 1, 1) := by decide +kernel
theorem dX12_packed_40 : decode cX12_packed 40 = .ok (.goto 4, 3) := by decide +kernel
theorem dX12_packed_44 : decode cX12_packed 44 = .ok (.iconst 2, 1) := by decide +kernel
theorem dX12_packed_45 : decode cX12_packed 45 = .ok (.invokevirtual 69, 3) := by decide +kernel
theorem dX12_packed_48 : decode cX12_packed 48 = .ok (.ifCond .eq 5, 3) := by decide +kernel
theorem dX12_packed_43 : decode cX12_packed 43 = .ok (.iconst 0, 1) := by decide +kernel
theorem dX12_packed_53 : decode cX12_packed 53 = .ok (.lconst 0, 1) := by decide +kernel
theorem dX12_packed_54 : decode cX12_packed 54 = .ok (.lstore_n 3, 1) := by decide +kernel
theorem dX12_packed_55 : decode cX12_packed 55 = .ok (.iconst 1, 1) := by decide +kernel
theorem dX12_packed_56 : decode cX12_packed 56 = .ok (.istore 5, 2) := by decide +kernel
theorem dX12_packed_58 : decode cX12_packed 58 = .ok (.iload 5, 2) := by decide +kernel
theorem dX12_packed_60 : decode cX12_packed 60 = .ok (.aload_n 0, 1) := by decide +kernel
theorem dX12_packed_61 : decode cX12_packed 61 = .ok (.getfield 9, 3) := by decide +kernel
theorem dX12_packed_64 : decode cX12_packed 64 = .ok (.iload_n 1, 1) := by decide +kernel
theorem dX12_packed_65 : decode cX12_packed 65 = .ok (.invokestatic 85, 3) := by decide +kernel
theorem dX12_packed_68 : decode cX12_packed 68 = .ok (.iaload, 1) := by decide +kernel
theorem dX12_packed_69 : decode cX12_packed 69 = .ok (.if_icmp .gt 31, 3) := by decide +kernel
theorem dX12_packed_100 : decode cX12_packed 100 = .ok (.iload_n 2, 1) := by decide +kernel
theorem dX12_packed_101 : decode cX12_packed 101 = .ok (.ifCond .ne 9, 3) := by decide +kernel
theorem dX12_packed_110 : decode cX12_packed 110 = .ok (.iload_n 2, 1) := by decide +kernel
theorem dX12_packed_111 : decode cX12_packed 111 = .ok (.iconst 1, 1) := by decide +kernel
theorem dX12_packed_112 : decode cX12_packed 112 = .ok (.if_icmp .ne 9, 3) := by decide +kernel
theorem dX12_packed_121 : decode cX12_packed 121 = .ok (.iload_n 2, 1) := by decide +kernel
theorem dX12_packed_122 : decode cX12_packed 122 = .ok (.iconst 2, 1) := by decide +kernel
theorem dX12_packed_123 : decode cX12_packed 123 = .ok (.if_icmp .ne 9, 3) := by decide +kernel
theorem dX12_packed_132 : decode cX12_packed 132 = .ok (.lload_n 3, 1) := by decide +kernel
theorem dX12_packed_133 : decode cX12_packed 133 = .ok (.l2i, 1) := by decide +kernel
theorem dX12_packed_134 : decode cX12_packed 134 = .ok (.ireturn, 1) := by decide +kernel
theorem dX12_packed_126 : decode cX12_packed 126 = .ok (.lload_n 3, 1) := by decide +kernel
theorem dX12_packed_127 : decode cX12_packed 127 = .ok (.l2i, 1) := by decide +kernel
theorem dX12_packed_128 : decode cX12_packed 128 = .ok (.i2c, 1) := by decide +kernel
theorem dX12_packed_129 : decode cX12_packed 129 = .ok (.goto 5, 3) := by decide +kernel
theorem dX12_packed_115 : decode cX12_packed 115 = .ok (.lload_n 3, 1) := by decide +kernel
theorem dX12_packed_116 : decode cX12_packed 116 = .ok (.l2i, 1) := by decide +kernel
theorem dX12_packed_117 : decode cX12_packed 117 = .ok (.i2s, 1) := by decide +kernel
theorem dX12_packed_118 : decode cX12_packed 118 = .ok (.goto 16, 3) := by decide +kernel
theorem dX12_packed_104 : decode cX12_packed 104 = .ok (.lload_n 3, 1) := by decide +kernel
theorem dX12_packed_105 : decode cX12_packed 105 = .ok (.l2i, 1) := by decide +kernel
theorem dX12_packed_106 : decode cX12_packed 106 = .ok (.i2b, 1) := by decide +kernel
theorem dX12_packed_107 : decode cX12_packed 107 = .ok (.goto 27, 3) := by decide +kernel
theorem dX12_packed_72 : decode cX12_packed 72 = .ok (.ldc2_w 191, 3) := by decide +kernel
theorem dX12_packed_75 : decode cX12_packed 75 = .ok (.lload_n 3, 1) := by decide +kernel
theorem dX12_packed_76 : decode cX12_packed 76 = .ok (.lmul, 1) := by decide +kernel
theorem dX12_packed_77 : decode cX12_packed 77 = .ok (.aload_n 0, 1) := by decide +kernel
theorem dX12_packed_78 : decode cX12_packed 78 = .ok (.getfield 9, 3) := by decide +kernel
theorem dX12_packed_81 : decode cX12_packed 81 = .ok (.iload_n 1, 1) := by decide +kernel
theorem dX12_packed_82 : decode cX12_packed 82 = .ok (.invokestatic 85, 3) := by decide +kernel
theorem dX12_packed_85 : decode cX12_packed 85 = .ok (.iload 5, 2) := by decide +kernel
theorem dX12_packed_87 : decode cX12_packed 87 = .ok (.iadd, 1) := by decide +kernel
theorem dX12_packed_88 : decode cX12_packed 88 = .ok (.iaload, 1) := by decide +kernel
theorem rl14 : ∀ z0, z0 < 5 → 1 ≤ z0 → ∀ z1, z1 < 80 → bd (186 + z0 + 7 * z1) = FREE := by decide +kernel
theorem dX12_packed_89 : decode cX12_packed 89 = .ok (.i2l, 1) := by decide +kernel
theorem dX12_packed_90 : decode cX12_packed 90 = .ok (.ladd, 1) := by decide +kernel
theorem dX12_packed_91 : decode cX12_packed 91 = .ok (.lconst 1, 1) := by decide +kernel
theorem dX12_packed_92 : decode cX12_packed 92 = .ok (.ladd, 1) := by decide +kernel
theorem dX12_packed_93 : decode cX12_packed 93 = .ok (.lstore_n 3, 1) := by decide +kernel
theorem dX12_packed_94 : decode cX12_packed 94 = .ok (.iinc 5 1, 3) := by decide +kernel
theorem dX12_packed_97 : decode cX12_packed 97 = .ok (.goto (-39), 3) := by decide +kernel
set_option maxRecDepth 100000 in
set_option maxHeartbeats 4000000 in
theorem rX12_packed (l : Launch) (D : va_G) (Y : Nat → ClassId) (h0 : Nat) (h1 : Nat) (h2 : Nat) (h3 : Nat) (h4 : Nat) (h5 : Nat) (h6 : Nat) (p2 : Int32) (k5 : Nat) (k6 : Nat) (p7 : Int32) (p8 : Int32) (p9 : Int32) (k10 : Nat) (p11 : Int32) (q12 : Int64) (k15 : Nat) (k16 : Nat) (f0 : Nat → Int32) (f1 : Nat → Int32) (f3 : Nat → Int32) (f4 : Nat → Int32) (f13 : Nat → Int32) (f14 : Nat → Int32) (ph : Nat → Int32) (HI : INV ph f0) (HL : k5 ≤ 1600) (HP : PLV f13) (s0 : Int32) (s1 : Int32)  (sz : Nat) : Met l yX12_packed (WSm yX12_packed cX12_packed 6 (some .int)) (mkR 2 0 0 46) (PreC D Y [.ref h0, .int s0, .int s1] [(h0, oC 13 [.ref h1, .ref h2, .int p2, .ref h3, .ref h4, .int (nI k5), .int (nI k6), .int p7, .int p8, .int p9, .int (nI k10), .int p11, .long q12, .ref h5, .ref h6, .int (nI k15), .int (nI k16)]), (h1, aI Y 3640 f0), (h2, aZ Y 2 f1), (h3, aZ Y 80 f3), (h4, aB Y 1600 f4), (h5, aI Y 200 f13), (h6, aI Y 800 f14)] sz) (QI D (fun (r : Int32) (u : WU) => True) (fun (u : WU) => [(h0, oC 13 [.ref h1, .ref h2, .int (u.2.1 0), .ref h3, .ref h4, .int (nI k5), .int (nI k6), .int p7, .int p8, .int p9, .int (nI k10), .int p11, .long q12, .ref h5, .ref h6, .int (nI k15), .int (nI k16)]), (h1, aI Y 3640 f0), (h2, aZ Y 2 f1), (h3, aZ Y 80 f3), (h4, aB Y 1600 f4), (h5, aI Y 200 f13), (h6, aI Y 800 f14)]) (va_A [(h0, oC 13 [.ref h1, .ref h2, .int p2, .ref h3, .ref h4, .int (nI k5), .int (nI k6), .int p7, .int p8, .int p9, .int (nI k10), .int p11, .long q12, .ref h5, .ref h6, .int (nI k15), .int (nI k16)]), (h1, aI Y 3640 f0), (h2, aZ Y 2 f1), (h3, aZ Y 80 f3), (h4, aB Y 1600 f4), (h5, aI Y 200 f13), (h6, aI Y 800 f14)] sz)) 0 0 (va_A [(h0, oC 13 [.ref h1, .ref h2, .int p2, .ref h3, .ref h4, .int (nI k5), .int (nI k6), .int p7, .int p8, .int p9, .int (nI k10), .int p11, .long q12, .ref h5, .ref h6, .int (nI k15), .int (nI k16)]), (h1, aI Y 3640 f0), (h2, aZ Y 2 f1), (h3, aZ Y 80 f3), (h4, aB Y 1600 f4), (h5, aI Y 200 f13), (h6, aI Y 800 f14)] sz) :=
  met_of  (by decide +kernel) (Nat.le_of_ble_eq_true rfl) (fun p e s m args below meth c B hin hsz => by
    have B : VB p s m args meth c D Y (va_A [(h0, oC 13 [.ref h1, .ref h2, .int p2, .ref h3, .ref h4, .int (nI k5), .int (nI k6), .int p7, .int p8, .int p9, .int (nI k10), .int p11, .long q12, .ref h5, .ref h6, .int (nI k15), .int (nI k16)]), (h1, aI Y 3640 f0), (h2, aZ Y 2 f1), (h3, aZ Y 80 f3), (h4, aB Y 1600 f4), (h5, aI Y 200 f13), (h6, aI Y 800 f14)] sz) cX12_packed 6 RX12 (some .int) := B
    refine V_aload_n 0 B dX12_packed_0 0 rfl ?_
    refine V_iconst 1 B (v := 0) dX12_packed_1 (by decide +kernel) ?_
    refine V_put 2 B gp_RX12_38 0 rfl (Nat.le_of_ble_eq_true rfl) rfl rfl dX12_packed_2 [(h0, oC 13 [.ref h1, .ref h2, .int 0, .ref h3, .ref h4, .int (nI k5), .int (nI k6), .int p7, .int p8, .int p9, .int (nI k10), .int p11, .long q12, .ref h5, .ref h6, .int (nI k15), .int (nI k16)]), (h1, aI Y 3640 f0), (h2, aZ Y 2 f1), (h3, aZ Y 80 f3), (h4, aB Y 1600 f4), (h5, aI Y 200 f13), (h6, aI Y 800 f14)] rfl ?_
    refine V_aload_n 5 B dX12_packed_5 0 rfl ?_
    refine V_aload_n 6 B dX12_packed_6 0 rfl ?_
    refine V_iload_n 7 B dX12_packed_7 1 rfl ?_
    refine V_cvi 8 B (st := [.ref h0]) (As := [.int s0]) (fun sz => rX12_isBinding l D Y h0 h1 h2 h3 h4 h5 h6 0 k5 k6 p7 p8 p9 k10 p11 q12 k15 k16 f0 f1 f3 f4 f13 f14 ph HI (by omega) HP s0 sz) glV_RX12_82 ⟨rfl, rfl⟩ ⟨(Nat.le_of_ble_eq_true rfl), (Nat.le_of_ble_eq_true rfl)⟩ ⟨(Nat.le_of_ble_eq_true rfl), (Nat.le_of_ble_eq_true rfl)⟩ [0, 0, 0, 0, 0, 0, 0] rfl 13 0 rfl rfl rfl rfl (Nat.le_of_ble_eq_true rfl) rfl (fun _ _ _ => rfl) dX12_packed_8 (fun j0 u1 w2 => ?_)
    refine V_ws [(h0, oC 13 [.ref h1, .ref h2, .int 0, .ref h3, .ref h4, .int (nI k5), .int (nI k6), .int p7, .int p8, .int p9, .int (nI k10), .int p11, .long q12, .ref h5, .ref h6, .int (nI k15), .int (nI k16)]), (h1, aI Y 3640 f0), (h2, aZ Y 2 f1), (h3, aZ Y 80 f3), (h4, aB Y 1600 f4), (h5, aI Y 200 f13), (h6, aI Y 800 f14)] rfl ?_
    have x3 := w2
    clear w2
    have x7 : (gN f0 3) ≤ 80 := gN_le HI (by omega) (show bd 3 = (0, ((80 : Nat) : Int)) by decide +kernel)
    rcases x3 with rfl | ⟨rfl, n4, rfl, x6⟩
    ·
      refine V_if_ne_f 11 B 18 dX12_packed_11 (by decide) (by decide +kernel) ?_
      refine V_iconst 14 B (v := 1) dX12_packed_14 (by decide +kernel) ?_
      refine V_goto 15 B 19 dX12_packed_15 (by decide) ?_
      refine V_iconst 19 B (v := 1) dX12_packed_19 (by decide +kernel) ?_
      refine V_cvi 20 B (st := []) (As := [.int 1, .int 1]) (fun sz => rX12_throwsIf_1 l D Y h0 h1 h2 h3 h4 h5 h6 0 k5 k6 p7 p8 p9 k10 p11 q12 k15 k16 f0 f1 f3 f4 f13 f14 ph HI (by omega) HP 1 sz) glV_RX12_69 ⟨rfl, rfl⟩ ⟨(Nat.le_of_ble_eq_true rfl), (Nat.le_of_ble_eq_true rfl)⟩ ⟨(Nat.le_of_ble_eq_true rfl), (Nat.le_of_ble_eq_true rfl)⟩ [0, 0, 0, 0, 0, 0, 0] rfl 13 0 rfl rfl rfl rfl (Nat.le_of_ble_eq_true rfl) rfl (fun _ _ _ => rfl) dX12_packed_20 (fun j8 u9 w10 => ?_)
      refine V_ws [(h0, oC 13 [.ref h1, .ref h2, .int (u9.2.1 0), .ref h3, .ref h4, .int (nI k5), .int (nI k6), .int p7, .int p8, .int p9, .int (nI k10), .int p11, .long q12, .ref h5, .ref h6, .int (nI k15), .int (nI k16)]), (h1, aI Y 3640 f0), (h2, aZ Y 2 f1), (h3, aZ Y 80 f3), (h4, aB Y 1600 f4), (h5, aI Y 200 f13), (h6, aI Y 800 f14)] rfl ?_
      have x11 := w10
      clear w10
      obtain rfl := x11
      refine V_if_ne_t 23 B 51 dX12_packed_23 (by decide) (by decide +kernel) ?_
      refine V_iconst 51 B (v := 0) dX12_packed_51 (by decide +kernel) ?_
      exact V_iret 52 B dX12_packed_52 (mkW [] [(u9.2.1 0)] [] [] [] []) trivial rfl
    ·
      have e12 := nI_toInt (show n4 < 2 ^ 31 by omega)
      have x13 : (gN f0 3) ≤ 80 := gN_le HI (by omega) (show bd 3 = (0, ((80 : Nat) : Int)) by decide +kernel)
      refine V_if_ne_t 11 B 18 dX12_packed_11 (by decide) (by decide +kernel) ?_
      refine V_iconst 18 B (v := 0) dX12_packed_18 (by decide +kernel) ?_
      refine V_iconst 19 B (v := 1) dX12_packed_19 (by decide +kernel) ?_
      refine V_cvi 20 B (st := []) (As := [.int 0, .int 1]) (fun sz => rX12_throwsIf_0 l D Y h0 h1 h2 h3 h4 h5 h6 0 k5 k6 p7 p8 p9 k10 p11 q12 k15 k16 f0 f1 f3 f4 f13 f14 ph HI (by omega) HP 1 sz) glV_RX12_69 ⟨rfl, rfl⟩ ⟨(Nat.le_of_ble_eq_true rfl), (Nat.le_of_ble_eq_true rfl)⟩ ⟨(Nat.le_of_ble_eq_true rfl), (Nat.le_of_ble_eq_true rfl)⟩ [0, 0, 0, 0, 0, 0, 0] rfl 13 0 rfl rfl rfl rfl (Nat.le_of_ble_eq_true rfl) rfl (fun _ _ _ => rfl) dX12_packed_20 (fun j14 u15 w16 => ?_)
      refine V_ws [(h0, oC 13 [.ref h1, .ref h2, .int (u15.2.1 0), .ref h3, .ref h4, .int (nI k5), .int (nI k6), .int p7, .int p8, .int p9, .int (nI k10), .int p11, .long q12, .ref h5, .ref h6, .int (nI k15), .int (nI k16)]), (h1, aI Y 3640 f0), (h2, aZ Y 2 f1), (h3, aZ Y 80 f3), (h4, aB Y 1600 f4), (h5, aI Y 200 f13), (h6, aI Y 800 f14)] rfl ?_
      have x17 := w16
      clear w16
      obtain rfl := x17
      refine V_if_ne_f 23 B 51 dX12_packed_23 (by decide) (by decide +kernel) ?_
      refine V_aload_n 26 B dX12_packed_26 0 rfl ?_
      refine V_iload_n 27 B dX12_packed_27 2 rfl ?_
      refine V_i2l 28 B dX12_packed_28 rfl ?_
      refine V_nml (fun o18 e19 => ?_)
      have x20 : o18.toInt = s1.toInt := by rw [e19, Int32.toInt_toInt64]
      refine V_lconst 29 B (v := 0) dX12_packed_29 (by decide +kernel) ?_
      refine V_ldc2 30 B (v := 3) dX12_packed_30 (mT9 34 rfl rfl) ?_
      refine V_csi 33 B (st := [.ref h0]) (As := [.long o18, .long 0, .long 3]) (fun sz => rX12_inRange l D Y o18 0 3 sz) glS_RX12_41 ⟨rfl, rfl⟩ ⟨(Nat.le_of_ble_eq_true rfl), (Nat.le_of_ble_eq_true rfl)⟩ ⟨(Nat.le_of_ble_eq_true rfl), (Nat.le_of_ble_eq_true rfl)⟩ [] rfl rfl (Nat.le_of_ble_eq_true rfl) rfl (fun _ _ _ => rfl) dX12_packed_33 (fun j21 u22 w23 => ?_)
      refine V_ws [(h0, oC 13 [.ref h1, .ref h2, .int (u15.2.1 0), .ref h3, .ref h4, .int (nI k5), .int (nI k6), .int p7, .int p8, .int p9, .int (nI k10), .int p11, .long q12, .ref h5, .ref h6, .int (nI k15), .int (nI k16)]), (h1, aI Y 3640 f0), (h2, aZ Y 2 f1), (h3, aZ Y 80 f3), (h4, aB Y 1600 f4), (h5, aI Y 200 f13), (h6, aI Y 800 f14)] rfl ?_
      rcases w23 with ⟨rfl, x26⟩ | ⟨rfl, x24, x25⟩
      ·
        rw [show (0 : Int64).toInt = 0 by decide +kernel] at x26
        rw [show (3 : Int64).toInt = 3 by decide +kernel] at x26
        refine V_if_ne_f 36 B 43 dX12_packed_36 (by decide) (by decide +kernel) ?_
        refine V_iconst 39 B (v := 1) dX12_packed_39 (by decide +kernel) ?_
        refine V_goto 40 B 44 dX12_packed_40 (by decide) ?_
        refine V_iconst 44 B (v := 2) dX12_packed_44 (by decide +kernel) ?_
        refine V_cvi 45 B (st := []) (As := [.int 1, .int 2]) (fun sz => rX12_throwsIf_1 l D Y h0 h1 h2 h3 h4 h5 h6 (u15.2.1 0) k5 k6 p7 p8 p9 k10 p11 q12 k15 k16 f0 f1 f3 f4 f13 f14 ph HI (by omega) HP 2 sz) glV_RX12_69 ⟨rfl, rfl⟩ ⟨(Nat.le_of_ble_eq_true rfl), (Nat.le_of_ble_eq_true rfl)⟩ ⟨(Nat.le_of_ble_eq_true rfl), (Nat.le_of_ble_eq_true rfl)⟩ [0, 0, 0, 0, 0, 0, 0] rfl 13 0 rfl rfl rfl rfl (Nat.le_of_ble_eq_true rfl) rfl (fun _ _ _ => rfl) dX12_packed_45 (fun j27 u28 w29 => ?_)
        refine V_ws [(h0, oC 13 [.ref h1, .ref h2, .int (u28.2.1 0), .ref h3, .ref h4, .int (nI k5), .int (nI k6), .int p7, .int p8, .int p9, .int (nI k10), .int p11, .long q12, .ref h5, .ref h6, .int (nI k15), .int (nI k16)]), (h1, aI Y 3640 f0), (h2, aZ Y 2 f1), (h3, aZ Y 80 f3), (h4, aB Y 1600 f4), (h5, aI Y 200 f13), (h6, aI Y 800 f14)] rfl ?_
        have x30 := w29
        clear w29
        obtain rfl := x30
        refine V_if_eq_f 48 B 53 dX12_packed_48 (by decide) (by decide +kernel) ?_
        refine V_iconst 51 B (v := 0) dX12_packed_51 (by decide +kernel) ?_
        exact V_iret 52 B dX12_packed_52 (mkW [] [(u28.2.1 0)] [] [] [] []) trivial rfl
      ·
        rw [show (0 : Int64).toInt = 0 by decide +kernel] at x24
        rw [show (3 : Int64).toInt = 3 by decide +kernel] at x25
        refine V_if_ne_t 36 B 43 dX12_packed_36 (by decide) (by decide +kernel) ?_
        refine V_iconst 43 B (v := 0) dX12_packed_43 (by decide +kernel) ?_
        refine V_iconst 44 B (v := 2) dX12_packed_44 (by decide +kernel) ?_
        refine V_cvi 45 B (st := []) (As := [.int 0, .int 2]) (fun sz => rX12_throwsIf_0 l D Y h0 h1 h2 h3 h4 h5 h6 (u15.2.1 0) k5 k6 p7 p8 p9 k10 p11 q12 k15 k16 f0 f1 f3 f4 f13 f14 ph HI (by omega) HP 2 sz) glV_RX12_69 ⟨rfl, rfl⟩ ⟨(Nat.le_of_ble_eq_true rfl), (Nat.le_of_ble_eq_true rfl)⟩ ⟨(Nat.le_of_ble_eq_true rfl), (Nat.le_of_ble_eq_true rfl)⟩ [0, 0, 0, 0, 0, 0, 0] rfl 13 0 rfl rfl rfl rfl (Nat.le_of_ble_eq_true rfl) rfl (fun _ _ _ => rfl) dX12_packed_45 (fun j31 u32 w33 => ?_)
        refine V_ws [(h0, oC 13 [.ref h1, .ref h2, .int (u32.2.1 0), .ref h3, .ref h4, .int (nI k5), .int (nI k6), .int p7, .int p8, .int p9, .int (nI k10), .int p11, .long q12, .ref h5, .ref h6, .int (nI k15), .int (nI k16)]), (h1, aI Y 3640 f0), (h2, aZ Y 2 f1), (h3, aZ Y 80 f3), (h4, aB Y 1600 f4), (h5, aI Y 200 f13), (h6, aI Y 800 f14)] rfl ?_
        have x34 := w33
        clear w33
        obtain rfl := x34
        refine V_if_eq_t 48 B 53 dX12_packed_48 (by decide) (by decide +kernel) ?_
        refine V_lconst 53 B (v := 0) dX12_packed_53 (by decide +kernel) ?_
        refine V_lstore_n 54 B (lv2 := [(3, .long 0), (0, .ref h0), (1, .int (nI n4)), (2, .int s1)]) dX12_packed_54 (by decide) rfl ?_
        refine V_iconst 55 B (v := 1) dX12_packed_55 (by decide +kernel) ?_
        refine V_istore 56 B (lv2 := [(5, .int 1), (3, .long 0), (0, .ref h0), (1, .int (nI n4)), (2, .int s1)]) dX12_packed_56 (by decide) rfl ?_
        refine V_wloop (α := WU) (fun a => 100000 - (a.1 0)) (fun a => (a.1 0) ≤ 4000 ∧ 1 ≤ (a.1 0)) (fun a => [(5, .int (nI (a.1 0))), (3, .long (a.2.2.1 0)), (0, .ref h0), (1, .int (nI n4)), (2, .int s1)]) (fun a => [(h0, oC 13 [.ref h1, .ref h2, .int (u32.2.1 0), .ref h3, .ref h4, .int (nI k5), .int (nI k6), .int p7, .int p8, .int p9, .int (nI k10), .int p11, .long q12, .ref h5, .ref h6, .int (nI k15), .int (nI k16)]), (h1, aI Y 3640 f0), (h2, aZ Y 2 f1), (h3, aZ Y 80 f3), (h4, aB Y 1600 f4), (h5, aI Y 200 f13), (h6, aI Y 800 f14)]) (mkW [1] [] [0] [] [] []) ⟨(show 1 ≤ 4000 by omega), (show 1 ≤ 1 by omega)⟩ rfl rfl (fun a35 hI37 IH36 => ?_)
        refine V_lv [(5, .int (nI (a35.1 0))), (3, .long (a35.2.2.1 0)), (0, .ref h0), (1, .int (nI n4)), (2, .int s1)] [0, 1, 2, 3, 4] rfl ?_
        refine V_ws [(h0, oC 13 [.ref h1, .ref h2, .int (u32.2.1 0), .ref h3, .ref h4, .int (nI k5), .int (nI k6), .int p7, .int p8, .int p9, .int (nI k10), .int p11, .long q12, .ref h5, .ref h6, .int (nI k15), .int (nI k16)]), (h1, aI Y 3640 f0), (h2, aZ Y 2 f1), (h3, aZ Y 80 f3), (h4, aB Y 1600 f4), (h5, aI Y 200 f13), (h6, aI Y 800 f14)] rfl ?_
        obtain ⟨x38, x39⟩ := hI37
        refine V_iload 58 B dX12_packed_58 0 rfl ?_
        refine V_aload_n 60 B dX12_packed_60 2 rfl ?_
        refine V_get 61 B gf_RX12_9 0 rfl rfl dX12_packed_61 ?_
        refine V_iload_n 64 B dX12_packed_64 3 rfl ?_
        refine V_csi 65 B (st := [.ref h1, .int (nI (a35.1 0))]) (As := [.int (nI n4)]) (fun sz => rX12_sequenceOf l D Y n4 (by omega) sz) glS_RX12_85 ⟨rfl, rfl⟩ ⟨(Nat.le_of_ble_eq_true rfl), (Nat.le_of_ble_eq_true rfl)⟩ ⟨(Nat.le_of_ble_eq_true rfl), (Nat.le_of_ble_eq_true rfl)⟩ [] rfl rfl (Nat.le_of_ble_eq_true rfl) rfl (fun _ _ _ => rfl) dX12_packed_65 (fun j40 u41 w42 => ?_)
        refine V_ws [(h0, oC 13 [.ref h1, .ref h2, .int (u32.2.1 0), .ref h3, .ref h4, .int (nI k5), .int (nI k6), .int p7, .int p8, .int p9, .int (nI k10), .int p11, .long q12, .ref h5, .ref h6, .int (nI k15), .int (nI k16)]), (h1, aI Y 3640 f0), (h2, aZ Y 2 f1), (h3, aZ Y 80 f3), (h4, aB Y 1600 f4), (h5, aI Y 200 f13), (h6, aI Y 800 f14)] rfl ?_
        have x43 := w42
        clear w42
        obtain rfl := x43
        have x44 : (gN f0 (186 + 7 * n4)) ≤ 4 := gN_le HI (by omega) (rl11 n4 (by omega))
        refine V_iald 68 B (v := (nI ((gN f0 (186 + 7 * n4))))) 1 rfl (vp_in_nI (n := 186 + 7 * n4) (by omega) (by decide)) dX12_packed_68 (by rw [nI_clamp (show 186 + 7 * n4 < 2 ^ 31 by omega)]; exact gN_eq HI (by omega) (rl11 n4 (by omega))) ?_
        refine V_icmp_gt 69 B 100 dX12_packed_69 (by decide) (fun kk45 => ?_) (fun kk45 => ?_)
        ·
          have x46 := n_lt (a := (gN f0 (186 + 7 * n4))) (b := (a35.1 0)) kk45 (by omega) (by omega)
          refine V_iload_n 100 B dX12_packed_100 4 rfl ?_
          refine V_if_ne 101 B 110 dX12_packed_101 (by decide) (fun kk47 => ?_) (fun kk47 => ?_)
          ·
            have x48 := x_ne kk47
            rw [show (0 : Int32).toInt = 0 by decide +kernel] at x48
            refine V_iload_n 110 B dX12_packed_110 4 rfl ?_
            refine V_iconst 111 B (v := 1) dX12_packed_111 (by decide +kernel) ?_
            refine V_icmp_ne 112 B 121 dX12_packed_112 (by decide) (fun kk49 => ?_) (fun kk49 => ?_)
            ·
              have x50 := x_ne kk49
              rw [show (1 : Int32).toInt = 1 by decide +kernel] at x50
              refine V_iload_n 121 B dX12_packed_121 4 rfl ?_
              refine V_iconst 122 B (v := 2) dX12_packed_122 (by decide +kernel) ?_
              refine V_icmp_ne 123 B 132 dX12_packed_123 (by decide) (fun kk51 => ?_) (fun kk51 => ?_)
              ·
                have x52 := x_ne kk51
                rw [show (2 : Int32).toInt = 2 by decide +kernel] at x52
                refine V_lload_n 132 B dX12_packed_132 1 rfl ?_
                refine V_l2i 133 B dX12_packed_133 rfl ?_
                refine V_nmi (fun j53 e54 => ?_)
                exact V_iret 134 B dX12_packed_134 (mkW [] [(u32.2.1 0)] [] [] [] []) trivial rfl
              ·
                obtain rfl : s1 = 2 := kk51
                have e56 : (2 : Int32).toInt = 2 := by decide +kernel
                refine V_lload_n 126 B dX12_packed_126 1 rfl ?_
                refine V_l2i 127 B dX12_packed_127 rfl ?_
                refine V_nmi (fun j57 e58 => ?_)
                refine V_i2c 128 B dX12_packed_128 rfl ?_
                refine V_nmi (fun j59 e60 => ?_)
                refine V_goto 129 B 134 dX12_packed_129 (by decide) ?_
                exact V_iret 134 B dX12_packed_134 (mkW [] [(u32.2.1 0)] [] [] [] []) trivial rfl
            ·
              obtain rfl : s1 = 1 := kk49
              have e62 : (1 : Int32).toInt = 1 := by decide +kernel
              refine V_lload_n 115 B dX12_packed_115 1 rfl ?_
              refine V_l2i 116 B dX12_packed_116 rfl ?_
              refine V_nmi (fun j63 e64 => ?_)
              refine V_i2s 117 B dX12_packed_117 rfl ?_
              refine V_nmi (fun j65 e66 => ?_)
              refine V_goto 118 B 134 dX12_packed_118 (by decide) ?_
              exact V_iret 134 B dX12_packed_134 (mkW [] [(u32.2.1 0)] [] [] [] []) trivial rfl
          ·
            obtain rfl : s1 = 0 := kk47
            have e68 : (0 : Int32).toInt = 0 := by decide +kernel
            refine V_lload_n 104 B dX12_packed_104 1 rfl ?_
            refine V_l2i 105 B dX12_packed_105 rfl ?_
            refine V_nmi (fun j69 e70 => ?_)
            refine V_i2b 106 B dX12_packed_106 rfl ?_
            refine V_nmi (fun j71 e72 => ?_)
            refine V_goto 107 B 134 dX12_packed_107 (by decide) ?_
            exact V_iret 134 B dX12_packed_134 (mkW [] [(u32.2.1 0)] [] [] [] []) trivial rfl
        ·
          have x73 := n_nlt (a := (gN f0 (186 + 7 * n4))) (b := (a35.1 0)) kk45 (by omega) (by omega)
          refine V_ldc2 72 B (v := 512) dX12_packed_72 (mT9 35 rfl rfl) ?_
          refine V_lload_n 75 B dX12_packed_75 1 rfl ?_
          refine V_lmul 76 B dX12_packed_76 rfl ?_
          refine V_nml (fun o74 e75 => ?_)
          refine V_aload_n 77 B dX12_packed_77 2 rfl ?_
          refine V_get 78 B gf_RX12_9 0 rfl rfl dX12_packed_78 ?_
          refine V_iload_n 81 B dX12_packed_81 3 rfl ?_
          refine V_csi 82 B (st := [.ref h1, .long o74]) (As := [.int (nI n4)]) (fun sz => rX12_sequenceOf l D Y n4 (by omega) sz) glS_RX12_85 ⟨rfl, rfl⟩ ⟨(Nat.le_of_ble_eq_true rfl), (Nat.le_of_ble_eq_true rfl)⟩ ⟨(Nat.le_of_ble_eq_true rfl), (Nat.le_of_ble_eq_true rfl)⟩ [] rfl rfl (Nat.le_of_ble_eq_true rfl) rfl (fun _ _ _ => rfl) dX12_packed_82 (fun j76 u77 w78 => ?_)
          refine V_ws [(h0, oC 13 [.ref h1, .ref h2, .int (u32.2.1 0), .ref h3, .ref h4, .int (nI k5), .int (nI k6), .int p7, .int p8, .int p9, .int (nI k10), .int p11, .long q12, .ref h5, .ref h6, .int (nI k15), .int (nI k16)]), (h1, aI Y 3640 f0), (h2, aZ Y 2 f1), (h3, aZ Y 80 f3), (h4, aB Y 1600 f4), (h5, aI Y 200 f13), (h6, aI Y 800 f14)] rfl ?_
          have x79 := w78
          clear w78
          obtain rfl := x79
          refine V_iload 85 B dX12_packed_85 0 rfl ?_
          refine V_iadd 87 B (v := (nI (186 + (a35.1 0) + 7 * n4))) dX12_packed_87 (nI_addE (a := 186 + 7 * n4) (b := (a35.1 0)) (by omega)) ?_
          refine V_iald 88 B (v := f0 (186 + (a35.1 0) + 7 * n4)) 1 rfl (vp_in_nI (n := 186 + (a35.1 0) + 7 * n4) (by omega) (by decide)) dX12_packed_88 (by rw [nI_clamp (show 186 + (a35.1 0) + 7 * n4 < 2 ^ 31 by omega)]) ?_
          refine V_nmi (fun j80 e81 => ?_)
          refine V_i2l 89 B dX12_packed_89 rfl ?_
          refine V_nml (fun o82 e83 => ?_)
          have x84 : o82.toInt = j80.toInt := by rw [e83, Int32.toInt_toInt64]
          refine V_ladd 90 B dX12_packed_90 rfl ?_
          refine V_nml (fun o85 e86 => ?_)
          refine V_lconst 91 B (v := 1) dX12_packed_91 (by decide +kernel) ?_
          refine V_ladd 92 B dX12_packed_92 rfl ?_
          refine V_nml (fun o87 e88 => ?_)
          refine V_lstore_n 93 B (lv2 := [(3, .long o87), (5, .int (nI (a35.1 0))), (0, .ref h0), (1, .int (nI n4)), (2, .int s1)]) dX12_packed_93 (by decide) rfl ?_
          refine V_iinc 94 B (v := (nI (1 + (a35.1 0)))) (lv2 := [(5, .int (nI (1 + (a35.1 0)))), (3, .long o87), (0, .ref h0), (1, .int (nI n4)), (2, .int s1)]) dX12_packed_94 1 rfl (nI_addE (a := (a35.1 0)) (b := 1) (by omega)) (by decide) rfl ?_
          refine V_goto 97 B 58 dX12_packed_97 (by decide) ?_
          refine V_lv [(5, .int (nI (1 + (a35.1 0)))), (3, .long o87), (0, .ref h0), (1, .int (nI n4)), (2, .int s1)] [0, 1, 2, 3, 4] rfl ?_
          exact IH36 (mkW [1 + (a35.1 0)] [] [o87] [] [] []) ⟨(show 1 + (a35.1 0) ≤ 4000 by omega), (show 1 ≤ 1 + (a35.1 0) by omega)⟩ (by show 100000 - (1 + (a35.1 0)) < 100000 - (a35.1 0); omega))
theorem dX12_common_0 : decode cX12_common 0 = .ok (.aload_n 0, 1) := by decide +kernel
theorem dX12_common_1 : decode cX12_common 1 = .ok (.iconst 0, 1) := by decide +kernel
theorem dX12_common_2 : decode cX12_common 2 = .ok (.putfield 38, 3) := by decide +kernel
theorem dX12_common_5 : decode cX12_common 5 = .ok (.aload_n 0, 1) := by decide +kernel
theorem dX12_common_6 : decode cX12_common 6 = .ok (.aload_n 0, 1) := by decide +kernel
theorem dX12_common_7 : decode cX12_common 7 = .ok (.iload_n 1, 1) := by decide +kernel
theorem dX12_common_8 : decode cX12_common 8 = .ok (.invokevirtual 82, 3) := by decide +kernel
theorem dX12_common_11 : decode cX12_common 11 = .ok (.ifCond .eq 11, 3) := by decide +kernel
theorem dX12_common_22 : decode cX12_common 22 = .ok (.iconst 1, 1) := by decide +kernel
theorem dX12_common_23 : decode cX12_common 23 = .ok (.goto 4, 3) := by decide +kernel
theorem dX12_common_27 : decode cX12_common 27 = .ok (.iconst 1, 1) := by decide +kernel
theorem dX12_common_28 : decode cX12_common 28 = .ok (.invokevirtual 69, 3) := by decide +kernel
theorem dX12_common_31 : decode cX12_common 31 = .ok (.ifCond .eq 7, 3) := by decide +kernel
theorem dX12_common_34 : decode cX12_common 34 = .ok (.iconst 0, 1) := by decide +kernel
theorem dX12_common_35 : decode cX12_common 35 = .ok (.goto 15, 3) := by decide +kernel
theorem dX12_common_50 : decode cX12_common 50 = .ok (.ireturn, 1) := by decide +kernel
theorem dX12_common_14 : decode cX12_common 14 = .ok (.aload_n 0, 1) := by decide +kernel
theorem dX12_common_15 : decode cX12_common 15 = .ok (.iload_n 2, 1) := by decide +kernel
theorem dX12_common_16 : decode cX12_common 16 = .ok (.invokevirtual 82, 3) := by decide +kernel
theorem dX12_common_19 : decode cX12_common 19 = .ok (.ifCond .ne 7, 3) := by decide +kernel
theorem dX12_common_26 : decode cX12_common 26 = .ok (.iconst 0, 1) := by decide +kernel
theorem dX12_common_38 : decode cX12_common 38 = .ok (.aload_n 0, 1) := by decide +kernel
theorem dX12_common_39 : decode cX12_common 39 = .ok (.iload_n 1, 1) := by decide +kernel
theorem dX12_common_40 : decode cX12_common 40 = .ok (.invokestatic 85, 3) := by decide +kernel
theorem dX12_common_43 : decode cX12_common 43 = .ok (.iload_n 2, 1) := by decide +kernel
theorem dX12_common_44 : decode cX12_common 44 = .ok (.invokestatic 85, 3) := by decide +kernel
theorem dX12_common_47 : decode cX12_common 47 = .ok (.invokevirtual 62, 3) := by decide +kernel
set_option maxRecDepth 100000 in
set_option maxHeartbeats 4000000 in
theorem rX12_common (l : Launch) (D : va_G) (Y : Nat → ClassId) (h0 : Nat) (h1 : Nat) (h2 : Nat) (h3 : Nat) (h4 : Nat) (h5 : Nat) (h6 : Nat) (p2 : Int32) (k5 : Nat) (k6 : Nat) (p7 : Int32) (p8 : Int32) (p9 : Int32) (k10 : Nat) (p11 : Int32) (q12 : Int64) (k15 : Nat) (k16 : Nat) (f0 : Nat → Int32) (f1 : Nat → Int32) (f3 : Nat → Int32) (f4 : Nat → Int32) (f13 : Nat → Int32) (f14 : Nat → Int32) (ph : Nat → Int32) (HI : INV ph f0) (HL : k5 ≤ 1600) (HP : PLV f13) (s0 : Int32) (s1 : Int32)  (sz : Nat) : Met l yX12_common (WSm yX12_common cX12_common 3 (some .int)) (mkR 2 0 0 46) (PreC D Y [.ref h0, .int s0, .int s1] [(h0, oC 13 [.ref h1, .ref h2, .int p2, .ref h3, .ref h4, .int (nI k5), .int (nI k6), .int p7, .int p8, .int p9, .int (nI k10), .int p11, .long q12, .ref h5, .ref h6, .int (nI k15), .int (nI k16)]), (h1, aI Y 3640 f0), (h2, aZ Y 2 f1), (h3, aZ Y 80 f3), (h4, aB Y 1600 f4), (h5, aI Y 200 f13), (h6, aI Y 800 f14)] sz) (QI D (fun (r : Int32) (u : WU) => True) (fun (u : WU) => [(h0, oC 13 [.ref h1, .ref h2, .int (u.2.1 0), .ref h3, .ref h4, .int (nI k5), .int (nI k6), .int p7, .int p8, .int p9, .int (nI k10), .int p11, .long q12, .ref h5, .ref h6, .int (nI k15), .int (nI k16)]), (h1, aI Y 3640 f0), (h2, aZ Y 2 f1), (h3, aZ Y 80 f3), (h4, aB Y 1600 f4), (h5, aI Y 200 f13), (h6, aI Y 800 f14)]) (va_A [(h0, oC 13 [.ref h1, .ref h2, .int p2, .ref h3, .ref h4, .int (nI k5), .int (nI k6), .int p7, .int p8, .int p9, .int (nI k10), .int p11, .long q12, .ref h5, .ref h6, .int (nI k15), .int (nI k16)]), (h1, aI Y 3640 f0), (h2, aZ Y 2 f1), (h3, aZ Y 80 f3), (h4, aB Y 1600 f4), (h5, aI Y 200 f13), (h6, aI Y 800 f14)] sz)) 0 0 (va_A [(h0, oC 13 [.ref h1, .ref h2, .int p2, .ref h3, .ref h4, .int (nI k5), .int (nI k6), .int p7, .int p8, .int p9, .int (nI k10), .int p11, .long q12, .ref h5, .ref h6, .int (nI k15), .int (nI k16)]), (h1, aI Y 3640 f0), (h2, aZ Y 2 f1), (h3, aZ Y 80 f3), (h4, aB Y 1600 f4), (h5, aI Y 200 f13), (h6, aI Y 800 f14)] sz) :=
  met_of  (by decide +kernel) (Nat.le_of_ble_eq_true rfl) (fun p e s m args below meth c B hin hsz => by
    have B : VB p s m args meth c D Y (va_A [(h0, oC 13 [.ref h1, .ref h2, .int p2, .ref h3, .ref h4, .int (nI k5), .int (nI k6), .int p7, .int p8, .int p9, .int (nI k10), .int p11, .long q12, .ref h5, .ref h6, .int (nI k15), .int (nI k16)]), (h1, aI Y 3640 f0), (h2, aZ Y 2 f1), (h3, aZ Y 80 f3), (h4, aB Y 1600 f4), (h5, aI Y 200 f13), (h6, aI Y 800 f14)] sz) cX12_common 3 RX12 (some .int) := B
    refine V_aload_n 0 B dX12_common_0 0 rfl ?_
    refine V_iconst 1 B (v := 0) dX12_common_1 (by decide +kernel) ?_
    refine V_put 2 B gp_RX12_38 0 rfl (Nat.le_of_ble_eq_true rfl) rfl rfl dX12_common_2 [(h0, oC 13 [.ref h1, .ref h2, .int 0, .ref h3, .ref h4, .int (nI k5), .int (nI k6), .int p7, .int p8, .int p9, .int (nI k10), .int p11, .long q12, .ref h5, .ref h6, .int (nI k15), .int (nI k16)]), (h1, aI Y 3640 f0), (h2, aZ Y 2 f1), (h3, aZ Y 80 f3), (h4, aB Y 1600 f4), (h5, aI Y 200 f13), (h6, aI Y 800 f14)] rfl ?_
    refine V_aload_n 5 B dX12_common_5 0 rfl ?_
    refine V_aload_n 6 B dX12_common_6 0 rfl ?_
    refine V_iload_n 7 B dX12_common_7 1 rfl ?_
    refine V_cvi 8 B (st := [.ref h0]) (As := [.int s0]) (fun sz => rX12_isBinding l D Y h0 h1 h2 h3 h4 h5 h6 0 k5 k6 p7 p8 p9 k10 p11 q12 k15 k16 f0 f1 f3 f4 f13 f14 ph HI (by omega) HP s0 sz) glV_RX12_82 ⟨rfl, rfl⟩ ⟨(Nat.le_of_ble_eq_true rfl), (Nat.le_of_ble_eq_true rfl)⟩ ⟨(Nat.le_of_ble_eq_true rfl), (Nat.le_of_ble_eq_true rfl)⟩ [0, 0, 0, 0, 0, 0, 0] rfl 13 0 rfl rfl rfl rfl (Nat.le_of_ble_eq_true rfl) rfl (fun _ _ _ => rfl) dX12_common_8 (fun j0 u1 w2 => ?_)
    refine V_ws [(h0, oC 13 [.ref h1, .ref h2, .int 0, .ref h3, .ref h4, .int (nI k5), .int (nI k6), .int p7, .int p8, .int p9, .int (nI k10), .int p11, .long q12, .ref h5, .ref h6, .int (nI k15), .int (nI k16)]), (h1, aI Y 3640 f0), (h2, aZ Y 2 f1), (h3, aZ Y 80 f3), (h4, aB Y 1600 f4), (h5, aI Y 200 f13), (h6, aI Y 800 f14)] rfl ?_
    have x3 := w2
    clear w2
    have x7 : (gN f0 3) ≤ 80 := gN_le HI (by omega) (show bd 3 = (0, ((80 : Nat) : Int)) by decide +kernel)
    rcases x3 with rfl | ⟨rfl, n4, rfl, x6⟩
    ·
      refine V_if_eq_t 11 B 22 dX12_common_11 (by decide) (by decide +kernel) ?_
      refine V_iconst 22 B (v := 1) dX12_common_22 (by decide +kernel) ?_
      refine V_goto 23 B 27 dX12_common_23 (by decide) ?_
      refine V_iconst 27 B (v := 1) dX12_common_27 (by decide +kernel) ?_
      refine V_cvi 28 B (st := []) (As := [.int 1, .int 1]) (fun sz => rX12_throwsIf_1 l D Y h0 h1 h2 h3 h4 h5 h6 0 k5 k6 p7 p8 p9 k10 p11 q12 k15 k16 f0 f1 f3 f4 f13 f14 ph HI (by omega) HP 1 sz) glV_RX12_69 ⟨rfl, rfl⟩ ⟨(Nat.le_of_ble_eq_true rfl), (Nat.le_of_ble_eq_true rfl)⟩ ⟨(Nat.le_of_ble_eq_true rfl), (Nat.le_of_ble_eq_true rfl)⟩ [0, 0, 0, 0, 0, 0, 0] rfl 13 0 rfl rfl rfl rfl (Nat.le_of_ble_eq_true rfl) rfl (fun _ _ _ => rfl) dX12_common_28 (fun j8 u9 w10 => ?_)
      refine V_ws [(h0, oC 13 [.ref h1, .ref h2, .int (u9.2.1 0), .ref h3, .ref h4, .int (nI k5), .int (nI k6), .int p7, .int p8, .int p9, .int (nI k10), .int p11, .long q12, .ref h5, .ref h6, .int (nI k15), .int (nI k16)]), (h1, aI Y 3640 f0), (h2, aZ Y 2 f1), (h3, aZ Y 80 f3), (h4, aB Y 1600 f4), (h5, aI Y 200 f13), (h6, aI Y 800 f14)] rfl ?_
      have x11 := w10
      clear w10
      obtain rfl := x11
      refine V_if_eq_f 31 B 38 dX12_common_31 (by decide) (by decide +kernel) ?_
      refine V_iconst 34 B (v := 0) dX12_common_34 (by decide +kernel) ?_
      refine V_goto 35 B 50 dX12_common_35 (by decide) ?_
      exact V_iret 50 B dX12_common_50 (mkW [] [(u9.2.1 0)] [] [] [] []) trivial rfl
    ·
      have e12 := nI_toInt (show n4 < 2 ^ 31 by omega)
      have x13 : (gN f0 3) ≤ 80 := gN_le HI (by omega) (show bd 3 = (0, ((80 : Nat) : Int)) by decide +kernel)
      refine V_if_eq_f 11 B 22 dX12_common_11 (by decide) (by decide +kernel) ?_
      refine V_aload_n 14 B dX12_common_14 0 rfl ?_
      refine V_iload_n 15 B dX12_common_15 2 rfl ?_
      refine V_cvi 16 B (st := [.ref h0]) (As := [.int s1]) (fun sz => rX12_isBinding l D Y h0 h1 h2 h3 h4 h5 h6 0 k5 k6 p7 p8 p9 k10 p11 q12 k15 k16 f0 f1 f3 f4 f13 f14 ph HI (by omega) HP s1 sz) glV_RX12_82 ⟨rfl, rfl⟩ ⟨(Nat.le_of_ble_eq_true rfl), (Nat.le_of_ble_eq_true rfl)⟩ ⟨(Nat.le_of_ble_eq_true rfl), (Nat.le_of_ble_eq_true rfl)⟩ [0, 0, 0, 0, 0, 0, 0] rfl 13 0 rfl rfl rfl rfl (Nat.le_of_ble_eq_true rfl) rfl (fun _ _ _ => rfl) dX12_common_16 (fun j14 u15 w16 => ?_)
      refine V_ws [(h0, oC 13 [.ref h1, .ref h2, .int 0, .ref h3, .ref h4, .int (nI k5), .int (nI k6), .int p7, .int p8, .int p9, .int (nI k10), .int p11, .long q12, .ref h5, .ref h6, .int (nI k15), .int (nI k16)]), (h1, aI Y 3640 f0), (h2, aZ Y 2 f1), (h3, aZ Y 80 f3), (h4, aB Y 1600 f4), (h5, aI Y 200 f13), (h6, aI Y 800 f14)] rfl ?_
      have x17 := w16
      clear w16
      have x21 : (gN f0 3) ≤ 80 := gN_le HI (by omega) (show bd 3 = (0, ((80 : Nat) : Int)) by decide +kernel)
      rcases x17 with rfl | ⟨rfl, n18, rfl, x20⟩
      ·
        refine V_if_ne_f 19 B 26 dX12_common_19 (by decide) (by decide +kernel) ?_
        refine V_iconst 22 B (v := 1) dX12_common_22 (by decide +kernel) ?_
        refine V_goto 23 B 27 dX12_common_23 (by decide) ?_
        refine V_iconst 27 B (v := 1) dX12_common_27 (by decide +kernel) ?_
        refine V_cvi 28 B (st := []) (As := [.int 1, .int 1]) (fun sz => rX12_throwsIf_1 l D Y h0 h1 h2 h3 h4 h5 h6 0 k5 k6 p7 p8 p9 k10 p11 q12 k15 k16 f0 f1 f3 f4 f13 f14 ph HI (by omega) HP 1 sz) glV_RX12_69 ⟨rfl, rfl⟩ ⟨(Nat.le_of_ble_eq_true rfl), (Nat.le_of_ble_eq_true rfl)⟩ ⟨(Nat.le_of_ble_eq_true rfl), (Nat.le_of_ble_eq_true rfl)⟩ [0, 0, 0, 0, 0, 0, 0] rfl 13 0 rfl rfl rfl rfl (Nat.le_of_ble_eq_true rfl) rfl (fun _ _ _ => rfl) dX12_common_28 (fun j22 u23 w24 => ?_)
        refine V_ws [(h0, oC 13 [.ref h1, .ref h2, .int (u23.2.1 0), .ref h3, .ref h4, .int (nI k5), .int (nI k6), .int p7, .int p8, .int p9, .int (nI k10), .int p11, .long q12, .ref h5, .ref h6, .int (nI k15), .int (nI k16)]), (h1, aI Y 3640 f0), (h2, aZ Y 2 f1), (h3, aZ Y 80 f3), (h4, aB Y 1600 f4), (h5, aI Y 200 f13), (h6, aI Y 800 f14)] rfl ?_
        have x25 := w24
        clear w24
        obtain rfl := x25
        refine V_if_eq_f 31 B 38 dX12_common_31 (by decide) (by decide +kernel) ?_
        refine V_iconst 34 B (v := 0) dX12_common_34 (by decide +kernel) ?_
        refine V_goto 35 B 50 dX12_common_35 (by decide) ?_
        exact V_iret 50 B dX12_common_50 (mkW [] [(u23.2.1 0)] [] [] [] []) trivial rfl
      ·
        have e26 := nI_toInt (show n18 < 2 ^ 31 by omega)
        have x27 : (gN f0 3) ≤ 80 := gN_le HI (by omega) (show bd 3 = (0, ((80 : Nat) : Int)) by decide +kernel)
        refine V_if_ne_t 19 B 26 dX12_common_19 (by decide) (by decide +kernel) ?_
        refine V_iconst 26 B (v := 0) dX12_common_26 (by decide +kernel) ?_
        refine V_iconst 27 B (v := 1) dX12_common_27 (by decide +kernel) ?_
        refine V_cvi 28 B (st := []) (As := [.int 0, .int 1]) (fun sz => rX12_throwsIf_0 l D Y h0 h1 h2 h3 h4 h5 h6 0 k5 k6 p7 p8 p9 k10 p11 q12 k15 k16 f0 f1 f3 f4 f13 f14 ph HI (by omega) HP 1 sz) glV_RX12_69 ⟨rfl, rfl⟩ ⟨(Nat.le_of_ble_eq_true rfl), (Nat.le_of_ble_eq_true rfl)⟩ ⟨(Nat.le_of_ble_eq_true rfl), (Nat.le_of_ble_eq_true rfl)⟩ [0, 0, 0, 0, 0, 0, 0] rfl 13 0 rfl rfl rfl rfl (Nat.le_of_ble_eq_true rfl) rfl (fun _ _ _ => rfl) dX12_common_28 (fun j28 u29 w30 => ?_)
        refine V_ws [(h0, oC 13 [.ref h1, .ref h2, .int (u29.2.1 0), .ref h3, .ref h4, .int (nI k5), .int (nI k6), .int p7, .int p8, .int p9, .int (nI k10), .int p11, .long q12, .ref h5, .ref h6, .int (nI k15), .int (nI k16)]), (h1, aI Y 3640 f0), (h2, aZ Y 2 f1), (h3, aZ Y 80 f3), (h4, aB Y 1600 f4), (h5, aI Y 200 f13), (h6, aI Y 800 f14)] rfl ?_
        have x31 := w30
        clear w30
        obtain rfl := x31
        refine V_if_eq_t 31 B 38 dX12_common_31 (by decide) (by decide +kernel) ?_
        refine V_aload_n 38 B dX12_common_38 0 rfl ?_
        refine V_iload_n 39 B dX12_common_39 1 rfl ?_
        refine V_csi 40 B (st := [.ref h0]) (As := [.int (nI n4)]) (fun sz => rX12_sequenceOf l D Y n4 (by omega) sz) glS_RX12_85 ⟨rfl, rfl⟩ ⟨(Nat.le_of_ble_eq_true rfl), (Nat.le_of_ble_eq_true rfl)⟩ ⟨(Nat.le_of_ble_eq_true rfl), (Nat.le_of_ble_eq_true rfl)⟩ [] rfl rfl (Nat.le_of_ble_eq_true rfl) rfl (fun _ _ _ => rfl) dX12_common_40 (fun j32 u33 w34 => ?_)
        refine V_ws [(h0, oC 13 [.ref h1, .ref h2, .int (u29.2.1 0), .ref h3, .ref h4, .int (nI k5), .int (nI k6), .int p7, .int p8, .int p9, .int (nI k10), .int p11, .long q12, .ref h5, .ref h6, .int (nI k15), .int (nI k16)]), (h1, aI Y 3640 f0), (h2, aZ Y 2 f1), (h3, aZ Y 80 f3), (h4, aB Y 1600 f4), (h5, aI Y 200 f13), (h6, aI Y 800 f14)] rfl ?_
        have x35 := w34
        clear w34
        obtain rfl := x35
        refine V_iload_n 43 B dX12_common_43 2 rfl ?_
        refine V_csi 44 B (st := [.int (nI (186 + 7 * n4)), .ref h0]) (As := [.int (nI n18)]) (fun sz => rX12_sequenceOf l D Y n18 (by omega) sz) glS_RX12_85 ⟨rfl, rfl⟩ ⟨(Nat.le_of_ble_eq_true rfl), (Nat.le_of_ble_eq_true rfl)⟩ ⟨(Nat.le_of_ble_eq_true rfl), (Nat.le_of_ble_eq_true rfl)⟩ [] rfl rfl (Nat.le_of_ble_eq_true rfl) rfl (fun _ _ _ => rfl) dX12_common_44 (fun j36 u37 w38 => ?_)
        refine V_ws [(h0, oC 13 [.ref h1, .ref h2, .int (u29.2.1 0), .ref h3, .ref h4, .int (nI k5), .int (nI k6), .int p7, .int p8, .int p9, .int (nI k10), .int p11, .long q12, .ref h5, .ref h6, .int (nI k15), .int (nI k16)]), (h1, aI Y 3640 f0), (h2, aZ Y 2 f1), (h3, aZ Y 80 f3), (h4, aB Y 1600 f4), (h5, aI Y 200 f13), (h6, aI Y 800 f14)] rfl ?_
        have x39 := w38
        clear w38
        obtain rfl := x39
        refine V_cvi 47 B (st := []) (As := [.int (nI (186 + 7 * n4)), .int (nI (186 + 7 * n18))]) (fun sz => rX12_commonOf l D Y h0 h1 h2 h3 h4 h5 h6 (u29.2.1 0) k5 k6 p7 p8 p9 k10 p11 q12 k15 k16 f0 f1 f3 f4 f13 f14 ph HI (by omega) HP (186 + 7 * n4) (186 + 7 * n18) (rl5 n4 (by omega)) (rl5 n18 (by omega)) sz) glV_RX12_62 ⟨rfl, rfl⟩ ⟨(Nat.le_of_ble_eq_true rfl), (Nat.le_of_ble_eq_true rfl)⟩ ⟨(Nat.le_of_ble_eq_true rfl), (Nat.le_of_ble_eq_true rfl)⟩ [0, 0, 0, 0, 0, 0, 0] rfl 13 0 rfl rfl rfl rfl (Nat.le_of_ble_eq_true rfl) rfl (fun _ _ _ => rfl) dX12_common_47 (fun j40 u41 w42 => ?_)
        refine V_ws [(h0, oC 13 [.ref h1, .ref h2, .int (u29.2.1 0), .ref h3, .ref h4, .int (nI k5), .int (nI k6), .int p7, .int p8, .int p9, .int (nI k10), .int p11, .long q12, .ref h5, .ref h6, .int (nI k15), .int (nI k16)]), (h1, aI Y 3640 f0), (h2, aZ Y 2 f1), (h3, aZ Y 80 f3), (h4, aB Y 1600 f4), (h5, aI Y 200 f13), (h6, aI Y 800 f14)] rfl ?_
        have x43 := w42
        clear w42
        obtain rfl := x43
        have x44 := kmV_le f0 (186 + 7 * n4) (186 + 7 * n18)
        have x45 : gN f0 (186 + 7 * n4) ≤ 4 := gN_le HI (by omega) (rl11 n4 (by omega))
        have x46 : gN f0 (186 + 7 * n18) ≤ 4 := gN_le HI (by omega) (rl11 n18 (by omega))
        exact V_iret 50 B dX12_common_50 (mkW [] [(u29.2.1 0)] [] [] [] []) trivial rfl)
theorem dX12_leadingSwitches_0 : decode cX12_leadingSwitches 0 = .ok (.aload_n 0, 1) := by decide +kernel
theorem dX12_leadingSwitches_1 : decode cX12_leadingSwitches 1 = .ok (.iconst 0, 1) := by decide +kernel
theorem dX12_leadingSwitches_2 : decode cX12_leadingSwitches 2 = .ok (.putfield 38, 3) := by decide +kernel
theorem dX12_leadingSwitches_5 : decode cX12_leadingSwitches 5 = .ok (.iconst 0, 1) := by decide +kernel
theorem dX12_leadingSwitches_6 : decode cX12_leadingSwitches 6 = .ok (.istore_n 1, 1) := by decide +kernel
theorem dX12_leadingSwitches_7 : decode cX12_leadingSwitches 7 = .ok (.iload_n 1, 1) := by decide +kernel
theorem dX12_leadingSwitches_8 : decode cX12_leadingSwitches 8 = .ok (.aload_n 0, 1) := by decide +kernel
theorem dX12_leadingSwitches_9 : decode cX12_leadingSwitches 9 = .ok (.getfield 9, 3) := by decide +kernel
theorem dX12_leadingSwitches_12 : decode cX12_leadingSwitches 12 = .ok (.iconst 3, 1) := by decide +kernel
theorem dX12_leadingSwitches_13 : decode cX12_leadingSwitches 13 = .ok (.iaload, 1) := by decide +kernel
theorem dX12_leadingSwitches_14 : decode cX12_leadingSwitches 14 = .ok (.if_icmp .ge 23, 3) := by decide +kernel
theorem dX12_leadingSwitches_37 : decode cX12_leadingSwitches 37 = .ok (.iload_n 1, 1) := by decide +kernel
theorem dX12_leadingSwitches_38 : decode cX12_leadingSwitches 38 = .ok (.ireturn, 1) := by decide +kernel
theorem dX12_leadingSwitches_17 : decode cX12_leadingSwitches 17 = .ok (.aload_n 0, 1) := by decide +kernel
theorem dX12_leadingSwitches_18 : decode cX12_leadingSwitches 18 = .ok (.aload_n 0, 1) := by decide +kernel
theorem dX12_leadingSwitches_19 : decode cX12_leadingSwitches 19 = .ok (.iload_n 1, 1) := by decide +kernel
theorem dX12_leadingSwitches_20 : decode cX12_leadingSwitches 20 = .ok (.invokevirtual 96, 3) := by decide +kernel
theorem dX12_leadingSwitches_23 : decode cX12_leadingSwitches 23 = .ok (.iconst 0, 1) := by decide +kernel
theorem dX12_leadingSwitches_24 : decode cX12_leadingSwitches 24 = .ok (.invokevirtual 102, 3) := by decide +kernel
theorem dX12_leadingSwitches_27 : decode cX12_leadingSwitches 27 = .ok (.iconst 1, 1) := by decide +kernel
theorem dX12_leadingSwitches_28 : decode cX12_leadingSwitches 28 = .ok (.if_icmp .ne 9, 3) := by decide +kernel
theorem dX12_leadingSwitches_31 : decode cX12_leadingSwitches 31 = .ok (.iinc 1 1, 3) := by decide +kernel
theorem dX12_leadingSwitches_34 : decode cX12_leadingSwitches 34 = .ok (.goto (-27), 3) := by decide +kernel
set_option maxRecDepth 100000 in
set_option maxHeartbeats 4000000 in
theorem rX12_leadingSwitches (l : Launch) (D : va_G) (Y : Nat → ClassId) (h0 : Nat) (h1 : Nat) (h2 : Nat) (h3 : Nat) (h4 : Nat) (h5 : Nat) (h6 : Nat) (p2 : Int32) (k5 : Nat) (k6 : Nat) (p7 : Int32) (p8 : Int32) (p9 : Int32) (k10 : Nat) (p11 : Int32) (q12 : Int64) (k15 : Nat) (k16 : Nat) (f0 : Nat → Int32) (f1 : Nat → Int32) (f3 : Nat → Int32) (f4 : Nat → Int32) (f13 : Nat → Int32) (f14 : Nat → Int32) (ph : Nat → Int32) (HI : INV ph f0) (HL : k5 ≤ 1600) (HP : PLV f13)   (sz : Nat) : Met l yX12_leadingSwitches (WSm yX12_leadingSwitches cX12_leadingSwitches 2 (some .int)) (mkR 2 0 0 41) (PreC D Y [.ref h0] [(h0, oC 13 [.ref h1, .ref h2, .int p2, .ref h3, .ref h4, .int (nI k5), .int (nI k6), .int p7, .int p8, .int p9, .int (nI k10), .int p11, .long q12, .ref h5, .ref h6, .int (nI k15), .int (nI k16)]), (h1, aI Y 3640 f0), (h2, aZ Y 2 f1), (h3, aZ Y 80 f3), (h4, aB Y 1600 f4), (h5, aI Y 200 f13), (h6, aI Y 800 f14)] sz) (QI D (fun (r : Int32) (u : WU) => True) (fun (u : WU) => [(h0, oC 13 [.ref h1, .ref h2, .int (u.2.1 0), .ref h3, .ref h4, .int (nI k5), .int (nI k6), .int p7, .int p8, .int p9, .int (nI k10), .int p11, .long q12, .ref h5, .ref h6, .int (nI k15), .int (nI k16)]), (h1, aI Y 3640 f0), (h2, aZ Y 2 f1), (h3, aZ Y 80 f3), (h4, aB Y 1600 f4), (h5, aI Y 200 f13), (h6, aI Y 800 f14)]) (va_A [(h0, oC 13 [.ref h1, .ref h2, .int p2, .ref h3, .ref h4, .int (nI k5), .int (nI k6), .int p7, .int p8, .int p9, .int (nI k10), .int p11, .long q12, .ref h5, .ref h6, .int (nI k15), .int (nI k16)]), (h1, aI Y 3640 f0), (h2, aZ Y 2 f1), (h3, aZ Y 80 f3), (h4, aB Y 1600 f4), (h5, aI Y 200 f13), (h6, aI Y 800 f14)] sz)) 0 0 (va_A [(h0, oC 13 [.ref h1, .ref h2, .int p2, .ref h3, .ref h4, .int (nI k5), .int (nI k6), .int p7, .int p8, .int p9, .int (nI k10), .int p11, .long q12, .ref h5, .ref h6, .int (nI k15), .int (nI k16)]), (h1, aI Y 3640 f0), (h2, aZ Y 2 f1), (h3, aZ Y 80 f3), (h4, aB Y 1600 f4), (h5, aI Y 200 f13), (h6, aI Y 800 f14)] sz) :=
  met_of  (by decide +kernel) (Nat.le_of_ble_eq_true rfl) (fun p e s m args below meth c B hin hsz => by
    have B : VB p s m args meth c D Y (va_A [(h0, oC 13 [.ref h1, .ref h2, .int p2, .ref h3, .ref h4, .int (nI k5), .int (nI k6), .int p7, .int p8, .int p9, .int (nI k10), .int p11, .long q12, .ref h5, .ref h6, .int (nI k15), .int (nI k16)]), (h1, aI Y 3640 f0), (h2, aZ Y 2 f1), (h3, aZ Y 80 f3), (h4, aB Y 1600 f4), (h5, aI Y 200 f13), (h6, aI Y 800 f14)] sz) cX12_leadingSwitches 2 RX12 (some .int) := B
    refine V_aload_n 0 B dX12_leadingSwitches_0 0 rfl ?_
    refine V_iconst 1 B (v := 0) dX12_leadingSwitches_1 (by decide +kernel) ?_
    refine V_put 2 B gp_RX12_38 0 rfl (Nat.le_of_ble_eq_true rfl) rfl rfl dX12_leadingSwitches_2 [(h0, oC 13 [.ref h1, .ref h2, .int 0, .ref h3, .ref h4, .int (nI k5), .int (nI k6), .int p7, .int p8, .int p9, .int (nI k10), .int p11, .long q12, .ref h5, .ref h6, .int (nI k15), .int (nI k16)]), (h1, aI Y 3640 f0), (h2, aZ Y 2 f1), (h3, aZ Y 80 f3), (h4, aB Y 1600 f4), (h5, aI Y 200 f13), (h6, aI Y 800 f14)] rfl ?_
    refine V_iconst 5 B (v := 0) dX12_leadingSwitches_5 (by decide +kernel) ?_
    refine V_istore_n 6 B (lv2 := [(1, .int 0), (0, .ref h0)]) dX12_leadingSwitches_6 (by decide) rfl ?_
    refine V_wloop (α := WU) (fun a => 100000 - (a.1 0)) (fun a => (a.1 0) ≤ 4000) (fun a => [(1, .int (nI (a.1 0))), (0, .ref h0)]) (fun a => [(h0, oC 13 [.ref h1, .ref h2, .int 0, .ref h3, .ref h4, .int (nI k5), .int (nI k6), .int p7, .int p8, .int p9, .int (nI k10), .int p11, .long q12, .ref h5, .ref h6, .int (nI k15), .int (nI k16)]), (h1, aI Y 3640 f0), (h2, aZ Y 2 f1), (h3, aZ Y 80 f3), (h4, aB Y 1600 f4), (h5, aI Y 200 f13), (h6, aI Y 800 f14)]) (mkW [0] [] [] [] [] []) (show 0 ≤ 4000 by omega) rfl rfl (fun a0 hI2 IH1 => ?_)
    refine V_lv [(1, .int (nI (a0.1 0))), (0, .ref h0)] [0, 1] rfl ?_
    refine V_ws [(h0, oC 13 [.ref h1, .ref h2, .int 0, .ref h3, .ref h4, .int (nI k5), .int (nI k6), .int p7, .int p8, .int p9, .int (nI k10), .int p11, .long q12, .ref h5, .ref h6, .int (nI k15), .int (nI k16)]), (h1, aI Y 3640 f0), (h2, aZ Y 2 f1), (h3, aZ Y 80 f3), (h4, aB Y 1600 f4), (h5, aI Y 200 f13), (h6, aI Y 800 f14)] rfl ?_
    have x3 := hI2
    refine V_iload_n 7 B dX12_leadingSwitches_7 0 rfl ?_
    refine V_aload_n 8 B dX12_leadingSwitches_8 1 rfl ?_
    refine V_get 9 B gf_RX12_9 0 rfl rfl dX12_leadingSwitches_9 ?_
    refine V_iconst 12 B (v := 3) dX12_leadingSwitches_12 (by decide +kernel) ?_
    have x4 : (gN f0 3) ≤ 80 := gN_le HI (by omega) (show bd 3 = (0, ((80 : Nat) : Int)) by decide +kernel)
    refine V_iald 13 B (v := (nI (gN f0 3))) 1 rfl (vpin _ _ (by decide +kernel)) dX12_leadingSwitches_13 (by show f0 3 = _; exact gN_eq HI (by omega) (show bd 3 = (0, ((80 : Nat) : Int)) by decide +kernel)) ?_
    refine V_icmp_ge 14 B 37 dX12_leadingSwitches_14 (by decide) (fun kk5 => ?_) (fun kk5 => ?_)
    ·
      have x6 := n_le (a := (gN f0 3)) (b := (a0.1 0)) kk5 (by omega) (by omega)
      refine V_iload_n 37 B dX12_leadingSwitches_37 0 rfl ?_
      exact V_iret 38 B dX12_leadingSwitches_38 (mkW [] [0] [] [] [] []) trivial rfl
    ·
      have x7 := n_nle (a := (gN f0 3)) (b := (a0.1 0)) kk5 (by omega) (by omega)
      refine V_aload_n 17 B dX12_leadingSwitches_17 1 rfl ?_
      refine V_aload_n 18 B dX12_leadingSwitches_18 1 rfl ?_
      refine V_iload_n 19 B dX12_leadingSwitches_19 0 rfl ?_
      refine V_cvi 20 B (st := [.ref h0]) (As := [.int (nI (a0.1 0))]) (fun sz => rX12_commandOf l D Y h0 h1 h2 h3 h4 h5 h6 0 k5 k6 p7 p8 p9 k10 p11 q12 k15 k16 f0 f1 f3 f4 f13 f14 ph HI (by omega) HP (a0.1 0) (by omega) sz) glV_RX12_96 ⟨rfl, rfl⟩ ⟨(Nat.le_of_ble_eq_true rfl), (Nat.le_of_ble_eq_true rfl)⟩ ⟨(Nat.le_of_ble_eq_true rfl), (Nat.le_of_ble_eq_true rfl)⟩ [0, 0, 0, 0, 0, 0, 0] rfl 13 0 rfl rfl rfl rfl (Nat.le_of_ble_eq_true rfl) rfl (fun _ _ _ => rfl) dX12_leadingSwitches_20 (fun j8 u9 w10 => ?_)
      refine V_ws [(h0, oC 13 [.ref h1, .ref h2, .int 0, .ref h3, .ref h4, .int (nI k5), .int (nI k6), .int p7, .int p8, .int p9, .int (nI k10), .int p11, .long q12, .ref h5, .ref h6, .int (nI k15), .int (nI k16)]), (h1, aI Y 3640 f0), (h2, aZ Y 2 f1), (h3, aZ Y 80 f3), (h4, aB Y 1600 f4), (h5, aI Y 200 f13), (h6, aI Y 800 f14)] rfl ?_
      have x11 := w10
      clear w10
      obtain rfl := x11
      have x12 : (gN f0 (185 + 7 * (a0.1 0))) ≤ 39 := gN_le HI (by omega) (rl2 (a0.1 0) (by omega))
      refine V_iconst 23 B (v := 0) dX12_leadingSwitches_23 (by decide +kernel) ?_
      refine V_cvi 24 B (st := []) (As := [.int (nI ((gN f0 (185 + 7 * (a0.1 0))))), .int 0]) (fun sz => rX12_ofCommand l D Y h0 h1 h2 h3 h4 h5 h6 0 k5 k6 p7 p8 p9 k10 p11 q12 k15 k16 f0 f1 f3 f4 f13 f14 ph HI (by omega) HP ((gN f0 (185 + 7 * (a0.1 0)))) 0 (by omega) (by omega) sz) glV_RX12_102 ⟨rfl, rfl⟩ ⟨(Nat.le_of_ble_eq_true rfl), (Nat.le_of_ble_eq_true rfl)⟩ ⟨(Nat.le_of_ble_eq_true rfl), (Nat.le_of_ble_eq_true rfl)⟩ [0, 0, 0, 0, 0, 0, 0] rfl 13 0 rfl rfl rfl rfl (Nat.le_of_ble_eq_true rfl) rfl (fun _ _ _ => rfl) dX12_leadingSwitches_24 (fun j13 u14 w15 => ?_)
      refine V_ws [(h0, oC 13 [.ref h1, .ref h2, .int 0, .ref h3, .ref h4, .int (nI k5), .int (nI k6), .int p7, .int p8, .int p9, .int (nI k10), .int p11, .long q12, .ref h5, .ref h6, .int (nI k15), .int (nI k16)]), (h1, aI Y 3640 f0), (h2, aZ Y 2 f1), (h3, aZ Y 80 f3), (h4, aB Y 1600 f4), (h5, aI Y 200 f13), (h6, aI Y 800 f14)] rfl ?_
      have x16 := w15
      clear w15
      refine V_iconst 27 B (v := 1) dX12_leadingSwitches_27 (by decide +kernel) ?_
      refine V_icmp_ne 28 B 37 dX12_leadingSwitches_28 (by decide) (fun kk17 => ?_) (fun kk17 => ?_)
      ·
        have x18 := x_ne kk17
        rw [show (1 : Int32).toInt = 1 by decide +kernel] at x18
        refine V_iload_n 37 B dX12_leadingSwitches_37 0 rfl ?_
        exact V_iret 38 B dX12_leadingSwitches_38 (mkW [] [0] [] [] [] []) trivial rfl
      ·
        obtain rfl : j13 = 1 := kk17
        have e20 : (1 : Int32).toInt = 1 := by decide +kernel
        refine V_iinc 31 B (v := (nI (1 + (a0.1 0)))) (lv2 := [(1, .int (nI (1 + (a0.1 0)))), (0, .ref h0)]) dX12_leadingSwitches_31 0 rfl (nI_addE (a := (a0.1 0)) (b := 1) (by omega)) (by decide) rfl ?_
        refine V_goto 34 B 7 dX12_leadingSwitches_34 (by decide) ?_
        refine V_lv [(1, .int (nI (1 + (a0.1 0)))), (0, .ref h0)] [0, 1] rfl ?_
        exact IH1 (mkW [1 + (a0.1 0)] [] [] [] [] []) (show 1 + (a0.1 0) ≤ 4000 by omega) (by show 100000 - (1 + (a0.1 0)) < 100000 - (a0.1 0); omega))
theorem dX12_digest_0 : decode cX12_digest 0 = .ok (.aload_n 0, 1) := by decide +kernel
theorem dX12_digest_1 : decode cX12_digest 1 = .ok (.iconst 0, 1) := by decide +kernel
theorem dX12_digest_2 : decode cX12_digest 2 = .ok (.putfield 38, 3) := by decide +kernel
theorem dX12_digest_5 : decode cX12_digest 5 = .ok (.bipush 7, 2) := by decide +kernel
theorem dX12_digest_7 : decode cX12_digest 7 = .ok (.istore_n 1, 1) := by decide +kernel
theorem dX12_digest_8 : decode cX12_digest 8 = .ok (.iconst 0, 1) := by decide +kernel
theorem dX12_digest_9 : decode cX12_digest 9 = .ok (.istore_n 2, 1) := by decide +kernel
theorem dX12_digest_10 : decode cX12_digest 10 = .ok (.iload_n 2, 1) := by decide +kernel
theorem dX12_digest_11 : decode cX12_digest 11 = .ok (.aload_n 0, 1) := by decide +kernel
theorem dX12_digest_12 : decode cX12_digest 12 = .ok (.getfield 9, 3) := by decide +kernel
theorem dX12_digest_15 : decode cX12_digest 15 = .ok (.iconst 3, 1) := by decide +kernel
theorem dX12_digest_16 : decode cX12_digest 16 = .ok (.iaload, 1) := by decide +kernel
theorem dX12_digest_17 : decode cX12_digest 17 = .ok (.if_icmp .ge 67, 3) := by decide +kernel
theorem dX12_digest_84 : decode cX12_digest 84 = .ok (.iload_n 1, 1) := by decide +kernel
theorem dX12_digest_85 : decode cX12_digest 85 = .ok (.ireturn, 1) := by decide +kernel
theorem dX12_digest_20 : decode cX12_digest 20 = .ok (.bipush 31, 2) := by decide +kernel
theorem dX12_digest_22 : decode cX12_digest 22 = .ok (.bipush 31, 2) := by decide +kernel
theorem dX12_digest_24 : decode cX12_digest 24 = .ok (.iload_n 1, 1) := by decide +kernel
theorem dX12_digest_25 : decode cX12_digest 25 = .ok (.imul, 1) := by decide +kernel
theorem dX12_digest_26 : decode cX12_digest 26 = .ok (.aload_n 0, 1) := by decide +kernel
theorem dX12_digest_27 : decode cX12_digest 27 = .ok (.iload_n 2, 1) := by decide +kernel
theorem dX12_digest_28 : decode cX12_digest 28 = .ok (.invokevirtual 115, 3) := by decide +kernel
theorem dX12_digest_31 : decode cX12_digest 31 = .ok (.iadd, 1) := by decide +kernel
theorem dX12_digest_32 : decode cX12_digest 32 = .ok (.imul, 1) := by decide +kernel
theorem dX12_digest_33 : decode cX12_digest 33 = .ok (.aload_n 0, 1) := by decide +kernel
theorem dX12_digest_34 : decode cX12_digest 34 = .ok (.iload_n 2, 1) := by decide +kernel
theorem dX12_digest_35 : decode cX12_digest 35 = .ok (.invokevirtual 96, 3) := by decide +kernel
theorem dX12_digest_38 : decode cX12_digest 38 = .ok (.iadd, 1) := by decide +kernel
theorem dX12_digest_39 : decode cX12_digest 39 = .ok (.istore_n 1, 1) := by decide +kernel
theorem dX12_digest_40 : decode cX12_digest 40 = .ok (.iconst 1, 1) := by decide +kernel
theorem dX12_digest_41 : decode cX12_digest 41 = .ok (.istore_n 3, 1) := by decide +kernel
theorem dX12_digest_42 : decode cX12_digest 42 = .ok (.iload_n 3, 1) := by decide +kernel
theorem dX12_digest_43 : decode cX12_digest 43 = .ok (.aload_n 0, 1) := by decide +kernel
theorem dX12_digest_44 : decode cX12_digest 44 = .ok (.getfield 9, 3) := by decide +kernel
theorem dX12_digest_47 : decode cX12_digest 47 = .ok (.iload_n 2, 1) := by decide +kernel
theorem dX12_digest_48 : decode cX12_digest 48 = .ok (.invokestatic 85, 3) := by decide +kernel
theorem dX12_digest_51 : decode cX12_digest 51 = .ok (.iaload, 1) := by decide +kernel
theorem dX12_digest_52 : decode cX12_digest 52 = .ok (.if_icmp .gt 26, 3) := by decide +kernel
theorem dX12_digest_78 : decode cX12_digest 78 = .ok (.iinc 2 1, 3) := by decide +kernel
theorem dX12_digest_81 : decode cX12_digest 81 = .ok (.goto (-71), 3) := by decide +kernel
theorem dX12_digest_55 : decode cX12_digest 55 = .ok (.bipush 31, 2) := by decide +kernel
theorem dX12_digest_57 : decode cX12_digest 57 = .ok (.iload_n 1, 1) := by decide +kernel
theorem dX12_digest_58 : decode cX12_digest 58 = .ok (.imul, 1) := by decide +kernel
theorem dX12_digest_59 : decode cX12_digest 59 = .ok (.aload_n 0, 1) := by decide +kernel
theorem dX12_digest_60 : decode cX12_digest 60 = .ok (.getfield 9, 3) := by decide +kernel
theorem dX12_digest_63 : decode cX12_digest 63 = .ok (.iload_n 2, 1) := by decide +kernel
theorem dX12_digest_64 : decode cX12_digest 64 = .ok (.invokestatic 85, 3) := by decide +kernel
theorem dX12_digest_67 : decode cX12_digest 67 = .ok (.iload_n 3, 1) := by decide +kernel
theorem dX12_digest_68 : decode cX12_digest 68 = .ok (.iadd, 1) := by decide +kernel
theorem dX12_digest_69 : decode cX12_digest 69 = .ok (.iaload, 1) := by decide +kernel
theorem rl15 : ∀ z0, z0 < 80 → ∀ z1, z1 < 5 → 1 ≤ z1 → bd (186 + 7 * z0 + z1) = FREE := by decide +kernel
theorem dX12_digest_70 : decode cX12_digest 70 = .ok (.iadd, 1) := by decide +kernel
theorem dX12_digest_71 : decode cX12_digest 71 = .ok (.istore_n 1, 1) := by decide +kernel
theorem dX12_digest_72 : decode cX12_digest 72 = .ok (.iinc 3 1, 3) := by decide +kernel
theorem dX12_digest_75 : decode cX12_digest 75 = .ok (.goto (-33), 3) := by decide +kernel
set_option maxRecDepth 100000 in
set_option maxHeartbeats 4000000 in
theorem rX12_digest (l : Launch) (D : va_G) (Y : Nat → ClassId) (h0 : Nat) (h1 : Nat) (h2 : Nat) (h3 : Nat) (h4 : Nat) (h5 : Nat) (h6 : Nat) (p2 : Int32) (k5 : Nat) (k6 : Nat) (p7 : Int32) (p8 : Int32) (p9 : Int32) (k10 : Nat) (p11 : Int32) (q12 : Int64) (k15 : Nat) (k16 : Nat) (f0 : Nat → Int32) (f1 : Nat → Int32) (f3 : Nat → Int32) (f4 : Nat → Int32) (f13 : Nat → Int32) (f14 : Nat → Int32) (ph : Nat → Int32) (HI : INV ph f0) (HL : k5 ≤ 1600) (HP : PLV f13)   (sz : Nat) : Met l yX12_digest (WSm yX12_digest cX12_digest 4 (some .int)) (mkR 2 0 0 41) (PreC D Y [.ref h0] [(h0, oC 13 [.ref h1, .ref h2, .int p2, .ref h3, .ref h4, .int (nI k5), .int (nI k6), .int p7, .int p8, .int p9, .int (nI k10), .int p11, .long q12, .ref h5, .ref h6, .int (nI k15), .int (nI k16)]), (h1, aI Y 3640 f0), (h2, aZ Y 2 f1), (h3, aZ Y 80 f3), (h4, aB Y 1600 f4), (h5, aI Y 200 f13), (h6, aI Y 800 f14)] sz) (QI D (fun (r : Int32) (u : WU) => True) (fun (u : WU) => [(h0, oC 13 [.ref h1, .ref h2, .int (u.2.1 0), .ref h3, .ref h4, .int (nI k5), .int (nI k6), .int p7, .int p8, .int p9, .int (nI k10), .int p11, .long q12, .ref h5, .ref h6, .int (nI k15), .int (nI k16)]), (h1, aI Y 3640 f0), (h2, aZ Y 2 f1), (h3, aZ Y 80 f3), (h4, aB Y 1600 f4), (h5, aI Y 200 f13), (h6, aI Y 800 f14)]) (va_A [(h0, oC 13 [.ref h1, .ref h2, .int p2, .ref h3, .ref h4, .int (nI k5), .int (nI k6), .int p7, .int p8, .int p9, .int (nI k10), .int p11, .long q12, .ref h5, .ref h6, .int (nI k15), .int (nI k16)]), (h1, aI Y 3640 f0), (h2, aZ Y 2 f1), (h3, aZ Y 80 f3), (h4, aB Y 1600 f4), (h5, aI Y 200 f13), (h6, aI Y 800 f14)] sz)) 0 0 (va_A [(h0, oC 13 [.ref h1, .ref h2, .int p2, .ref h3, .ref h4, .int (nI k5), .int (nI k6), .int p7, .int p8, .int p9, .int (nI k10), .int p11, .long q12, .ref h5, .ref h6, .int (nI k15), .int (nI k16)]), (h1, aI Y 3640 f0), (h2, aZ Y 2 f1), (h3, aZ Y 80 f3), (h4, aB Y 1600 f4), (h5, aI Y 200 f13), (h6, aI Y 800 f14)] sz) :=
  met_of  (by decide +kernel) (Nat.le_of_ble_eq_true rfl) (fun p e s m args below meth c B hin hsz => by
    have B : VB p s m args meth c D Y (va_A [(h0, oC 13 [.ref h1, .ref h2, .int p2, .ref h3, .ref h4, .int (nI k5), .int (nI k6), .int p7, .int p8, .int p9, .int (nI k10), .int p11, .long q12, .ref h5, .ref h6, .int (nI k15), .int (nI k16)]), (h1, aI Y 3640 f0), (h2, aZ Y 2 f1), (h3, aZ Y 80 f3), (h4, aB Y 1600 f4), (h5, aI Y 200 f13), (h6, aI Y 800 f14)] sz) cX12_digest 4 RX12 (some .int) := B
    refine V_aload_n 0 B dX12_digest_0 0 rfl ?_
    refine V_iconst 1 B (v := 0) dX12_digest_1 (by decide +kernel) ?_
    refine V_put 2 B gp_RX12_38 0 rfl (Nat.le_of_ble_eq_true rfl) rfl rfl dX12_digest_2 [(h0, oC 13 [.ref h1, .ref h2, .int 0, .ref h3, .ref h4, .int (nI k5), .int (nI k6), .int p7, .int p8, .int p9, .int (nI k10), .int p11, .long q12, .ref h5, .ref h6, .int (nI k15), .int (nI k16)]), (h1, aI Y 3640 f0), (h2, aZ Y 2 f1), (h3, aZ Y 80 f3), (h4, aB Y 1600 f4), (h5, aI Y 200 f13), (h6, aI Y 800 f14)] rfl ?_
    refine V_bipush 5 B (v := 7) dX12_digest_5 (by decide +kernel) ?_
    refine V_istore_n 7 B (lv2 := [(1, .int 7), (0, .ref h0)]) dX12_digest_7 (by decide) rfl ?_
    refine V_iconst 8 B (v := 0) dX12_digest_8 (by decide +kernel) ?_
    refine V_istore_n 9 B (lv2 := [(2, .int 0), (1, .int 7), (0, .ref h0)]) dX12_digest_9 (by decide) rfl ?_
    refine V_wloop (α := WU) (fun a => 100000 - (a.1 0)) (fun a => (a.1 0) ≤ 4000) (fun a => [(2, .int (nI (a.1 0))), (1, .int (a.2.1 0)), (0, .ref h0)]) (fun a => [(h0, oC 13 [.ref h1, .ref h2, .int 0, .ref h3, .ref h4, .int (nI k5), .int (nI k6), .int p7, .int p8, .int p9, .int (nI k10), .int p11, .long q12, .ref h5, .ref h6, .int (nI k15), .int (nI k16)]), (h1, aI Y 3640 f0), (h2, aZ Y 2 f1), (h3, aZ Y 80 f3), (h4, aB Y 1600 f4), (h5, aI Y 200 f13), (h6, aI Y 800 f14)]) (mkW [0] [7] [] [] [] []) (show 0 ≤ 4000 by omega) rfl rfl (fun a0 hI2 IH1 => ?_)
    refine V_lv [(2, .int (nI (a0.1 0))), (1, .int (a0.2.1 0)), (0, .ref h0)] [0, 1, 2] rfl ?_
    refine V_ws [(h0, oC 13 [.ref h1, .ref h2, .int 0, .ref h3, .ref h4, .int (nI k5), .int (nI k6), .int p7, .int p8, .int p9, .int (nI k10), .int p11, .long q12, .ref h5, .ref h6, .int (nI k15), .int (nI k16)]), (h1, aI Y 3640 f0), (h2, aZ Y 2 f1), (h3, aZ Y 80 f3), (h4, aB Y 1600 f4), (h5, aI Y 200 f13), (h6, aI Y 800 f14)] rfl ?_
    have x3 := hI2
    refine V_iload_n 10 B dX12_digest_10 0 rfl ?_
    refine V_aload_n 11 B dX12_digest_11 2 rfl ?_
    refine V_get 12 B gf_RX12_9 0 rfl rfl dX12_digest_12 ?_
    refine V_iconst 15 B (v := 3) dX12_digest_15 (by decide +kernel) ?_
    have x4 : (gN f0 3) ≤ 80 := gN_le HI (by omega) (show bd 3 = (0, ((80 : Nat) : Int)) by decide +kernel)
    refine V_iald 16 B (v := (nI (gN f0 3))) 1 rfl (vpin _ _ (by decide +kernel)) dX12_digest_16 (by show f0 3 = _; exact gN_eq HI (by omega) (show bd 3 = (0, ((80 : Nat) : Int)) by decide +kernel)) ?_
    refine V_icmp_ge 17 B 84 dX12_digest_17 (by decide) (fun kk5 => ?_) (fun kk5 => ?_)
    ·
      have x6 := n_le (a := (gN f0 3)) (b := (a0.1 0)) kk5 (by omega) (by omega)
      refine V_iload_n 84 B dX12_digest_84 1 rfl ?_
      exact V_iret 85 B dX12_digest_85 (mkW [] [0] [] [] [] []) trivial rfl
    ·
      have x7 := n_nle (a := (gN f0 3)) (b := (a0.1 0)) kk5 (by omega) (by omega)
      refine V_bipush 20 B (v := 31) dX12_digest_20 (by decide +kernel) ?_
      refine V_bipush 22 B (v := 31) dX12_digest_22 (by decide +kernel) ?_
      refine V_iload_n 24 B dX12_digest_24 1 rfl ?_
      refine V_imul 25 B dX12_digest_25 rfl ?_
      refine V_nmi (fun j8 e9 => ?_)
      refine V_aload_n 26 B dX12_digest_26 2 rfl ?_
      refine V_iload_n 27 B dX12_digest_27 0 rfl ?_
      refine V_cvi 28 B (st := [.int j8, .int 31]) (As := [.int (nI (a0.1 0))]) (fun sz => rX12_modeOf l D Y h0 h1 h2 h3 h4 h5 h6 0 k5 k6 p7 p8 p9 k10 p11 q12 k15 k16 f0 f1 f3 f4 f13 f14 ph HI (by omega) HP (a0.1 0) (by omega) sz) glV_RX12_115 ⟨rfl, rfl⟩ ⟨(Nat.le_of_ble_eq_true rfl), (Nat.le_of_ble_eq_true rfl)⟩ ⟨(Nat.le_of_ble_eq_true rfl), (Nat.le_of_ble_eq_true rfl)⟩ [0, 0, 0, 0, 0, 0, 0] rfl 13 0 rfl rfl rfl rfl (Nat.le_of_ble_eq_true rfl) rfl (fun _ _ _ => rfl) dX12_digest_28 (fun j10 u11 w12 => ?_)
      refine V_ws [(h0, oC 13 [.ref h1, .ref h2, .int 0, .ref h3, .ref h4, .int (nI k5), .int (nI k6), .int p7, .int p8, .int p9, .int (nI k10), .int p11, .long q12, .ref h5, .ref h6, .int (nI k15), .int (nI k16)]), (h1, aI Y 3640 f0), (h2, aZ Y 2 f1), (h3, aZ Y 80 f3), (h4, aB Y 1600 f4), (h5, aI Y 200 f13), (h6, aI Y 800 f14)] rfl ?_
      have x13 := w12
      clear w12
      refine V_iadd 31 B dX12_digest_31 rfl ?_
      refine V_nmi (fun j14 e15 => ?_)
      refine V_imul 32 B dX12_digest_32 rfl ?_
      refine V_nmi (fun j16 e17 => ?_)
      refine V_aload_n 33 B dX12_digest_33 2 rfl ?_
      refine V_iload_n 34 B dX12_digest_34 0 rfl ?_
      refine V_cvi 35 B (st := [.int j16]) (As := [.int (nI (a0.1 0))]) (fun sz => rX12_commandOf l D Y h0 h1 h2 h3 h4 h5 h6 0 k5 k6 p7 p8 p9 k10 p11 q12 k15 k16 f0 f1 f3 f4 f13 f14 ph HI (by omega) HP (a0.1 0) (by omega) sz) glV_RX12_96 ⟨rfl, rfl⟩ ⟨(Nat.le_of_ble_eq_true rfl), (Nat.le_of_ble_eq_true rfl)⟩ ⟨(Nat.le_of_ble_eq_true rfl), (Nat.le_of_ble_eq_true rfl)⟩ [0, 0, 0, 0, 0, 0, 0] rfl 13 0 rfl rfl rfl rfl (Nat.le_of_ble_eq_true rfl) rfl (fun _ _ _ => rfl) dX12_digest_35 (fun j18 u19 w20 => ?_)
      refine V_ws [(h0, oC 13 [.ref h1, .ref h2, .int 0, .ref h3, .ref h4, .int (nI k5), .int (nI k6), .int p7, .int p8, .int p9, .int (nI k10), .int p11, .long q12, .ref h5, .ref h6, .int (nI k15), .int (nI k16)]), (h1, aI Y 3640 f0), (h2, aZ Y 2 f1), (h3, aZ Y 80 f3), (h4, aB Y 1600 f4), (h5, aI Y 200 f13), (h6, aI Y 800 f14)] rfl ?_
      have x21 := w20
      clear w20
      obtain rfl := x21
      have x22 : (gN f0 (185 + 7 * (a0.1 0))) ≤ 39 := gN_le HI (by omega) (rl2 (a0.1 0) (by omega))
      refine V_iadd 38 B dX12_digest_38 rfl ?_
      refine V_nmi (fun j23 e24 => ?_)
      refine V_istore_n 39 B (lv2 := [(1, .int j23), (2, .int (nI (a0.1 0))), (0, .ref h0)]) dX12_digest_39 (by decide) rfl ?_
      refine V_iconst 40 B (v := 1) dX12_digest_40 (by decide +kernel) ?_
      refine V_istore_n 41 B (lv2 := [(3, .int 1), (1, .int j23), (2, .int (nI (a0.1 0))), (0, .ref h0)]) dX12_digest_41 (by decide) rfl ?_
      refine V_wloop (α := WU) (fun a => 100000 - (a.1 0)) (fun a => (a.1 0) ≤ 4000 ∧ 1 ≤ (a.1 0)) (fun a => [(3, .int (nI (a.1 0))), (1, .int (a.2.1 0)), (2, .int (nI (a0.1 0))), (0, .ref h0)]) (fun a => [(h0, oC 13 [.ref h1, .ref h2, .int 0, .ref h3, .ref h4, .int (nI k5), .int (nI k6), .int p7, .int p8, .int p9, .int (nI k10), .int p11, .long q12, .ref h5, .ref h6, .int (nI k15), .int (nI k16)]), (h1, aI Y 3640 f0), (h2, aZ Y 2 f1), (h3, aZ Y 80 f3), (h4, aB Y 1600 f4), (h5, aI Y 200 f13), (h6, aI Y 800 f14)]) (mkW [1] [j23] [] [] [] []) ⟨(show 1 ≤ 4000 by omega), (show 1 ≤ 1 by omega)⟩ rfl rfl (fun a25 hI27 IH26 => ?_)
      refine V_lv [(3, .int (nI (a25.1 0))), (1, .int (a25.2.1 0)), (2, .int (nI (a0.1 0))), (0, .ref h0)] [0, 1, 2, 3] rfl ?_
      refine V_ws [(h0, oC 13 [.ref h1, .ref h2, .int 0, .ref h3, .ref h4, .int (nI k5), .int (nI k6), .int p7, .int p8, .int p9, .int (nI k10), .int p11, .long q12, .ref h5, .ref h6, .int (nI k15), .int (nI k16)]), (h1, aI Y 3640 f0), (h2, aZ Y 2 f1), (h3, aZ Y 80 f3), (h4, aB Y 1600 f4), (h5, aI Y 200 f13), (h6, aI Y 800 f14)] rfl ?_
      obtain ⟨x28, x29⟩ := hI27
      refine V_iload_n 42 B dX12_digest_42 0 rfl ?_
      refine V_aload_n 43 B dX12_digest_43 3 rfl ?_
      refine V_get 44 B gf_RX12_9 0 rfl rfl dX12_digest_44 ?_
      refine V_iload_n 47 B dX12_digest_47 2 rfl ?_
      refine V_csi 48 B (st := [.ref h1, .int (nI (a25.1 0))]) (As := [.int (nI (a0.1 0))]) (fun sz => rX12_sequenceOf l D Y (a0.1 0) (by omega) sz) glS_RX12_85 ⟨rfl, rfl⟩ ⟨(Nat.le_of_ble_eq_true rfl), (Nat.le_of_ble_eq_true rfl)⟩ ⟨(Nat.le_of_ble_eq_true rfl), (Nat.le_of_ble_eq_true rfl)⟩ [] rfl rfl (Nat.le_of_ble_eq_true rfl) rfl (fun _ _ _ => rfl) dX12_digest_48 (fun j30 u31 w32 => ?_)
      refine V_ws [(h0, oC 13 [.ref h1, .ref h2, .int 0, .ref h3, .ref h4, .int (nI k5), .int (nI k6), .int p7, .int p8, .int p9, .int (nI k10), .int p11, .long q12, .ref h5, .ref h6, .int (nI k15), .int (nI k16)]), (h1, aI Y 3640 f0), (h2, aZ Y 2 f1), (h3, aZ Y 80 f3), (h4, aB Y 1600 f4), (h5, aI Y 200 f13), (h6, aI Y 800 f14)] rfl ?_
      have x33 := w32
      clear w32
      obtain rfl := x33
      have x34 : (gN f0 (186 + 7 * (a0.1 0))) ≤ 4 := gN_le HI (by omega) (rl11 (a0.1 0) (by omega))
      refine V_iald 51 B (v := (nI ((gN f0 (186 + 7 * (a0.1 0)))))) 1 rfl (vp_in_nI (n := 186 + 7 * (a0.1 0)) (by omega) (by decide)) dX12_digest_51 (by rw [nI_clamp (show 186 + 7 * (a0.1 0) < 2 ^ 31 by omega)]; exact gN_eq HI (by omega) (rl11 (a0.1 0) (by omega))) ?_
      refine V_icmp_gt 52 B 78 dX12_digest_52 (by decide) (fun kk35 => ?_) (fun kk35 => ?_)
      ·
        have x36 := n_lt (a := (gN f0 (186 + 7 * (a0.1 0)))) (b := (a25.1 0)) kk35 (by omega) (by omega)
        refine V_iinc 78 B (v := (nI (1 + (a0.1 0)))) (lv2 := [(2, .int (nI (1 + (a0.1 0)))), (3, .int (nI (a25.1 0))), (1, .int (a25.2.1 0)), (0, .ref h0)]) dX12_digest_78 2 rfl (nI_addE (a := (a0.1 0)) (b := 1) (by omega)) (by decide) rfl ?_
        refine V_goto 81 B 10 dX12_digest_81 (by decide) ?_
        refine V_lv [(2, .int (nI (1 + (a0.1 0)))), (1, .int (a25.2.1 0)), (0, .ref h0)] [0, 2, 3] rfl ?_
        exact IH1 (mkW [1 + (a0.1 0)] [(a25.2.1 0)] [] [] [] []) (show 1 + (a0.1 0) ≤ 4000 by omega) (by show 100000 - (1 + (a0.1 0)) < 100000 - (a0.1 0); omega)
      ·
        have x37 := n_nlt (a := (gN f0 (186 + 7 * (a0.1 0)))) (b := (a25.1 0)) kk35 (by omega) (by omega)
        refine V_bipush 55 B (v := 31) dX12_digest_55 (by decide +kernel) ?_
        refine V_iload_n 57 B dX12_digest_57 1 rfl ?_
        refine V_imul 58 B dX12_digest_58 rfl ?_
        refine V_nmi (fun j38 e39 => ?_)
        refine V_aload_n 59 B dX12_digest_59 3 rfl ?_
        refine V_get 60 B gf_RX12_9 0 rfl rfl dX12_digest_60 ?_
        refine V_iload_n 63 B dX12_digest_63 2 rfl ?_
        refine V_csi 64 B (st := [.ref h1, .int j38]) (As := [.int (nI (a0.1 0))]) (fun sz => rX12_sequenceOf l D Y (a0.1 0) (by omega) sz) glS_RX12_85 ⟨rfl, rfl⟩ ⟨(Nat.le_of_ble_eq_true rfl), (Nat.le_of_ble_eq_true rfl)⟩ ⟨(Nat.le_of_ble_eq_true rfl), (Nat.le_of_ble_eq_true rfl)⟩ [] rfl rfl (Nat.le_of_ble_eq_true rfl) rfl (fun _ _ _ => rfl) dX12_digest_64 (fun j40 u41 w42 => ?_)
        refine V_ws [(h0, oC 13 [.ref h1, .ref h2, .int 0, .ref h3, .ref h4, .int (nI k5), .int (nI k6), .int p7, .int p8, .int p9, .int (nI k10), .int p11, .long q12, .ref h5, .ref h6, .int (nI k15), .int (nI k16)]), (h1, aI Y 3640 f0), (h2, aZ Y 2 f1), (h3, aZ Y 80 f3), (h4, aB Y 1600 f4), (h5, aI Y 200 f13), (h6, aI Y 800 f14)] rfl ?_
        have x43 := w42
        clear w42
        obtain rfl := x43
        refine V_iload_n 67 B dX12_digest_67 0 rfl ?_
        refine V_iadd 68 B (v := (nI (186 + 7 * (a0.1 0) + (a25.1 0)))) dX12_digest_68 (nI_addE (a := 186 + 7 * (a0.1 0)) (b := (a25.1 0)) (by omega)) ?_
        refine V_iald 69 B (v := f0 (186 + 7 * (a0.1 0) + (a25.1 0))) 1 rfl (vp_in_nI (n := 186 + 7 * (a0.1 0) + (a25.1 0)) (by omega) (by decide)) dX12_digest_69 (by rw [nI_clamp (show 186 + 7 * (a0.1 0) + (a25.1 0) < 2 ^ 31 by omega)]) ?_
        refine V_nmi (fun j44 e45 => ?_)
        refine V_iadd 70 B dX12_digest_70 rfl ?_
        refine V_nmi (fun j46 e47 => ?_)
        refine V_istore_n 71 B (lv2 := [(1, .int j46), (3, .int (nI (a25.1 0))), (2, .int (nI (a0.1 0))), (0, .ref h0)]) dX12_digest_71 (by decide) rfl ?_
        refine V_iinc 72 B (v := (nI (1 + (a25.1 0)))) (lv2 := [(3, .int (nI (1 + (a25.1 0)))), (1, .int j46), (2, .int (nI (a0.1 0))), (0, .ref h0)]) dX12_digest_72 1 rfl (nI_addE (a := (a25.1 0)) (b := 1) (by omega)) (by decide) rfl ?_
        refine V_goto 75 B 42 dX12_digest_75 (by decide) ?_
        refine V_lv [(3, .int (nI (1 + (a25.1 0)))), (1, .int j46), (2, .int (nI (a0.1 0))), (0, .ref h0)] [0, 1, 2, 3] rfl ?_
        exact IH26 (mkW [1 + (a25.1 0)] [j46] [] [] [] []) ⟨(show 1 + (a25.1 0) ≤ 4000 by omega), (show 1 ≤ 1 + (a25.1 0) by omega)⟩ (by show 100000 - (1 + (a25.1 0)) < 100000 - (a25.1 0); omega))
theorem dX12_layerOf_0 : decode cX12_layerOf 0 = .ok (.iconst 0, 1) := by decide +kernel
theorem dX12_layerOf_1 : decode cX12_layerOf 1 = .ok (.istore_n 2, 1) := by decide +kernel
theorem dX12_layerOf_2 : decode cX12_layerOf 2 = .ok (.iload_n 2, 1) := by decide +kernel
theorem dX12_layerOf_3 : decode cX12_layerOf 3 = .ok (.aload_n 0, 1) := by decide +kernel
theorem dX12_layerOf_4 : decode cX12_layerOf 4 = .ok (.getfield 9, 3) := by decide +kernel
theorem dX12_layerOf_7 : decode cX12_layerOf 7 = .ok (.iconst 4, 1) := by decide +kernel
theorem dX12_layerOf_8 : decode cX12_layerOf 8 = .ok (.iaload, 1) := by decide +kernel
theorem dX12_layerOf_9 : decode cX12_layerOf 9 = .ok (.if_icmp .ge 21, 3) := by decide +kernel
theorem dX12_layerOf_30 : decode cX12_layerOf 30 = .ok (.iconst (-1), 1) := by decide +kernel
theorem dX12_layerOf_31 : decode cX12_layerOf 31 = .ok (.ireturn, 1) := by decide +kernel
theorem dX12_layerOf_12 : decode cX12_layerOf 12 = .ok (.aload_n 0, 1) := by decide +kernel
theorem dX12_layerOf_13 : decode cX12_layerOf 13 = .ok (.iload_n 2, 1) := by decide +kernel
theorem dX12_layerOf_14 : decode cX12_layerOf 14 = .ok (.iconst 0, 1) := by decide +kernel
theorem dX12_layerOf_15 : decode cX12_layerOf 15 = .ok (.invokevirtual 193, 3) := by decide +kernel
theorem glV_RX12_193 : GLV RX12 193 yX12_ofLayer RX12 cX12_ofLayer 3 (some .int) 2 := ⟨⟨(mT9 56 rfl rfl), (mT9 58 rfl rfl), (mTs 62 rfl rfl), (mT1 13 rfl rfl), (mT9 59 rfl rfl)⟩, by decide +kernel⟩
theorem dX12_layerOf_18 : decode cX12_layerOf 18 = .ok (.iload_n 1, 1) := by decide +kernel
theorem dX12_layerOf_19 : decode cX12_layerOf 19 = .ok (.if_icmp .ne 5, 3) := by decide +kernel
theorem dX12_layerOf_24 : decode cX12_layerOf 24 = .ok (.iinc 2 1, 3) := by decide +kernel
theorem dX12_layerOf_27 : decode cX12_layerOf 27 = .ok (.goto (-25), 3) := by decide +kernel
theorem dX12_layerOf_22 : decode cX12_layerOf 22 = .ok (.iload_n 2, 1) := by decide +kernel
theorem dX12_layerOf_23 : decode cX12_layerOf 23 = .ok (.ireturn, 1) := by decide +kernel
set_option maxRecDepth 100000 in
set_option maxHeartbeats 4000000 in
theorem rX12_layerOf (l : Launch) (D : va_G) (Y : Nat → ClassId) (h0 : Nat) (h1 : Nat) (h2 : Nat) (h3 : Nat) (h4 : Nat) (h5 : Nat) (h6 : Nat) (p2 : Int32) (k5 : Nat) (k6 : Nat) (p7 : Int32) (p8 : Int32) (p9 : Int32) (k10 : Nat) (p11 : Int32) (q12 : Int64) (k15 : Nat) (k16 : Nat) (f0 : Nat → Int32) (f1 : Nat → Int32) (f3 : Nat → Int32) (f4 : Nat → Int32) (f13 : Nat → Int32) (f14 : Nat → Int32) (ph : Nat → Int32) (HI : INV ph f0) (HL : k5 ≤ 1600) (HP : PLV f13) (s0 : Int32)  (sz : Nat) : Met l yX12_layerOf (WSm yX12_layerOf cX12_layerOf 3 (some .int)) (mkR 1 0 0 22) (PreC D Y [.ref h0, .int s0] [(h0, oC 13 [.ref h1, .ref h2, .int p2, .ref h3, .ref h4, .int (nI k5), .int (nI k6), .int p7, .int p8, .int p9, .int (nI k10), .int p11, .long q12, .ref h5, .ref h6, .int (nI k15), .int (nI k16)]), (h1, aI Y 3640 f0), (h2, aZ Y 2 f1), (h3, aZ Y 80 f3), (h4, aB Y 1600 f4), (h5, aI Y 200 f13), (h6, aI Y 800 f14)] sz) (QI D (fun (r : Int32) (u : WU) => (r = -1 ∨ ∃ b : Nat, r = nI b ∧ b < gN f0 4)) (fun (u : WU) => [(h0, oC 13 [.ref h1, .ref h2, .int p2, .ref h3, .ref h4, .int (nI k5), .int (nI k6), .int p7, .int p8, .int p9, .int (nI k10), .int p11, .long q12, .ref h5, .ref h6, .int (nI k15), .int (nI k16)]), (h1, aI Y 3640 f0), (h2, aZ Y 2 f1), (h3, aZ Y 80 f3), (h4, aB Y 1600 f4), (h5, aI Y 200 f13), (h6, aI Y 800 f14)]) (va_A [(h0, oC 13 [.ref h1, .ref h2, .int p2, .ref h3, .ref h4, .int (nI k5), .int (nI k6), .int p7, .int p8, .int p9, .int (nI k10), .int p11, .long q12, .ref h5, .ref h6, .int (nI k15), .int (nI k16)]), (h1, aI Y 3640 f0), (h2, aZ Y 2 f1), (h3, aZ Y 80 f3), (h4, aB Y 1600 f4), (h5, aI Y 200 f13), (h6, aI Y 800 f14)] sz)) 0 0 (va_A [(h0, oC 13 [.ref h1, .ref h2, .int p2, .ref h3, .ref h4, .int (nI k5), .int (nI k6), .int p7, .int p8, .int p9, .int (nI k10), .int p11, .long q12, .ref h5, .ref h6, .int (nI k15), .int (nI k16)]), (h1, aI Y 3640 f0), (h2, aZ Y 2 f1), (h3, aZ Y 80 f3), (h4, aB Y 1600 f4), (h5, aI Y 200 f13), (h6, aI Y 800 f14)] sz) :=
  met_of  (by decide +kernel) (Nat.le_of_ble_eq_true rfl) (fun p e s m args below meth c B hin hsz => by
    have B : VB p s m args meth c D Y (va_A [(h0, oC 13 [.ref h1, .ref h2, .int p2, .ref h3, .ref h4, .int (nI k5), .int (nI k6), .int p7, .int p8, .int p9, .int (nI k10), .int p11, .long q12, .ref h5, .ref h6, .int (nI k15), .int (nI k16)]), (h1, aI Y 3640 f0), (h2, aZ Y 2 f1), (h3, aZ Y 80 f3), (h4, aB Y 1600 f4), (h5, aI Y 200 f13), (h6, aI Y 800 f14)] sz) cX12_layerOf 3 RX12 (some .int) := B
    refine V_iconst 0 B (v := 0) dX12_layerOf_0 (by decide +kernel) ?_
    refine V_istore_n 1 B (lv2 := [(2, .int 0), (0, .ref h0), (1, .int s0)]) dX12_layerOf_1 (by decide) rfl ?_
    refine V_wloop (α := WU) (fun a => 100000 - (a.1 0)) (fun a => (a.1 0) ≤ 4000) (fun a => [(2, .int (nI (a.1 0))), (0, .ref h0), (1, .int s0)]) (fun a => [(h0, oC 13 [.ref h1, .ref h2, .int p2, .ref h3, .ref h4, .int (nI k5), .int (nI k6), .int p7, .int p8, .int p9, .int (nI k10), .int p11, .long q12, .ref h5, .ref h6, .int (nI k15), .int (nI k16)]), (h1, aI Y 3640 f0), (h2, aZ Y 2 f1), (h3, aZ Y 80 f3), (h4, aB Y 1600 f4), (h5, aI Y 200 f13), (h6, aI Y 800 f14)]) (mkW [0] [] [] [] [] []) (show 0 ≤ 4000 by omega) rfl rfl (fun a0 hI2 IH1 => ?_)
    refine V_lv [(2, .int (nI (a0.1 0))), (0, .ref h0), (1, .int s0)] [0, 1, 2] rfl ?_
    refine V_ws [(h0, oC 13 [.ref h1, .ref h2, .int p2, .ref h3, .ref h4, .int (nI k5), .int (nI k6), .int p7, .int p8, .int p9, .int (nI k10), .int p11, .long q12, .ref h5, .ref h6, .int (nI k15), .int (nI k16)]), (h1, aI Y 3640 f0), (h2, aZ Y 2 f1), (h3, aZ Y 80 f3), (h4, aB Y 1600 f4), (h5, aI Y 200 f13), (h6, aI Y 800 f14)] rfl ?_
    have x3 := hI2
    refine V_iload_n 2 B dX12_layerOf_2 0 rfl ?_
    refine V_aload_n 3 B dX12_layerOf_3 1 rfl ?_
    refine V_get 4 B gf_RX12_9 0 rfl rfl dX12_layerOf_4 ?_
    refine V_iconst 7 B (v := 4) dX12_layerOf_7 (by decide +kernel) ?_
    have x4 : (gN f0 4) ≤ 4 := gN_le HI (by omega) (show bd 4 = (0, ((4 : Nat) : Int)) by decide +kernel)
    refine V_iald 8 B (v := (nI (gN f0 4))) 1 rfl (vpin _ _ (by decide +kernel)) dX12_layerOf_8 (by show f0 4 = _; exact gN_eq HI (by omega) (show bd 4 = (0, ((4 : Nat) : Int)) by decide +kernel)) ?_
    refine V_icmp_ge 9 B 30 dX12_layerOf_9 (by decide) (fun kk5 => ?_) (fun kk5 => ?_)
    ·
      have x6 := n_le (a := (gN f0 4)) (b := (a0.1 0)) kk5 (by omega) (by omega)
      refine V_iconst 30 B (v := (-1)) dX12_layerOf_30 (by decide +kernel) ?_
      exact V_iret 31 B dX12_layerOf_31 (mkW [] [] [] [] [] []) (Or.inl rfl) rfl
    ·
      have x7 := n_nle (a := (gN f0 4)) (b := (a0.1 0)) kk5 (by omega) (by omega)
      refine V_aload_n 12 B dX12_layerOf_12 1 rfl ?_
      refine V_iload_n 13 B dX12_layerOf_13 0 rfl ?_
      refine V_iconst 14 B (v := 0) dX12_layerOf_14 (by decide +kernel) ?_
      refine V_cvi 15 B (st := []) (As := [.int (nI (a0.1 0)), .int 0]) (fun sz => rX12_ofLayer l D Y h0 h1 h2 h3 h4 h5 h6 p2 k5 k6 p7 p8 p9 k10 p11 q12 k15 k16 f0 f1 f3 f4 f13 f14 ph HI (by omega) HP (a0.1 0) 0 (by omega) (by omega) sz) glV_RX12_193 ⟨rfl, rfl⟩ ⟨(Nat.le_of_ble_eq_true rfl), (Nat.le_of_ble_eq_true rfl)⟩ ⟨(Nat.le_of_ble_eq_true rfl), (Nat.le_of_ble_eq_true rfl)⟩ [0, 0, 0, 0, 0, 0, 0] rfl 13 0 rfl rfl rfl rfl (Nat.le_of_ble_eq_true rfl) rfl (fun _ _ _ => rfl) dX12_layerOf_15 (fun j8 u9 w10 => ?_)
      refine V_ws [(h0, oC 13 [.ref h1, .ref h2, .int p2, .ref h3, .ref h4, .int (nI k5), .int (nI k6), .int p7, .int p8, .int p9, .int (nI k10), .int p11, .long q12, .ref h5, .ref h6, .int (nI k15), .int (nI k16)]), (h1, aI Y 3640 f0), (h2, aZ Y 2 f1), (h3, aZ Y 80 f3), (h4, aB Y 1600 f4), (h5, aI Y 200 f13), (h6, aI Y 800 f14)] rfl ?_
      refine V_iload_n 18 B dX12_layerOf_18 2 rfl ?_
      refine V_icmp_ne 19 B 24 dX12_layerOf_19 (by decide) (fun kk11 => ?_) (fun kk11 => ?_)
      ·
        have x12 := x_ne kk11
        refine V_iinc 24 B (v := (nI (1 + (a0.1 0)))) (lv2 := [(2, .int (nI (1 + (a0.1 0)))), (0, .ref h0), (1, .int s0)]) dX12_layerOf_24 0 rfl (nI_addE (a := (a0.1 0)) (b := 1) (by omega)) (by decide) rfl ?_
        refine V_goto 27 B 2 dX12_layerOf_27 (by decide) ?_
        refine V_lv [(2, .int (nI (1 + (a0.1 0)))), (0, .ref h0), (1, .int s0)] [0, 1, 2] rfl ?_
        exact IH1 (mkW [1 + (a0.1 0)] [] [] [] [] []) (show 1 + (a0.1 0) ≤ 4000 by omega) (by show 100000 - (1 + (a0.1 0)) < 100000 - (a0.1 0); omega)
      ·
        have x13 := x_eq kk11
        refine V_iload_n 22 B dX12_layerOf_22 0 rfl ?_
        exact V_iret 23 B dX12_layerOf_23 (mkW [] [] [] [] [] []) (Or.inr ⟨(a0.1 0), rfl, by omega⟩) rfl)
theorem dX12_mappedCount_0 : decode cX12_mappedCount 0 = .ok (.iconst 0, 1) := by decide +kernel
theorem dX12_mappedCount_1 : decode cX12_mappedCount 1 = .ok (.istore_n 2, 1) := by decide +kernel
theorem dX12_mappedCount_2 : decode cX12_mappedCount 2 = .ok (.iconst 0, 1) := by decide +kernel
theorem dX12_mappedCount_3 : decode cX12_mappedCount 3 = .ok (.istore_n 3, 1) := by decide +kernel
theorem dX12_mappedCount_4 : decode cX12_mappedCount 4 = .ok (.iload_n 3, 1) := by decide +kernel
theorem dX12_mappedCount_5 : decode cX12_mappedCount 5 = .ok (.bipush 26, 2) := by decide +kernel
theorem dX12_mappedCount_7 : decode cX12_mappedCount 7 = .ok (.if_icmp .ge 28, 3) := by decide +kernel
theorem dX12_mappedCount_35 : decode cX12_mappedCount 35 = .ok (.iload_n 2, 1) := by decide +kernel
theorem dX12_mappedCount_36 : decode cX12_mappedCount 36 = .ok (.ireturn, 1) := by decide +kernel
theorem dX12_mappedCount_10 : decode cX12_mappedCount 10 = .ok (.iload_n 2, 1) := by decide +kernel
theorem dX12_mappedCount_11 : decode cX12_mappedCount 11 = .ok (.aload_n 0, 1) := by decide +kernel
theorem dX12_mappedCount_12 : decode cX12_mappedCount 12 = .ok (.iload_n 1, 1) := by decide +kernel
theorem dX12_mappedCount_13 : decode cX12_mappedCount 13 = .ok (.iconst 2, 1) := by decide +kernel
theorem dX12_mappedCount_14 : decode cX12_mappedCount 14 = .ok (.iload_n 3, 1) := by decide +kernel
theorem dX12_mappedCount_15 : decode cX12_mappedCount 15 = .ok (.iadd, 1) := by decide +kernel
theorem dX12_mappedCount_16 : decode cX12_mappedCount 16 = .ok (.invokevirtual 193, 3) := by decide +kernel
theorem dX12_mappedCount_19 : decode cX12_mappedCount 19 = .ok (.ifCond .le 7, 3) := by decide +kernel
theorem dX12_mappedCount_26 : decode cX12_mappedCount 26 = .ok (.iconst 0, 1) := by decide +kernel
theorem dX12_mappedCount_27 : decode cX12_mappedCount 27 = .ok (.iadd, 1) := by decide +kernel
theorem dX12_mappedCount_28 : decode cX12_mappedCount 28 = .ok (.istore_n 2, 1) := by decide +kernel
theorem dX12_mappedCount_29 : decode cX12_mappedCount 29 = .ok (.iinc 3 1, 3) := by decide +kernel
theorem dX12_mappedCount_32 : decode cX12_mappedCount 32 = .ok (.goto (-28), 3) := by decide +kernel
theorem dX12_mappedCount_22 : decode cX12_mappedCount 22 = .ok (.iconst 1, 1) := by decide +kernel
theorem dX12_mappedCount_23 : decode cX12_mappedCount 23 = .ok (.goto 4, 3) := by decide +kernel
set_option maxRecDepth 100000 in
set_option maxHeartbeats 4000000 in
theorem rX12_mappedCount (l : Launch) (D : va_G) (Y : Nat → ClassId) (h0 : Nat) (h1 : Nat) (h2 : Nat) (h3 : Nat) (h4 : Nat) (h5 : Nat) (h6 : Nat) (p2 : Int32) (k5 : Nat) (k6 : Nat) (p7 : Int32) (p8 : Int32) (p9 : Int32) (k10 : Nat) (p11 : Int32) (q12 : Int64) (k15 : Nat) (k16 : Nat) (f0 : Nat → Int32) (f1 : Nat → Int32) (f3 : Nat → Int32) (f4 : Nat → Int32) (f13 : Nat → Int32) (f14 : Nat → Int32) (ph : Nat → Int32) (HI : INV ph f0) (HL : k5 ≤ 1600) (HP : PLV f13) (s0 : Nat) (hn0 : s0 < 4) (sz : Nat) : Met l yX12_mappedCount (WSm yX12_mappedCount cX12_mappedCount 4 (some .int)) (mkR 1 0 0 22) (PreC D Y [.ref h0, .int (nI s0)] [(h0, oC 13 [.ref h1, .ref h2, .int p2, .ref h3, .ref h4, .int (nI k5), .int (nI k6), .int p7, .int p8, .int p9, .int (nI k10), .int p11, .long q12, .ref h5, .ref h6, .int (nI k15), .int (nI k16)]), (h1, aI Y 3640 f0), (h2, aZ Y 2 f1), (h3, aZ Y 80 f3), (h4, aB Y 1600 f4), (h5, aI Y 200 f13), (h6, aI Y 800 f14)] sz) (QI D (fun (r : Int32) (u : WU) => True) (fun (u : WU) => [(h0, oC 13 [.ref h1, .ref h2, .int p2, .ref h3, .ref h4, .int (nI k5), .int (nI k6), .int p7, .int p8, .int p9, .int (nI k10), .int p11, .long q12, .ref h5, .ref h6, .int (nI k15), .int (nI k16)]), (h1, aI Y 3640 f0), (h2, aZ Y 2 f1), (h3, aZ Y 80 f3), (h4, aB Y 1600 f4), (h5, aI Y 200 f13), (h6, aI Y 800 f14)]) (va_A [(h0, oC 13 [.ref h1, .ref h2, .int p2, .ref h3, .ref h4, .int (nI k5), .int (nI k6), .int p7, .int p8, .int p9, .int (nI k10), .int p11, .long q12, .ref h5, .ref h6, .int (nI k15), .int (nI k16)]), (h1, aI Y 3640 f0), (h2, aZ Y 2 f1), (h3, aZ Y 80 f3), (h4, aB Y 1600 f4), (h5, aI Y 200 f13), (h6, aI Y 800 f14)] sz)) 0 0 (va_A [(h0, oC 13 [.ref h1, .ref h2, .int p2, .ref h3, .ref h4, .int (nI k5), .int (nI k6), .int p7, .int p8, .int p9, .int (nI k10), .int p11, .long q12, .ref h5, .ref h6, .int (nI k15), .int (nI k16)]), (h1, aI Y 3640 f0), (h2, aZ Y 2 f1), (h3, aZ Y 80 f3), (h4, aB Y 1600 f4), (h5, aI Y 200 f13), (h6, aI Y 800 f14)] sz) :=
  met_of  (by decide +kernel) (Nat.le_of_ble_eq_true rfl) (fun p e s m args below meth c B hin hsz => by
    have B : VB p s m args meth c D Y (va_A [(h0, oC 13 [.ref h1, .ref h2, .int p2, .ref h3, .ref h4, .int (nI k5), .int (nI k6), .int p7, .int p8, .int p9, .int (nI k10), .int p11, .long q12, .ref h5, .ref h6, .int (nI k15), .int (nI k16)]), (h1, aI Y 3640 f0), (h2, aZ Y 2 f1), (h3, aZ Y 80 f3), (h4, aB Y 1600 f4), (h5, aI Y 200 f13), (h6, aI Y 800 f14)] sz) cX12_mappedCount 4 RX12 (some .int) := B
    refine V_iconst 0 B (v := 0) dX12_mappedCount_0 (by decide +kernel) ?_
    refine V_istore_n 1 B (lv2 := [(2, .int 0), (0, .ref h0), (1, .int (nI s0))]) dX12_mappedCount_1 (by decide) rfl ?_
    refine V_iconst 2 B (v := 0) dX12_mappedCount_2 (by decide +kernel) ?_
    refine V_istore_n 3 B (lv2 := [(3, .int 0), (2, .int 0), (0, .ref h0), (1, .int (nI s0))]) dX12_mappedCount_3 (by decide) rfl ?_
    refine V_wloop (α := WU) (fun a => 100000 - (a.1 0)) (fun a => (a.1 0) ≤ 4000) (fun a => [(3, .int (nI (a.1 0))), (2, .int (a.2.1 0)), (0, .ref h0), (1, .int (nI s0))]) (fun a => [(h0, oC 13 [.ref h1, .ref h2, .int p2, .ref h3, .ref h4, .int (nI k5), .int (nI k6), .int p7, .int p8, .int p9, .int (nI k10), .int p11, .long q12, .ref h5, .ref h6, .int (nI k15), .int (nI k16)]), (h1, aI Y 3640 f0), (h2, aZ Y 2 f1), (h3, aZ Y 80 f3), (h4, aB Y 1600 f4), (h5, aI Y 200 f13), (h6, aI Y 800 f14)]) (mkW [0] [0] [] [] [] []) (show 0 ≤ 4000 by omega) rfl rfl (fun a0 hI2 IH1 => ?_)
    refine V_lv [(3, .int (nI (a0.1 0))), (2, .int (a0.2.1 0)), (0, .ref h0), (1, .int (nI s0))] [0, 1, 2, 3] rfl ?_
    refine V_ws [(h0, oC 13 [.ref h1, .ref h2, .int p2, .ref h3, .ref h4, .int (nI k5), .int (nI k6), .int p7, .int p8, .int p9, .int (nI k10), .int p11, .long q12, .ref h5, .ref h6, .int (nI k15), .int (nI k16)]), (h1, aI Y 3640 f0), (h2, aZ Y 2 f1), (h3, aZ Y 80 f3), (h4, aB Y 1600 f4), (h5, aI Y 200 f13), (h6, aI Y 800 f14)] rfl ?_
    have x3 := hI2
    refine V_iload_n 4 B dX12_mappedCount_4 0 rfl ?_
    refine V_bipush 5 B (v := 26) dX12_mappedCount_5 (by decide +kernel) ?_
    refine V_icmp_ge 7 B 35 dX12_mappedCount_7 (by decide) (fun kk4 => ?_) (fun kk4 => ?_)
    ·
      have x5 := n_le (a := 26) (b := (a0.1 0)) kk4 (by omega) (by omega)
      refine V_iload_n 35 B dX12_mappedCount_35 1 rfl ?_
      exact V_iret 36 B dX12_mappedCount_36 (mkW [] [] [] [] [] []) trivial rfl
    ·
      have x6 := n_nle (a := 26) (b := (a0.1 0)) kk4 (by omega) (by omega)
      refine V_iload_n 10 B dX12_mappedCount_10 1 rfl ?_
      refine V_aload_n 11 B dX12_mappedCount_11 2 rfl ?_
      refine V_iload_n 12 B dX12_mappedCount_12 3 rfl ?_
      refine V_iconst 13 B (v := 2) dX12_mappedCount_13 (by decide +kernel) ?_
      refine V_iload_n 14 B dX12_mappedCount_14 0 rfl ?_
      refine V_iadd 15 B (v := (nI (2 + (a0.1 0)))) dX12_mappedCount_15 (nI_addE (a := 2) (b := (a0.1 0)) (by omega)) ?_
      refine V_cvi 16 B (st := [.int (a0.2.1 0)]) (As := [.int (nI s0), .int (nI (2 + (a0.1 0)))]) (fun sz => rX12_ofLayer l D Y h0 h1 h2 h3 h4 h5 h6 p2 k5 k6 p7 p8 p9 k10 p11 q12 k15 k16 f0 f1 f3 f4 f13 f14 ph HI (by omega) HP s0 (2 + (a0.1 0)) (by omega) (by omega) sz) glV_RX12_193 ⟨rfl, rfl⟩ ⟨(Nat.le_of_ble_eq_true rfl), (Nat.le_of_ble_eq_true rfl)⟩ ⟨(Nat.le_of_ble_eq_true rfl), (Nat.le_of_ble_eq_true rfl)⟩ [0, 0, 0, 0, 0, 0, 0] rfl 13 0 rfl rfl rfl rfl (Nat.le_of_ble_eq_true rfl) rfl (fun _ _ _ => rfl) dX12_mappedCount_16 (fun j7 u8 w9 => ?_)
      refine V_ws [(h0, oC 13 [.ref h1, .ref h2, .int p2, .ref h3, .ref h4, .int (nI k5), .int (nI k6), .int p7, .int p8, .int p9, .int (nI k10), .int p11, .long q12, .ref h5, .ref h6, .int (nI k15), .int (nI k16)]), (h1, aI Y 3640 f0), (h2, aZ Y 2 f1), (h3, aZ Y 80 f3), (h4, aB Y 1600 f4), (h5, aI Y 200 f13), (h6, aI Y 800 f14)] rfl ?_
      refine V_if_le 19 B 26 dX12_mappedCount_19 (by decide) (fun kk10 => ?_) (fun kk10 => ?_)
      ·
        have x11 := x_le kk10
        rw [show (0 : Int32).toInt = 0 by decide +kernel] at x11
        refine V_iconst 26 B (v := 0) dX12_mappedCount_26 (by decide +kernel) ?_
        refine V_iadd 27 B (v := (a0.2.1 0)) dX12_mappedCount_27 (Int32.add_zero _) ?_
        refine V_istore_n 28 B (lv2 := [(2, .int (a0.2.1 0)), (3, .int (nI (a0.1 0))), (0, .ref h0), (1, .int (nI s0))]) dX12_mappedCount_28 (by decide) rfl ?_
        refine V_iinc 29 B (v := (nI (1 + (a0.1 0)))) (lv2 := [(3, .int (nI (1 + (a0.1 0)))), (2, .int (a0.2.1 0)), (0, .ref h0), (1, .int (nI s0))]) dX12_mappedCount_29 1 rfl (nI_addE (a := (a0.1 0)) (b := 1) (by omega)) (by decide) rfl ?_
        refine V_goto 32 B 4 dX12_mappedCount_32 (by decide) ?_
        refine V_lv [(3, .int (nI (1 + (a0.1 0)))), (2, .int (a0.2.1 0)), (0, .ref h0), (1, .int (nI s0))] [0, 1, 2, 3] rfl ?_
        exact IH1 (mkW [1 + (a0.1 0)] [(a0.2.1 0)] [] [] [] []) (show 1 + (a0.1 0) ≤ 4000 by omega) (by show 100000 - (1 + (a0.1 0)) < 100000 - (a0.1 0); omega)
      ·
        have x12 := x_nle kk10
        rw [show (0 : Int32).toInt = 0 by decide +kernel] at x12
        refine V_iconst 22 B (v := 1) dX12_mappedCount_22 (by decide +kernel) ?_
        refine V_goto 23 B 27 dX12_mappedCount_23 (by decide) ?_
        refine V_iadd 27 B dX12_mappedCount_27 rfl ?_
        refine V_nmi (fun j13 e14 => ?_)
        refine V_istore_n 28 B (lv2 := [(2, .int j13), (3, .int (nI (a0.1 0))), (0, .ref h0), (1, .int (nI s0))]) dX12_mappedCount_28 (by decide) rfl ?_
        refine V_iinc 29 B (v := (nI (1 + (a0.1 0)))) (lv2 := [(3, .int (nI (1 + (a0.1 0)))), (2, .int j13), (0, .ref h0), (1, .int (nI s0))]) dX12_mappedCount_29 1 rfl (nI_addE (a := (a0.1 0)) (b := 1) (by omega)) (by decide) rfl ?_
        refine V_goto 32 B 4 dX12_mappedCount_32 (by decide) ?_
        refine V_lv [(3, .int (nI (1 + (a0.1 0)))), (2, .int j13), (0, .ref h0), (1, .int (nI s0))] [0, 1, 2, 3] rfl ?_
        exact IH1 (mkW [1 + (a0.1 0)] [j13] [] [] [] []) (show 1 + (a0.1 0) ≤ 4000 by omega) (by show 100000 - (1 + (a0.1 0)) < 100000 - (a0.1 0); omega))
theorem dX12_layer_0 : decode cX12_layer 0 = .ok (.aload_n 0, 1) := by decide +kernel
theorem dX12_layer_1 : decode cX12_layer 1 = .ok (.iconst 0, 1) := by decide +kernel
theorem dX12_layer_2 : decode cX12_layer 2 = .ok (.putfield 38, 3) := by decide +kernel
theorem dX12_layer_5 : decode cX12_layer 5 = .ok (.aload_n 0, 1) := by decide +kernel
theorem dX12_layer_6 : decode cX12_layer 6 = .ok (.aload_n 0, 1) := by decide +kernel
theorem dX12_layer_7 : decode cX12_layer 7 = .ok (.iload_n 1, 1) := by decide +kernel
theorem dX12_layer_8 : decode cX12_layer 8 = .ok (.invokevirtual 196, 3) := by decide +kernel
theorem glV_RX12_196 : GLV RX12 196 yX12_isLayer RX12 cX12_isLayer 2 (some .boolean) 1 := ⟨⟨(mT9 52 rfl rfl), (mT9 54 rfl rfl), (mTs 61 rfl rfl), (mT1 13 rfl rfl), (mT9 55 rfl rfl)⟩, by decide +kernel⟩
theorem dX12_layer_11 : decode cX12_layer 11 = .ok (.ifCond .ne 7, 3) := by decide +kernel
theorem dX12_layer_14 : decode cX12_layer 14 = .ok (.iconst 1, 1) := by decide +kernel
theorem dX12_layer_15 : decode cX12_layer 15 = .ok (.goto 4, 3) := by decide +kernel
theorem dX12_layer_19 : decode cX12_layer 19 = .ok (.iconst 1, 1) := by decide +kernel
theorem dX12_layer_20 : decode cX12_layer 20 = .ok (.invokevirtual 69, 3) := by decide +kernel
theorem dX12_layer_23 : decode cX12_layer 23 = .ok (.ifCond .eq 5, 3) := by decide +kernel
theorem dX12_layer_26 : decode cX12_layer 26 = .ok (.iconst 0, 1) := by decide +kernel
theorem dX12_layer_27 : decode cX12_layer 27 = .ok (.ireturn, 1) := by decide +kernel
theorem dX12_layer_18 : decode cX12_layer 18 = .ok (.iconst 0, 1) := by decide +kernel
theorem dX12_layer_28 : decode cX12_layer 28 = .ok (.iload_n 2, 1) := by decide +kernel
theorem dX12_layer_29 : decode cX12_layer 29 = .ok (.ifCond .ne 12, 3) := by decide +kernel
theorem dX12_layer_41 : decode cX12_layer 41 = .ok (.iload_n 2, 1) := by decide +kernel
theorem dX12_layer_42 : decode cX12_layer 42 = .ok (.iconst 1, 1) := by decide +kernel
theorem dX12_layer_43 : decode cX12_layer 43 = .ok (.if_icmp .ne 11, 3) := by decide +kernel
theorem dX12_layer_54 : decode cX12_layer 54 = .ok (.iload_n 2, 1) := by decide +kernel
theorem dX12_layer_55 : decode cX12_layer 55 = .ok (.iconst 2, 1) := by decide +kernel
theorem dX12_layer_56 : decode cX12_layer 56 = .ok (.if_icmp .ne 12, 3) := by decide +kernel
theorem dX12_layer_68 : decode cX12_layer 68 = .ok (.iconst (-1), 1) := by decide +kernel
theorem dX12_layer_69 : decode cX12_layer 69 = .ok (.ireturn, 1) := by decide +kernel
theorem dX12_layer_59 : decode cX12_layer 59 = .ok (.aload_n 0, 1) := by decide +kernel
theorem dX12_layer_60 : decode cX12_layer 60 = .ok (.iload_n 1, 1) := by decide +kernel
theorem dX12_layer_61 : decode cX12_layer 61 = .ok (.iconst 1, 1) := by decide +kernel
theorem dX12_layer_62 : decode cX12_layer 62 = .ok (.invokevirtual 193, 3) := by decide +kernel
theorem dX12_layer_65 : decode cX12_layer 65 = .ok (.goto 4, 3) := by decide +kernel
theorem dX12_layer_46 : decode cX12_layer 46 = .ok (.aload_n 0, 1) := by decide +kernel
theorem dX12_layer_47 : decode cX12_layer 47 = .ok (.iload_n 1, 1) := by decide +kernel
theorem dX12_layer_48 : decode cX12_layer 48 = .ok (.invokevirtual 199, 3) := by decide +kernel
theorem glV_RX12_199 : GLV RX12 199 yX12_mappedCount RX12 cX12_mappedCount 4 (some .int) 1 := ⟨⟨(mT9 60 rfl rfl), (mT9 62 rfl rfl), (mTs 63 rfl rfl), (mT1 13 rfl rfl), (mT9 63 rfl rfl)⟩, by decide +kernel⟩
theorem dX12_layer_51 : decode cX12_layer 51 = .ok (.goto 18, 3) := by decide +kernel
theorem dX12_layer_32 : decode cX12_layer 32 = .ok (.aload_n 0, 1) := by decide +kernel
theorem dX12_layer_33 : decode cX12_layer 33 = .ok (.iload_n 1, 1) := by decide +kernel
theorem dX12_layer_34 : decode cX12_layer 34 = .ok (.iconst 0, 1) := by decide +kernel
theorem dX12_layer_35 : decode cX12_layer 35 = .ok (.invokevirtual 193, 3) := by decide +kernel
theorem dX12_layer_38 : decode cX12_layer 38 = .ok (.goto 31, 3) := by decide +kernel
set_option maxRecDepth 100000 in
set_option maxHeartbeats 4000000 in
theorem rX12_layer (l : Launch) (D : va_G) (Y : Nat → ClassId) (h0 : Nat) (h1 : Nat) (h2 : Nat) (h3 : Nat) (h4 : Nat) (h5 : Nat) (h6 : Nat) (p2 : Int32) (k5 : Nat) (k6 : Nat) (p7 : Int32) (p8 : Int32) (p9 : Int32) (k10 : Nat) (p11 : Int32) (q12 : Int64) (k15 : Nat) (k16 : Nat) (f0 : Nat → Int32) (f1 : Nat → Int32) (f3 : Nat → Int32) (f4 : Nat → Int32) (f13 : Nat → Int32) (f14 : Nat → Int32) (ph : Nat → Int32) (HI : INV ph f0) (HL : k5 ≤ 1600) (HP : PLV f13) (s0 : Int32) (s1 : Int32)  (sz : Nat) : Met l yX12_layer (WSm yX12_layer cX12_layer 3 (some .int)) (mkR 2 0 0 46) (PreC D Y [.ref h0, .int s0, .int s1] [(h0, oC 13 [.ref h1, .ref h2, .int p2, .ref h3, .ref h4, .int (nI k5), .int (nI k6), .int p7, .int p8, .int p9, .int (nI k10), .int p11, .long q12, .ref h5, .ref h6, .int (nI k15), .int (nI k16)]), (h1, aI Y 3640 f0), (h2, aZ Y 2 f1), (h3, aZ Y 80 f3), (h4, aB Y 1600 f4), (h5, aI Y 200 f13), (h6, aI Y 800 f14)] sz) (QI D (fun (r : Int32) (u : WU) => True) (fun (u : WU) => [(h0, oC 13 [.ref h1, .ref h2, .int (u.2.1 0), .ref h3, .ref h4, .int (nI k5), .int (nI k6), .int p7, .int p8, .int p9, .int (nI k10), .int p11, .long q12, .ref h5, .ref h6, .int (nI k15), .int (nI k16)]), (h1, aI Y 3640 f0), (h2, aZ Y 2 f1), (h3, aZ Y 80 f3), (h4, aB Y 1600 f4), (h5, aI Y 200 f13), (h6, aI Y 800 f14)]) (va_A [(h0, oC 13 [.ref h1, .ref h2, .int p2, .ref h3, .ref h4, .int (nI k5), .int (nI k6), .int p7, .int p8, .int p9, .int (nI k10), .int p11, .long q12, .ref h5, .ref h6, .int (nI k15), .int (nI k16)]), (h1, aI Y 3640 f0), (h2, aZ Y 2 f1), (h3, aZ Y 80 f3), (h4, aB Y 1600 f4), (h5, aI Y 200 f13), (h6, aI Y 800 f14)] sz)) 0 0 (va_A [(h0, oC 13 [.ref h1, .ref h2, .int p2, .ref h3, .ref h4, .int (nI k5), .int (nI k6), .int p7, .int p8, .int p9, .int (nI k10), .int p11, .long q12, .ref h5, .ref h6, .int (nI k15), .int (nI k16)]), (h1, aI Y 3640 f0), (h2, aZ Y 2 f1), (h3, aZ Y 80 f3), (h4, aB Y 1600 f4), (h5, aI Y 200 f13), (h6, aI Y 800 f14)] sz) :=
  met_of  (by decide +kernel) (Nat.le_of_ble_eq_true rfl) (fun p e s m args below meth c B hin hsz => by
    have B : VB p s m args meth c D Y (va_A [(h0, oC 13 [.ref h1, .ref h2, .int p2, .ref h3, .ref h4, .int (nI k5), .int (nI k6), .int p7, .int p8, .int p9, .int (nI k10), .int p11, .long q12, .ref h5, .ref h6, .int (nI k15), .int (nI k16)]), (h1, aI Y 3640 f0), (h2, aZ Y 2 f1), (h3, aZ Y 80 f3), (h4, aB Y 1600 f4), (h5, aI Y 200 f13), (h6, aI Y 800 f14)] sz) cX12_layer 3 RX12 (some .int) := B
    refine V_aload_n 0 B dX12_layer_0 0 rfl ?_
    refine V_iconst 1 B (v := 0) dX12_layer_1 (by decide +kernel) ?_
    refine V_put 2 B gp_RX12_38 0 rfl (Nat.le_of_ble_eq_true rfl) rfl rfl dX12_layer_2 [(h0, oC 13 [.ref h1, .ref h2, .int 0, .ref h3, .ref h4, .int (nI k5), .int (nI k6), .int p7, .int p8, .int p9, .int (nI k10), .int p11, .long q12, .ref h5, .ref h6, .int (nI k15), .int (nI k16)]), (h1, aI Y 3640 f0), (h2, aZ Y 2 f1), (h3, aZ Y 80 f3), (h4, aB Y 1600 f4), (h5, aI Y 200 f13), (h6, aI Y 800 f14)] rfl ?_
    refine V_aload_n 5 B dX12_layer_5 0 rfl ?_
    refine V_aload_n 6 B dX12_layer_6 0 rfl ?_
    refine V_iload_n 7 B dX12_layer_7 1 rfl ?_
    refine V_cvi 8 B (st := [.ref h0]) (As := [.int s0]) (fun sz => rX12_isLayer l D Y h0 h1 h2 h3 h4 h5 h6 0 k5 k6 p7 p8 p9 k10 p11 q12 k15 k16 f0 f1 f3 f4 f13 f14 ph HI (by omega) HP s0 sz) glV_RX12_196 ⟨rfl, rfl⟩ ⟨(Nat.le_of_ble_eq_true rfl), (Nat.le_of_ble_eq_true rfl)⟩ ⟨(Nat.le_of_ble_eq_true rfl), (Nat.le_of_ble_eq_true rfl)⟩ [0, 0, 0, 0, 0, 0, 0] rfl 13 0 rfl rfl rfl rfl (Nat.le_of_ble_eq_true rfl) rfl (fun _ _ _ => rfl) dX12_layer_8 (fun j0 u1 w2 => ?_)
    refine V_ws [(h0, oC 13 [.ref h1, .ref h2, .int 0, .ref h3, .ref h4, .int (nI k5), .int (nI k6), .int p7, .int p8, .int p9, .int (nI k10), .int p11, .long q12, .ref h5, .ref h6, .int (nI k15), .int (nI k16)]), (h1, aI Y 3640 f0), (h2, aZ Y 2 f1), (h3, aZ Y 80 f3), (h4, aB Y 1600 f4), (h5, aI Y 200 f13), (h6, aI Y 800 f14)] rfl ?_
    have x3 := w2
    clear w2
    have x7 : (gN f0 4) ≤ 4 := gN_le HI (by omega) (show bd 4 = (0, ((4 : Nat) : Int)) by decide +kernel)
    rcases x3 with rfl | ⟨rfl, n4, rfl, x6⟩
    ·
      refine V_if_ne_f 11 B 18 dX12_layer_11 (by decide) (by decide +kernel) ?_
      refine V_iconst 14 B (v := 1) dX12_layer_14 (by decide +kernel) ?_
      refine V_goto 15 B 19 dX12_layer_15 (by decide) ?_
      refine V_iconst 19 B (v := 1) dX12_layer_19 (by decide +kernel) ?_
      refine V_cvi 20 B (st := []) (As := [.int 1, .int 1]) (fun sz => rX12_throwsIf_1 l D Y h0 h1 h2 h3 h4 h5 h6 0 k5 k6 p7 p8 p9 k10 p11 q12 k15 k16 f0 f1 f3 f4 f13 f14 ph HI (by omega) HP 1 sz) glV_RX12_69 ⟨rfl, rfl⟩ ⟨(Nat.le_of_ble_eq_true rfl), (Nat.le_of_ble_eq_true rfl)⟩ ⟨(Nat.le_of_ble_eq_true rfl), (Nat.le_of_ble_eq_true rfl)⟩ [0, 0, 0, 0, 0, 0, 0] rfl 13 0 rfl rfl rfl rfl (Nat.le_of_ble_eq_true rfl) rfl (fun _ _ _ => rfl) dX12_layer_20 (fun j8 u9 w10 => ?_)
      refine V_ws [(h0, oC 13 [.ref h1, .ref h2, .int (u9.2.1 0), .ref h3, .ref h4, .int (nI k5), .int (nI k6), .int p7, .int p8, .int p9, .int (nI k10), .int p11, .long q12, .ref h5, .ref h6, .int (nI k15), .int (nI k16)]), (h1, aI Y 3640 f0), (h2, aZ Y 2 f1), (h3, aZ Y 80 f3), (h4, aB Y 1600 f4), (h5, aI Y 200 f13), (h6, aI Y 800 f14)] rfl ?_
      have x11 := w10
      clear w10
      obtain rfl := x11
      refine V_if_eq_f 23 B 28 dX12_layer_23 (by decide) (by decide +kernel) ?_
      refine V_iconst 26 B (v := 0) dX12_layer_26 (by decide +kernel) ?_
      exact V_iret 27 B dX12_layer_27 (mkW [] [(u9.2.1 0)] [] [] [] []) trivial rfl
    ·
      have e12 := nI_toInt (show n4 < 2 ^ 31 by omega)
      have x13 : (gN f0 4) ≤ 4 := gN_le HI (by omega) (show bd 4 = (0, ((4 : Nat) : Int)) by decide +kernel)
      refine V_if_ne_t 11 B 18 dX12_layer_11 (by decide) (by decide +kernel) ?_
      refine V_iconst 18 B (v := 0) dX12_layer_18 (by decide +kernel) ?_
      refine V_iconst 19 B (v := 1) dX12_layer_19 (by decide +kernel) ?_
      refine V_cvi 20 B (st := []) (As := [.int 0, .int 1]) (fun sz => rX12_throwsIf_0 l D Y h0 h1 h2 h3 h4 h5 h6 0 k5 k6 p7 p8 p9 k10 p11 q12 k15 k16 f0 f1 f3 f4 f13 f14 ph HI (by omega) HP 1 sz) glV_RX12_69 ⟨rfl, rfl⟩ ⟨(Nat.le_of_ble_eq_true rfl), (Nat.le_of_ble_eq_true rfl)⟩ ⟨(Nat.le_of_ble_eq_true rfl), (Nat.le_of_ble_eq_true rfl)⟩ [0, 0, 0, 0, 0, 0, 0] rfl 13 0 rfl rfl rfl rfl (Nat.le_of_ble_eq_true rfl) rfl (fun _ _ _ => rfl) dX12_layer_20 (fun j14 u15 w16 => ?_)
      refine V_ws [(h0, oC 13 [.ref h1, .ref h2, .int (u15.2.1 0), .ref h3, .ref h4, .int (nI k5), .int (nI k6), .int p7, .int p8, .int p9, .int (nI k10), .int p11, .long q12, .ref h5, .ref h6, .int (nI k15), .int (nI k16)]), (h1, aI Y 3640 f0), (h2, aZ Y 2 f1), (h3, aZ Y 80 f3), (h4, aB Y 1600 f4), (h5, aI Y 200 f13), (h6, aI Y 800 f14)] rfl ?_
      have x17 := w16
      clear w16
      obtain rfl := x17
      refine V_if_eq_t 23 B 28 dX12_layer_23 (by decide) (by decide +kernel) ?_
      refine V_iload_n 28 B dX12_layer_28 2 rfl ?_
      refine V_if_ne 29 B 41 dX12_layer_29 (by decide) (fun kk18 => ?_) (fun kk18 => ?_)
      ·
        have x19 := x_ne kk18
        rw [show (0 : Int32).toInt = 0 by decide +kernel] at x19
        refine V_iload_n 41 B dX12_layer_41 2 rfl ?_
        refine V_iconst 42 B (v := 1) dX12_layer_42 (by decide +kernel) ?_
        refine V_icmp_ne 43 B 54 dX12_layer_43 (by decide) (fun kk20 => ?_) (fun kk20 => ?_)
        ·
          have x21 := x_ne kk20
          rw [show (1 : Int32).toInt = 1 by decide +kernel] at x21
          refine V_iload_n 54 B dX12_layer_54 2 rfl ?_
          refine V_iconst 55 B (v := 2) dX12_layer_55 (by decide +kernel) ?_
          refine V_icmp_ne 56 B 68 dX12_layer_56 (by decide) (fun kk22 => ?_) (fun kk22 => ?_)
          ·
            have x23 := x_ne kk22
            rw [show (2 : Int32).toInt = 2 by decide +kernel] at x23
            refine V_iconst 68 B (v := (-1)) dX12_layer_68 (by decide +kernel) ?_
            exact V_iret 69 B dX12_layer_69 (mkW [] [(u15.2.1 0)] [] [] [] []) trivial rfl
          ·
            obtain rfl : s1 = 2 := kk22
            have e25 : (2 : Int32).toInt = 2 := by decide +kernel
            refine V_aload_n 59 B dX12_layer_59 0 rfl ?_
            refine V_iload_n 60 B dX12_layer_60 1 rfl ?_
            refine V_iconst 61 B (v := 1) dX12_layer_61 (by decide +kernel) ?_
            refine V_cvi 62 B (st := []) (As := [.int (nI n4), .int 1]) (fun sz => rX12_ofLayer l D Y h0 h1 h2 h3 h4 h5 h6 (u15.2.1 0) k5 k6 p7 p8 p9 k10 p11 q12 k15 k16 f0 f1 f3 f4 f13 f14 ph HI (by omega) HP n4 1 (by omega) (by omega) sz) glV_RX12_193 ⟨rfl, rfl⟩ ⟨(Nat.le_of_ble_eq_true rfl), (Nat.le_of_ble_eq_true rfl)⟩ ⟨(Nat.le_of_ble_eq_true rfl), (Nat.le_of_ble_eq_true rfl)⟩ [0, 0, 0, 0, 0, 0, 0] rfl 13 0 rfl rfl rfl rfl (Nat.le_of_ble_eq_true rfl) rfl (fun _ _ _ => rfl) dX12_layer_62 (fun j26 u27 w28 => ?_)
            refine V_ws [(h0, oC 13 [.ref h1, .ref h2, .int (u15.2.1 0), .ref h3, .ref h4, .int (nI k5), .int (nI k6), .int p7, .int p8, .int p9, .int (nI k10), .int p11, .long q12, .ref h5, .ref h6, .int (nI k15), .int (nI k16)]), (h1, aI Y 3640 f0), (h2, aZ Y 2 f1), (h3, aZ Y 80 f3), (h4, aB Y 1600 f4), (h5, aI Y 200 f13), (h6, aI Y 800 f14)] rfl ?_
            refine V_goto 65 B 69 dX12_layer_65 (by decide) ?_
            exact V_iret 69 B dX12_layer_69 (mkW [] [(u15.2.1 0)] [] [] [] []) trivial rfl
        ·
          obtain rfl : s1 = 1 := kk20
          have e30 : (1 : Int32).toInt = 1 := by decide +kernel
          refine V_aload_n 46 B dX12_layer_46 0 rfl ?_
          refine V_iload_n 47 B dX12_layer_47 1 rfl ?_
          refine V_cvi 48 B (st := []) (As := [.int (nI n4)]) (fun sz => rX12_mappedCount l D Y h0 h1 h2 h3 h4 h5 h6 (u15.2.1 0) k5 k6 p7 p8 p9 k10 p11 q12 k15 k16 f0 f1 f3 f4 f13 f14 ph HI (by omega) HP n4 (by omega) sz) glV_RX12_199 ⟨rfl, rfl⟩ ⟨(Nat.le_of_ble_eq_true rfl), (Nat.le_of_ble_eq_true rfl)⟩ ⟨(Nat.le_of_ble_eq_true rfl), (Nat.le_of_ble_eq_true rfl)⟩ [0, 0, 0, 0, 0, 0, 0] rfl 13 0 rfl rfl rfl rfl (Nat.le_of_ble_eq_true rfl) rfl (fun _ _ _ => rfl) dX12_layer_48 (fun j31 u32 w33 => ?_)
          refine V_ws [(h0, oC 13 [.ref h1, .ref h2, .int (u15.2.1 0), .ref h3, .ref h4, .int (nI k5), .int (nI k6), .int p7, .int p8, .int p9, .int (nI k10), .int p11, .long q12, .ref h5, .ref h6, .int (nI k15), .int (nI k16)]), (h1, aI Y 3640 f0), (h2, aZ Y 2 f1), (h3, aZ Y 80 f3), (h4, aB Y 1600 f4), (h5, aI Y 200 f13), (h6, aI Y 800 f14)] rfl ?_
          refine V_goto 51 B 69 dX12_layer_51 (by decide) ?_
          exact V_iret 69 B dX12_layer_69 (mkW [] [(u15.2.1 0)] [] [] [] []) trivial rfl
      ·
        obtain rfl : s1 = 0 := kk18
        have e35 : (0 : Int32).toInt = 0 := by decide +kernel
        refine V_aload_n 32 B dX12_layer_32 0 rfl ?_
        refine V_iload_n 33 B dX12_layer_33 1 rfl ?_
        refine V_iconst 34 B (v := 0) dX12_layer_34 (by decide +kernel) ?_
        refine V_cvi 35 B (st := []) (As := [.int (nI n4), .int 0]) (fun sz => rX12_ofLayer l D Y h0 h1 h2 h3 h4 h5 h6 (u15.2.1 0) k5 k6 p7 p8 p9 k10 p11 q12 k15 k16 f0 f1 f3 f4 f13 f14 ph HI (by omega) HP n4 0 (by omega) (by omega) sz) glV_RX12_193 ⟨rfl, rfl⟩ ⟨(Nat.le_of_ble_eq_true rfl), (Nat.le_of_ble_eq_true rfl)⟩ ⟨(Nat.le_of_ble_eq_true rfl), (Nat.le_of_ble_eq_true rfl)⟩ [0, 0, 0, 0, 0, 0, 0] rfl 13 0 rfl rfl rfl rfl (Nat.le_of_ble_eq_true rfl) rfl (fun _ _ _ => rfl) dX12_layer_35 (fun j36 u37 w38 => ?_)
        refine V_ws [(h0, oC 13 [.ref h1, .ref h2, .int (u15.2.1 0), .ref h3, .ref h4, .int (nI k5), .int (nI k6), .int p7, .int p8, .int p9, .int (nI k10), .int p11, .long q12, .ref h5, .ref h6, .int (nI k15), .int (nI k16)]), (h1, aI Y 3640 f0), (h2, aZ Y 2 f1), (h3, aZ Y 80 f3), (h4, aB Y 1600 f4), (h5, aI Y 200 f13), (h6, aI Y 800 f14)] rfl ?_
        refine V_goto 38 B 69 dX12_layer_38 (by decide) ?_
        exact V_iret 69 B dX12_layer_69 (mkW [] [(u15.2.1 0)] [] [] [] []) trivial rfl)
theorem dX12_isKey_0 : decode cX12_isKey 0 = .ok (.iload_n 0, 1) := by decide +kernel
theorem dX12_isKey_1 : decode cX12_isKey 1 = .ok (.i2l, 1) := by decide +kernel
theorem dX12_isKey_2 : decode cX12_isKey 2 = .ok (.lconst 0, 1) := by decide +kernel
theorem dX12_isKey_3 : decode cX12_isKey 3 = .ok (.ldc2_w 202, 3) := by decide +kernel
theorem dX12_isKey_6 : decode cX12_isKey 6 = .ok (.invokestatic 41, 3) := by decide +kernel
theorem dX12_isKey_9 : decode cX12_isKey 9 = .ok (.ireturn, 1) := by decide +kernel
set_option maxRecDepth 100000 in
set_option maxHeartbeats 4000000 in
theorem rX12_isKey (l : Launch) (D : va_G) (Y : Nat → ClassId)  (s0 : Int32)  (sz : Nat) : Met l yX12_isKey (WSm yX12_isKey cX12_isKey 1 (some .boolean)) (mkR 1 0 0 25) (PreC D Y [.int s0] [] sz) (QI D (fun (r : Int32) (u : WU) => (r = 0 ∨ (r = 1 ∧ ∃ m : Nat, s0 = nI m ∧ m < 26))) (fun (u : WU) => []) (va_A [] sz)) 0 0 (va_A [] sz) :=
  met_of  (by decide +kernel) (Nat.le_of_ble_eq_true rfl) (fun p e s m args below meth c B hin hsz => by
    have B : VB p s m args meth c D Y (va_A [] sz) cX12_isKey 1 RX12 (some .boolean) := B
    refine V_iload_n 0 B dX12_isKey_0 0 rfl ?_
    refine V_i2l 1 B dX12_isKey_1 rfl ?_
    refine V_nml (fun o0 e1 => ?_)
    have x2 : o0.toInt = s0.toInt := by rw [e1, Int32.toInt_toInt64]
    refine V_lconst 2 B (v := 0) dX12_isKey_2 (by decide +kernel) ?_
    refine V_ldc2 3 B (v := 25) dX12_isKey_3 (mT9 71 rfl rfl) ?_
    refine V_csi 6 B (st := []) (As := [.long o0, .long 0, .long 25]) (fun sz => rX12_inRange l D Y o0 0 25 sz) glS_RX12_41 ⟨rfl, rfl⟩ ⟨(Nat.le_of_ble_eq_true rfl), (Nat.le_of_ble_eq_true rfl)⟩ ⟨(Nat.le_of_ble_eq_true rfl), (Nat.le_of_ble_eq_true rfl)⟩ [] rfl rfl (Nat.le_of_ble_eq_true rfl) rfl (fun _ _ _ => rfl) dX12_isKey_6 (fun j3 u4 w5 => ?_)
    rcases w5 with ⟨rfl, x8⟩ | ⟨rfl, x6, x7⟩
    ·
      rw [show (0 : Int64).toInt = 0 by decide +kernel] at x8
      rw [show (25 : Int64).toInt = 25 by decide +kernel] at x8
      exact V_zret 9 B rfl dX12_isKey_9 (mkW [] [] [] [] [] []) (Or.inl rfl) rfl
    ·
      rw [show (0 : Int64).toInt = 0 by decide +kernel] at x6
      rw [show (25 : Int64).toInt = 25 by decide +kernel] at x7
      exact V_zret 9 B rfl dX12_isKey_9 (mkW [] [] [] [] [] []) (Or.inr ⟨rfl, nat_lt (n := 26) (by omega) (by omega)⟩) rfl)
theorem dX12_mapped_0 : decode cX12_mapped 0 = .ok (.aload_n 0, 1) := by decide +kernel
theorem dX12_mapped_1 : decode cX12_mapped 1 = .ok (.iconst 0, 1) := by decide +kernel
theorem dX12_mapped_2 : decode cX12_mapped 2 = .ok (.putfield 38, 3) := by decide +kernel
theorem dX12_mapped_5 : decode cX12_mapped 5 = .ok (.aload_n 0, 1) := by decide +kernel
theorem dX12_mapped_6 : decode cX12_mapped 6 = .ok (.aload_n 0, 1) := by decide +kernel
theorem dX12_mapped_7 : decode cX12_mapped 7 = .ok (.iload_n 1, 1) := by decide +kernel
theorem dX12_mapped_8 : decode cX12_mapped 8 = .ok (.invokevirtual 196, 3) := by decide +kernel
theorem dX12_mapped_11 : decode cX12_mapped 11 = .ok (.ifCond .ne 7, 3) := by decide +kernel
theorem dX12_mapped_14 : decode cX12_mapped 14 = .ok (.iconst 1, 1) := by decide +kernel
theorem dX12_mapped_15 : decode cX12_mapped 15 = .ok (.goto 4, 3) := by decide +kernel
theorem dX12_mapped_19 : decode cX12_mapped 19 = .ok (.iconst 1, 1) := by decide +kernel
theorem dX12_mapped_20 : decode cX12_mapped 20 = .ok (.invokevirtual 69, 3) := by decide +kernel
theorem dX12_mapped_23 : decode cX12_mapped 23 = .ok (.ifCond .ne 23, 3) := by decide +kernel
theorem dX12_mapped_46 : decode cX12_mapped 46 = .ok (.iconst 0, 1) := by decide +kernel
theorem dX12_mapped_47 : decode cX12_mapped 47 = .ok (.goto 13, 3) := by decide +kernel
theorem dX12_mapped_60 : decode cX12_mapped 60 = .ok (.ireturn, 1) := by decide +kernel
theorem dX12_mapped_18 : decode cX12_mapped 18 = .ok (.iconst 0, 1) := by decide +kernel
theorem dX12_mapped_26 : decode cX12_mapped 26 = .ok (.aload_n 0, 1) := by decide +kernel
theorem dX12_mapped_27 : decode cX12_mapped 27 = .ok (.iload_n 2, 1) := by decide +kernel
theorem dX12_mapped_28 : decode cX12_mapped 28 = .ok (.invokestatic 204, 3) := by decide +kernel
theorem glS_RX12_204 : GLS RX12 204 yX12_isKey cX12_isKey 1 (some .boolean) 1 := ⟨⟨(mT9 68 rfl rfl), (mT9 69 rfl rfl), (mT1 13 rfl rfl), (mT9 70 rfl rfl)⟩, by decide +kernel⟩
theorem dX12_mapped_31 : decode cX12_mapped 31 = .ok (.ifCond .ne 7, 3) := by decide +kernel
theorem dX12_mapped_34 : decode cX12_mapped 34 = .ok (.iconst 1, 1) := by decide +kernel
theorem dX12_mapped_35 : decode cX12_mapped 35 = .ok (.goto 4, 3) := by decide +kernel
theorem dX12_mapped_39 : decode cX12_mapped 39 = .ok (.iconst 2, 1) := by decide +kernel
theorem dX12_mapped_40 : decode cX12_mapped 40 = .ok (.invokevirtual 69, 3) := by decide +kernel
theorem dX12_mapped_43 : decode cX12_mapped 43 = .ok (.ifCond .eq 7, 3) := by decide +kernel
theorem dX12_mapped_38 : decode cX12_mapped 38 = .ok (.iconst 0, 1) := by decide +kernel
theorem dX12_mapped_50 : decode cX12_mapped 50 = .ok (.aload_n 0, 1) := by decide +kernel
theorem dX12_mapped_51 : decode cX12_mapped 51 = .ok (.iload_n 1, 1) := by decide +kernel
theorem dX12_mapped_52 : decode cX12_mapped 52 = .ok (.iconst 2, 1) := by decide +kernel
theorem dX12_mapped_53 : decode cX12_mapped 53 = .ok (.iload_n 2, 1) := by decide +kernel
theorem dX12_mapped_54 : decode cX12_mapped 54 = .ok (.iadd, 1) := by decide +kernel
theorem dX12_mapped_55 : decode cX12_mapped 55 = .ok (.invokevirtual 193, 3) := by decide +kernel
theorem dX12_mapped_58 : decode cX12_mapped 58 = .ok (.iconst 1, 1) := by decide +kernel
theorem dX12_mapped_59 : decode cX12_mapped 59 = .ok (.isub, 1) := by decide +kernel
set_option maxRecDepth 100000 in
set_option maxHeartbeats 4000000 in
theorem rX12_mapped (l : Launch) (D : va_G) (Y : Nat → ClassId) (h0 : Nat) (h1 : Nat) (h2 : Nat) (h3 : Nat) (h4 : Nat) (h5 : Nat) (h6 : Nat) (p2 : Int32) (k5 : Nat) (k6 : Nat) (p7 : Int32) (p8 : Int32) (p9 : Int32) (k10 : Nat) (p11 : Int32) (q12 : Int64) (k15 : Nat) (k16 : Nat) (f0 : Nat → Int32) (f1 : Nat → Int32) (f3 : Nat → Int32) (f4 : Nat → Int32) (f13 : Nat → Int32) (f14 : Nat → Int32) (ph : Nat → Int32) (HI : INV ph f0) (HL : k5 ≤ 1600) (HP : PLV f13) (s0 : Int32) (s1 : Int32)  (sz : Nat) : Met l yX12_mapped (WSm yX12_mapped cX12_mapped 3 (some .int)) (mkR 2 0 0 46) (PreC D Y [.ref h0, .int s0, .int s1] [(h0, oC 13 [.ref h1, .ref h2, .int p2, .ref h3, .ref h4, .int (nI k5), .int (nI k6), .int p7, .int p8, .int p9, .int (nI k10), .int p11, .long q12, .ref h5, .ref h6, .int (nI k15), .int (nI k16)]), (h1, aI Y 3640 f0), (h2, aZ Y 2 f1), (h3, aZ Y 80 f3), (h4, aB Y 1600 f4), (h5, aI Y 200 f13), (h6, aI Y 800 f14)] sz) (QI D (fun (r : Int32) (u : WU) => True) (fun (u : WU) => [(h0, oC 13 [.ref h1, .ref h2, .int (u.2.1 0), .ref h3, .ref h4, .int (nI k5), .int (nI k6), .int p7, .int p8, .int p9, .int (nI k10), .int p11, .long q12, .ref h5, .ref h6, .int (nI k15), .int (nI k16)]), (h1, aI Y 3640 f0), (h2, aZ Y 2 f1), (h3, aZ Y 80 f3), (h4, aB Y 1600 f4), (h5, aI Y 200 f13), (h6, aI Y 800 f14)]) (va_A [(h0, oC 13 [.ref h1, .ref h2, .int p2, .ref h3, .ref h4, .int (nI k5), .int (nI k6), .int p7, .int p8, .int p9, .int (nI k10), .int p11, .long q12, .ref h5, .ref h6, .int (nI k15), .int (nI k16)]), (h1, aI Y 3640 f0), (h2, aZ Y 2 f1), (h3, aZ Y 80 f3), (h4, aB Y 1600 f4), (h5, aI Y 200 f13), (h6, aI Y 800 f14)] sz)) 0 0 (va_A [(h0, oC 13 [.ref h1, .ref h2, .int p2, .ref h3, .ref h4, .int (nI k5), .int (nI k6), .int p7, .int p8, .int p9, .int (nI k10), .int p11, .long q12, .ref h5, .ref h6, .int (nI k15), .int (nI k16)]), (h1, aI Y 3640 f0), (h2, aZ Y 2 f1), (h3, aZ Y 80 f3), (h4, aB Y 1600 f4), (h5, aI Y 200 f13), (h6, aI Y 800 f14)] sz) :=
  met_of  (by decide +kernel) (Nat.le_of_ble_eq_true rfl) (fun p e s m args below meth c B hin hsz => by
    have B : VB p s m args meth c D Y (va_A [(h0, oC 13 [.ref h1, .ref h2, .int p2, .ref h3, .ref h4, .int (nI k5), .int (nI k6), .int p7, .int p8, .int p9, .int (nI k10), .int p11, .long q12, .ref h5, .ref h6, .int (nI k15), .int (nI k16)]), (h1, aI Y 3640 f0), (h2, aZ Y 2 f1), (h3, aZ Y 80 f3), (h4, aB Y 1600 f4), (h5, aI Y 200 f13), (h6, aI Y 800 f14)] sz) cX12_mapped 3 RX12 (some .int) := B
    refine V_aload_n 0 B dX12_mapped_0 0 rfl ?_
    refine V_iconst 1 B (v := 0) dX12_mapped_1 (by decide +kernel) ?_
    refine V_put 2 B gp_RX12_38 0 rfl (Nat.le_of_ble_eq_true rfl) rfl rfl dX12_mapped_2 [(h0, oC 13 [.ref h1, .ref h2, .int 0, .ref h3, .ref h4, .int (nI k5), .int (nI k6), .int p7, .int p8, .int p9, .int (nI k10), .int p11, .long q12, .ref h5, .ref h6, .int (nI k15), .int (nI k16)]), (h1, aI Y 3640 f0), (h2, aZ Y 2 f1), (h3, aZ Y 80 f3), (h4, aB Y 1600 f4), (h5, aI Y 200 f13), (h6, aI Y 800 f14)] rfl ?_
    refine V_aload_n 5 B dX12_mapped_5 0 rfl ?_
    refine V_aload_n 6 B dX12_mapped_6 0 rfl ?_
    refine V_iload_n 7 B dX12_mapped_7 1 rfl ?_
    refine V_cvi 8 B (st := [.ref h0]) (As := [.int s0]) (fun sz => rX12_isLayer l D Y h0 h1 h2 h3 h4 h5 h6 0 k5 k6 p7 p8 p9 k10 p11 q12 k15 k16 f0 f1 f3 f4 f13 f14 ph HI (by omega) HP s0 sz) glV_RX12_196 ⟨rfl, rfl⟩ ⟨(Nat.le_of_ble_eq_true rfl), (Nat.le_of_ble_eq_true rfl)⟩ ⟨(Nat.le_of_ble_eq_true rfl), (Nat.le_of_ble_eq_true rfl)⟩ [0, 0, 0, 0, 0, 0, 0] rfl 13 0 rfl rfl rfl rfl (Nat.le_of_ble_eq_true rfl) rfl (fun _ _ _ => rfl) dX12_mapped_8 (fun j0 u1 w2 => ?_)
    refine V_ws [(h0, oC 13 [.ref h1, .ref h2, .int 0, .ref h3, .ref h4, .int (nI k5), .int (nI k6), .int p7, .int p8, .int p9, .int (nI k10), .int p11, .long q12, .ref h5, .ref h6, .int (nI k15), .int (nI k16)]), (h1, aI Y 3640 f0), (h2, aZ Y 2 f1), (h3, aZ Y 80 f3), (h4, aB Y 1600 f4), (h5, aI Y 200 f13), (h6, aI Y 800 f14)] rfl ?_
    have x3 := w2
    clear w2
    have x7 : (gN f0 4) ≤ 4 := gN_le HI (by omega) (show bd 4 = (0, ((4 : Nat) : Int)) by decide +kernel)
    rcases x3 with rfl | ⟨rfl, n4, rfl, x6⟩
    ·
      refine V_if_ne_f 11 B 18 dX12_mapped_11 (by decide) (by decide +kernel) ?_
      refine V_iconst 14 B (v := 1) dX12_mapped_14 (by decide +kernel) ?_
      refine V_goto 15 B 19 dX12_mapped_15 (by decide) ?_
      refine V_iconst 19 B (v := 1) dX12_mapped_19 (by decide +kernel) ?_
      refine V_cvi 20 B (st := []) (As := [.int 1, .int 1]) (fun sz => rX12_throwsIf_1 l D Y h0 h1 h2 h3 h4 h5 h6 0 k5 k6 p7 p8 p9 k10 p11 q12 k15 k16 f0 f1 f3 f4 f13 f14 ph HI (by omega) HP 1 sz) glV_RX12_69 ⟨rfl, rfl⟩ ⟨(Nat.le_of_ble_eq_true rfl), (Nat.le_of_ble_eq_true rfl)⟩ ⟨(Nat.le_of_ble_eq_true rfl), (Nat.le_of_ble_eq_true rfl)⟩ [0, 0, 0, 0, 0, 0, 0] rfl 13 0 rfl rfl rfl rfl (Nat.le_of_ble_eq_true rfl) rfl (fun _ _ _ => rfl) dX12_mapped_20 (fun j8 u9 w10 => ?_)
      refine V_ws [(h0, oC 13 [.ref h1, .ref h2, .int (u9.2.1 0), .ref h3, .ref h4, .int (nI k5), .int (nI k6), .int p7, .int p8, .int p9, .int (nI k10), .int p11, .long q12, .ref h5, .ref h6, .int (nI k15), .int (nI k16)]), (h1, aI Y 3640 f0), (h2, aZ Y 2 f1), (h3, aZ Y 80 f3), (h4, aB Y 1600 f4), (h5, aI Y 200 f13), (h6, aI Y 800 f14)] rfl ?_
      have x11 := w10
      clear w10
      obtain rfl := x11
      refine V_if_ne_t 23 B 46 dX12_mapped_23 (by decide) (by decide +kernel) ?_
      refine V_iconst 46 B (v := 0) dX12_mapped_46 (by decide +kernel) ?_
      refine V_goto 47 B 60 dX12_mapped_47 (by decide) ?_
      exact V_iret 60 B dX12_mapped_60 (mkW [] [(u9.2.1 0)] [] [] [] []) trivial rfl
    ·
      have e12 := nI_toInt (show n4 < 2 ^ 31 by omega)
      have x13 : (gN f0 4) ≤ 4 := gN_le HI (by omega) (show bd 4 = (0, ((4 : Nat) : Int)) by decide +kernel)
      refine V_if_ne_t 11 B 18 dX12_mapped_11 (by decide) (by decide +kernel) ?_
      refine V_iconst 18 B (v := 0) dX12_mapped_18 (by decide +kernel) ?_
      refine V_iconst 19 B (v := 1) dX12_mapped_19 (by decide +kernel) ?_
      refine V_cvi 20 B (st := []) (As := [.int 0, .int 1]) (fun sz => rX12_throwsIf_0 l D Y h0 h1 h2 h3 h4 h5 h6 0 k5 k6 p7 p8 p9 k10 p11 q12 k15 k16 f0 f1 f3 f4 f13 f14 ph HI (by omega) HP 1 sz) glV_RX12_69 ⟨rfl, rfl⟩ ⟨(Nat.le_of_ble_eq_true rfl), (Nat.le_of_ble_eq_true rfl)⟩ ⟨(Nat.le_of_ble_eq_true rfl), (Nat.le_of_ble_eq_true rfl)⟩ [0, 0, 0, 0, 0, 0, 0] rfl 13 0 rfl rfl rfl rfl (Nat.le_of_ble_eq_true rfl) rfl (fun _ _ _ => rfl) dX12_mapped_20 (fun j14 u15 w16 => ?_)
      refine V_ws [(h0, oC 13 [.ref h1, .ref h2, .int (u15.2.1 0), .ref h3, .ref h4, .int (nI k5), .int (nI k6), .int p7, .int p8, .int p9, .int (nI k10), .int p11, .long q12, .ref h5, .ref h6, .int (nI k15), .int (nI k16)]), (h1, aI Y 3640 f0), (h2, aZ Y 2 f1), (h3, aZ Y 80 f3), (h4, aB Y 1600 f4), (h5, aI Y 200 f13), (h6, aI Y 800 f14)] rfl ?_
      have x17 := w16
      clear w16
      obtain rfl := x17
      refine V_if_ne_f 23 B 46 dX12_mapped_23 (by decide) (by decide +kernel) ?_
      refine V_aload_n 26 B dX12_mapped_26 0 rfl ?_
      refine V_iload_n 27 B dX12_mapped_27 2 rfl ?_
      refine V_csi 28 B (st := [.ref h0]) (As := [.int s1]) (fun sz => rX12_isKey l D Y s1 sz) glS_RX12_204 ⟨rfl, rfl⟩ ⟨(Nat.le_of_ble_eq_true rfl), (Nat.le_of_ble_eq_true rfl)⟩ ⟨(Nat.le_of_ble_eq_true rfl), (Nat.le_of_ble_eq_true rfl)⟩ [] rfl rfl (Nat.le_of_ble_eq_true rfl) rfl (fun _ _ _ => rfl) dX12_mapped_28 (fun j18 u19 w20 => ?_)
      refine V_ws [(h0, oC 13 [.ref h1, .ref h2, .int (u15.2.1 0), .ref h3, .ref h4, .int (nI k5), .int (nI k6), .int p7, .int p8, .int p9, .int (nI k10), .int p11, .long q12, .ref h5, .ref h6, .int (nI k15), .int (nI k16)]), (h1, aI Y 3640 f0), (h2, aZ Y 2 f1), (h3, aZ Y 80 f3), (h4, aB Y 1600 f4), (h5, aI Y 200 f13), (h6, aI Y 800 f14)] rfl ?_
      have x21 := w20
      clear w20
      rcases x21 with rfl | ⟨rfl, n22, rfl, x23⟩
      ·
        refine V_if_ne_f 31 B 38 dX12_mapped_31 (by decide) (by decide +kernel) ?_
        refine V_iconst 34 B (v := 1) dX12_mapped_34 (by decide +kernel) ?_
        refine V_goto 35 B 39 dX12_mapped_35 (by decide) ?_
        refine V_iconst 39 B (v := 2) dX12_mapped_39 (by decide +kernel) ?_
        refine V_cvi 40 B (st := []) (As := [.int 1, .int 2]) (fun sz => rX12_throwsIf_1 l D Y h0 h1 h2 h3 h4 h5 h6 (u15.2.1 0) k5 k6 p7 p8 p9 k10 p11 q12 k15 k16 f0 f1 f3 f4 f13 f14 ph HI (by omega) HP 2 sz) glV_RX12_69 ⟨rfl, rfl⟩ ⟨(Nat.le_of_ble_eq_true rfl), (Nat.le_of_ble_eq_true rfl)⟩ ⟨(Nat.le_of_ble_eq_true rfl), (Nat.le_of_ble_eq_true rfl)⟩ [0, 0, 0, 0, 0, 0, 0] rfl 13 0 rfl rfl rfl rfl (Nat.le_of_ble_eq_true rfl) rfl (fun _ _ _ => rfl) dX12_mapped_40 (fun j25 u26 w27 => ?_)
        refine V_ws [(h0, oC 13 [.ref h1, .ref h2, .int (u26.2.1 0), .ref h3, .ref h4, .int (nI k5), .int (nI k6), .int p7, .int p8, .int p9, .int (nI k10), .int p11, .long q12, .ref h5, .ref h6, .int (nI k15), .int (nI k16)]), (h1, aI Y 3640 f0), (h2, aZ Y 2 f1), (h3, aZ Y 80 f3), (h4, aB Y 1600 f4), (h5, aI Y 200 f13), (h6, aI Y 800 f14)] rfl ?_
        have x28 := w27
        clear w27
        obtain rfl := x28
        refine V_if_eq_f 43 B 50 dX12_mapped_43 (by decide) (by decide +kernel) ?_
        refine V_iconst 46 B (v := 0) dX12_mapped_46 (by decide +kernel) ?_
        refine V_goto 47 B 60 dX12_mapped_47 (by decide) ?_
        exact V_iret 60 B dX12_mapped_60 (mkW [] [(u26.2.1 0)] [] [] [] []) trivial rfl
      ·
        have e29 := nI_toInt (show n22 < 2 ^ 31 by omega)
        refine V_if_ne_t 31 B 38 dX12_mapped_31 (by decide) (by decide +kernel) ?_
        refine V_iconst 38 B (v := 0) dX12_mapped_38 (by decide +kernel) ?_
        refine V_iconst 39 B (v := 2) dX12_mapped_39 (by decide +kernel) ?_
        refine V_cvi 40 B (st := []) (As := [.int 0, .int 2]) (fun sz => rX12_throwsIf_0 l D Y h0 h1 h2 h3 h4 h5 h6 (u15.2.1 0) k5 k6 p7 p8 p9 k10 p11 q12 k15 k16 f0 f1 f3 f4 f13 f14 ph HI (by omega) HP 2 sz) glV_RX12_69 ⟨rfl, rfl⟩ ⟨(Nat.le_of_ble_eq_true rfl), (Nat.le_of_ble_eq_true rfl)⟩ ⟨(Nat.le_of_ble_eq_true rfl), (Nat.le_of_ble_eq_true rfl)⟩ [0, 0, 0, 0, 0, 0, 0] rfl 13 0 rfl rfl rfl rfl (Nat.le_of_ble_eq_true rfl) rfl (fun _ _ _ => rfl) dX12_mapped_40 (fun j30 u31 w32 => ?_)
        refine V_ws [(h0, oC 13 [.ref h1, .ref h2, .int (u31.2.1 0), .ref h3, .ref h4, .int (nI k5), .int (nI k6), .int p7, .int p8, .int p9, .int (nI k10), .int p11, .long q12, .ref h5, .ref h6, .int (nI k15), .int (nI k16)]), (h1, aI Y 3640 f0), (h2, aZ Y 2 f1), (h3, aZ Y 80 f3), (h4, aB Y 1600 f4), (h5, aI Y 200 f13), (h6, aI Y 800 f14)] rfl ?_
        have x33 := w32
        clear w32
        obtain rfl := x33
        refine V_if_eq_t 43 B 50 dX12_mapped_43 (by decide) (by decide +kernel) ?_
        refine V_aload_n 50 B dX12_mapped_50 0 rfl ?_
        refine V_iload_n 51 B dX12_mapped_51 1 rfl ?_
        refine V_iconst 52 B (v := 2) dX12_mapped_52 (by decide +kernel) ?_
        refine V_iload_n 53 B dX12_mapped_53 2 rfl ?_
        refine V_iadd 54 B (v := (nI (2 + n22))) dX12_mapped_54 (nI_addE (a := 2) (b := n22) (by omega)) ?_
        refine V_cvi 55 B (st := []) (As := [.int (nI n4), .int (nI (2 + n22))]) (fun sz => rX12_ofLayer l D Y h0 h1 h2 h3 h4 h5 h6 (u31.2.1 0) k5 k6 p7 p8 p9 k10 p11 q12 k15 k16 f0 f1 f3 f4 f13 f14 ph HI (by omega) HP n4 (2 + n22) (by omega) (by omega) sz) glV_RX12_193 ⟨rfl, rfl⟩ ⟨(Nat.le_of_ble_eq_true rfl), (Nat.le_of_ble_eq_true rfl)⟩ ⟨(Nat.le_of_ble_eq_true rfl), (Nat.le_of_ble_eq_true rfl)⟩ [0, 0, 0, 0, 0, 0, 0] rfl 13 0 rfl rfl rfl rfl (Nat.le_of_ble_eq_true rfl) rfl (fun _ _ _ => rfl) dX12_mapped_55 (fun j34 u35 w36 => ?_)
        refine V_ws [(h0, oC 13 [.ref h1, .ref h2, .int (u31.2.1 0), .ref h3, .ref h4, .int (nI k5), .int (nI k6), .int p7, .int p8, .int p9, .int (nI k10), .int p11, .long q12, .ref h5, .ref h6, .int (nI k15), .int (nI k16)]), (h1, aI Y 3640 f0), (h2, aZ Y 2 f1), (h3, aZ Y 80 f3), (h4, aB Y 1600 f4), (h5, aI Y 200 f13), (h6, aI Y 800 f14)] rfl ?_
        refine V_iconst 58 B (v := 1) dX12_mapped_58 (by decide +kernel) ?_
        refine V_isub 59 B dX12_mapped_59 rfl ?_
        refine V_nmi (fun j37 e38 => ?_)
        exact V_iret 60 B dX12_mapped_60 (mkW [] [(u31.2.1 0)] [] [] [] []) trivial rfl)
theorem dX12_hold_0 : decode cX12_hold 0 = .ok (.aload_n 0, 1) := by decide +kernel
theorem dX12_hold_1 : decode cX12_hold 1 = .ok (.iconst 0, 1) := by decide +kernel
theorem dX12_hold_2 : decode cX12_hold 2 = .ok (.putfield 38, 3) := by decide +kernel
theorem dX12_hold_5 : decode cX12_hold 5 = .ok (.aload_n 0, 1) := by decide +kernel
theorem dX12_hold_6 : decode cX12_hold 6 = .ok (.iload_n 1, 1) := by decide +kernel
theorem dX12_hold_7 : decode cX12_hold 7 = .ok (.i2l, 1) := by decide +kernel
theorem dX12_hold_8 : decode cX12_hold 8 = .ok (.lconst 0, 1) := by decide +kernel
theorem dX12_hold_9 : decode cX12_hold 9 = .ok (.ldc2_w 207, 3) := by decide +kernel
theorem dX12_hold_12 : decode cX12_hold 12 = .ok (.invokestatic 41, 3) := by decide +kernel
theorem dX12_hold_15 : decode cX12_hold 15 = .ok (.ifCond .ne 7, 3) := by decide +kernel
theorem dX12_hold_18 : decode cX12_hold 18 = .ok (.iconst 1, 1) := by decide +kernel
theorem dX12_hold_19 : decode cX12_hold 19 = .ok (.goto 4, 3) := by decide +kernel
theorem dX12_hold_23 : decode cX12_hold 23 = .ok (.iconst 1, 1) := by decide +kernel
theorem dX12_hold_24 : decode cX12_hold 24 = .ok (.invokevirtual 69, 3) := by decide +kernel
theorem dX12_hold_27 : decode cX12_hold 27 = .ok (.ifCond .eq 5, 3) := by decide +kernel
theorem dX12_hold_30 : decode cX12_hold 30 = .ok (.iconst 0, 1) := by decide +kernel
theorem dX12_hold_31 : decode cX12_hold 31 = .ok (.ireturn, 1) := by decide +kernel
theorem dX12_hold_22 : decode cX12_hold 22 = .ok (.iconst 0, 1) := by decide +kernel
theorem dX12_hold_32 : decode cX12_hold 32 = .ok (.aload_n 0, 1) := by decide +kernel
theorem dX12_hold_33 : decode cX12_hold 33 = .ok (.getfield 9, 3) := by decide +kernel
theorem dX12_hold_36 : decode cX12_hold 36 = .ok (.bipush 14, 2) := by decide +kernel
theorem dX12_hold_38 : decode cX12_hold 38 = .ok (.iaload, 1) := by decide +kernel
theorem dX12_hold_39 : decode cX12_hold 39 = .ok (.istore_n 2, 1) := by decide +kernel
theorem dX12_hold_40 : decode cX12_hold 40 = .ok (.aload_n 0, 1) := by decide +kernel
theorem dX12_hold_41 : decode cX12_hold 41 = .ok (.getfield 9, 3) := by decide +kernel
theorem dX12_hold_44 : decode cX12_hold 44 = .ok (.bipush 14, 2) := by decide +kernel
theorem dX12_hold_46 : decode cX12_hold 46 = .ok (.iload_n 1, 1) := by decide +kernel
theorem dX12_hold_47 : decode cX12_hold 47 = .ok (.iastore, 1) := by decide +kernel
theorem dX12_hold_48 : decode cX12_hold 48 = .ok (.iload_n 2, 1) := by decide +kernel
theorem dX12_hold_49 : decode cX12_hold 49 = .ok (.ireturn, 1) := by decide +kernel
set_option maxRecDepth 100000 in
set_option maxHeartbeats 4000000 in
theorem rX12_hold (l : Launch) (D : va_G) (Y : Nat → ClassId) (h0 : Nat) (h1 : Nat) (h2 : Nat) (h3 : Nat) (h4 : Nat) (h5 : Nat) (h6 : Nat) (p2 : Int32) (k5 : Nat) (k6 : Nat) (p7 : Int32) (p8 : Int32) (p9 : Int32) (k10 : Nat) (p11 : Int32) (q12 : Int64) (k15 : Nat) (k16 : Nat) (f0 : Nat → Int32) (f1 : Nat → Int32) (f3 : Nat → Int32) (f4 : Nat → Int32) (f13 : Nat → Int32) (f14 : Nat → Int32) (ph : Nat → Int32) (HI : INV ph f0) (HL : k5 ≤ 1600) (HP : PLV f13) (s0 : Int32)  (sz : Nat) : Met l yX12_hold (WSm yX12_hold cX12_hold 3 (some .int)) (mkR 1 0 0 25) (PreC D Y [.ref h0, .int s0] [(h0, oC 13 [.ref h1, .ref h2, .int p2, .ref h3, .ref h4, .int (nI k5), .int (nI k6), .int p7, .int p8, .int p9, .int (nI k10), .int p11, .long q12, .ref h5, .ref h6, .int (nI k15), .int (nI k16)]), (h1, aI Y 3640 f0), (h2, aZ Y 2 f1), (h3, aZ Y 80 f3), (h4, aB Y 1600 f4), (h5, aI Y 200 f13), (h6, aI Y 800 f14)] sz) (QI D (fun (r : Int32) (u : WU) => INV ph (u.2.2.2.1 0)) (fun (u : WU) => [(h0, oC 13 [.ref h1, .ref h2, .int (u.2.1 0), .ref h3, .ref h4, .int (nI k5), .int (nI k6), .int p7, .int p8, .int p9, .int (nI k10), .int p11, .long q12, .ref h5, .ref h6, .int (nI k15), .int (nI k16)]), (h1, aI Y 3640 (u.2.2.2.1 0)), (h2, aZ Y 2 f1), (h3, aZ Y 80 f3), (h4, aB Y 1600 f4), (h5, aI Y 200 f13), (h6, aI Y 800 f14)]) (va_A [(h0, oC 13 [.ref h1, .ref h2, .int p2, .ref h3, .ref h4, .int (nI k5), .int (nI k6), .int p7, .int p8, .int p9, .int (nI k10), .int p11, .long q12, .ref h5, .ref h6, .int (nI k15), .int (nI k16)]), (h1, aI Y 3640 f0), (h2, aZ Y 2 f1), (h3, aZ Y 80 f3), (h4, aB Y 1600 f4), (h5, aI Y 200 f13), (h6, aI Y 800 f14)] sz)) 0 0 (va_A [(h0, oC 13 [.ref h1, .ref h2, .int p2, .ref h3, .ref h4, .int (nI k5), .int (nI k6), .int p7, .int p8, .int p9, .int (nI k10), .int p11, .long q12, .ref h5, .ref h6, .int (nI k15), .int (nI k16)]), (h1, aI Y 3640 f0), (h2, aZ Y 2 f1), (h3, aZ Y 80 f3), (h4, aB Y 1600 f4), (h5, aI Y 200 f13), (h6, aI Y 800 f14)] sz) :=
  met_of  (by decide +kernel) (Nat.le_of_ble_eq_true rfl) (fun p e s m args below meth c B hin hsz => by
    have B : VB p s m args meth c D Y (va_A [(h0, oC 13 [.ref h1, .ref h2, .int p2, .ref h3, .ref h4, .int (nI k5), .int (nI k6), .int p7, .int p8, .int p9, .int (nI k10), .int p11, .long q12, .ref h5, .ref h6, .int (nI k15), .int (nI k16)]), (h1, aI Y 3640 f0), (h2, aZ Y 2 f1), (h3, aZ Y 80 f3), (h4, aB Y 1600 f4), (h5, aI Y 200 f13), (h6, aI Y 800 f14)] sz) cX12_hold 3 RX12 (some .int) := B
    refine V_aload_n 0 B dX12_hold_0 0 rfl ?_
    refine V_iconst 1 B (v := 0) dX12_hold_1 (by decide +kernel) ?_
    refine V_put 2 B gp_RX12_38 0 rfl (Nat.le_of_ble_eq_true rfl) rfl rfl dX12_hold_2 [(h0, oC 13 [.ref h1, .ref h2, .int 0, .ref h3, .ref h4, .int (nI k5), .int (nI k6), .int p7, .int p8, .int p9, .int (nI k10), .int p11, .long q12, .ref h5, .ref h6, .int (nI k15), .int (nI k16)]), (h1, aI Y 3640 f0), (h2, aZ Y 2 f1), (h3, aZ Y 80 f3), (h4, aB Y 1600 f4), (h5, aI Y 200 f13), (h6, aI Y 800 f14)] rfl ?_
    refine V_aload_n 5 B dX12_hold_5 0 rfl ?_
    refine V_iload_n 6 B dX12_hold_6 1 rfl ?_
    refine V_i2l 7 B dX12_hold_7 rfl ?_
    refine V_nml (fun o0 e1 => ?_)
    have x2 : o0.toInt = s0.toInt := by rw [e1, Int32.toInt_toInt64]
    refine V_lconst 8 B (v := 0) dX12_hold_8 (by decide +kernel) ?_
    refine V_ldc2 9 B (v := 15) dX12_hold_9 (mT9 76 rfl rfl) ?_
    refine V_csi 12 B (st := [.ref h0]) (As := [.long o0, .long 0, .long 15]) (fun sz => rX12_inRange l D Y o0 0 15 sz) glS_RX12_41 ⟨rfl, rfl⟩ ⟨(Nat.le_of_ble_eq_true rfl), (Nat.le_of_ble_eq_true rfl)⟩ ⟨(Nat.le_of_ble_eq_true rfl), (Nat.le_of_ble_eq_true rfl)⟩ [] rfl rfl (Nat.le_of_ble_eq_true rfl) rfl (fun _ _ _ => rfl) dX12_hold_12 (fun j3 u4 w5 => ?_)
    refine V_ws [(h0, oC 13 [.ref h1, .ref h2, .int 0, .ref h3, .ref h4, .int (nI k5), .int (nI k6), .int p7, .int p8, .int p9, .int (nI k10), .int p11, .long q12, .ref h5, .ref h6, .int (nI k15), .int (nI k16)]), (h1, aI Y 3640 f0), (h2, aZ Y 2 f1), (h3, aZ Y 80 f3), (h4, aB Y 1600 f4), (h5, aI Y 200 f13), (h6, aI Y 800 f14)] rfl ?_
    rcases w5 with ⟨rfl, x8⟩ | ⟨rfl, x6, x7⟩
    ·
      rw [show (0 : Int64).toInt = 0 by decide +kernel] at x8
      rw [show (15 : Int64).toInt = 15 by decide +kernel] at x8
      refine V_if_ne_f 15 B 22 dX12_hold_15 (by decide) (by decide +kernel) ?_
      refine V_iconst 18 B (v := 1) dX12_hold_18 (by decide +kernel) ?_
      refine V_goto 19 B 23 dX12_hold_19 (by decide) ?_
      refine V_iconst 23 B (v := 1) dX12_hold_23 (by decide +kernel) ?_
      refine V_cvi 24 B (st := []) (As := [.int 1, .int 1]) (fun sz => rX12_throwsIf_1 l D Y h0 h1 h2 h3 h4 h5 h6 0 k5 k6 p7 p8 p9 k10 p11 q12 k15 k16 f0 f1 f3 f4 f13 f14 ph HI (by omega) HP 1 sz) glV_RX12_69 ⟨rfl, rfl⟩ ⟨(Nat.le_of_ble_eq_true rfl), (Nat.le_of_ble_eq_true rfl)⟩ ⟨(Nat.le_of_ble_eq_true rfl), (Nat.le_of_ble_eq_true rfl)⟩ [0, 0, 0, 0, 0, 0, 0] rfl 13 0 rfl rfl rfl rfl (Nat.le_of_ble_eq_true rfl) rfl (fun _ _ _ => rfl) dX12_hold_24 (fun j9 u10 w11 => ?_)
      refine V_ws [(h0, oC 13 [.ref h1, .ref h2, .int (u10.2.1 0), .ref h3, .ref h4, .int (nI k5), .int (nI k6), .int p7, .int p8, .int p9, .int (nI k10), .int p11, .long q12, .ref h5, .ref h6, .int (nI k15), .int (nI k16)]), (h1, aI Y 3640 f0), (h2, aZ Y 2 f1), (h3, aZ Y 80 f3), (h4, aB Y 1600 f4), (h5, aI Y 200 f13), (h6, aI Y 800 f14)] rfl ?_
      have x12 := w11
      clear w11
      obtain rfl := x12
      refine V_if_eq_f 27 B 32 dX12_hold_27 (by decide) (by decide +kernel) ?_
      refine V_iconst 30 B (v := 0) dX12_hold_30 (by decide +kernel) ?_
      exact V_iret 31 B dX12_hold_31 (mkW [] [(u10.2.1 0)] [] [f0] [] []) HI rfl
    ·
      rw [show (0 : Int64).toInt = 0 by decide +kernel] at x6
      rw [show (15 : Int64).toInt = 15 by decide +kernel] at x7
      refine V_if_ne_t 15 B 22 dX12_hold_15 (by decide) (by decide +kernel) ?_
      refine V_iconst 22 B (v := 0) dX12_hold_22 (by decide +kernel) ?_
      refine V_iconst 23 B (v := 1) dX12_hold_23 (by decide +kernel) ?_
      refine V_cvi 24 B (st := []) (As := [.int 0, .int 1]) (fun sz => rX12_throwsIf_0 l D Y h0 h1 h2 h3 h4 h5 h6 0 k5 k6 p7 p8 p9 k10 p11 q12 k15 k16 f0 f1 f3 f4 f13 f14 ph HI (by omega) HP 1 sz) glV_RX12_69 ⟨rfl, rfl⟩ ⟨(Nat.le_of_ble_eq_true rfl), (Nat.le_of_ble_eq_true rfl)⟩ ⟨(Nat.le_of_ble_eq_true rfl), (Nat.le_of_ble_eq_true rfl)⟩ [0, 0, 0, 0, 0, 0, 0] rfl 13 0 rfl rfl rfl rfl (Nat.le_of_ble_eq_true rfl) rfl (fun _ _ _ => rfl) dX12_hold_24 (fun j13 u14 w15 => ?_)
      refine V_ws [(h0, oC 13 [.ref h1, .ref h2, .int (u14.2.1 0), .ref h3, .ref h4, .int (nI k5), .int (nI k6), .int p7, .int p8, .int p9, .int (nI k10), .int p11, .long q12, .ref h5, .ref h6, .int (nI k15), .int (nI k16)]), (h1, aI Y 3640 f0), (h2, aZ Y 2 f1), (h3, aZ Y 80 f3), (h4, aB Y 1600 f4), (h5, aI Y 200 f13), (h6, aI Y 800 f14)] rfl ?_
      have x16 := w15
      clear w15
      obtain rfl := x16
      refine V_if_eq_t 27 B 32 dX12_hold_27 (by decide) (by decide +kernel) ?_
      refine V_aload_n 32 B dX12_hold_32 0 rfl ?_
      refine V_get 33 B gf_RX12_9 0 rfl rfl dX12_hold_33 ?_
      refine V_bipush 36 B (v := 14) dX12_hold_36 (by decide +kernel) ?_
      refine V_iald 38 B (v := f0 (14)) 1 rfl (vpin _ _ (by decide +kernel)) dX12_hold_38 (by rfl) ?_
      refine V_nmi (fun j17 e18 => ?_)
      refine V_istore_n 39 B (lv2 := [(2, .int j17), (0, .ref h0), (1, .int s0)]) dX12_hold_39 (by decide) rfl ?_
      refine V_aload_n 40 B dX12_hold_40 1 rfl ?_
      refine V_get 41 B gf_RX12_9 0 rfl rfl dX12_hold_41 ?_
      refine V_bipush 44 B (v := 14) dX12_hold_44 (by decide +kernel) ?_
      refine V_iload_n 46 B dX12_hold_46 2 rfl ?_
      have hv19 : INV ph (upd f0 14 s0) := INV_free HI (show bd 14 = FREE by decide +kernel)
      refine V_iast 47 B 1 rfl (vpin _ _ (by decide +kernel)) dX12_hold_47 [(h0, oC 13 [.ref h1, .ref h2, .int (u14.2.1 0), .ref h3, .ref h4, .int (nI k5), .int (nI k6), .int p7, .int p8, .int p9, .int (nI k10), .int p11, .long q12, .ref h5, .ref h6, .int (nI k15), .int (nI k16)]), (h1, aI Y 3640 (upd f0 14 s0)), (h2, aZ Y 2 f1), (h3, aZ Y 80 f3), (h4, aB Y 1600 f4), (h5, aI Y 200 f13), (h6, aI Y 800 f14)] rfl ?_
      refine V_iload_n 48 B dX12_hold_48 0 rfl ?_
      exact V_iret 49 B dX12_hold_49 (mkW [] [(u14.2.1 0)] [] [(upd f0 14 s0)] [] []) hv19 rfl)
