theorem dX12_shadowOf_0 : decode cX12_shadowOf 0 = .ok (.aload_n 0, 1) := by decide +kernel
theorem dX12_shadowOf_1 : decode cX12_shadowOf 1 = .ok (.iconst 0, 1) := by decide +kernel
theorem dX12_shadowOf_2 : decode cX12_shadowOf 2 = .ok (.putfield 38, 3) := by decide +kernel
theorem dX12_shadowOf_5 : decode cX12_shadowOf 5 = .ok (.aload_n 0, 1) := by decide +kernel
theorem dX12_shadowOf_6 : decode cX12_shadowOf 6 = .ok (.aload_n 0, 1) := by decide +kernel
theorem dX12_shadowOf_7 : decode cX12_shadowOf 7 = .ok (.iload_n 1, 1) := by decide +kernel
theorem dX12_shadowOf_8 : decode cX12_shadowOf 8 = .ok (.invokevirtual 91, 3) := by decide +kernel
theorem dX12_shadowOf_11 : decode cX12_shadowOf 11 = .ok (.ifCond .eq 11, 3) := by decide +kernel
theorem dX12_shadowOf_22 : decode cX12_shadowOf 22 = .ok (.iconst 1, 1) := by decide +kernel
theorem dX12_shadowOf_23 : decode cX12_shadowOf 23 = .ok (.goto 4, 3) := by decide +kernel
theorem dX12_shadowOf_27 : decode cX12_shadowOf 27 = .ok (.iconst 1, 1) := by decide +kernel
theorem dX12_shadowOf_28 : decode cX12_shadowOf 28 = .ok (.invokevirtual 69, 3) := by decide +kernel
theorem dX12_shadowOf_31 : decode cX12_shadowOf 31 = .ok (.ifCond .eq 5, 3) := by decide +kernel
theorem dX12_shadowOf_34 : decode cX12_shadowOf 34 = .ok (.iconst 0, 1) := by decide +kernel
theorem dX12_shadowOf_35 : decode cX12_shadowOf 35 = .ok (.ireturn, 1) := by decide +kernel
theorem dX12_shadowOf_14 : decode cX12_shadowOf 14 = .ok (.aload_n 0, 1) := by decide +kernel
theorem dX12_shadowOf_15 : decode cX12_shadowOf 15 = .ok (.iload_n 2, 1) := by decide +kernel
theorem dX12_shadowOf_16 : decode cX12_shadowOf 16 = .ok (.invokevirtual 82, 3) := by decide +kernel
theorem dX12_shadowOf_19 : decode cX12_shadowOf 19 = .ok (.ifCond .ne 7, 3) := by decide +kernel
theorem dX12_shadowOf_26 : decode cX12_shadowOf 26 = .ok (.iconst 0, 1) := by decide +kernel
theorem dX12_shadowOf_36 : decode cX12_shadowOf 36 = .ok (.iconst (-1), 1) := by decide +kernel
theorem dX12_shadowOf_37 : decode cX12_shadowOf 37 = .ok (.istore_n 3, 1) := by decide +kernel
theorem dX12_shadowOf_38 : decode cX12_shadowOf 38 = .ok (.iload_n 1, 1) := by decide +kernel
theorem dX12_shadowOf_39 : decode cX12_shadowOf 39 = .ok (.istore 4, 2) := by decide +kernel
theorem dX12_shadowOf_41 : decode cX12_shadowOf 41 = .ok (.iload 4, 2) := by decide +kernel
theorem dX12_shadowOf_43 : decode cX12_shadowOf 43 = .ok (.iconst (-1), 1) := by decide +kernel
theorem dX12_shadowOf_44 : decode cX12_shadowOf 44 = .ok (.if_icmp .eq 54, 3) := by decide +kernel
theorem dX12_shadowOf_98 : decode cX12_shadowOf 98 = .ok (.iload 4, 2) := by decide +kernel
theorem dX12_shadowOf_100 : decode cX12_shadowOf 100 = .ok (.iconst (-1), 1) := by decide +kernel
theorem dX12_shadowOf_101 : decode cX12_shadowOf 101 = .ok (.if_icmp .ne 7, 3) := by decide +kernel
theorem dX12_shadowOf_104 : decode cX12_shadowOf 104 = .ok (.iconst (-1), 1) := by decide +kernel
theorem dX12_shadowOf_105 : decode cX12_shadowOf 105 = .ok (.goto 4, 3) := by decide +kernel
theorem dX12_shadowOf_109 : decode cX12_shadowOf 109 = .ok (.ireturn, 1) := by decide +kernel
theorem dX12_shadowOf_47 : decode cX12_shadowOf 47 = .ok (.iload 4, 2) := by decide +kernel
theorem dX12_shadowOf_49 : decode cX12_shadowOf 49 = .ok (.aload_n 0, 1) := by decide +kernel
theorem dX12_shadowOf_50 : decode cX12_shadowOf 50 = .ok (.iload_n 2, 1) := by decide +kernel
theorem dX12_shadowOf_51 : decode cX12_shadowOf 51 = .ok (.invokevirtual 115, 3) := by decide +kernel
theorem dX12_shadowOf_54 : decode cX12_shadowOf 54 = .ok (.if_icmp .eq 44, 3) := by decide +kernel
theorem dX12_shadowOf_108 : decode cX12_shadowOf 108 = .ok (.iload_n 3, 1) := by decide +kernel
theorem dX12_shadowOf_57 : decode cX12_shadowOf 57 = .ok (.aload_n 0, 1) := by decide +kernel
theorem dX12_shadowOf_58 : decode cX12_shadowOf 58 = .ok (.iload 4, 2) := by decide +kernel
theorem dX12_shadowOf_60 : decode cX12_shadowOf 60 = .ok (.iload_n 2, 1) := by decide +kernel
theorem dX12_shadowOf_61 : decode cX12_shadowOf 61 = .ok (.invokestatic 85, 3) := by decide +kernel
theorem dX12_shadowOf_64 : decode cX12_shadowOf 64 = .ok (.iconst (-1), 1) := by decide +kernel
theorem dX12_shadowOf_65 : decode cX12_shadowOf 65 = .ok (.invokevirtual 121, 3) := by decide +kernel
theorem dX12_shadowOf_68 : decode cX12_shadowOf 68 = .ok (.istore 5, 2) := by decide +kernel
theorem dX12_shadowOf_70 : decode cX12_shadowOf 70 = .ok (.iload 5, 2) := by decide +kernel
theorem dX12_shadowOf_72 : decode cX12_shadowOf 72 = .ok (.iconst (-1), 1) := by decide +kernel
theorem dX12_shadowOf_73 : decode cX12_shadowOf 73 = .ok (.if_icmp .ne 7, 3) := by decide +kernel
theorem dX12_shadowOf_76 : decode cX12_shadowOf 76 = .ok (.iload_n 3, 1) := by decide +kernel
theorem dX12_shadowOf_77 : decode cX12_shadowOf 77 = .ok (.goto 5, 3) := by decide +kernel
theorem dX12_shadowOf_82 : decode cX12_shadowOf 82 = .ok (.istore_n 3, 1) := by decide +kernel
theorem dX12_shadowOf_83 : decode cX12_shadowOf 83 = .ok (.aload_n 0, 1) := by decide +kernel
theorem dX12_shadowOf_84 : decode cX12_shadowOf 84 = .ok (.getfield 9, 3) := by decide +kernel
theorem dX12_shadowOf_87 : decode cX12_shadowOf 87 = .ok (.bipush 16, 2) := by decide +kernel
theorem dX12_shadowOf_89 : decode cX12_shadowOf 89 = .ok (.iload 4, 2) := by decide +kernel
theorem dX12_shadowOf_91 : decode cX12_shadowOf 91 = .ok (.iadd, 1) := by decide +kernel
theorem dX12_shadowOf_92 : decode cX12_shadowOf 92 = .ok (.iaload, 1) := by decide +kernel
theorem dX12_shadowOf_93 : decode cX12_shadowOf 93 = .ok (.istore 4, 2) := by decide +kernel
theorem dX12_shadowOf_95 : decode cX12_shadowOf 95 = .ok (.goto (-54), 3) := by decide +kernel
theorem dX12_shadowOf_80 : decode cX12_shadowOf 80 = .ok (.iload 5, 2) := by decide +kernel
set_option maxRecDepth 100000 in
set_option maxHeartbeats 4000000 in
theorem rX12_shadowOf (l : Launch) (D : va_G) (Y : Nat → ClassId) (h0 : Nat) (h1 : Nat) (h2 : Nat) (h3 : Nat) (h4 : Nat) (h5 : Nat) (h6 : Nat) (p2 : Int32) (k5 : Nat) (k6 : Nat) (p7 : Int32) (p8 : Int32) (p9 : Int32) (k10 : Nat) (p11 : Int32) (q12 : Int64) (k15 : Nat) (k16 : Nat) (f0 : Nat → Int32) (f1 : Nat → Int32) (f3 : Nat → Int32) (f4 : Nat → Int32) (f13 : Nat → Int32) (f14 : Nat → Int32) (HI : INV f0) (HL : k5 ≤ 1600) (HP : PLV f13) (s0 : Int32) (s1 : Int32)  (sz : Nat) : Met l yX12_shadowOf (WSm yX12_shadowOf cX12_shadowOf 6 (some .int)) (mkR 4 0 0 90) (PreC D Y [.ref h0, .int s0, .int s1] [(h0, oC 13 [.ref h1, .ref h2, .int p2, .ref h3, .ref h4, .int (nI k5), .int (nI k6), .int p7, .int p8, .int p9, .int (nI k10), .int p11, .long q12, .ref h5, .ref h6, .int (nI k15), .int (nI k16)]), (h1, aI Y 3640 f0), (h2, aZ Y 2 f1), (h3, aZ Y 80 f3), (h4, aB Y 1600 f4), (h5, aI Y 200 f13), (h6, aI Y 800 f14)] sz) (QI D (fun (r : Int32) (u : WU) => True) (fun (u : WU) => [(h0, oC 13 [.ref h1, .ref h2, .int (u.2.1 0), .ref h3, .ref h4, .int (nI k5), .int (nI k6), .int p7, .int p8, .int p9, .int (nI k10), .int p11, .long q12, .ref h5, .ref h6, .int (nI k15), .int (nI k16)]), (h1, aI Y 3640 f0), (h2, aZ Y 2 f1), (h3, aZ Y 80 f3), (h4, aB Y 1600 f4), (h5, aI Y 200 f13), (h6, aI Y 800 f14)]) (va_A [(h0, oC 13 [.ref h1, .ref h2, .int p2, .ref h3, .ref h4, .int (nI k5), .int (nI k6), .int p7, .int p8, .int p9, .int (nI k10), .int p11, .long q12, .ref h5, .ref h6, .int (nI k15), .int (nI k16)]), (h1, aI Y 3640 f0), (h2, aZ Y 2 f1), (h3, aZ Y 80 f3), (h4, aB Y 1600 f4), (h5, aI Y 200 f13), (h6, aI Y 800 f14)] sz)) 0 0 (va_A [(h0, oC 13 [.ref h1, .ref h2, .int p2, .ref h3, .ref h4, .int (nI k5), .int (nI k6), .int p7, .int p8, .int p9, .int (nI k10), .int p11, .long q12, .ref h5, .ref h6, .int (nI k15), .int (nI k16)]), (h1, aI Y 3640 f0), (h2, aZ Y 2 f1), (h3, aZ Y 80 f3), (h4, aB Y 1600 f4), (h5, aI Y 200 f13), (h6, aI Y 800 f14)] sz) :=
  met_of (by decide +kernel) (Nat.le_of_ble_eq_true rfl) (fun p e s m args below meth c B hin hsz => by
    have B : VB p s m args meth c D Y (va_A [(h0, oC 13 [.ref h1, .ref h2, .int p2, .ref h3, .ref h4, .int (nI k5), .int (nI k6), .int p7, .int p8, .int p9, .int (nI k10), .int p11, .long q12, .ref h5, .ref h6, .int (nI k15), .int (nI k16)]), (h1, aI Y 3640 f0), (h2, aZ Y 2 f1), (h3, aZ Y 80 f3), (h4, aB Y 1600 f4), (h5, aI Y 200 f13), (h6, aI Y 800 f14)] sz) cX12_shadowOf 6 RX12 (some .int) := B
    refine V_aload_n 0 B dX12_shadowOf_0 0 rfl ?_
    refine V_iconst 1 B (v := 0) dX12_shadowOf_1 (by decide +kernel) ?_
    refine V_put 2 B gp_RX12_38 0 rfl (Nat.le_of_ble_eq_true rfl) rfl rfl dX12_shadowOf_2 [(h0, oC 13 [.ref h1, .ref h2, .int 0, .ref h3, .ref h4, .int (nI k5), .int (nI k6), .int p7, .int p8, .int p9, .int (nI k10), .int p11, .long q12, .ref h5, .ref h6, .int (nI k15), .int (nI k16)]), (h1, aI Y 3640 f0), (h2, aZ Y 2 f1), (h3, aZ Y 80 f3), (h4, aB Y 1600 f4), (h5, aI Y 200 f13), (h6, aI Y 800 f14)] rfl ?_
    refine V_aload_n 5 B dX12_shadowOf_5 0 rfl ?_
    refine V_aload_n 6 B dX12_shadowOf_6 0 rfl ?_
    refine V_iload_n 7 B dX12_shadowOf_7 1 rfl ?_
    refine V_cvi 8 B (st := [.ref h0]) (As := [.int s0]) (fun sz => rX12_isMode l D Y h0 h1 h2 h3 h4 h5 h6 0 k5 k6 p7 p8 p9 k10 p11 q12 k15 k16 f0 f1 f3 f4 f13 f14 HI (by omega) HP s0 sz) glV_RX12_91 ⟨rfl, rfl⟩ ⟨(Nat.le_of_ble_eq_true rfl), (Nat.le_of_ble_eq_true rfl)⟩ ⟨(Nat.le_of_ble_eq_true rfl), (Nat.le_of_ble_eq_true rfl)⟩ [0, 0, 0, 0, 0, 0, 0] rfl 13 0 rfl rfl rfl rfl (Nat.le_of_ble_eq_true rfl) rfl (fun _ _ _ => rfl) dX12_shadowOf_8 (fun j0 u1 w2 => ?_)
    refine V_ws [(h0, oC 13 [.ref h1, .ref h2, .int 0, .ref h3, .ref h4, .int (nI k5), .int (nI k6), .int p7, .int p8, .int p9, .int (nI k10), .int p11, .long q12, .ref h5, .ref h6, .int (nI k15), .int (nI k16)]), (h1, aI Y 3640 f0), (h2, aZ Y 2 f1), (h3, aZ Y 80 f3), (h4, aB Y 1600 f4), (h5, aI Y 200 f13), (h6, aI Y 800 f14)] rfl ?_
    have x3 := w2
    have x7 : (gN f0 0) ≤ 6 := gN_le HI (by omega) (show bd 0 = (0, ((6 : Nat) : Int)) by decide +kernel)
    rcases x3 with rfl | ⟨rfl, n4, rfl, x6⟩
    ·
      refine V_if_eq_t 11 B 22 dX12_shadowOf_11 (by decide) (by decide +kernel) ?_
      refine V_iconst 22 B (v := 1) dX12_shadowOf_22 (by decide +kernel) ?_
      refine V_goto 23 B 27 dX12_shadowOf_23 (by decide) ?_
      refine V_iconst 27 B (v := 1) dX12_shadowOf_27 (by decide +kernel) ?_
      refine V_cvi 28 B (st := []) (As := [.int 1, .int 1]) (fun sz => rX12_throwsIf_1 l D Y h0 h1 h2 h3 h4 h5 h6 0 k5 k6 p7 p8 p9 k10 p11 q12 k15 k16 f0 f1 f3 f4 f13 f14 HI (by omega) HP 1 sz) glV_RX12_69 ⟨rfl, rfl⟩ ⟨(Nat.le_of_ble_eq_true rfl), (Nat.le_of_ble_eq_true rfl)⟩ ⟨(Nat.le_of_ble_eq_true rfl), (Nat.le_of_ble_eq_true rfl)⟩ [0, 0, 0, 0, 0, 0, 0] rfl 13 0 rfl rfl rfl rfl (Nat.le_of_ble_eq_true rfl) rfl (fun _ _ _ => rfl) dX12_shadowOf_28 (fun j8 u9 w10 => ?_)
      refine V_ws [(h0, oC 13 [.ref h1, .ref h2, .int (u9.2.1 0), .ref h3, .ref h4, .int (nI k5), .int (nI k6), .int p7, .int p8, .int p9, .int (nI k10), .int p11, .long q12, .ref h5, .ref h6, .int (nI k15), .int (nI k16)]), (h1, aI Y 3640 f0), (h2, aZ Y 2 f1), (h3, aZ Y 80 f3), (h4, aB Y 1600 f4), (h5, aI Y 200 f13), (h6, aI Y 800 f14)] rfl ?_
      have x11 := w10
      obtain rfl := x11
      refine V_if_eq_f 31 B 36 dX12_shadowOf_31 (by decide) (by decide +kernel) ?_
      refine V_iconst 34 B (v := 0) dX12_shadowOf_34 (by decide +kernel) ?_
      exact V_iret 35 B dX12_shadowOf_35 (mkW [] [(u9.2.1 0)] [] [] [] []) trivial rfl
    ·
      have e12 := nI_toInt (show n4 < 2 ^ 31 by omega)
      have x13 : (gN f0 0) ≤ 6 := gN_le HI (by omega) (show bd 0 = (0, ((6 : Nat) : Int)) by decide +kernel)
      refine V_if_eq_f 11 B 22 dX12_shadowOf_11 (by decide) (by decide +kernel) ?_
      refine V_aload_n 14 B dX12_shadowOf_14 0 rfl ?_
      refine V_iload_n 15 B dX12_shadowOf_15 2 rfl ?_
      refine V_cvi 16 B (st := [.ref h0]) (As := [.int s1]) (fun sz => rX12_isBinding l D Y h0 h1 h2 h3 h4 h5 h6 0 k5 k6 p7 p8 p9 k10 p11 q12 k15 k16 f0 f1 f3 f4 f13 f14 HI (by omega) HP s1 sz) glV_RX12_82 ⟨rfl, rfl⟩ ⟨(Nat.le_of_ble_eq_true rfl), (Nat.le_of_ble_eq_true rfl)⟩ ⟨(Nat.le_of_ble_eq_true rfl), (Nat.le_of_ble_eq_true rfl)⟩ [0, 0, 0, 0, 0, 0, 0] rfl 13 0 rfl rfl rfl rfl (Nat.le_of_ble_eq_true rfl) rfl (fun _ _ _ => rfl) dX12_shadowOf_16 (fun j14 u15 w16 => ?_)
      refine V_ws [(h0, oC 13 [.ref h1, .ref h2, .int 0, .ref h3, .ref h4, .int (nI k5), .int (nI k6), .int p7, .int p8, .int p9, .int (nI k10), .int p11, .long q12, .ref h5, .ref h6, .int (nI k15), .int (nI k16)]), (h1, aI Y 3640 f0), (h2, aZ Y 2 f1), (h3, aZ Y 80 f3), (h4, aB Y 1600 f4), (h5, aI Y 200 f13), (h6, aI Y 800 f14)] rfl ?_
      have x17 := w16
      have x21 : (gN f0 3) ≤ 80 := gN_le HI (by omega) (show bd 3 = (0, ((80 : Nat) : Int)) by decide +kernel)
      rcases x17 with rfl | ⟨rfl, n18, rfl, x20⟩
      ·
        refine V_if_ne_f 19 B 26 dX12_shadowOf_19 (by decide) (by decide +kernel) ?_
        refine V_iconst 22 B (v := 1) dX12_shadowOf_22 (by decide +kernel) ?_
        refine V_goto 23 B 27 dX12_shadowOf_23 (by decide) ?_
        refine V_iconst 27 B (v := 1) dX12_shadowOf_27 (by decide +kernel) ?_
        refine V_cvi 28 B (st := []) (As := [.int 1, .int 1]) (fun sz => rX12_throwsIf_1 l D Y h0 h1 h2 h3 h4 h5 h6 0 k5 k6 p7 p8 p9 k10 p11 q12 k15 k16 f0 f1 f3 f4 f13 f14 HI (by omega) HP 1 sz) glV_RX12_69 ⟨rfl, rfl⟩ ⟨(Nat.le_of_ble_eq_true rfl), (Nat.le_of_ble_eq_true rfl)⟩ ⟨(Nat.le_of_ble_eq_true rfl), (Nat.le_of_ble_eq_true rfl)⟩ [0, 0, 0, 0, 0, 0, 0] rfl 13 0 rfl rfl rfl rfl (Nat.le_of_ble_eq_true rfl) rfl (fun _ _ _ => rfl) dX12_shadowOf_28 (fun j22 u23 w24 => ?_)
        refine V_ws [(h0, oC 13 [.ref h1, .ref h2, .int (u23.2.1 0), .ref h3, .ref h4, .int (nI k5), .int (nI k6), .int p7, .int p8, .int p9, .int (nI k10), .int p11, .long q12, .ref h5, .ref h6, .int (nI k15), .int (nI k16)]), (h1, aI Y 3640 f0), (h2, aZ Y 2 f1), (h3, aZ Y 80 f3), (h4, aB Y 1600 f4), (h5, aI Y 200 f13), (h6, aI Y 800 f14)] rfl ?_
        have x25 := w24
        obtain rfl := x25
        refine V_if_eq_f 31 B 36 dX12_shadowOf_31 (by decide) (by decide +kernel) ?_
        refine V_iconst 34 B (v := 0) dX12_shadowOf_34 (by decide +kernel) ?_
        exact V_iret 35 B dX12_shadowOf_35 (mkW [] [(u23.2.1 0)] [] [] [] []) trivial rfl
      ·
        have e26 := nI_toInt (show n18 < 2 ^ 31 by omega)
        have x27 : (gN f0 3) ≤ 80 := gN_le HI (by omega) (show bd 3 = (0, ((80 : Nat) : Int)) by decide +kernel)
        refine V_if_ne_t 19 B 26 dX12_shadowOf_19 (by decide) (by decide +kernel) ?_
        refine V_iconst 26 B (v := 0) dX12_shadowOf_26 (by decide +kernel) ?_
        refine V_iconst 27 B (v := 1) dX12_shadowOf_27 (by decide +kernel) ?_
        refine V_cvi 28 B (st := []) (As := [.int 0, .int 1]) (fun sz => rX12_throwsIf_0 l D Y h0 h1 h2 h3 h4 h5 h6 0 k5 k6 p7 p8 p9 k10 p11 q12 k15 k16 f0 f1 f3 f4 f13 f14 HI (by omega) HP 1 sz) glV_RX12_69 ⟨rfl, rfl⟩ ⟨(Nat.le_of_ble_eq_true rfl), (Nat.le_of_ble_eq_true rfl)⟩ ⟨(Nat.le_of_ble_eq_true rfl), (Nat.le_of_ble_eq_true rfl)⟩ [0, 0, 0, 0, 0, 0, 0] rfl 13 0 rfl rfl rfl rfl (Nat.le_of_ble_eq_true rfl) rfl (fun _ _ _ => rfl) dX12_shadowOf_28 (fun j28 u29 w30 => ?_)
        refine V_ws [(h0, oC 13 [.ref h1, .ref h2, .int (u29.2.1 0), .ref h3, .ref h4, .int (nI k5), .int (nI k6), .int p7, .int p8, .int p9, .int (nI k10), .int p11, .long q12, .ref h5, .ref h6, .int (nI k15), .int (nI k16)]), (h1, aI Y 3640 f0), (h2, aZ Y 2 f1), (h3, aZ Y 80 f3), (h4, aB Y 1600 f4), (h5, aI Y 200 f13), (h6, aI Y 800 f14)] rfl ?_
        have x31 := w30
        obtain rfl := x31
        refine V_if_eq_t 31 B 36 dX12_shadowOf_31 (by decide) (by decide +kernel) ?_
        refine V_iconst 36 B (v := (-1)) dX12_shadowOf_36 (by decide +kernel) ?_
        refine V_istore_n 37 B (lv2 := [(3, .int (-1)), (0, .ref h0), (1, .int (nI n4)), (2, .int (nI n18))]) dX12_shadowOf_37 (by decide) rfl ?_
        refine V_iload_n 38 B dX12_shadowOf_38 2 rfl ?_
        refine V_istore 39 B (lv2 := [(4, .int (nI n4)), (3, .int (-1)), (0, .ref h0), (1, .int (nI n4)), (2, .int (nI n18))]) dX12_shadowOf_39 (by decide) rfl ?_
        refine V_wloop (α := WU) (fun a => (((a.2.1 0)).toInt + 1).toNat) (fun a => ((-1) ≤ (a.2.1 0).toInt ∧ (a.2.1 0).toInt ≤ 5)) (fun a => [(4, .int (a.2.1 0)), (3, .int (a.2.1 1)), (0, .ref h0), (1, .int (nI n4)), (2, .int (nI n18))]) (fun a => [(h0, oC 13 [.ref h1, .ref h2, .int (a.2.1 2), .ref h3, .ref h4, .int (nI k5), .int (nI k6), .int p7, .int p8, .int p9, .int (nI k10), .int p11, .long q12, .ref h5, .ref h6, .int (nI k15), .int (nI k16)]), (h1, aI Y 3640 f0), (h2, aZ Y 2 f1), (h3, aZ Y 80 f3), (h4, aB Y 1600 f4), (h5, aI Y 200 f13), (h6, aI Y 800 f14)]) (mkW [] [(nI n4), (-1), (u29.2.1 0)] [] [] [] []) (show (-1) ≤ ((nI n4) : Int32).toInt ∧ ((nI n4) : Int32).toInt ≤ 5 by have e9 := nI_toInt (show n4 < 2 ^ 31 by omega); omega) rfl rfl (fun a32 hI34 IH33 => ?_)
        refine V_lv [(4, .int (a32.2.1 0)), (3, .int (a32.2.1 1)), (0, .ref h0), (1, .int (nI n4)), (2, .int (nI n18))] [0, 1, 2, 3, 4] rfl ?_
        refine V_ws [(h0, oC 13 [.ref h1, .ref h2, .int (a32.2.1 2), .ref h3, .ref h4, .int (nI k5), .int (nI k6), .int p7, .int p8, .int p9, .int (nI k10), .int p11, .long q12, .ref h5, .ref h6, .int (nI k15), .int (nI k16)]), (h1, aI Y 3640 f0), (h2, aZ Y 2 f1), (h3, aZ Y 80 f3), (h4, aB Y 1600 f4), (h5, aI Y 200 f13), (h6, aI Y 800 f14)] rfl ?_
        have x35 := hI34
        generalize a32.2.1 0 = j36 at *
        refine V_iload 41 B dX12_shadowOf_41 0 rfl ?_
        refine V_iconst 43 B (v := (-1)) dX12_shadowOf_43 (by decide +kernel) ?_
        refine V_icmp_eq 44 B 98 dX12_shadowOf_44 (by decide) (fun kk37 => ?_) (fun kk37 => ?_)
        ·
          obtain rfl : j36 = (-1) := kk37
          have e39 : ((-1) : Int32).toInt = (-1) := by decide +kernel
          refine V_iload 98 B dX12_shadowOf_98 0 rfl ?_
          refine V_iconst 100 B (v := (-1)) dX12_shadowOf_100 (by decide +kernel) ?_
          refine V_icmp_ne_f 101 B 108 dX12_shadowOf_101 (by decide) (by decide +kernel) ?_
          refine V_iconst 104 B (v := (-1)) dX12_shadowOf_104 (by decide +kernel) ?_
          refine V_goto 105 B 109 dX12_shadowOf_105 (by decide) ?_
          exact V_iret 109 B dX12_shadowOf_109 (mkW [] [(a32.2.1 2)] [] [] [] []) trivial rfl
        ·
          have x40 := x_ne kk37
          rw [show ((-1) : Int32).toInt = (-1) by decide +kernel] at x40
          refine V_iload 47 B dX12_shadowOf_47 0 rfl ?_
          refine V_aload_n 49 B dX12_shadowOf_49 2 rfl ?_
          refine V_iload_n 50 B dX12_shadowOf_50 4 rfl ?_
          refine V_cvi 51 B (st := [.int j36]) (As := [.int (nI n18)]) (fun sz => rX12_modeOf l D Y h0 h1 h2 h3 h4 h5 h6 (a32.2.1 2) k5 k6 p7 p8 p9 k10 p11 q12 k15 k16 f0 f1 f3 f4 f13 f14 HI (by omega) HP n18 (by omega) sz) glV_RX12_115 ⟨rfl, rfl⟩ ⟨(Nat.le_of_ble_eq_true rfl), (Nat.le_of_ble_eq_true rfl)⟩ ⟨(Nat.le_of_ble_eq_true rfl), (Nat.le_of_ble_eq_true rfl)⟩ [0, 0, 0, 0, 0, 0, 0] rfl 13 0 rfl rfl rfl rfl (Nat.le_of_ble_eq_true rfl) rfl (fun _ _ _ => rfl) dX12_shadowOf_51 (fun j41 u42 w43 => ?_)
          refine V_ws [(h0, oC 13 [.ref h1, .ref h2, .int (a32.2.1 2), .ref h3, .ref h4, .int (nI k5), .int (nI k6), .int p7, .int p8, .int p9, .int (nI k10), .int p11, .long q12, .ref h5, .ref h6, .int (nI k15), .int (nI k16)]), (h1, aI Y 3640 f0), (h2, aZ Y 2 f1), (h3, aZ Y 80 f3), (h4, aB Y 1600 f4), (h5, aI Y 200 f13), (h6, aI Y 800 f14)] rfl ?_
          have x44 := w43
          refine V_icmp_eq 54 B 98 dX12_shadowOf_54 (by decide) (fun kk45 => ?_) (fun kk45 => ?_)
          ·
            have x46 := x_eq kk45
            refine V_iload 98 B dX12_shadowOf_98 0 rfl ?_
            refine V_iconst 100 B (v := (-1)) dX12_shadowOf_100 (by decide +kernel) ?_
            refine V_icmp_ne_t 101 B 108 dX12_shadowOf_101 (by decide) (fun z => by have z2 := x_eq z; rw [(show ((-1) : Int32).toInt = (-1) by decide +kernel)] at z2; omega) ?_
            refine V_iload_n 108 B dX12_shadowOf_108 1 rfl ?_
            exact V_iret 109 B dX12_shadowOf_109 (mkW [] [(a32.2.1 2)] [] [] [] []) trivial rfl
          ·
            have x48 := x_ne kk45
            refine V_aload_n 57 B dX12_shadowOf_57 2 rfl ?_
            refine V_iload 58 B dX12_shadowOf_58 0 rfl ?_
            refine V_iload_n 60 B dX12_shadowOf_60 4 rfl ?_
            refine V_csi 61 B (st := [.int j36, .ref h0]) (As := [.int (nI n18)]) (fun sz => rX12_sequenceOf l D Y n18 (by omega) sz) glS_RX12_85 ⟨rfl, rfl⟩ ⟨(Nat.le_of_ble_eq_true rfl), (Nat.le_of_ble_eq_true rfl)⟩ ⟨(Nat.le_of_ble_eq_true rfl), (Nat.le_of_ble_eq_true rfl)⟩ [] rfl rfl (Nat.le_of_ble_eq_true rfl) rfl (fun _ _ _ => rfl) dX12_shadowOf_61 (fun j49 u50 w51 => ?_)
            refine V_ws [(h0, oC 13 [.ref h1, .ref h2, .int (a32.2.1 2), .ref h3, .ref h4, .int (nI k5), .int (nI k6), .int p7, .int p8, .int p9, .int (nI k10), .int p11, .long q12, .ref h5, .ref h6, .int (nI k15), .int (nI k16)]), (h1, aI Y 3640 f0), (h2, aZ Y 2 f1), (h3, aZ Y 80 f3), (h4, aB Y 1600 f4), (h5, aI Y 200 f13), (h6, aI Y 800 f14)] rfl ?_
            have x52 := w51
            obtain rfl := x52
            refine V_iconst 64 B (v := (-1)) dX12_shadowOf_64 (by decide +kernel) ?_
            refine V_cvi 65 B (st := []) (As := [.int j36, .int (nI (186 + 7 * n18)), .int (-1)]) (fun sz => rX12_clashIn l D Y h0 h1 h2 h3 h4 h5 h6 (a32.2.1 2) k5 k6 p7 p8 p9 k10 p11 q12 k15 k16 f0 f1 f3 f4 f13 f14 HI (by omega) HP j36 (186 + 7 * n18) (-1) (rl5 n18 (by omega)) sz) glV_RX12_121 ⟨rfl, rfl⟩ ⟨(Nat.le_of_ble_eq_true rfl), (Nat.le_of_ble_eq_true rfl)⟩ ⟨(Nat.le_of_ble_eq_true rfl), (Nat.le_of_ble_eq_true rfl)⟩ [0, 0, 0, 0, 0, 0, 0] rfl 13 0 rfl rfl rfl rfl (Nat.le_of_ble_eq_true rfl) rfl (fun _ _ _ => rfl) dX12_shadowOf_65 (fun j53 u54 w55 => ?_)
            refine V_ws [(h0, oC 13 [.ref h1, .ref h2, .int (a32.2.1 2), .ref h3, .ref h4, .int (nI k5), .int (nI k6), .int p7, .int p8, .int p9, .int (nI k10), .int p11, .long q12, .ref h5, .ref h6, .int (nI k15), .int (nI k16)]), (h1, aI Y 3640 f0), (h2, aZ Y 2 f1), (h3, aZ Y 80 f3), (h4, aB Y 1600 f4), (h5, aI Y 200 f13), (h6, aI Y 800 f14)] rfl ?_
            have x56 := w55
            have x59 : (gN f0 3) ≤ 80 := gN_le HI (by omega) (show bd 3 = (0, ((80 : Nat) : Int)) by decide +kernel)
            rcases x56 with rfl | ⟨n57, rfl, x58⟩
            ·
              refine V_istore 68 B (lv2 := [(5, .int (-1)), (4, .int j36), (3, .int (a32.2.1 1)), (0, .ref h0), (1, .int (nI n4)), (2, .int (nI n18))]) dX12_shadowOf_68 (by decide) rfl ?_
              refine V_iload 70 B dX12_shadowOf_70 0 rfl ?_
              refine V_iconst 72 B (v := (-1)) dX12_shadowOf_72 (by decide +kernel) ?_
              refine V_icmp_ne_f 73 B 80 dX12_shadowOf_73 (by decide) (by decide +kernel) ?_
              refine V_iload_n 76 B dX12_shadowOf_76 2 rfl ?_
              refine V_goto 77 B 82 dX12_shadowOf_77 (by decide) ?_
              refine V_istore_n 82 B (lv2 := [(3, .int (a32.2.1 1)), (5, .int (-1)), (4, .int j36), (0, .ref h0), (1, .int (nI n4)), (2, .int (nI n18))]) dX12_shadowOf_82 (by decide) rfl ?_
              refine V_aload_n 83 B dX12_shadowOf_83 3 rfl ?_
              refine V_get 84 B gf_RX12_9 0 rfl rfl dX12_shadowOf_84 ?_
              refine V_bipush 87 B (v := 16) dX12_shadowOf_87 (by decide +kernel) ?_
              refine V_iload 89 B dX12_shadowOf_89 2 rfl ?_
              obtain ⟨n60, x61, rfl⟩ := nat_of (x := j36) (n := 5) (by omega) (by omega)
              have e62 := nI_toInt (show n60 < 2 ^ 31 by omega)
              refine V_iadd 91 B (v := (nI (16 + n60))) dX12_shadowOf_91 (nI_addE (a := 16) (b := n60) (by omega)) ?_
              refine V_iald 92 B (v := f0 (16 + n60)) 1 rfl (vp_in_nI (n := 16 + n60) (by omega) (by decide)) dX12_shadowOf_92 (by rw [nI_clamp (show 16 + n60 < 2 ^ 31 by omega)]) ?_
              refine V_nmi (fun j63 e64 => ?_)
              have x65 : (-1) ≤ j63.toInt ∧ j63.toInt ≤ (((n60 : Nat) : Int) - 1) := by rw [e64]; exact ⟨INV_lo HI (by omega) (rl6 n60 (by omega)), INV_hi HI (by omega) (rl6 n60 (by omega))⟩
              refine V_istore 93 B (lv2 := [(4, .int j63), (3, .int (a32.2.1 1)), (5, .int (-1)), (0, .ref h0), (1, .int (nI n4)), (2, .int (nI n18))]) dX12_shadowOf_93 (by decide) rfl ?_
              refine V_goto 95 B 41 dX12_shadowOf_95 (by decide) ?_
              refine V_lv [(4, .int j63), (3, .int (a32.2.1 1)), (0, .ref h0), (1, .int (nI n4)), (2, .int (nI n18))] [0, 1, 3, 4, 5] rfl ?_
              exact IH33 (mkW [] [j63, (a32.2.1 1), (a32.2.1 2)] [] [] [] []) (show (-1) ≤ (j63 : Int32).toInt ∧ (j63 : Int32).toInt ≤ 5 by omega) (by show ((j63 : Int32).toInt + 1).toNat < _; omega)
            ·
              refine V_istore 68 B (lv2 := [(5, .int (nI n57)), (4, .int j36), (3, .int (a32.2.1 1)), (0, .ref h0), (1, .int (nI n4)), (2, .int (nI n18))]) dX12_shadowOf_68 (by decide) rfl ?_
              refine V_iload 70 B dX12_shadowOf_70 0 rfl ?_
              refine V_iconst 72 B (v := (-1)) dX12_shadowOf_72 (by decide +kernel) ?_
              refine V_icmp_ne 73 B 80 dX12_shadowOf_73 (by decide) (fun kk66 => ?_) (fun kk66 => ?_)
              ·
                have x67 := x_ne kk66
                rw [nI_toInt (show n57 < 2 ^ 31 by omega)] at x67
                rw [show ((-1) : Int32).toInt = (-1) by decide +kernel] at x67
                refine V_iload 80 B dX12_shadowOf_80 0 rfl ?_
                refine V_istore_n 82 B (lv2 := [(3, .int (nI n57)), (5, .int (nI n57)), (4, .int j36), (0, .ref h0), (1, .int (nI n4)), (2, .int (nI n18))]) dX12_shadowOf_82 (by decide) rfl ?_
                refine V_aload_n 83 B dX12_shadowOf_83 3 rfl ?_
                refine V_get 84 B gf_RX12_9 0 rfl rfl dX12_shadowOf_84 ?_
                refine V_bipush 87 B (v := 16) dX12_shadowOf_87 (by decide +kernel) ?_
                refine V_iload 89 B dX12_shadowOf_89 2 rfl ?_
                obtain ⟨n68, x69, rfl⟩ := nat_of (x := j36) (n := 5) (by omega) (by omega)
                have e70 := nI_toInt (show n68 < 2 ^ 31 by omega)
                refine V_iadd 91 B (v := (nI (16 + n68))) dX12_shadowOf_91 (nI_addE (a := 16) (b := n68) (by omega)) ?_
                refine V_iald 92 B (v := f0 (16 + n68)) 1 rfl (vp_in_nI (n := 16 + n68) (by omega) (by decide)) dX12_shadowOf_92 (by rw [nI_clamp (show 16 + n68 < 2 ^ 31 by omega)]) ?_
                refine V_nmi (fun j71 e72 => ?_)
                have x73 : (-1) ≤ j71.toInt ∧ j71.toInt ≤ (((n68 : Nat) : Int) - 1) := by rw [e72]; exact ⟨INV_lo HI (by omega) (rl6 n68 (by omega)), INV_hi HI (by omega) (rl6 n68 (by omega))⟩
                refine V_istore 93 B (lv2 := [(4, .int j71), (3, .int (nI n57)), (5, .int (nI n57)), (0, .ref h0), (1, .int (nI n4)), (2, .int (nI n18))]) dX12_shadowOf_93 (by decide) rfl ?_
                refine V_goto 95 B 41 dX12_shadowOf_95 (by decide) ?_
                refine V_lv [(4, .int j71), (3, .int (nI n57)), (0, .ref h0), (1, .int (nI n4)), (2, .int (nI n18))] [0, 1, 3, 4, 5] rfl ?_
                exact IH33 (mkW [] [j71, (nI n57), (a32.2.1 2)] [] [] [] []) (show (-1) ≤ (j71 : Int32).toInt ∧ (j71 : Int32).toInt ≤ 5 by omega) (by show ((j71 : Int32).toInt + 1).toNat < _; omega)
              ·
                have x74 := x_eq kk66
                rw [nI_toInt (show n57 < 2 ^ 31 by omega)] at x74
                rw [show ((-1) : Int32).toInt = (-1) by decide +kernel] at x74
                refine V_iload_n 76 B dX12_shadowOf_76 2 rfl ?_
                refine V_goto 77 B 82 dX12_shadowOf_77 (by decide) ?_
                refine V_istore_n 82 B (lv2 := [(3, .int (a32.2.1 1)), (5, .int (nI n57)), (4, .int j36), (0, .ref h0), (1, .int (nI n4)), (2, .int (nI n18))]) dX12_shadowOf_82 (by decide) rfl ?_
                refine V_aload_n 83 B dX12_shadowOf_83 3 rfl ?_
                refine V_get 84 B gf_RX12_9 0 rfl rfl dX12_shadowOf_84 ?_
                refine V_bipush 87 B (v := 16) dX12_shadowOf_87 (by decide +kernel) ?_
                refine V_iload 89 B dX12_shadowOf_89 2 rfl ?_
                obtain ⟨n75, x76, rfl⟩ := nat_of (x := j36) (n := 5) (by omega) (by omega)
                have e77 := nI_toInt (show n75 < 2 ^ 31 by omega)
                refine V_iadd 91 B (v := (nI (16 + n75))) dX12_shadowOf_91 (nI_addE (a := 16) (b := n75) (by omega)) ?_
                refine V_iald 92 B (v := f0 (16 + n75)) 1 rfl (vp_in_nI (n := 16 + n75) (by omega) (by decide)) dX12_shadowOf_92 (by rw [nI_clamp (show 16 + n75 < 2 ^ 31 by omega)]) ?_
                refine V_nmi (fun j78 e79 => ?_)
                have x80 : (-1) ≤ j78.toInt ∧ j78.toInt ≤ (((n75 : Nat) : Int) - 1) := by rw [e79]; exact ⟨INV_lo HI (by omega) (rl6 n75 (by omega)), INV_hi HI (by omega) (rl6 n75 (by omega))⟩
                refine V_istore 93 B (lv2 := [(4, .int j78), (3, .int (a32.2.1 1)), (5, .int (nI n57)), (0, .ref h0), (1, .int (nI n4)), (2, .int (nI n18))]) dX12_shadowOf_93 (by decide) rfl ?_
                refine V_goto 95 B 41 dX12_shadowOf_95 (by decide) ?_
                refine V_lv [(4, .int j78), (3, .int (a32.2.1 1)), (0, .ref h0), (1, .int (nI n4)), (2, .int (nI n18))] [0, 1, 3, 4, 5] rfl ?_
                exact IH33 (mkW [] [j78, (a32.2.1 1), (a32.2.1 2)] [] [] [] []) (show (-1) ≤ (j78 : Int32).toInt ∧ (j78 : Int32).toInt ≤ 5 by omega) (by show ((j78 : Int32).toInt + 1).toNat < _; omega))
theorem dX12_isReached_0 : decode cX12_isReached 0 = .ok (.iconst 0, 1) := by decide +kernel
theorem dX12_isReached_1 : decode cX12_isReached 1 = .ok (.istore_n 3, 1) := by decide +kernel
theorem dX12_isReached_2 : decode cX12_isReached 2 = .ok (.iload_n 3, 1) := by decide +kernel
theorem dX12_isReached_3 : decode cX12_isReached 3 = .ok (.aload_n 0, 1) := by decide +kernel
theorem dX12_isReached_4 : decode cX12_isReached 4 = .ok (.getfield 9, 3) := by decide +kernel
theorem dX12_isReached_7 : decode cX12_isReached 7 = .ok (.iconst 3, 1) := by decide +kernel
theorem dX12_isReached_8 : decode cX12_isReached 8 = .ok (.iaload, 1) := by decide +kernel
theorem dX12_isReached_9 : decode cX12_isReached 9 = .ok (.if_icmp .ge 29, 3) := by decide +kernel
theorem dX12_isReached_38 : decode cX12_isReached 38 = .ok (.iconst 0, 1) := by decide +kernel
theorem dX12_isReached_39 : decode cX12_isReached 39 = .ok (.ireturn, 1) := by decide +kernel
theorem dX12_isReached_12 : decode cX12_isReached 12 = .ok (.aload_n 0, 1) := by decide +kernel
theorem dX12_isReached_13 : decode cX12_isReached 13 = .ok (.iload_n 3, 1) := by decide +kernel
theorem dX12_isReached_14 : decode cX12_isReached 14 = .ok (.invokevirtual 96, 3) := by decide +kernel
theorem dX12_isReached_17 : decode cX12_isReached 17 = .ok (.iload_n 2, 1) := by decide +kernel
theorem dX12_isReached_18 : decode cX12_isReached 18 = .ok (.if_icmp .ne 14, 3) := by decide +kernel
theorem dX12_isReached_32 : decode cX12_isReached 32 = .ok (.iinc 3 1, 3) := by decide +kernel
theorem dX12_isReached_35 : decode cX12_isReached 35 = .ok (.goto (-33), 3) := by decide +kernel
theorem dX12_isReached_21 : decode cX12_isReached 21 = .ok (.aload_n 0, 1) := by decide +kernel
theorem dX12_isReached_22 : decode cX12_isReached 22 = .ok (.iload_n 1, 1) := by decide +kernel
theorem dX12_isReached_23 : decode cX12_isReached 23 = .ok (.iload_n 3, 1) := by decide +kernel
theorem dX12_isReached_24 : decode cX12_isReached 24 = .ok (.invokevirtual 154, 3) := by decide +kernel
theorem dX12_isReached_27 : decode cX12_isReached 27 = .ok (.ifCond .eq 5, 3) := by decide +kernel
theorem dX12_isReached_30 : decode cX12_isReached 30 = .ok (.iconst 1, 1) := by decide +kernel
theorem dX12_isReached_31 : decode cX12_isReached 31 = .ok (.ireturn, 1) := by decide +kernel
set_option maxRecDepth 100000 in
set_option maxHeartbeats 4000000 in
theorem rX12_isReached (l : Launch) (D : va_G) (Y : Nat → ClassId) (h0 : Nat) (h1 : Nat) (h2 : Nat) (h3 : Nat) (h4 : Nat) (h5 : Nat) (h6 : Nat) (p2 : Int32) (k5 : Nat) (k6 : Nat) (p7 : Int32) (p8 : Int32) (p9 : Int32) (k10 : Nat) (p11 : Int32) (q12 : Int64) (k15 : Nat) (k16 : Nat) (f0 : Nat → Int32) (f1 : Nat → Int32) (f3 : Nat → Int32) (f4 : Nat → Int32) (f13 : Nat → Int32) (f14 : Nat → Int32) (HI : INV f0) (HL : k5 ≤ 1600) (HP : PLV f13) (s0 : Int32) (s1 : Int32) (hm0 : -1 ≤ s0.toInt ∧ s0.toInt ≤ 5) (sz : Nat) : Met l yX12_isReached (WSm yX12_isReached cX12_isReached 4 (some .boolean)) (mkR 5 0 0 113) (PreC D Y [.ref h0, .int s0, .int s1] [(h0, oC 13 [.ref h1, .ref h2, .int p2, .ref h3, .ref h4, .int (nI k5), .int (nI k6), .int p7, .int p8, .int p9, .int (nI k10), .int p11, .long q12, .ref h5, .ref h6, .int (nI k15), .int (nI k16)]), (h1, aI Y 3640 f0), (h2, aZ Y 2 f1), (h3, aZ Y 80 f3), (h4, aB Y 1600 f4), (h5, aI Y 200 f13), (h6, aI Y 800 f14)] sz) (QI D (fun (r : Int32) (u : WU) => (r = 0 ∨ r = 1)) (fun (u : WU) => [(h0, oC 13 [.ref h1, .ref h2, .int p2, .ref h3, .ref h4, .int (nI k5), .int (nI k6), .int p7, .int p8, .int p9, .int (nI k10), .int p11, .long q12, .ref h5, .ref h6, .int (nI k15), .int (nI k16)]), (h1, aI Y 3640 f0), (h2, aZ Y 2 f1), (h3, aZ Y 80 f3), (h4, aB Y 1600 f4), (h5, aI Y 200 f13), (h6, aI Y 800 f14)]) (va_A [(h0, oC 13 [.ref h1, .ref h2, .int p2, .ref h3, .ref h4, .int (nI k5), .int (nI k6), .int p7, .int p8, .int p9, .int (nI k10), .int p11, .long q12, .ref h5, .ref h6, .int (nI k15), .int (nI k16)]), (h1, aI Y 3640 f0), (h2, aZ Y 2 f1), (h3, aZ Y 80 f3), (h4, aB Y 1600 f4), (h5, aI Y 200 f13), (h6, aI Y 800 f14)] sz)) 0 0 (va_A [(h0, oC 13 [.ref h1, .ref h2, .int p2, .ref h3, .ref h4, .int (nI k5), .int (nI k6), .int p7, .int p8, .int p9, .int (nI k10), .int p11, .long q12, .ref h5, .ref h6, .int (nI k15), .int (nI k16)]), (h1, aI Y 3640 f0), (h2, aZ Y 2 f1), (h3, aZ Y 80 f3), (h4, aB Y 1600 f4), (h5, aI Y 200 f13), (h6, aI Y 800 f14)] sz) :=
  met_of (by decide +kernel) (Nat.le_of_ble_eq_true rfl) (fun p e s m args below meth c B hin hsz => by
    have B : VB p s m args meth c D Y (va_A [(h0, oC 13 [.ref h1, .ref h2, .int p2, .ref h3, .ref h4, .int (nI k5), .int (nI k6), .int p7, .int p8, .int p9, .int (nI k10), .int p11, .long q12, .ref h5, .ref h6, .int (nI k15), .int (nI k16)]), (h1, aI Y 3640 f0), (h2, aZ Y 2 f1), (h3, aZ Y 80 f3), (h4, aB Y 1600 f4), (h5, aI Y 200 f13), (h6, aI Y 800 f14)] sz) cX12_isReached 4 RX12 (some .boolean) := B
    refine V_iconst 0 B (v := 0) dX12_isReached_0 (by decide +kernel) ?_
    refine V_istore_n 1 B (lv2 := [(3, .int 0), (0, .ref h0), (1, .int s0), (2, .int s1)]) dX12_isReached_1 (by decide) rfl ?_
    refine V_wloop (α := WU) (fun a => 100000 - (a.1 0)) (fun a => (a.1 0) ≤ 4000) (fun a => [(3, .int (nI (a.1 0))), (0, .ref h0), (1, .int s0), (2, .int s1)]) (fun a => [(h0, oC 13 [.ref h1, .ref h2, .int p2, .ref h3, .ref h4, .int (nI k5), .int (nI k6), .int p7, .int p8, .int p9, .int (nI k10), .int p11, .long q12, .ref h5, .ref h6, .int (nI k15), .int (nI k16)]), (h1, aI Y 3640 f0), (h2, aZ Y 2 f1), (h3, aZ Y 80 f3), (h4, aB Y 1600 f4), (h5, aI Y 200 f13), (h6, aI Y 800 f14)]) (mkW [0] [] [] [] [] []) (show 0 ≤ 4000 by omega) rfl rfl (fun a0 hI2 IH1 => ?_)
    refine V_lv [(3, .int (nI (a0.1 0))), (0, .ref h0), (1, .int s0), (2, .int s1)] [0, 1, 2, 3] rfl ?_
    refine V_ws [(h0, oC 13 [.ref h1, .ref h2, .int p2, .ref h3, .ref h4, .int (nI k5), .int (nI k6), .int p7, .int p8, .int p9, .int (nI k10), .int p11, .long q12, .ref h5, .ref h6, .int (nI k15), .int (nI k16)]), (h1, aI Y 3640 f0), (h2, aZ Y 2 f1), (h3, aZ Y 80 f3), (h4, aB Y 1600 f4), (h5, aI Y 200 f13), (h6, aI Y 800 f14)] rfl ?_
    have x3 := hI2
    refine V_iload_n 2 B dX12_isReached_2 0 rfl ?_
    refine V_aload_n 3 B dX12_isReached_3 1 rfl ?_
    refine V_get 4 B gf_RX12_9 0 rfl rfl dX12_isReached_4 ?_
    refine V_iconst 7 B (v := 3) dX12_isReached_7 (by decide +kernel) ?_
    have x4 : (gN f0 3) ≤ 80 := gN_le HI (by omega) (show bd 3 = (0, ((80 : Nat) : Int)) by decide +kernel)
    refine V_iald 8 B (v := (nI (gN f0 3))) 1 rfl (vpin _ _ (by decide +kernel)) dX12_isReached_8 (by show f0 3 = _; exact gN_eq HI (by omega) (show bd 3 = (0, ((80 : Nat) : Int)) by decide +kernel)) ?_
    refine V_icmp_ge 9 B 38 dX12_isReached_9 (by decide) (fun kk5 => ?_) (fun kk5 => ?_)
    ·
      have x6 := n_le (a := (gN f0 3)) (b := (a0.1 0)) kk5 (by omega) (by omega)
      refine V_iconst 38 B (v := 0) dX12_isReached_38 (by decide +kernel) ?_
      exact V_zret 39 B rfl dX12_isReached_39 (mkW [] [] [] [] [] []) (Or.inl rfl) rfl
    ·
      have x7 := n_nle (a := (gN f0 3)) (b := (a0.1 0)) kk5 (by omega) (by omega)
      refine V_aload_n 12 B dX12_isReached_12 1 rfl ?_
      refine V_iload_n 13 B dX12_isReached_13 0 rfl ?_
      refine V_cvi 14 B (st := []) (As := [.int (nI (a0.1 0))]) (fun sz => rX12_commandOf l D Y h0 h1 h2 h3 h4 h5 h6 p2 k5 k6 p7 p8 p9 k10 p11 q12 k15 k16 f0 f1 f3 f4 f13 f14 HI (by omega) HP (a0.1 0) (by omega) sz) glV_RX12_96 ⟨rfl, rfl⟩ ⟨(Nat.le_of_ble_eq_true rfl), (Nat.le_of_ble_eq_true rfl)⟩ ⟨(Nat.le_of_ble_eq_true rfl), (Nat.le_of_ble_eq_true rfl)⟩ [0, 0, 0, 0, 0, 0, 0] rfl 13 0 rfl rfl rfl rfl (Nat.le_of_ble_eq_true rfl) rfl (fun _ _ _ => rfl) dX12_isReached_14 (fun j8 u9 w10 => ?_)
      refine V_ws [(h0, oC 13 [.ref h1, .ref h2, .int p2, .ref h3, .ref h4, .int (nI k5), .int (nI k6), .int p7, .int p8, .int p9, .int (nI k10), .int p11, .long q12, .ref h5, .ref h6, .int (nI k15), .int (nI k16)]), (h1, aI Y 3640 f0), (h2, aZ Y 2 f1), (h3, aZ Y 80 f3), (h4, aB Y 1600 f4), (h5, aI Y 200 f13), (h6, aI Y 800 f14)] rfl ?_
      have x11 := w10
      obtain rfl := x11
      have x12 : (gN f0 (185 + 7 * (a0.1 0))) ≤ 39 := gN_le HI (by omega) (rl2 (a0.1 0) (by omega))
      refine V_iload_n 17 B dX12_isReached_17 3 rfl ?_
      refine V_icmp_ne 18 B 32 dX12_isReached_18 (by decide) (fun kk13 => ?_) (fun kk13 => ?_)
      ·
        have x14 := x_ne kk13
        rw [nI_toInt (show (gN f0 (185 + 7 * (a0.1 0))) < 2 ^ 31 by omega)] at x14
        refine V_iinc 32 B (v := (nI (1 + (a0.1 0)))) (lv2 := [(3, .int (nI (1 + (a0.1 0)))), (0, .ref h0), (1, .int s0), (2, .int s1)]) dX12_isReached_32 0 rfl (nI_addE (a := (a0.1 0)) (b := 1) (by omega)) (by decide) rfl ?_
        refine V_goto 35 B 2 dX12_isReached_35 (by decide) ?_
        refine V_lv [(3, .int (nI (1 + (a0.1 0)))), (0, .ref h0), (1, .int s0), (2, .int s1)] [0, 1, 2, 3] rfl ?_
        exact IH1 (mkW [1 + (a0.1 0)] [] [] [] [] []) (show 1 + (a0.1 0) ≤ 4000 by omega) (by show 100000 - (1 + (a0.1 0)) < 100000 - (a0.1 0); omega)
      ·
        have x15 := x_eq kk13
        rw [nI_toInt (show (gN f0 (185 + 7 * (a0.1 0))) < 2 ^ 31 by omega)] at x15
        refine V_aload_n 21 B dX12_isReached_21 1 rfl ?_
        refine V_iload_n 22 B dX12_isReached_22 2 rfl ?_
        refine V_iload_n 23 B dX12_isReached_23 0 rfl ?_
        refine V_cvi 24 B (st := []) (As := [.int s0, .int (nI (a0.1 0))]) (fun sz => rX12_isVisible l D Y h0 h1 h2 h3 h4 h5 h6 p2 k5 k6 p7 p8 p9 k10 p11 q12 k15 k16 f0 f1 f3 f4 f13 f14 HI (by omega) HP s0 (a0.1 0) (by omega) (by omega) sz) glV_RX12_154 ⟨rfl, rfl⟩ ⟨(Nat.le_of_ble_eq_true rfl), (Nat.le_of_ble_eq_true rfl)⟩ ⟨(Nat.le_of_ble_eq_true rfl), (Nat.le_of_ble_eq_true rfl)⟩ [0, 0, 0, 0, 0, 0, 0] rfl 13 0 rfl rfl rfl rfl (Nat.le_of_ble_eq_true rfl) rfl (fun _ _ _ => rfl) dX12_isReached_24 (fun j16 u17 w18 => ?_)
        refine V_ws [(h0, oC 13 [.ref h1, .ref h2, .int p2, .ref h3, .ref h4, .int (nI k5), .int (nI k6), .int p7, .int p8, .int p9, .int (nI k10), .int p11, .long q12, .ref h5, .ref h6, .int (nI k15), .int (nI k16)]), (h1, aI Y 3640 f0), (h2, aZ Y 2 f1), (h3, aZ Y 80 f3), (h4, aB Y 1600 f4), (h5, aI Y 200 f13), (h6, aI Y 800 f14)] rfl ?_
        have x19 := w18
        rcases x19 with rfl | rfl
        ·
          refine V_if_eq_t 27 B 32 dX12_isReached_27 (by decide) (by decide +kernel) ?_
          refine V_iinc 32 B (v := (nI (1 + (a0.1 0)))) (lv2 := [(3, .int (nI (1 + (a0.1 0)))), (0, .ref h0), (1, .int s0), (2, .int s1)]) dX12_isReached_32 0 rfl (nI_addE (a := (a0.1 0)) (b := 1) (by omega)) (by decide) rfl ?_
          refine V_goto 35 B 2 dX12_isReached_35 (by decide) ?_
          refine V_lv [(3, .int (nI (1 + (a0.1 0)))), (0, .ref h0), (1, .int s0), (2, .int s1)] [0, 1, 2, 3] rfl ?_
          exact IH1 (mkW [1 + (a0.1 0)] [] [] [] [] []) (show 1 + (a0.1 0) ≤ 4000 by omega) (by show 100000 - (1 + (a0.1 0)) < 100000 - (a0.1 0); omega)
        ·
          refine V_if_eq_f 27 B 32 dX12_isReached_27 (by decide) (by decide +kernel) ?_
          refine V_iconst 30 B (v := 1) dX12_isReached_30 (by decide +kernel) ?_
          exact V_zret 31 B rfl dX12_isReached_31 (mkW [] [] [] [] [] []) (Or.inr rfl) rfl)
theorem dX12_reachable_0 : decode cX12_reachable 0 = .ok (.aload_n 0, 1) := by decide +kernel
theorem dX12_reachable_1 : decode cX12_reachable 1 = .ok (.iconst 0, 1) := by decide +kernel
theorem dX12_reachable_2 : decode cX12_reachable 2 = .ok (.putfield 38, 3) := by decide +kernel
theorem dX12_reachable_5 : decode cX12_reachable 5 = .ok (.aload_n 0, 1) := by decide +kernel
theorem dX12_reachable_6 : decode cX12_reachable 6 = .ok (.aload_n 0, 1) := by decide +kernel
theorem dX12_reachable_7 : decode cX12_reachable 7 = .ok (.iload_n 1, 1) := by decide +kernel
theorem dX12_reachable_8 : decode cX12_reachable 8 = .ok (.invokevirtual 91, 3) := by decide +kernel
theorem dX12_reachable_11 : decode cX12_reachable 11 = .ok (.ifCond .ne 7, 3) := by decide +kernel
theorem dX12_reachable_14 : decode cX12_reachable 14 = .ok (.iconst 1, 1) := by decide +kernel
theorem dX12_reachable_15 : decode cX12_reachable 15 = .ok (.goto 4, 3) := by decide +kernel
theorem dX12_reachable_19 : decode cX12_reachable 19 = .ok (.iconst 1, 1) := by decide +kernel
theorem dX12_reachable_20 : decode cX12_reachable 20 = .ok (.invokevirtual 69, 3) := by decide +kernel
theorem dX12_reachable_23 : decode cX12_reachable 23 = .ok (.ifCond .eq 5, 3) := by decide +kernel
theorem dX12_reachable_26 : decode cX12_reachable 26 = .ok (.iconst 0, 1) := by decide +kernel
theorem dX12_reachable_27 : decode cX12_reachable 27 = .ok (.ireturn, 1) := by decide +kernel
theorem dX12_reachable_18 : decode cX12_reachable 18 = .ok (.iconst 0, 1) := by decide +kernel
theorem dX12_reachable_28 : decode cX12_reachable 28 = .ok (.iconst 0, 1) := by decide +kernel
theorem dX12_reachable_29 : decode cX12_reachable 29 = .ok (.istore_n 2, 1) := by decide +kernel
theorem dX12_reachable_30 : decode cX12_reachable 30 = .ok (.iconst 0, 1) := by decide +kernel
theorem dX12_reachable_31 : decode cX12_reachable 31 = .ok (.istore_n 3, 1) := by decide +kernel
theorem dX12_reachable_32 : decode cX12_reachable 32 = .ok (.iload_n 3, 1) := by decide +kernel
theorem dX12_reachable_33 : decode cX12_reachable 33 = .ok (.aload_n 0, 1) := by decide +kernel
theorem dX12_reachable_34 : decode cX12_reachable 34 = .ok (.getfield 9, 3) := by decide +kernel
theorem dX12_reachable_37 : decode cX12_reachable 37 = .ok (.iconst 1, 1) := by decide +kernel
theorem dX12_reachable_38 : decode cX12_reachable 38 = .ok (.iaload, 1) := by decide +kernel
theorem dX12_reachable_39 : decode cX12_reachable 39 = .ok (.if_icmp .ge 26, 3) := by decide +kernel
theorem dX12_reachable_65 : decode cX12_reachable 65 = .ok (.iload_n 2, 1) := by decide +kernel
theorem dX12_reachable_66 : decode cX12_reachable 66 = .ok (.ireturn, 1) := by decide +kernel
theorem dX12_reachable_42 : decode cX12_reachable 42 = .ok (.iload_n 2, 1) := by decide +kernel
theorem dX12_reachable_43 : decode cX12_reachable 43 = .ok (.aload_n 0, 1) := by decide +kernel
theorem dX12_reachable_44 : decode cX12_reachable 44 = .ok (.iload_n 1, 1) := by decide +kernel
theorem dX12_reachable_45 : decode cX12_reachable 45 = .ok (.iload_n 3, 1) := by decide +kernel
theorem dX12_reachable_46 : decode cX12_reachable 46 = .ok (.invokevirtual 169, 3) := by decide +kernel
theorem glV_RX12_169 : GLV RX12 169 yX12_isReached RX12 cX12_isReached 4 (some .boolean) 2 := ⟨⟨(mT8 212 rfl rfl), (mT8 214 rfl rfl), (mTs 58 rfl rfl), (mT1 13 rfl rfl), (mT8 215 rfl rfl)⟩, by decide +kernel⟩
theorem dX12_reachable_49 : decode cX12_reachable 49 = .ok (.ifCond .eq 7, 3) := by decide +kernel
theorem dX12_reachable_56 : decode cX12_reachable 56 = .ok (.iconst 0, 1) := by decide +kernel
theorem dX12_reachable_57 : decode cX12_reachable 57 = .ok (.iadd, 1) := by decide +kernel
theorem dX12_reachable_58 : decode cX12_reachable 58 = .ok (.istore_n 2, 1) := by decide +kernel
theorem dX12_reachable_59 : decode cX12_reachable 59 = .ok (.iinc 3 1, 3) := by decide +kernel
theorem dX12_reachable_62 : decode cX12_reachable 62 = .ok (.goto (-30), 3) := by decide +kernel
theorem dX12_reachable_52 : decode cX12_reachable 52 = .ok (.iconst 1, 1) := by decide +kernel
theorem dX12_reachable_53 : decode cX12_reachable 53 = .ok (.goto 4, 3) := by decide +kernel
set_option maxRecDepth 100000 in
set_option maxHeartbeats 4000000 in
theorem rX12_reachable (l : Launch) (D : va_G) (Y : Nat → ClassId) (h0 : Nat) (h1 : Nat) (h2 : Nat) (h3 : Nat) (h4 : Nat) (h5 : Nat) (h6 : Nat) (p2 : Int32) (k5 : Nat) (k6 : Nat) (p7 : Int32) (p8 : Int32) (p9 : Int32) (k10 : Nat) (p11 : Int32) (q12 : Int64) (k15 : Nat) (k16 : Nat) (f0 : Nat → Int32) (f1 : Nat → Int32) (f3 : Nat → Int32) (f4 : Nat → Int32) (f13 : Nat → Int32) (f14 : Nat → Int32) (HI : INV f0) (HL : k5 ≤ 1600) (HP : PLV f13) (s0 : Int32)  (sz : Nat) : Met l yX12_reachable (WSm yX12_reachable cX12_reachable 4 (some .int)) (mkR 6 0 0 136) (PreC D Y [.ref h0, .int s0] [(h0, oC 13 [.ref h1, .ref h2, .int p2, .ref h3, .ref h4, .int (nI k5), .int (nI k6), .int p7, .int p8, .int p9, .int (nI k10), .int p11, .long q12, .ref h5, .ref h6, .int (nI k15), .int (nI k16)]), (h1, aI Y 3640 f0), (h2, aZ Y 2 f1), (h3, aZ Y 80 f3), (h4, aB Y 1600 f4), (h5, aI Y 200 f13), (h6, aI Y 800 f14)] sz) (QI D (fun (r : Int32) (u : WU) => True) (fun (u : WU) => [(h0, oC 13 [.ref h1, .ref h2, .int (u.2.1 0), .ref h3, .ref h4, .int (nI k5), .int (nI k6), .int p7, .int p8, .int p9, .int (nI k10), .int p11, .long q12, .ref h5, .ref h6, .int (nI k15), .int (nI k16)]), (h1, aI Y 3640 f0), (h2, aZ Y 2 f1), (h3, aZ Y 80 f3), (h4, aB Y 1600 f4), (h5, aI Y 200 f13), (h6, aI Y 800 f14)]) (va_A [(h0, oC 13 [.ref h1, .ref h2, .int p2, .ref h3, .ref h4, .int (nI k5), .int (nI k6), .int p7, .int p8, .int p9, .int (nI k10), .int p11, .long q12, .ref h5, .ref h6, .int (nI k15), .int (nI k16)]), (h1, aI Y 3640 f0), (h2, aZ Y 2 f1), (h3, aZ Y 80 f3), (h4, aB Y 1600 f4), (h5, aI Y 200 f13), (h6, aI Y 800 f14)] sz)) 0 0 (va_A [(h0, oC 13 [.ref h1, .ref h2, .int p2, .ref h3, .ref h4, .int (nI k5), .int (nI k6), .int p7, .int p8, .int p9, .int (nI k10), .int p11, .long q12, .ref h5, .ref h6, .int (nI k15), .int (nI k16)]), (h1, aI Y 3640 f0), (h2, aZ Y 2 f1), (h3, aZ Y 80 f3), (h4, aB Y 1600 f4), (h5, aI Y 200 f13), (h6, aI Y 800 f14)] sz) :=
  met_of (by decide +kernel) (Nat.le_of_ble_eq_true rfl) (fun p e s m args below meth c B hin hsz => by
    have B : VB p s m args meth c D Y (va_A [(h0, oC 13 [.ref h1, .ref h2, .int p2, .ref h3, .ref h4, .int (nI k5), .int (nI k6), .int p7, .int p8, .int p9, .int (nI k10), .int p11, .long q12, .ref h5, .ref h6, .int (nI k15), .int (nI k16)]), (h1, aI Y 3640 f0), (h2, aZ Y 2 f1), (h3, aZ Y 80 f3), (h4, aB Y 1600 f4), (h5, aI Y 200 f13), (h6, aI Y 800 f14)] sz) cX12_reachable 4 RX12 (some .int) := B
    refine V_aload_n 0 B dX12_reachable_0 0 rfl ?_
    refine V_iconst 1 B (v := 0) dX12_reachable_1 (by decide +kernel) ?_
    refine V_put 2 B gp_RX12_38 0 rfl (Nat.le_of_ble_eq_true rfl) rfl rfl dX12_reachable_2 [(h0, oC 13 [.ref h1, .ref h2, .int 0, .ref h3, .ref h4, .int (nI k5), .int (nI k6), .int p7, .int p8, .int p9, .int (nI k10), .int p11, .long q12, .ref h5, .ref h6, .int (nI k15), .int (nI k16)]), (h1, aI Y 3640 f0), (h2, aZ Y 2 f1), (h3, aZ Y 80 f3), (h4, aB Y 1600 f4), (h5, aI Y 200 f13), (h6, aI Y 800 f14)] rfl ?_
    refine V_aload_n 5 B dX12_reachable_5 0 rfl ?_
    refine V_aload_n 6 B dX12_reachable_6 0 rfl ?_
    refine V_iload_n 7 B dX12_reachable_7 1 rfl ?_
    refine V_cvi 8 B (st := [.ref h0]) (As := [.int s0]) (fun sz => rX12_isMode l D Y h0 h1 h2 h3 h4 h5 h6 0 k5 k6 p7 p8 p9 k10 p11 q12 k15 k16 f0 f1 f3 f4 f13 f14 HI (by omega) HP s0 sz) glV_RX12_91 ⟨rfl, rfl⟩ ⟨(Nat.le_of_ble_eq_true rfl), (Nat.le_of_ble_eq_true rfl)⟩ ⟨(Nat.le_of_ble_eq_true rfl), (Nat.le_of_ble_eq_true rfl)⟩ [0, 0, 0, 0, 0, 0, 0] rfl 13 0 rfl rfl rfl rfl (Nat.le_of_ble_eq_true rfl) rfl (fun _ _ _ => rfl) dX12_reachable_8 (fun j0 u1 w2 => ?_)
    refine V_ws [(h0, oC 13 [.ref h1, .ref h2, .int 0, .ref h3, .ref h4, .int (nI k5), .int (nI k6), .int p7, .int p8, .int p9, .int (nI k10), .int p11, .long q12, .ref h5, .ref h6, .int (nI k15), .int (nI k16)]), (h1, aI Y 3640 f0), (h2, aZ Y 2 f1), (h3, aZ Y 80 f3), (h4, aB Y 1600 f4), (h5, aI Y 200 f13), (h6, aI Y 800 f14)] rfl ?_
    have x3 := w2
    have x7 : (gN f0 0) ≤ 6 := gN_le HI (by omega) (show bd 0 = (0, ((6 : Nat) : Int)) by decide +kernel)
    rcases x3 with rfl | ⟨rfl, n4, rfl, x6⟩
    ·
      refine V_if_ne_f 11 B 18 dX12_reachable_11 (by decide) (by decide +kernel) ?_
      refine V_iconst 14 B (v := 1) dX12_reachable_14 (by decide +kernel) ?_
      refine V_goto 15 B 19 dX12_reachable_15 (by decide) ?_
      refine V_iconst 19 B (v := 1) dX12_reachable_19 (by decide +kernel) ?_
      refine V_cvi 20 B (st := []) (As := [.int 1, .int 1]) (fun sz => rX12_throwsIf_1 l D Y h0 h1 h2 h3 h4 h5 h6 0 k5 k6 p7 p8 p9 k10 p11 q12 k15 k16 f0 f1 f3 f4 f13 f14 HI (by omega) HP 1 sz) glV_RX12_69 ⟨rfl, rfl⟩ ⟨(Nat.le_of_ble_eq_true rfl), (Nat.le_of_ble_eq_true rfl)⟩ ⟨(Nat.le_of_ble_eq_true rfl), (Nat.le_of_ble_eq_true rfl)⟩ [0, 0, 0, 0, 0, 0, 0] rfl 13 0 rfl rfl rfl rfl (Nat.le_of_ble_eq_true rfl) rfl (fun _ _ _ => rfl) dX12_reachable_20 (fun j8 u9 w10 => ?_)
      refine V_ws [(h0, oC 13 [.ref h1, .ref h2, .int (u9.2.1 0), .ref h3, .ref h4, .int (nI k5), .int (nI k6), .int p7, .int p8, .int p9, .int (nI k10), .int p11, .long q12, .ref h5, .ref h6, .int (nI k15), .int (nI k16)]), (h1, aI Y 3640 f0), (h2, aZ Y 2 f1), (h3, aZ Y 80 f3), (h4, aB Y 1600 f4), (h5, aI Y 200 f13), (h6, aI Y 800 f14)] rfl ?_
      have x11 := w10
      obtain rfl := x11
      refine V_if_eq_f 23 B 28 dX12_reachable_23 (by decide) (by decide +kernel) ?_
      refine V_iconst 26 B (v := 0) dX12_reachable_26 (by decide +kernel) ?_
      exact V_iret 27 B dX12_reachable_27 (mkW [] [(u9.2.1 0)] [] [] [] []) trivial rfl
    ·
      have e12 := nI_toInt (show n4 < 2 ^ 31 by omega)
      have x13 : (gN f0 0) ≤ 6 := gN_le HI (by omega) (show bd 0 = (0, ((6 : Nat) : Int)) by decide +kernel)
      refine V_if_ne_t 11 B 18 dX12_reachable_11 (by decide) (by decide +kernel) ?_
      refine V_iconst 18 B (v := 0) dX12_reachable_18 (by decide +kernel) ?_
      refine V_iconst 19 B (v := 1) dX12_reachable_19 (by decide +kernel) ?_
      refine V_cvi 20 B (st := []) (As := [.int 0, .int 1]) (fun sz => rX12_throwsIf_0 l D Y h0 h1 h2 h3 h4 h5 h6 0 k5 k6 p7 p8 p9 k10 p11 q12 k15 k16 f0 f1 f3 f4 f13 f14 HI (by omega) HP 1 sz) glV_RX12_69 ⟨rfl, rfl⟩ ⟨(Nat.le_of_ble_eq_true rfl), (Nat.le_of_ble_eq_true rfl)⟩ ⟨(Nat.le_of_ble_eq_true rfl), (Nat.le_of_ble_eq_true rfl)⟩ [0, 0, 0, 0, 0, 0, 0] rfl 13 0 rfl rfl rfl rfl (Nat.le_of_ble_eq_true rfl) rfl (fun _ _ _ => rfl) dX12_reachable_20 (fun j14 u15 w16 => ?_)
      refine V_ws [(h0, oC 13 [.ref h1, .ref h2, .int (u15.2.1 0), .ref h3, .ref h4, .int (nI k5), .int (nI k6), .int p7, .int p8, .int p9, .int (nI k10), .int p11, .long q12, .ref h5, .ref h6, .int (nI k15), .int (nI k16)]), (h1, aI Y 3640 f0), (h2, aZ Y 2 f1), (h3, aZ Y 80 f3), (h4, aB Y 1600 f4), (h5, aI Y 200 f13), (h6, aI Y 800 f14)] rfl ?_
      have x17 := w16
      obtain rfl := x17
      refine V_if_eq_t 23 B 28 dX12_reachable_23 (by decide) (by decide +kernel) ?_
      refine V_iconst 28 B (v := 0) dX12_reachable_28 (by decide +kernel) ?_
      refine V_istore_n 29 B (lv2 := [(2, .int 0), (0, .ref h0), (1, .int (nI n4))]) dX12_reachable_29 (by decide) rfl ?_
      refine V_iconst 30 B (v := 0) dX12_reachable_30 (by decide +kernel) ?_
      refine V_istore_n 31 B (lv2 := [(3, .int 0), (2, .int 0), (0, .ref h0), (1, .int (nI n4))]) dX12_reachable_31 (by decide) rfl ?_
      refine V_wloop (α := WU) (fun a => 100000 - (a.1 0)) (fun a => (a.1 0) ≤ 4000) (fun a => [(3, .int (nI (a.1 0))), (2, .int (a.2.1 0)), (0, .ref h0), (1, .int (nI n4))]) (fun a => [(h0, oC 13 [.ref h1, .ref h2, .int (a.2.1 1), .ref h3, .ref h4, .int (nI k5), .int (nI k6), .int p7, .int p8, .int p9, .int (nI k10), .int p11, .long q12, .ref h5, .ref h6, .int (nI k15), .int (nI k16)]), (h1, aI Y 3640 f0), (h2, aZ Y 2 f1), (h3, aZ Y 80 f3), (h4, aB Y 1600 f4), (h5, aI Y 200 f13), (h6, aI Y 800 f14)]) (mkW [0] [0, (u15.2.1 0)] [] [] [] []) (show 0 ≤ 4000 by omega) rfl rfl (fun a18 hI20 IH19 => ?_)
      refine V_lv [(3, .int (nI (a18.1 0))), (2, .int (a18.2.1 0)), (0, .ref h0), (1, .int (nI n4))] [0, 1, 2, 3] rfl ?_
      refine V_ws [(h0, oC 13 [.ref h1, .ref h2, .int (a18.2.1 1), .ref h3, .ref h4, .int (nI k5), .int (nI k6), .int p7, .int p8, .int p9, .int (nI k10), .int p11, .long q12, .ref h5, .ref h6, .int (nI k15), .int (nI k16)]), (h1, aI Y 3640 f0), (h2, aZ Y 2 f1), (h3, aZ Y 80 f3), (h4, aB Y 1600 f4), (h5, aI Y 200 f13), (h6, aI Y 800 f14)] rfl ?_
      have x21 := hI20
      refine V_iload_n 32 B dX12_reachable_32 0 rfl ?_
      refine V_aload_n 33 B dX12_reachable_33 2 rfl ?_
      refine V_get 34 B gf_RX12_9 0 rfl rfl dX12_reachable_34 ?_
      refine V_iconst 37 B (v := 1) dX12_reachable_37 (by decide +kernel) ?_
      have x22 : (gN f0 1) ≤ 40 := gN_le HI (by omega) (show bd 1 = (0, ((40 : Nat) : Int)) by decide +kernel)
      refine V_iald 38 B (v := (nI (gN f0 1))) 1 rfl (vpin _ _ (by decide +kernel)) dX12_reachable_38 (by show f0 1 = _; exact gN_eq HI (by omega) (show bd 1 = (0, ((40 : Nat) : Int)) by decide +kernel)) ?_
      refine V_icmp_ge 39 B 65 dX12_reachable_39 (by decide) (fun kk23 => ?_) (fun kk23 => ?_)
      ·
        have x24 := n_le (a := (gN f0 1)) (b := (a18.1 0)) kk23 (by omega) (by omega)
        refine V_iload_n 65 B dX12_reachable_65 1 rfl ?_
        exact V_iret 66 B dX12_reachable_66 (mkW [] [(a18.2.1 1)] [] [] [] []) trivial rfl
      ·
        have x25 := n_nle (a := (gN f0 1)) (b := (a18.1 0)) kk23 (by omega) (by omega)
        refine V_iload_n 42 B dX12_reachable_42 1 rfl ?_
        refine V_aload_n 43 B dX12_reachable_43 2 rfl ?_
        refine V_iload_n 44 B dX12_reachable_44 3 rfl ?_
        refine V_iload_n 45 B dX12_reachable_45 0 rfl ?_
        refine V_cvi 46 B (st := [.int (a18.2.1 0)]) (As := [.int (nI n4), .int (nI (a18.1 0))]) (fun sz => rX12_isReached l D Y h0 h1 h2 h3 h4 h5 h6 (a18.2.1 1) k5 k6 p7 p8 p9 k10 p11 q12 k15 k16 f0 f1 f3 f4 f13 f14 HI (by omega) HP (nI n4) (nI (a18.1 0)) (by rw [nI_toInt (show n4 < 2 ^ 31 by omega)]; omega) sz) glV_RX12_169 ⟨rfl, rfl⟩ ⟨(Nat.le_of_ble_eq_true rfl), (Nat.le_of_ble_eq_true rfl)⟩ ⟨(Nat.le_of_ble_eq_true rfl), (Nat.le_of_ble_eq_true rfl)⟩ [0, 0, 0, 0, 0, 0, 0] rfl 13 0 rfl rfl rfl rfl (Nat.le_of_ble_eq_true rfl) rfl (fun _ _ _ => rfl) dX12_reachable_46 (fun j26 u27 w28 => ?_)
        refine V_ws [(h0, oC 13 [.ref h1, .ref h2, .int (a18.2.1 1), .ref h3, .ref h4, .int (nI k5), .int (nI k6), .int p7, .int p8, .int p9, .int (nI k10), .int p11, .long q12, .ref h5, .ref h6, .int (nI k15), .int (nI k16)]), (h1, aI Y 3640 f0), (h2, aZ Y 2 f1), (h3, aZ Y 80 f3), (h4, aB Y 1600 f4), (h5, aI Y 200 f13), (h6, aI Y 800 f14)] rfl ?_
        have x29 := w28
        rcases x29 with rfl | rfl
        ·
          refine V_if_eq_t 49 B 56 dX12_reachable_49 (by decide) (by decide +kernel) ?_
          refine V_iconst 56 B (v := 0) dX12_reachable_56 (by decide +kernel) ?_
          refine V_iadd 57 B dX12_reachable_57 rfl ?_
          refine V_nmi (fun j30 _ => ?_)
          refine V_istore_n 58 B (lv2 := [(2, .int j30), (3, .int (nI (a18.1 0))), (0, .ref h0), (1, .int (nI n4))]) dX12_reachable_58 (by decide) rfl ?_
          refine V_iinc 59 B (v := (nI (1 + (a18.1 0)))) (lv2 := [(3, .int (nI (1 + (a18.1 0)))), (2, .int j30), (0, .ref h0), (1, .int (nI n4))]) dX12_reachable_59 1 rfl (nI_addE (a := (a18.1 0)) (b := 1) (by omega)) (by decide) rfl ?_
          refine V_goto 62 B 32 dX12_reachable_62 (by decide) ?_
          refine V_lv [(3, .int (nI (1 + (a18.1 0)))), (2, .int j30), (0, .ref h0), (1, .int (nI n4))] [0, 1, 2, 3] rfl ?_
          exact IH19 (mkW [1 + (a18.1 0)] [j30, (a18.2.1 1)] [] [] [] []) (show 1 + (a18.1 0) ≤ 4000 by omega) (by show 100000 - (1 + (a18.1 0)) < 100000 - (a18.1 0); omega)
        ·
          refine V_if_eq_f 49 B 56 dX12_reachable_49 (by decide) (by decide +kernel) ?_
          refine V_iconst 52 B (v := 1) dX12_reachable_52 (by decide +kernel) ?_
          refine V_goto 53 B 57 dX12_reachable_53 (by decide) ?_
          refine V_iadd 57 B dX12_reachable_57 rfl ?_
          refine V_nmi (fun j31 _ => ?_)
          refine V_istore_n 58 B (lv2 := [(2, .int j31), (3, .int (nI (a18.1 0))), (0, .ref h0), (1, .int (nI n4))]) dX12_reachable_58 (by decide) rfl ?_
          refine V_iinc 59 B (v := (nI (1 + (a18.1 0)))) (lv2 := [(3, .int (nI (1 + (a18.1 0)))), (2, .int j31), (0, .ref h0), (1, .int (nI n4))]) dX12_reachable_59 1 rfl (nI_addE (a := (a18.1 0)) (b := 1) (by omega)) (by decide) rfl ?_
          refine V_goto 62 B 32 dX12_reachable_62 (by decide) ?_
          refine V_lv [(3, .int (nI (1 + (a18.1 0)))), (2, .int j31), (0, .ref h0), (1, .int (nI n4))] [0, 1, 2, 3] rfl ?_
          exact IH19 (mkW [1 + (a18.1 0)] [j31, (a18.2.1 1)] [] [] [] []) (show 1 + (a18.1 0) ≤ 4000 by omega) (by show 100000 - (1 + (a18.1 0)) < 100000 - (a18.1 0); omega))
theorem dX12_unreachable_0 : decode cX12_unreachable 0 = .ok (.aload_n 0, 1) := by decide +kernel
theorem dX12_unreachable_1 : decode cX12_unreachable 1 = .ok (.iconst 0, 1) := by decide +kernel
theorem dX12_unreachable_2 : decode cX12_unreachable 2 = .ok (.putfield 38, 3) := by decide +kernel
theorem dX12_unreachable_5 : decode cX12_unreachable 5 = .ok (.iconst 0, 1) := by decide +kernel
theorem dX12_unreachable_6 : decode cX12_unreachable 6 = .ok (.istore_n 1, 1) := by decide +kernel
theorem dX12_unreachable_7 : decode cX12_unreachable 7 = .ok (.iconst 0, 1) := by decide +kernel
theorem dX12_unreachable_8 : decode cX12_unreachable 8 = .ok (.istore_n 2, 1) := by decide +kernel
theorem dX12_unreachable_9 : decode cX12_unreachable 9 = .ok (.iload_n 2, 1) := by decide +kernel
theorem dX12_unreachable_10 : decode cX12_unreachable 10 = .ok (.aload_n 0, 1) := by decide +kernel
theorem dX12_unreachable_11 : decode cX12_unreachable 11 = .ok (.getfield 9, 3) := by decide +kernel
theorem dX12_unreachable_14 : decode cX12_unreachable 14 = .ok (.iconst 1, 1) := by decide +kernel
theorem dX12_unreachable_15 : decode cX12_unreachable 15 = .ok (.iaload, 1) := by decide +kernel
theorem dX12_unreachable_16 : decode cX12_unreachable 16 = .ok (.if_icmp .ge 53, 3) := by decide +kernel
theorem dX12_unreachable_69 : decode cX12_unreachable 69 = .ok (.iload_n 1, 1) := by decide +kernel
theorem dX12_unreachable_70 : decode cX12_unreachable 70 = .ok (.ireturn, 1) := by decide +kernel
theorem dX12_unreachable_19 : decode cX12_unreachable 19 = .ok (.iconst 0, 1) := by decide +kernel
theorem dX12_unreachable_20 : decode cX12_unreachable 20 = .ok (.istore_n 3, 1) := by decide +kernel
theorem dX12_unreachable_21 : decode cX12_unreachable 21 = .ok (.iconst 0, 1) := by decide +kernel
theorem dX12_unreachable_22 : decode cX12_unreachable 22 = .ok (.istore 4, 2) := by decide +kernel
theorem dX12_unreachable_24 : decode cX12_unreachable 24 = .ok (.iload 4, 2) := by decide +kernel
theorem dX12_unreachable_26 : decode cX12_unreachable 26 = .ok (.aload_n 0, 1) := by decide +kernel
theorem dX12_unreachable_27 : decode cX12_unreachable 27 = .ok (.getfield 9, 3) := by decide +kernel
theorem dX12_unreachable_30 : decode cX12_unreachable 30 = .ok (.iconst 0, 1) := by decide +kernel
theorem dX12_unreachable_31 : decode cX12_unreachable 31 = .ok (.iaload, 1) := by decide +kernel
theorem dX12_unreachable_32 : decode cX12_unreachable 32 = .ok (.if_icmp .ge 19, 3) := by decide +kernel
theorem dX12_unreachable_51 : decode cX12_unreachable 51 = .ok (.iload_n 1, 1) := by decide +kernel
theorem dX12_unreachable_52 : decode cX12_unreachable 52 = .ok (.iload_n 3, 1) := by decide +kernel
theorem dX12_unreachable_53 : decode cX12_unreachable 53 = .ok (.ifCond .eq 7, 3) := by decide +kernel
theorem dX12_unreachable_60 : decode cX12_unreachable 60 = .ok (.iconst 1, 1) := by decide +kernel
theorem dX12_unreachable_61 : decode cX12_unreachable 61 = .ok (.iadd, 1) := by decide +kernel
theorem dX12_unreachable_62 : decode cX12_unreachable 62 = .ok (.istore_n 1, 1) := by decide +kernel
theorem dX12_unreachable_63 : decode cX12_unreachable 63 = .ok (.iinc 2 1, 3) := by decide +kernel
theorem dX12_unreachable_66 : decode cX12_unreachable 66 = .ok (.goto (-57), 3) := by decide +kernel
theorem dX12_unreachable_56 : decode cX12_unreachable 56 = .ok (.iconst 0, 1) := by decide +kernel
theorem dX12_unreachable_57 : decode cX12_unreachable 57 = .ok (.goto 4, 3) := by decide +kernel
theorem dX12_unreachable_35 : decode cX12_unreachable 35 = .ok (.iload_n 3, 1) := by decide +kernel
theorem dX12_unreachable_36 : decode cX12_unreachable 36 = .ok (.aload_n 0, 1) := by decide +kernel
theorem dX12_unreachable_37 : decode cX12_unreachable 37 = .ok (.iload 4, 2) := by decide +kernel
theorem dX12_unreachable_39 : decode cX12_unreachable 39 = .ok (.iload_n 2, 1) := by decide +kernel
theorem dX12_unreachable_40 : decode cX12_unreachable 40 = .ok (.invokevirtual 169, 3) := by decide +kernel
theorem dX12_unreachable_43 : decode cX12_unreachable 43 = .ok (.ior, 1) := by decide +kernel
theorem dX12_unreachable_44 : decode cX12_unreachable 44 = .ok (.istore_n 3, 1) := by decide +kernel
theorem dX12_unreachable_45 : decode cX12_unreachable 45 = .ok (.iinc 4 1, 3) := by decide +kernel
theorem dX12_unreachable_48 : decode cX12_unreachable 48 = .ok (.goto (-24), 3) := by decide +kernel
set_option maxRecDepth 100000 in
set_option maxHeartbeats 4000000 in
theorem rX12_unreachable (l : Launch) (D : va_G) (Y : Nat → ClassId) (h0 : Nat) (h1 : Nat) (h2 : Nat) (h3 : Nat) (h4 : Nat) (h5 : Nat) (h6 : Nat) (p2 : Int32) (k5 : Nat) (k6 : Nat) (p7 : Int32) (p8 : Int32) (p9 : Int32) (k10 : Nat) (p11 : Int32) (q12 : Int64) (k15 : Nat) (k16 : Nat) (f0 : Nat → Int32) (f1 : Nat → Int32) (f3 : Nat → Int32) (f4 : Nat → Int32) (f13 : Nat → Int32) (f14 : Nat → Int32) (HI : INV f0) (HL : k5 ≤ 1600) (HP : PLV f13)   (sz : Nat) : Met l yX12_unreachable (WSm yX12_unreachable cX12_unreachable 5 (some .int)) (mkR 6 0 0 136) (PreC D Y [.ref h0] [(h0, oC 13 [.ref h1, .ref h2, .int p2, .ref h3, .ref h4, .int (nI k5), .int (nI k6), .int p7, .int p8, .int p9, .int (nI k10), .int p11, .long q12, .ref h5, .ref h6, .int (nI k15), .int (nI k16)]), (h1, aI Y 3640 f0), (h2, aZ Y 2 f1), (h3, aZ Y 80 f3), (h4, aB Y 1600 f4), (h5, aI Y 200 f13), (h6, aI Y 800 f14)] sz) (QI D (fun (r : Int32) (u : WU) => True) (fun (u : WU) => [(h0, oC 13 [.ref h1, .ref h2, .int (u.2.1 0), .ref h3, .ref h4, .int (nI k5), .int (nI k6), .int p7, .int p8, .int p9, .int (nI k10), .int p11, .long q12, .ref h5, .ref h6, .int (nI k15), .int (nI k16)]), (h1, aI Y 3640 f0), (h2, aZ Y 2 f1), (h3, aZ Y 80 f3), (h4, aB Y 1600 f4), (h5, aI Y 200 f13), (h6, aI Y 800 f14)]) (va_A [(h0, oC 13 [.ref h1, .ref h2, .int p2, .ref h3, .ref h4, .int (nI k5), .int (nI k6), .int p7, .int p8, .int p9, .int (nI k10), .int p11, .long q12, .ref h5, .ref h6, .int (nI k15), .int (nI k16)]), (h1, aI Y 3640 f0), (h2, aZ Y 2 f1), (h3, aZ Y 80 f3), (h4, aB Y 1600 f4), (h5, aI Y 200 f13), (h6, aI Y 800 f14)] sz)) 0 0 (va_A [(h0, oC 13 [.ref h1, .ref h2, .int p2, .ref h3, .ref h4, .int (nI k5), .int (nI k6), .int p7, .int p8, .int p9, .int (nI k10), .int p11, .long q12, .ref h5, .ref h6, .int (nI k15), .int (nI k16)]), (h1, aI Y 3640 f0), (h2, aZ Y 2 f1), (h3, aZ Y 80 f3), (h4, aB Y 1600 f4), (h5, aI Y 200 f13), (h6, aI Y 800 f14)] sz) :=
  met_of (by decide +kernel) (Nat.le_of_ble_eq_true rfl) (fun p e s m args below meth c B hin hsz => by
    have B : VB p s m args meth c D Y (va_A [(h0, oC 13 [.ref h1, .ref h2, .int p2, .ref h3, .ref h4, .int (nI k5), .int (nI k6), .int p7, .int p8, .int p9, .int (nI k10), .int p11, .long q12, .ref h5, .ref h6, .int (nI k15), .int (nI k16)]), (h1, aI Y 3640 f0), (h2, aZ Y 2 f1), (h3, aZ Y 80 f3), (h4, aB Y 1600 f4), (h5, aI Y 200 f13), (h6, aI Y 800 f14)] sz) cX12_unreachable 5 RX12 (some .int) := B
    refine V_aload_n 0 B dX12_unreachable_0 0 rfl ?_
    refine V_iconst 1 B (v := 0) dX12_unreachable_1 (by decide +kernel) ?_
    refine V_put 2 B gp_RX12_38 0 rfl (Nat.le_of_ble_eq_true rfl) rfl rfl dX12_unreachable_2 [(h0, oC 13 [.ref h1, .ref h2, .int 0, .ref h3, .ref h4, .int (nI k5), .int (nI k6), .int p7, .int p8, .int p9, .int (nI k10), .int p11, .long q12, .ref h5, .ref h6, .int (nI k15), .int (nI k16)]), (h1, aI Y 3640 f0), (h2, aZ Y 2 f1), (h3, aZ Y 80 f3), (h4, aB Y 1600 f4), (h5, aI Y 200 f13), (h6, aI Y 800 f14)] rfl ?_
    refine V_iconst 5 B (v := 0) dX12_unreachable_5 (by decide +kernel) ?_
    refine V_istore_n 6 B (lv2 := [(1, .int 0), (0, .ref h0)]) dX12_unreachable_6 (by decide) rfl ?_
    refine V_iconst 7 B (v := 0) dX12_unreachable_7 (by decide +kernel) ?_
    refine V_istore_n 8 B (lv2 := [(2, .int 0), (1, .int 0), (0, .ref h0)]) dX12_unreachable_8 (by decide) rfl ?_
    refine V_wloop (α := WU) (fun a => 100000 - (a.1 0)) (fun a => (a.1 0) ≤ 4000) (fun a => [(2, .int (nI (a.1 0))), (1, .int (a.2.1 0)), (0, .ref h0)]) (fun a => [(h0, oC 13 [.ref h1, .ref h2, .int (a.2.1 1), .ref h3, .ref h4, .int (nI k5), .int (nI k6), .int p7, .int p8, .int p9, .int (nI k10), .int p11, .long q12, .ref h5, .ref h6, .int (nI k15), .int (nI k16)]), (h1, aI Y 3640 f0), (h2, aZ Y 2 f1), (h3, aZ Y 80 f3), (h4, aB Y 1600 f4), (h5, aI Y 200 f13), (h6, aI Y 800 f14)]) (mkW [0] [0, 0] [] [] [] []) (show 0 ≤ 4000 by omega) rfl rfl (fun a0 hI2 IH1 => ?_)
    refine V_lv [(2, .int (nI (a0.1 0))), (1, .int (a0.2.1 0)), (0, .ref h0)] [0, 1, 2] rfl ?_
    refine V_ws [(h0, oC 13 [.ref h1, .ref h2, .int (a0.2.1 1), .ref h3, .ref h4, .int (nI k5), .int (nI k6), .int p7, .int p8, .int p9, .int (nI k10), .int p11, .long q12, .ref h5, .ref h6, .int (nI k15), .int (nI k16)]), (h1, aI Y 3640 f0), (h2, aZ Y 2 f1), (h3, aZ Y 80 f3), (h4, aB Y 1600 f4), (h5, aI Y 200 f13), (h6, aI Y 800 f14)] rfl ?_
    have x3 := hI2
    refine V_iload_n 9 B dX12_unreachable_9 0 rfl ?_
    refine V_aload_n 10 B dX12_unreachable_10 2 rfl ?_
    refine V_get 11 B gf_RX12_9 0 rfl rfl dX12_unreachable_11 ?_
    refine V_iconst 14 B (v := 1) dX12_unreachable_14 (by decide +kernel) ?_
    have x4 : (gN f0 1) ≤ 40 := gN_le HI (by omega) (show bd 1 = (0, ((40 : Nat) : Int)) by decide +kernel)
    refine V_iald 15 B (v := (nI (gN f0 1))) 1 rfl (vpin _ _ (by decide +kernel)) dX12_unreachable_15 (by show f0 1 = _; exact gN_eq HI (by omega) (show bd 1 = (0, ((40 : Nat) : Int)) by decide +kernel)) ?_
    refine V_icmp_ge 16 B 69 dX12_unreachable_16 (by decide) (fun kk5 => ?_) (fun kk5 => ?_)
    ·
      have x6 := n_le (a := (gN f0 1)) (b := (a0.1 0)) kk5 (by omega) (by omega)
      refine V_iload_n 69 B dX12_unreachable_69 1 rfl ?_
      exact V_iret 70 B dX12_unreachable_70 (mkW [] [(a0.2.1 1)] [] [] [] []) trivial rfl
    ·
      have x7 := n_nle (a := (gN f0 1)) (b := (a0.1 0)) kk5 (by omega) (by omega)
      refine V_iconst 19 B (v := 0) dX12_unreachable_19 (by decide +kernel) ?_
      refine V_istore_n 20 B (lv2 := [(3, .int 0), (2, .int (nI (a0.1 0))), (1, .int (a0.2.1 0)), (0, .ref h0)]) dX12_unreachable_20 (by decide) rfl ?_
      refine V_iconst 21 B (v := 0) dX12_unreachable_21 (by decide +kernel) ?_
      refine V_istore 22 B (lv2 := [(4, .int 0), (3, .int 0), (2, .int (nI (a0.1 0))), (1, .int (a0.2.1 0)), (0, .ref h0)]) dX12_unreachable_22 (by decide) rfl ?_
      refine V_wloop (α := WU) (fun a => 100000 - (a.1 0)) (fun a => (a.1 0) ≤ 4000) (fun a => [(4, .int (nI (a.1 0))), (3, .int (a.2.1 0)), (2, .int (nI (a0.1 0))), (1, .int (a0.2.1 0)), (0, .ref h0)]) (fun a => [(h0, oC 13 [.ref h1, .ref h2, .int (a.2.1 1), .ref h3, .ref h4, .int (nI k5), .int (nI k6), .int p7, .int p8, .int p9, .int (nI k10), .int p11, .long q12, .ref h5, .ref h6, .int (nI k15), .int (nI k16)]), (h1, aI Y 3640 f0), (h2, aZ Y 2 f1), (h3, aZ Y 80 f3), (h4, aB Y 1600 f4), (h5, aI Y 200 f13), (h6, aI Y 800 f14)]) (mkW [0] [0, (a0.2.1 1)] [] [] [] []) (show 0 ≤ 4000 by omega) rfl rfl (fun a8 hI10 IH9 => ?_)
      refine V_lv [(4, .int (nI (a8.1 0))), (3, .int (a8.2.1 0)), (2, .int (nI (a0.1 0))), (1, .int (a0.2.1 0)), (0, .ref h0)] [0, 1, 2, 3, 4] rfl ?_
      refine V_ws [(h0, oC 13 [.ref h1, .ref h2, .int (a8.2.1 1), .ref h3, .ref h4, .int (nI k5), .int (nI k6), .int p7, .int p8, .int p9, .int (nI k10), .int p11, .long q12, .ref h5, .ref h6, .int (nI k15), .int (nI k16)]), (h1, aI Y 3640 f0), (h2, aZ Y 2 f1), (h3, aZ Y 80 f3), (h4, aB Y 1600 f4), (h5, aI Y 200 f13), (h6, aI Y 800 f14)] rfl ?_
      have x11 := hI10
      refine V_iload 24 B dX12_unreachable_24 0 rfl ?_
      refine V_aload_n 26 B dX12_unreachable_26 4 rfl ?_
      refine V_get 27 B gf_RX12_9 0 rfl rfl dX12_unreachable_27 ?_
      refine V_iconst 30 B (v := 0) dX12_unreachable_30 (by decide +kernel) ?_
      have x12 : (gN f0 0) ≤ 6 := gN_le HI (by omega) (show bd 0 = (0, ((6 : Nat) : Int)) by decide +kernel)
      refine V_iald 31 B (v := (nI (gN f0 0))) 1 rfl (vpin _ _ (by decide +kernel)) dX12_unreachable_31 (by show f0 0 = _; exact gN_eq HI (by omega) (show bd 0 = (0, ((6 : Nat) : Int)) by decide +kernel)) ?_
      refine V_icmp_ge 32 B 51 dX12_unreachable_32 (by decide) (fun kk13 => ?_) (fun kk13 => ?_)
      ·
        have x14 := n_le (a := (gN f0 0)) (b := (a8.1 0)) kk13 (by omega) (by omega)
        refine V_iload_n 51 B dX12_unreachable_51 3 rfl ?_
        refine V_iload_n 52 B dX12_unreachable_52 1 rfl ?_
        refine V_if_eq 53 B 60 dX12_unreachable_53 (by decide) (fun kk15 => ?_) (fun kk15 => ?_)
        ·
          have x16 := x_eq kk15
          rw [show (0 : Int32).toInt = 0 by decide +kernel] at x16
          refine V_iconst 60 B (v := 1) dX12_unreachable_60 (by decide +kernel) ?_
          refine V_iadd 61 B dX12_unreachable_61 rfl ?_
          refine V_nmi (fun j17 _ => ?_)
          refine V_istore_n 62 B (lv2 := [(1, .int j17), (4, .int (nI (a8.1 0))), (3, .int (a8.2.1 0)), (2, .int (nI (a0.1 0))), (0, .ref h0)]) dX12_unreachable_62 (by decide) rfl ?_
          refine V_iinc 63 B (v := (nI (1 + (a0.1 0)))) (lv2 := [(2, .int (nI (1 + (a0.1 0)))), (1, .int j17), (4, .int (nI (a8.1 0))), (3, .int (a8.2.1 0)), (0, .ref h0)]) dX12_unreachable_63 3 rfl (nI_addE (a := (a0.1 0)) (b := 1) (by omega)) (by decide) rfl ?_
          refine V_goto 66 B 9 dX12_unreachable_66 (by decide) ?_
          refine V_lv [(2, .int (nI (1 + (a0.1 0)))), (1, .int j17), (0, .ref h0)] [0, 1, 4] rfl ?_
          exact IH1 (mkW [1 + (a0.1 0)] [j17, (a8.2.1 1)] [] [] [] []) (show 1 + (a0.1 0) ≤ 4000 by omega) (by show 100000 - (1 + (a0.1 0)) < 100000 - (a0.1 0); omega)
        ·
          have x18 := x_ne kk15
          rw [show (0 : Int32).toInt = 0 by decide +kernel] at x18
          refine V_iconst 56 B (v := 0) dX12_unreachable_56 (by decide +kernel) ?_
          refine V_goto 57 B 61 dX12_unreachable_57 (by decide) ?_
          refine V_iadd 61 B dX12_unreachable_61 rfl ?_
          refine V_nmi (fun j19 _ => ?_)
          refine V_istore_n 62 B (lv2 := [(1, .int j19), (4, .int (nI (a8.1 0))), (3, .int (a8.2.1 0)), (2, .int (nI (a0.1 0))), (0, .ref h0)]) dX12_unreachable_62 (by decide) rfl ?_
          refine V_iinc 63 B (v := (nI (1 + (a0.1 0)))) (lv2 := [(2, .int (nI (1 + (a0.1 0)))), (1, .int j19), (4, .int (nI (a8.1 0))), (3, .int (a8.2.1 0)), (0, .ref h0)]) dX12_unreachable_63 3 rfl (nI_addE (a := (a0.1 0)) (b := 1) (by omega)) (by decide) rfl ?_
          refine V_goto 66 B 9 dX12_unreachable_66 (by decide) ?_
          refine V_lv [(2, .int (nI (1 + (a0.1 0)))), (1, .int j19), (0, .ref h0)] [0, 1, 4] rfl ?_
          exact IH1 (mkW [1 + (a0.1 0)] [j19, (a8.2.1 1)] [] [] [] []) (show 1 + (a0.1 0) ≤ 4000 by omega) (by show 100000 - (1 + (a0.1 0)) < 100000 - (a0.1 0); omega)
      ·
        have x20 := n_nle (a := (gN f0 0)) (b := (a8.1 0)) kk13 (by omega) (by omega)
        refine V_iload_n 35 B dX12_unreachable_35 1 rfl ?_
        refine V_aload_n 36 B dX12_unreachable_36 4 rfl ?_
        refine V_iload 37 B dX12_unreachable_37 0 rfl ?_
        refine V_iload_n 39 B dX12_unreachable_39 2 rfl ?_
        refine V_cvi 40 B (st := [.int (a8.2.1 0)]) (As := [.int (nI (a8.1 0)), .int (nI (a0.1 0))]) (fun sz => rX12_isReached l D Y h0 h1 h2 h3 h4 h5 h6 (a8.2.1 1) k5 k6 p7 p8 p9 k10 p11 q12 k15 k16 f0 f1 f3 f4 f13 f14 HI (by omega) HP (nI (a8.1 0)) (nI (a0.1 0)) (by rw [nI_toInt (show (a8.1 0) < 2 ^ 31 by omega)]; omega) sz) glV_RX12_169 ⟨rfl, rfl⟩ ⟨(Nat.le_of_ble_eq_true rfl), (Nat.le_of_ble_eq_true rfl)⟩ ⟨(Nat.le_of_ble_eq_true rfl), (Nat.le_of_ble_eq_true rfl)⟩ [0, 0, 0, 0, 0, 0, 0] rfl 13 0 rfl rfl rfl rfl (Nat.le_of_ble_eq_true rfl) rfl (fun _ _ _ => rfl) dX12_unreachable_40 (fun j21 u22 w23 => ?_)
        refine V_ws [(h0, oC 13 [.ref h1, .ref h2, .int (a8.2.1 1), .ref h3, .ref h4, .int (nI k5), .int (nI k6), .int p7, .int p8, .int p9, .int (nI k10), .int p11, .long q12, .ref h5, .ref h6, .int (nI k15), .int (nI k16)]), (h1, aI Y 3640 f0), (h2, aZ Y 2 f1), (h3, aZ Y 80 f3), (h4, aB Y 1600 f4), (h5, aI Y 200 f13), (h6, aI Y 800 f14)] rfl ?_
        have x24 := w23
        rcases x24 with rfl | rfl
        ·
          refine V_ior 43 B dX12_unreachable_43 rfl ?_
          refine V_nmi (fun j25 _ => ?_)
          refine V_istore_n 44 B (lv2 := [(3, .int j25), (4, .int (nI (a8.1 0))), (2, .int (nI (a0.1 0))), (1, .int (a0.2.1 0)), (0, .ref h0)]) dX12_unreachable_44 (by decide) rfl ?_
          refine V_iinc 45 B (v := (nI (1 + (a8.1 0)))) (lv2 := [(4, .int (nI (1 + (a8.1 0)))), (3, .int j25), (2, .int (nI (a0.1 0))), (1, .int (a0.2.1 0)), (0, .ref h0)]) dX12_unreachable_45 1 rfl (nI_addE (a := (a8.1 0)) (b := 1) (by omega)) (by decide) rfl ?_
          refine V_goto 48 B 24 dX12_unreachable_48 (by decide) ?_
          refine V_lv [(4, .int (nI (1 + (a8.1 0)))), (3, .int j25), (2, .int (nI (a0.1 0))), (1, .int (a0.2.1 0)), (0, .ref h0)] [0, 1, 2, 3, 4] rfl ?_
          exact IH9 (mkW [1 + (a8.1 0)] [j25, (a8.2.1 1)] [] [] [] []) (show 1 + (a8.1 0) ≤ 4000 by omega) (by show 100000 - (1 + (a8.1 0)) < 100000 - (a8.1 0); omega)
        ·
          refine V_ior 43 B dX12_unreachable_43 rfl ?_
          refine V_nmi (fun j26 _ => ?_)
          refine V_istore_n 44 B (lv2 := [(3, .int j26), (4, .int (nI (a8.1 0))), (2, .int (nI (a0.1 0))), (1, .int (a0.2.1 0)), (0, .ref h0)]) dX12_unreachable_44 (by decide) rfl ?_
          refine V_iinc 45 B (v := (nI (1 + (a8.1 0)))) (lv2 := [(4, .int (nI (1 + (a8.1 0)))), (3, .int j26), (2, .int (nI (a0.1 0))), (1, .int (a0.2.1 0)), (0, .ref h0)]) dX12_unreachable_45 1 rfl (nI_addE (a := (a8.1 0)) (b := 1) (by omega)) (by decide) rfl ?_
          refine V_goto 48 B 24 dX12_unreachable_48 (by decide) ?_
          refine V_lv [(4, .int (nI (1 + (a8.1 0)))), (3, .int j26), (2, .int (nI (a0.1 0))), (1, .int (a0.2.1 0)), (0, .ref h0)] [0, 1, 2, 3, 4] rfl ?_
          exact IH9 (mkW [1 + (a8.1 0)] [j26, (a8.2.1 1)] [] [] [] []) (show 1 + (a8.1 0) ≤ 4000 by omega) (by show 100000 - (1 + (a8.1 0)) < 100000 - (a8.1 0); omega))
theorem dX12_prefixes_0 : decode cX12_prefixes 0 = .ok (.aload_n 0, 1) := by decide +kernel
theorem dX12_prefixes_1 : decode cX12_prefixes 1 = .ok (.iconst 0, 1) := by decide +kernel
theorem dX12_prefixes_2 : decode cX12_prefixes 2 = .ok (.putfield 38, 3) := by decide +kernel
theorem dX12_prefixes_5 : decode cX12_prefixes 5 = .ok (.aload_n 0, 1) := by decide +kernel
theorem dX12_prefixes_6 : decode cX12_prefixes 6 = .ok (.aload_n 0, 1) := by decide +kernel
theorem dX12_prefixes_7 : decode cX12_prefixes 7 = .ok (.iload_n 1, 1) := by decide +kernel
theorem dX12_prefixes_8 : decode cX12_prefixes 8 = .ok (.invokevirtual 91, 3) := by decide +kernel
theorem dX12_prefixes_11 : decode cX12_prefixes 11 = .ok (.ifCond .ne 7, 3) := by decide +kernel
theorem dX12_prefixes_14 : decode cX12_prefixes 14 = .ok (.iconst 1, 1) := by decide +kernel
theorem dX12_prefixes_15 : decode cX12_prefixes 15 = .ok (.goto 4, 3) := by decide +kernel
theorem dX12_prefixes_19 : decode cX12_prefixes 19 = .ok (.iconst 1, 1) := by decide +kernel
theorem dX12_prefixes_20 : decode cX12_prefixes 20 = .ok (.invokevirtual 69, 3) := by decide +kernel
theorem dX12_prefixes_23 : decode cX12_prefixes 23 = .ok (.ifCond .eq 5, 3) := by decide +kernel
theorem dX12_prefixes_26 : decode cX12_prefixes 26 = .ok (.iconst 0, 1) := by decide +kernel
theorem dX12_prefixes_27 : decode cX12_prefixes 27 = .ok (.ireturn, 1) := by decide +kernel
theorem dX12_prefixes_18 : decode cX12_prefixes 18 = .ok (.iconst 0, 1) := by decide +kernel
theorem dX12_prefixes_28 : decode cX12_prefixes 28 = .ok (.iconst 0, 1) := by decide +kernel
theorem dX12_prefixes_29 : decode cX12_prefixes 29 = .ok (.istore_n 2, 1) := by decide +kernel
theorem dX12_prefixes_30 : decode cX12_prefixes 30 = .ok (.iconst 0, 1) := by decide +kernel
theorem dX12_prefixes_31 : decode cX12_prefixes 31 = .ok (.istore_n 3, 1) := by decide +kernel
theorem dX12_prefixes_32 : decode cX12_prefixes 32 = .ok (.iload_n 3, 1) := by decide +kernel
theorem dX12_prefixes_33 : decode cX12_prefixes 33 = .ok (.aload_n 0, 1) := by decide +kernel
theorem dX12_prefixes_34 : decode cX12_prefixes 34 = .ok (.getfield 9, 3) := by decide +kernel
theorem dX12_prefixes_37 : decode cX12_prefixes 37 = .ok (.iconst 3, 1) := by decide +kernel
theorem dX12_prefixes_38 : decode cX12_prefixes 38 = .ok (.iaload, 1) := by decide +kernel
theorem dX12_prefixes_39 : decode cX12_prefixes 39 = .ok (.if_icmp .ge 102, 3) := by decide +kernel
theorem dX12_prefixes_141 : decode cX12_prefixes 141 = .ok (.iload_n 2, 1) := by decide +kernel
theorem dX12_prefixes_142 : decode cX12_prefixes 142 = .ok (.ireturn, 1) := by decide +kernel
theorem dX12_prefixes_42 : decode cX12_prefixes 42 = .ok (.aload_n 0, 1) := by decide +kernel
theorem dX12_prefixes_43 : decode cX12_prefixes 43 = .ok (.iload_n 1, 1) := by decide +kernel
theorem dX12_prefixes_44 : decode cX12_prefixes 44 = .ok (.iload_n 3, 1) := by decide +kernel
theorem dX12_prefixes_45 : decode cX12_prefixes 45 = .ok (.invokevirtual 154, 3) := by decide +kernel
theorem dX12_prefixes_48 : decode cX12_prefixes 48 = .ok (.ifCond .ne 6, 3) := by decide +kernel
theorem dX12_prefixes_51 : decode cX12_prefixes 51 = .ok (.goto 84, 3) := by decide +kernel
theorem dX12_prefixes_135 : decode cX12_prefixes 135 = .ok (.iinc 3 1, 3) := by decide +kernel
theorem dX12_prefixes_138 : decode cX12_prefixes 138 = .ok (.goto (-106), 3) := by decide +kernel
theorem dX12_prefixes_54 : decode cX12_prefixes 54 = .ok (.iconst 0, 1) := by decide +kernel
theorem dX12_prefixes_55 : decode cX12_prefixes 55 = .ok (.istore 4, 2) := by decide +kernel
theorem dX12_prefixes_57 : decode cX12_prefixes 57 = .ok (.iconst 0, 1) := by decide +kernel
theorem dX12_prefixes_58 : decode cX12_prefixes 58 = .ok (.istore 5, 2) := by decide +kernel
theorem dX12_prefixes_60 : decode cX12_prefixes 60 = .ok (.iload 5, 2) := by decide +kernel
theorem dX12_prefixes_62 : decode cX12_prefixes 62 = .ok (.iload_n 3, 1) := by decide +kernel
theorem dX12_prefixes_63 : decode cX12_prefixes 63 = .ok (.if_icmp .ge 57, 3) := by decide +kernel
theorem dX12_prefixes_120 : decode cX12_prefixes 120 = .ok (.iload_n 2, 1) := by decide +kernel
theorem dX12_prefixes_121 : decode cX12_prefixes 121 = .ok (.aload_n 0, 1) := by decide +kernel
theorem dX12_prefixes_122 : decode cX12_prefixes 122 = .ok (.getfield 9, 3) := by decide +kernel
theorem dX12_prefixes_125 : decode cX12_prefixes 125 = .ok (.iload_n 3, 1) := by decide +kernel
theorem dX12_prefixes_126 : decode cX12_prefixes 126 = .ok (.invokestatic 85, 3) := by decide +kernel
theorem dX12_prefixes_129 : decode cX12_prefixes 129 = .ok (.iaload, 1) := by decide +kernel
theorem rl12 : ∀ z0, z0 < 80 → bd (186 + 7 * z0) = (0, ((4 : Nat) : Int)) := by decide +kernel
theorem dX12_prefixes_130 : decode cX12_prefixes 130 = .ok (.iload 4, 2) := by decide +kernel
theorem dX12_prefixes_132 : decode cX12_prefixes 132 = .ok (.isub, 1) := by decide +kernel
theorem dX12_prefixes_133 : decode cX12_prefixes 133 = .ok (.iadd, 1) := by decide +kernel
theorem dX12_prefixes_134 : decode cX12_prefixes 134 = .ok (.istore_n 2, 1) := by decide +kernel
theorem dX12_prefixes_66 : decode cX12_prefixes 66 = .ok (.aload_n 0, 1) := by decide +kernel
theorem dX12_prefixes_67 : decode cX12_prefixes 67 = .ok (.iload_n 1, 1) := by decide +kernel
theorem dX12_prefixes_68 : decode cX12_prefixes 68 = .ok (.iload 5, 2) := by decide +kernel
theorem dX12_prefixes_70 : decode cX12_prefixes 70 = .ok (.invokevirtual 154, 3) := by decide +kernel
theorem dX12_prefixes_73 : decode cX12_prefixes 73 = .ok (.ifCond .eq 41, 3) := by decide +kernel
theorem dX12_prefixes_114 : decode cX12_prefixes 114 = .ok (.iinc 5 1, 3) := by decide +kernel
theorem dX12_prefixes_117 : decode cX12_prefixes 117 = .ok (.goto (-57), 3) := by decide +kernel
theorem dX12_prefixes_76 : decode cX12_prefixes 76 = .ok (.iload 4, 2) := by decide +kernel
theorem dX12_prefixes_78 : decode cX12_prefixes 78 = .ok (.aload_n 0, 1) := by decide +kernel
theorem dX12_prefixes_79 : decode cX12_prefixes 79 = .ok (.iload 5, 2) := by decide +kernel
theorem dX12_prefixes_81 : decode cX12_prefixes 81 = .ok (.invokestatic 85, 3) := by decide +kernel
theorem dX12_prefixes_84 : decode cX12_prefixes 84 = .ok (.iload_n 3, 1) := by decide +kernel
theorem dX12_prefixes_85 : decode cX12_prefixes 85 = .ok (.invokestatic 85, 3) := by decide +kernel
theorem dX12_prefixes_88 : decode cX12_prefixes 88 = .ok (.invokevirtual 62, 3) := by decide +kernel
theorem rl13 : ∀ z0, z0 < 79 → SQ (186 + 7 * z0) := by unfold SQ; decide +kernel
theorem dX12_prefixes_91 : decode cX12_prefixes 91 = .ok (.if_icmp .ge 19, 3) := by decide +kernel
theorem dX12_prefixes_110 : decode cX12_prefixes 110 = .ok (.iload 4, 2) := by decide +kernel
theorem dX12_prefixes_112 : decode cX12_prefixes 112 = .ok (.istore 4, 2) := by decide +kernel
theorem dX12_prefixes_94 : decode cX12_prefixes 94 = .ok (.aload_n 0, 1) := by decide +kernel
theorem dX12_prefixes_95 : decode cX12_prefixes 95 = .ok (.iload 5, 2) := by decide +kernel
theorem dX12_prefixes_97 : decode cX12_prefixes 97 = .ok (.invokestatic 85, 3) := by decide +kernel
theorem dX12_prefixes_100 : decode cX12_prefixes 100 = .ok (.iload_n 3, 1) := by decide +kernel
theorem dX12_prefixes_101 : decode cX12_prefixes 101 = .ok (.invokestatic 85, 3) := by decide +kernel
theorem dX12_prefixes_104 : decode cX12_prefixes 104 = .ok (.invokevirtual 62, 3) := by decide +kernel
theorem dX12_prefixes_107 : decode cX12_prefixes 107 = .ok (.goto 5, 3) := by decide +kernel
set_option maxRecDepth 100000 in
set_option maxHeartbeats 4000000 in
theorem rX12_prefixes (l : Launch) (D : va_G) (Y : Nat → ClassId) (h0 : Nat) (h1 : Nat) (h2 : Nat) (h3 : Nat) (h4 : Nat) (h5 : Nat) (h6 : Nat) (p2 : Int32) (k5 : Nat) (k6 : Nat) (p7 : Int32) (p8 : Int32) (p9 : Int32) (k10 : Nat) (p11 : Int32) (q12 : Int64) (k15 : Nat) (k16 : Nat) (f0 : Nat → Int32) (f1 : Nat → Int32) (f3 : Nat → Int32) (f4 : Nat → Int32) (f13 : Nat → Int32) (f14 : Nat → Int32) (HI : INV f0) (HL : k5 ≤ 1600) (HP : PLV f13) (s0 : Int32)  (sz : Nat) : Met l yX12_prefixes (WSm yX12_prefixes cX12_prefixes 6 (some .int)) (mkR 5 0 0 113) (PreC D Y [.ref h0, .int s0] [(h0, oC 13 [.ref h1, .ref h2, .int p2, .ref h3, .ref h4, .int (nI k5), .int (nI k6), .int p7, .int p8, .int p9, .int (nI k10), .int p11, .long q12, .ref h5, .ref h6, .int (nI k15), .int (nI k16)]), (h1, aI Y 3640 f0), (h2, aZ Y 2 f1), (h3, aZ Y 80 f3), (h4, aB Y 1600 f4), (h5, aI Y 200 f13), (h6, aI Y 800 f14)] sz) (QI D (fun (r : Int32) (u : WU) => True) (fun (u : WU) => [(h0, oC 13 [.ref h1, .ref h2, .int (u.2.1 0), .ref h3, .ref h4, .int (nI k5), .int (nI k6), .int p7, .int p8, .int p9, .int (nI k10), .int p11, .long q12, .ref h5, .ref h6, .int (nI k15), .int (nI k16)]), (h1, aI Y 3640 f0), (h2, aZ Y 2 f1), (h3, aZ Y 80 f3), (h4, aB Y 1600 f4), (h5, aI Y 200 f13), (h6, aI Y 800 f14)]) (va_A [(h0, oC 13 [.ref h1, .ref h2, .int p2, .ref h3, .ref h4, .int (nI k5), .int (nI k6), .int p7, .int p8, .int p9, .int (nI k10), .int p11, .long q12, .ref h5, .ref h6, .int (nI k15), .int (nI k16)]), (h1, aI Y 3640 f0), (h2, aZ Y 2 f1), (h3, aZ Y 80 f3), (h4, aB Y 1600 f4), (h5, aI Y 200 f13), (h6, aI Y 800 f14)] sz)) 0 0 (va_A [(h0, oC 13 [.ref h1, .ref h2, .int p2, .ref h3, .ref h4, .int (nI k5), .int (nI k6), .int p7, .int p8, .int p9, .int (nI k10), .int p11, .long q12, .ref h5, .ref h6, .int (nI k15), .int (nI k16)]), (h1, aI Y 3640 f0), (h2, aZ Y 2 f1), (h3, aZ Y 80 f3), (h4, aB Y 1600 f4), (h5, aI Y 200 f13), (h6, aI Y 800 f14)] sz) :=
  met_of (by decide +kernel) (Nat.le_of_ble_eq_true rfl) (fun p e s m args below meth c B hin hsz => by
    have B : VB p s m args meth c D Y (va_A [(h0, oC 13 [.ref h1, .ref h2, .int p2, .ref h3, .ref h4, .int (nI k5), .int (nI k6), .int p7, .int p8, .int p9, .int (nI k10), .int p11, .long q12, .ref h5, .ref h6, .int (nI k15), .int (nI k16)]), (h1, aI Y 3640 f0), (h2, aZ Y 2 f1), (h3, aZ Y 80 f3), (h4, aB Y 1600 f4), (h5, aI Y 200 f13), (h6, aI Y 800 f14)] sz) cX12_prefixes 6 RX12 (some .int) := B
    refine V_aload_n 0 B dX12_prefixes_0 0 rfl ?_
    refine V_iconst 1 B (v := 0) dX12_prefixes_1 (by decide +kernel) ?_
    refine V_put 2 B gp_RX12_38 0 rfl (Nat.le_of_ble_eq_true rfl) rfl rfl dX12_prefixes_2 [(h0, oC 13 [.ref h1, .ref h2, .int 0, .ref h3, .ref h4, .int (nI k5), .int (nI k6), .int p7, .int p8, .int p9, .int (nI k10), .int p11, .long q12, .ref h5, .ref h6, .int (nI k15), .int (nI k16)]), (h1, aI Y 3640 f0), (h2, aZ Y 2 f1), (h3, aZ Y 80 f3), (h4, aB Y 1600 f4), (h5, aI Y 200 f13), (h6, aI Y 800 f14)] rfl ?_
    refine V_aload_n 5 B dX12_prefixes_5 0 rfl ?_
    refine V_aload_n 6 B dX12_prefixes_6 0 rfl ?_
    refine V_iload_n 7 B dX12_prefixes_7 1 rfl ?_
    refine V_cvi 8 B (st := [.ref h0]) (As := [.int s0]) (fun sz => rX12_isMode l D Y h0 h1 h2 h3 h4 h5 h6 0 k5 k6 p7 p8 p9 k10 p11 q12 k15 k16 f0 f1 f3 f4 f13 f14 HI (by omega) HP s0 sz) glV_RX12_91 ⟨rfl, rfl⟩ ⟨(Nat.le_of_ble_eq_true rfl), (Nat.le_of_ble_eq_true rfl)⟩ ⟨(Nat.le_of_ble_eq_true rfl), (Nat.le_of_ble_eq_true rfl)⟩ [0, 0, 0, 0, 0, 0, 0] rfl 13 0 rfl rfl rfl rfl (Nat.le_of_ble_eq_true rfl) rfl (fun _ _ _ => rfl) dX12_prefixes_8 (fun j0 u1 w2 => ?_)
    refine V_ws [(h0, oC 13 [.ref h1, .ref h2, .int 0, .ref h3, .ref h4, .int (nI k5), .int (nI k6), .int p7, .int p8, .int p9, .int (nI k10), .int p11, .long q12, .ref h5, .ref h6, .int (nI k15), .int (nI k16)]), (h1, aI Y 3640 f0), (h2, aZ Y 2 f1), (h3, aZ Y 80 f3), (h4, aB Y 1600 f4), (h5, aI Y 200 f13), (h6, aI Y 800 f14)] rfl ?_
    have x3 := w2
    have x7 : (gN f0 0) ≤ 6 := gN_le HI (by omega) (show bd 0 = (0, ((6 : Nat) : Int)) by decide +kernel)
    rcases x3 with rfl | ⟨rfl, n4, rfl, x6⟩
    ·
      refine V_if_ne_f 11 B 18 dX12_prefixes_11 (by decide) (by decide +kernel) ?_
      refine V_iconst 14 B (v := 1) dX12_prefixes_14 (by decide +kernel) ?_
      refine V_goto 15 B 19 dX12_prefixes_15 (by decide) ?_
      refine V_iconst 19 B (v := 1) dX12_prefixes_19 (by decide +kernel) ?_
      refine V_cvi 20 B (st := []) (As := [.int 1, .int 1]) (fun sz => rX12_throwsIf_1 l D Y h0 h1 h2 h3 h4 h5 h6 0 k5 k6 p7 p8 p9 k10 p11 q12 k15 k16 f0 f1 f3 f4 f13 f14 HI (by omega) HP 1 sz) glV_RX12_69 ⟨rfl, rfl⟩ ⟨(Nat.le_of_ble_eq_true rfl), (Nat.le_of_ble_eq_true rfl)⟩ ⟨(Nat.le_of_ble_eq_true rfl), (Nat.le_of_ble_eq_true rfl)⟩ [0, 0, 0, 0, 0, 0, 0] rfl 13 0 rfl rfl rfl rfl (Nat.le_of_ble_eq_true rfl) rfl (fun _ _ _ => rfl) dX12_prefixes_20 (fun j8 u9 w10 => ?_)
      refine V_ws [(h0, oC 13 [.ref h1, .ref h2, .int (u9.2.1 0), .ref h3, .ref h4, .int (nI k5), .int (nI k6), .int p7, .int p8, .int p9, .int (nI k10), .int p11, .long q12, .ref h5, .ref h6, .int (nI k15), .int (nI k16)]), (h1, aI Y 3640 f0), (h2, aZ Y 2 f1), (h3, aZ Y 80 f3), (h4, aB Y 1600 f4), (h5, aI Y 200 f13), (h6, aI Y 800 f14)] rfl ?_
      have x11 := w10
      obtain rfl := x11
      refine V_if_eq_f 23 B 28 dX12_prefixes_23 (by decide) (by decide +kernel) ?_
      refine V_iconst 26 B (v := 0) dX12_prefixes_26 (by decide +kernel) ?_
      exact V_iret 27 B dX12_prefixes_27 (mkW [] [(u9.2.1 0)] [] [] [] []) trivial rfl
    ·
      have e12 := nI_toInt (show n4 < 2 ^ 31 by omega)
      have x13 : (gN f0 0) ≤ 6 := gN_le HI (by omega) (show bd 0 = (0, ((6 : Nat) : Int)) by decide +kernel)
      refine V_if_ne_t 11 B 18 dX12_prefixes_11 (by decide) (by decide +kernel) ?_
      refine V_iconst 18 B (v := 0) dX12_prefixes_18 (by decide +kernel) ?_
      refine V_iconst 19 B (v := 1) dX12_prefixes_19 (by decide +kernel) ?_
      refine V_cvi 20 B (st := []) (As := [.int 0, .int 1]) (fun sz => rX12_throwsIf_0 l D Y h0 h1 h2 h3 h4 h5 h6 0 k5 k6 p7 p8 p9 k10 p11 q12 k15 k16 f0 f1 f3 f4 f13 f14 HI (by omega) HP 1 sz) glV_RX12_69 ⟨rfl, rfl⟩ ⟨(Nat.le_of_ble_eq_true rfl), (Nat.le_of_ble_eq_true rfl)⟩ ⟨(Nat.le_of_ble_eq_true rfl), (Nat.le_of_ble_eq_true rfl)⟩ [0, 0, 0, 0, 0, 0, 0] rfl 13 0 rfl rfl rfl rfl (Nat.le_of_ble_eq_true rfl) rfl (fun _ _ _ => rfl) dX12_prefixes_20 (fun j14 u15 w16 => ?_)
      refine V_ws [(h0, oC 13 [.ref h1, .ref h2, .int (u15.2.1 0), .ref h3, .ref h4, .int (nI k5), .int (nI k6), .int p7, .int p8, .int p9, .int (nI k10), .int p11, .long q12, .ref h5, .ref h6, .int (nI k15), .int (nI k16)]), (h1, aI Y 3640 f0), (h2, aZ Y 2 f1), (h3, aZ Y 80 f3), (h4, aB Y 1600 f4), (h5, aI Y 200 f13), (h6, aI Y 800 f14)] rfl ?_
      have x17 := w16
      obtain rfl := x17
      refine V_if_eq_t 23 B 28 dX12_prefixes_23 (by decide) (by decide +kernel) ?_
      refine V_iconst 28 B (v := 0) dX12_prefixes_28 (by decide +kernel) ?_
      refine V_istore_n 29 B (lv2 := [(2, .int 0), (0, .ref h0), (1, .int (nI n4))]) dX12_prefixes_29 (by decide) rfl ?_
      refine V_iconst 30 B (v := 0) dX12_prefixes_30 (by decide +kernel) ?_
      refine V_istore_n 31 B (lv2 := [(3, .int 0), (2, .int 0), (0, .ref h0), (1, .int (nI n4))]) dX12_prefixes_31 (by decide) rfl ?_
      refine V_wloop (α := WU) (fun a => 100000 - (a.1 0)) (fun a => (a.1 0) ≤ 4000) (fun a => [(3, .int (nI (a.1 0))), (2, .int (a.2.1 0)), (0, .ref h0), (1, .int (nI n4))]) (fun a => [(h0, oC 13 [.ref h1, .ref h2, .int (a.2.1 1), .ref h3, .ref h4, .int (nI k5), .int (nI k6), .int p7, .int p8, .int p9, .int (nI k10), .int p11, .long q12, .ref h5, .ref h6, .int (nI k15), .int (nI k16)]), (h1, aI Y 3640 f0), (h2, aZ Y 2 f1), (h3, aZ Y 80 f3), (h4, aB Y 1600 f4), (h5, aI Y 200 f13), (h6, aI Y 800 f14)]) (mkW [0] [0, (u15.2.1 0)] [] [] [] []) (show 0 ≤ 4000 by omega) rfl rfl (fun a18 hI20 IH19 => ?_)
      refine V_lv [(3, .int (nI (a18.1 0))), (2, .int (a18.2.1 0)), (0, .ref h0), (1, .int (nI n4))] [0, 1, 2, 3] rfl ?_
      refine V_ws [(h0, oC 13 [.ref h1, .ref h2, .int (a18.2.1 1), .ref h3, .ref h4, .int (nI k5), .int (nI k6), .int p7, .int p8, .int p9, .int (nI k10), .int p11, .long q12, .ref h5, .ref h6, .int (nI k15), .int (nI k16)]), (h1, aI Y 3640 f0), (h2, aZ Y 2 f1), (h3, aZ Y 80 f3), (h4, aB Y 1600 f4), (h5, aI Y 200 f13), (h6, aI Y 800 f14)] rfl ?_
      have x21 := hI20
      refine V_iload_n 32 B dX12_prefixes_32 0 rfl ?_
      refine V_aload_n 33 B dX12_prefixes_33 2 rfl ?_
      refine V_get 34 B gf_RX12_9 0 rfl rfl dX12_prefixes_34 ?_
      refine V_iconst 37 B (v := 3) dX12_prefixes_37 (by decide +kernel) ?_
      have x22 : (gN f0 3) ≤ 80 := gN_le HI (by omega) (show bd 3 = (0, ((80 : Nat) : Int)) by decide +kernel)
      refine V_iald 38 B (v := (nI (gN f0 3))) 1 rfl (vpin _ _ (by decide +kernel)) dX12_prefixes_38 (by show f0 3 = _; exact gN_eq HI (by omega) (show bd 3 = (0, ((80 : Nat) : Int)) by decide +kernel)) ?_
      refine V_icmp_ge 39 B 141 dX12_prefixes_39 (by decide) (fun kk23 => ?_) (fun kk23 => ?_)
      ·
        have x24 := n_le (a := (gN f0 3)) (b := (a18.1 0)) kk23 (by omega) (by omega)
        refine V_iload_n 141 B dX12_prefixes_141 1 rfl ?_
        exact V_iret 142 B dX12_prefixes_142 (mkW [] [(a18.2.1 1)] [] [] [] []) trivial rfl
      ·
        have x25 := n_nle (a := (gN f0 3)) (b := (a18.1 0)) kk23 (by omega) (by omega)
        refine V_aload_n 42 B dX12_prefixes_42 2 rfl ?_
        refine V_iload_n 43 B dX12_prefixes_43 3 rfl ?_
        refine V_iload_n 44 B dX12_prefixes_44 0 rfl ?_
        refine V_cvi 45 B (st := []) (As := [.int (nI n4), .int (nI (a18.1 0))]) (fun sz => rX12_isVisible l D Y h0 h1 h2 h3 h4 h5 h6 (a18.2.1 1) k5 k6 p7 p8 p9 k10 p11 q12 k15 k16 f0 f1 f3 f4 f13 f14 HI (by omega) HP (nI n4) (a18.1 0) (by rw [nI_toInt (show n4 < 2 ^ 31 by omega)]; omega) (by omega) sz) glV_RX12_154 ⟨rfl, rfl⟩ ⟨(Nat.le_of_ble_eq_true rfl), (Nat.le_of_ble_eq_true rfl)⟩ ⟨(Nat.le_of_ble_eq_true rfl), (Nat.le_of_ble_eq_true rfl)⟩ [0, 0, 0, 0, 0, 0, 0] rfl 13 0 rfl rfl rfl rfl (Nat.le_of_ble_eq_true rfl) rfl (fun _ _ _ => rfl) dX12_prefixes_45 (fun j26 u27 w28 => ?_)
        refine V_ws [(h0, oC 13 [.ref h1, .ref h2, .int (a18.2.1 1), .ref h3, .ref h4, .int (nI k5), .int (nI k6), .int p7, .int p8, .int p9, .int (nI k10), .int p11, .long q12, .ref h5, .ref h6, .int (nI k15), .int (nI k16)]), (h1, aI Y 3640 f0), (h2, aZ Y 2 f1), (h3, aZ Y 80 f3), (h4, aB Y 1600 f4), (h5, aI Y 200 f13), (h6, aI Y 800 f14)] rfl ?_
        have x29 := w28
        rcases x29 with rfl | rfl
        ·
          refine V_if_ne_f 48 B 54 dX12_prefixes_48 (by decide) (by decide +kernel) ?_
          refine V_goto 51 B 135 dX12_prefixes_51 (by decide) ?_
          refine V_iinc 135 B (v := (nI (1 + (a18.1 0)))) (lv2 := [(3, .int (nI (1 + (a18.1 0)))), (2, .int (a18.2.1 0)), (0, .ref h0), (1, .int (nI n4))]) dX12_prefixes_135 0 rfl (nI_addE (a := (a18.1 0)) (b := 1) (by omega)) (by decide) rfl ?_
          refine V_goto 138 B 32 dX12_prefixes_138 (by decide) ?_
          refine V_lv [(3, .int (nI (1 + (a18.1 0)))), (2, .int (a18.2.1 0)), (0, .ref h0), (1, .int (nI n4))] [0, 1, 2, 3] rfl ?_
          exact IH19 (mkW [1 + (a18.1 0)] [(a18.2.1 0), (a18.2.1 1)] [] [] [] []) (show 1 + (a18.1 0) ≤ 4000 by omega) (by show 100000 - (1 + (a18.1 0)) < 100000 - (a18.1 0); omega)
        ·
          refine V_if_ne_t 48 B 54 dX12_prefixes_48 (by decide) (by decide +kernel) ?_
          refine V_iconst 54 B (v := 0) dX12_prefixes_54 (by decide +kernel) ?_
          refine V_istore 55 B (lv2 := [(4, .int 0), (3, .int (nI (a18.1 0))), (2, .int (a18.2.1 0)), (0, .ref h0), (1, .int (nI n4))]) dX12_prefixes_55 (by decide) rfl ?_
          refine V_iconst 57 B (v := 0) dX12_prefixes_57 (by decide +kernel) ?_
          refine V_istore 58 B (lv2 := [(5, .int 0), (4, .int 0), (3, .int (nI (a18.1 0))), (2, .int (a18.2.1 0)), (0, .ref h0), (1, .int (nI n4))]) dX12_prefixes_58 (by decide) rfl ?_
          refine V_wloop (α := WU) (fun a => 100000 - (a.1 0)) (fun a => (a.1 0) ≤ 4000) (fun a => [(5, .int (nI (a.1 0))), (4, .int (a.2.1 0)), (3, .int (nI (a18.1 0))), (2, .int (a18.2.1 0)), (0, .ref h0), (1, .int (nI n4))]) (fun a => [(h0, oC 13 [.ref h1, .ref h2, .int (a.2.1 1), .ref h3, .ref h4, .int (nI k5), .int (nI k6), .int p7, .int p8, .int p9, .int (nI k10), .int p11, .long q12, .ref h5, .ref h6, .int (nI k15), .int (nI k16)]), (h1, aI Y 3640 f0), (h2, aZ Y 2 f1), (h3, aZ Y 80 f3), (h4, aB Y 1600 f4), (h5, aI Y 200 f13), (h6, aI Y 800 f14)]) (mkW [0] [0, (a18.2.1 1)] [] [] [] []) (show 0 ≤ 4000 by omega) rfl rfl (fun a30 hI32 IH31 => ?_)
          refine V_lv [(5, .int (nI (a30.1 0))), (4, .int (a30.2.1 0)), (3, .int (nI (a18.1 0))), (2, .int (a18.2.1 0)), (0, .ref h0), (1, .int (nI n4))] [0, 1, 2, 3, 4, 5] rfl ?_
          refine V_ws [(h0, oC 13 [.ref h1, .ref h2, .int (a30.2.1 1), .ref h3, .ref h4, .int (nI k5), .int (nI k6), .int p7, .int p8, .int p9, .int (nI k10), .int p11, .long q12, .ref h5, .ref h6, .int (nI k15), .int (nI k16)]), (h1, aI Y 3640 f0), (h2, aZ Y 2 f1), (h3, aZ Y 80 f3), (h4, aB Y 1600 f4), (h5, aI Y 200 f13), (h6, aI Y 800 f14)] rfl ?_
          have x33 := hI32
          refine V_iload 60 B dX12_prefixes_60 0 rfl ?_
          refine V_iload_n 62 B dX12_prefixes_62 2 rfl ?_
          refine V_icmp_ge 63 B 120 dX12_prefixes_63 (by decide) (fun kk34 => ?_) (fun kk34 => ?_)
          ·
            have x35 := n_le (a := (a18.1 0)) (b := (a30.1 0)) kk34 (by omega) (by omega)
            refine V_iload_n 120 B dX12_prefixes_120 3 rfl ?_
            refine V_aload_n 121 B dX12_prefixes_121 4 rfl ?_
            refine V_get 122 B gf_RX12_9 0 rfl rfl dX12_prefixes_122 ?_
            refine V_iload_n 125 B dX12_prefixes_125 2 rfl ?_
            refine V_csi 126 B (st := [.ref h1, .int (a18.2.1 0)]) (As := [.int (nI (a18.1 0))]) (fun sz => rX12_sequenceOf l D Y (a18.1 0) (by omega) sz) glS_RX12_85 ⟨rfl, rfl⟩ ⟨(Nat.le_of_ble_eq_true rfl), (Nat.le_of_ble_eq_true rfl)⟩ ⟨(Nat.le_of_ble_eq_true rfl), (Nat.le_of_ble_eq_true rfl)⟩ [] rfl rfl (Nat.le_of_ble_eq_true rfl) rfl (fun _ _ _ => rfl) dX12_prefixes_126 (fun j36 u37 w38 => ?_)
            refine V_ws [(h0, oC 13 [.ref h1, .ref h2, .int (a30.2.1 1), .ref h3, .ref h4, .int (nI k5), .int (nI k6), .int p7, .int p8, .int p9, .int (nI k10), .int p11, .long q12, .ref h5, .ref h6, .int (nI k15), .int (nI k16)]), (h1, aI Y 3640 f0), (h2, aZ Y 2 f1), (h3, aZ Y 80 f3), (h4, aB Y 1600 f4), (h5, aI Y 200 f13), (h6, aI Y 800 f14)] rfl ?_
            have x39 := w38
            obtain rfl := x39
            have x40 : (gN f0 (186 + 7 * (a18.1 0))) ≤ 4 := gN_le HI (by omega) (rl12 (a18.1 0) (by omega))
            refine V_iald 129 B (v := (nI ((gN f0 (186 + 7 * (a18.1 0)))))) 1 rfl (vp_in_nI (n := 186 + 7 * (a18.1 0)) (by omega) (by decide)) dX12_prefixes_129 (by rw [nI_clamp (show 186 + 7 * (a18.1 0) < 2 ^ 31 by omega)]; exact gN_eq HI (by omega) (rl12 (a18.1 0) (by omega))) ?_
            refine V_iload 130 B dX12_prefixes_130 1 rfl ?_
            refine V_isub 132 B dX12_prefixes_132 rfl ?_
            refine V_nmi (fun j41 _ => ?_)
            refine V_iadd 133 B dX12_prefixes_133 rfl ?_
            refine V_nmi (fun j42 _ => ?_)
            refine V_istore_n 134 B (lv2 := [(2, .int j42), (5, .int (nI (a30.1 0))), (4, .int (a30.2.1 0)), (3, .int (nI (a18.1 0))), (0, .ref h0), (1, .int (nI n4))]) dX12_prefixes_134 (by decide) rfl ?_
            refine V_iinc 135 B (v := (nI (1 + (a18.1 0)))) (lv2 := [(3, .int (nI (1 + (a18.1 0)))), (2, .int j42), (5, .int (nI (a30.1 0))), (4, .int (a30.2.1 0)), (0, .ref h0), (1, .int (nI n4))]) dX12_prefixes_135 3 rfl (nI_addE (a := (a18.1 0)) (b := 1) (by omega)) (by decide) rfl ?_
            refine V_goto 138 B 32 dX12_prefixes_138 (by decide) ?_
            refine V_lv [(3, .int (nI (1 + (a18.1 0)))), (2, .int j42), (0, .ref h0), (1, .int (nI n4))] [0, 1, 4, 5] rfl ?_
            exact IH19 (mkW [1 + (a18.1 0)] [j42, (a30.2.1 1)] [] [] [] []) (show 1 + (a18.1 0) ≤ 4000 by omega) (by show 100000 - (1 + (a18.1 0)) < 100000 - (a18.1 0); omega)
          ·
            have x43 := n_nle (a := (a18.1 0)) (b := (a30.1 0)) kk34 (by omega) (by omega)
            refine V_aload_n 66 B dX12_prefixes_66 4 rfl ?_
            refine V_iload_n 67 B dX12_prefixes_67 5 rfl ?_
            refine V_iload 68 B dX12_prefixes_68 0 rfl ?_
            refine V_cvi 70 B (st := []) (As := [.int (nI n4), .int (nI (a30.1 0))]) (fun sz => rX12_isVisible l D Y h0 h1 h2 h3 h4 h5 h6 (a30.2.1 1) k5 k6 p7 p8 p9 k10 p11 q12 k15 k16 f0 f1 f3 f4 f13 f14 HI (by omega) HP (nI n4) (a30.1 0) (by rw [nI_toInt (show n4 < 2 ^ 31 by omega)]; omega) (by omega) sz) glV_RX12_154 ⟨rfl, rfl⟩ ⟨(Nat.le_of_ble_eq_true rfl), (Nat.le_of_ble_eq_true rfl)⟩ ⟨(Nat.le_of_ble_eq_true rfl), (Nat.le_of_ble_eq_true rfl)⟩ [0, 0, 0, 0, 0, 0, 0] rfl 13 0 rfl rfl rfl rfl (Nat.le_of_ble_eq_true rfl) rfl (fun _ _ _ => rfl) dX12_prefixes_70 (fun j44 u45 w46 => ?_)
            refine V_ws [(h0, oC 13 [.ref h1, .ref h2, .int (a30.2.1 1), .ref h3, .ref h4, .int (nI k5), .int (nI k6), .int p7, .int p8, .int p9, .int (nI k10), .int p11, .long q12, .ref h5, .ref h6, .int (nI k15), .int (nI k16)]), (h1, aI Y 3640 f0), (h2, aZ Y 2 f1), (h3, aZ Y 80 f3), (h4, aB Y 1600 f4), (h5, aI Y 200 f13), (h6, aI Y 800 f14)] rfl ?_
            have x47 := w46
            rcases x47 with rfl | rfl
            ·
              refine V_if_eq_t 73 B 114 dX12_prefixes_73 (by decide) (by decide +kernel) ?_
              refine V_iinc 114 B (v := (nI (1 + (a30.1 0)))) (lv2 := [(5, .int (nI (1 + (a30.1 0)))), (4, .int (a30.2.1 0)), (3, .int (nI (a18.1 0))), (2, .int (a18.2.1 0)), (0, .ref h0), (1, .int (nI n4))]) dX12_prefixes_114 0 rfl (nI_addE (a := (a30.1 0)) (b := 1) (by omega)) (by decide) rfl ?_
              refine V_goto 117 B 60 dX12_prefixes_117 (by decide) ?_
              refine V_lv [(5, .int (nI (1 + (a30.1 0)))), (4, .int (a30.2.1 0)), (3, .int (nI (a18.1 0))), (2, .int (a18.2.1 0)), (0, .ref h0), (1, .int (nI n4))] [0, 1, 2, 3, 4, 5] rfl ?_
              exact IH31 (mkW [1 + (a30.1 0)] [(a30.2.1 0), (a30.2.1 1)] [] [] [] []) (show 1 + (a30.1 0) ≤ 4000 by omega) (by show 100000 - (1 + (a30.1 0)) < 100000 - (a30.1 0); omega)
            ·
              refine V_if_eq_f 73 B 114 dX12_prefixes_73 (by decide) (by decide +kernel) ?_
              refine V_iload 76 B dX12_prefixes_76 1 rfl ?_
              refine V_aload_n 78 B dX12_prefixes_78 4 rfl ?_
              refine V_iload 79 B dX12_prefixes_79 0 rfl ?_
              refine V_csi 81 B (st := [.ref h0, .int (a30.2.1 0)]) (As := [.int (nI (a30.1 0))]) (fun sz => rX12_sequenceOf l D Y (a30.1 0) (by omega) sz) glS_RX12_85 ⟨rfl, rfl⟩ ⟨(Nat.le_of_ble_eq_true rfl), (Nat.le_of_ble_eq_true rfl)⟩ ⟨(Nat.le_of_ble_eq_true rfl), (Nat.le_of_ble_eq_true rfl)⟩ [] rfl rfl (Nat.le_of_ble_eq_true rfl) rfl (fun _ _ _ => rfl) dX12_prefixes_81 (fun j48 u49 w50 => ?_)
              refine V_ws [(h0, oC 13 [.ref h1, .ref h2, .int (a30.2.1 1), .ref h3, .ref h4, .int (nI k5), .int (nI k6), .int p7, .int p8, .int p9, .int (nI k10), .int p11, .long q12, .ref h5, .ref h6, .int (nI k15), .int (nI k16)]), (h1, aI Y 3640 f0), (h2, aZ Y 2 f1), (h3, aZ Y 80 f3), (h4, aB Y 1600 f4), (h5, aI Y 200 f13), (h6, aI Y 800 f14)] rfl ?_
              have x51 := w50
              obtain rfl := x51
              refine V_iload_n 84 B dX12_prefixes_84 2 rfl ?_
              refine V_csi 85 B (st := [.int (nI (186 + 7 * (a30.1 0))), .ref h0, .int (a30.2.1 0)]) (As := [.int (nI (a18.1 0))]) (fun sz => rX12_sequenceOf l D Y (a18.1 0) (by omega) sz) glS_RX12_85 ⟨rfl, rfl⟩ ⟨(Nat.le_of_ble_eq_true rfl), (Nat.le_of_ble_eq_true rfl)⟩ ⟨(Nat.le_of_ble_eq_true rfl), (Nat.le_of_ble_eq_true rfl)⟩ [] rfl rfl (Nat.le_of_ble_eq_true rfl) rfl (fun _ _ _ => rfl) dX12_prefixes_85 (fun j52 u53 w54 => ?_)
              refine V_ws [(h0, oC 13 [.ref h1, .ref h2, .int (a30.2.1 1), .ref h3, .ref h4, .int (nI k5), .int (nI k6), .int p7, .int p8, .int p9, .int (nI k10), .int p11, .long q12, .ref h5, .ref h6, .int (nI k15), .int (nI k16)]), (h1, aI Y 3640 f0), (h2, aZ Y 2 f1), (h3, aZ Y 80 f3), (h4, aB Y 1600 f4), (h5, aI Y 200 f13), (h6, aI Y 800 f14)] rfl ?_
              have x55 := w54
              obtain rfl := x55
              refine V_cvi 88 B (st := [.int (a30.2.1 0)]) (As := [.int (nI (186 + 7 * (a30.1 0))), .int (nI (186 + 7 * (a18.1 0)))]) (fun sz => rX12_commonOf l D Y h0 h1 h2 h3 h4 h5 h6 (a30.2.1 1) k5 k6 p7 p8 p9 k10 p11 q12 k15 k16 f0 f1 f3 f4 f13 f14 HI (by omega) HP (186 + 7 * (a30.1 0)) (186 + 7 * (a18.1 0)) (rl13 (a30.1 0) (by omega)) (rl5 (a18.1 0) (by omega)) sz) glV_RX12_62 ⟨rfl, rfl⟩ ⟨(Nat.le_of_ble_eq_true rfl), (Nat.le_of_ble_eq_true rfl)⟩ ⟨(Nat.le_of_ble_eq_true rfl), (Nat.le_of_ble_eq_true rfl)⟩ [0, 0, 0, 0, 0, 0, 0] rfl 13 0 rfl rfl rfl rfl (Nat.le_of_ble_eq_true rfl) rfl (fun _ _ _ => rfl) dX12_prefixes_88 (fun j56 u57 w58 => ?_)
              refine V_ws [(h0, oC 13 [.ref h1, .ref h2, .int (a30.2.1 1), .ref h3, .ref h4, .int (nI k5), .int (nI k6), .int p7, .int p8, .int p9, .int (nI k10), .int p11, .long q12, .ref h5, .ref h6, .int (nI k15), .int (nI k16)]), (h1, aI Y 3640 f0), (h2, aZ Y 2 f1), (h3, aZ Y 80 f3), (h4, aB Y 1600 f4), (h5, aI Y 200 f13), (h6, aI Y 800 f14)] rfl ?_
              have x59 := w58
              obtain ⟨n60, rfl, x61⟩ := x59
              refine V_icmp_ge 91 B 110 dX12_prefixes_91 (by decide) (fun kk62 => ?_) (fun kk62 => ?_)
              ·
                have x63 := x_le kk62
                rw [nI_toInt (show n60 < 2 ^ 31 by omega)] at x63
                refine V_iload 110 B dX12_prefixes_110 1 rfl ?_
                refine V_istore 112 B (lv2 := [(4, .int (a30.2.1 0)), (5, .int (nI (a30.1 0))), (3, .int (nI (a18.1 0))), (2, .int (a18.2.1 0)), (0, .ref h0), (1, .int (nI n4))]) dX12_prefixes_112 (by decide) rfl ?_
                refine V_iinc 114 B (v := (nI (1 + (a30.1 0)))) (lv2 := [(5, .int (nI (1 + (a30.1 0)))), (4, .int (a30.2.1 0)), (3, .int (nI (a18.1 0))), (2, .int (a18.2.1 0)), (0, .ref h0), (1, .int (nI n4))]) dX12_prefixes_114 1 rfl (nI_addE (a := (a30.1 0)) (b := 1) (by omega)) (by decide) rfl ?_
                refine V_goto 117 B 60 dX12_prefixes_117 (by decide) ?_
                refine V_lv [(5, .int (nI (1 + (a30.1 0)))), (4, .int (a30.2.1 0)), (3, .int (nI (a18.1 0))), (2, .int (a18.2.1 0)), (0, .ref h0), (1, .int (nI n4))] [0, 1, 2, 3, 4, 5] rfl ?_
                exact IH31 (mkW [1 + (a30.1 0)] [(a30.2.1 0), (a30.2.1 1)] [] [] [] []) (show 1 + (a30.1 0) ≤ 4000 by omega) (by show 100000 - (1 + (a30.1 0)) < 100000 - (a30.1 0); omega)
              ·
                have x64 := x_nle kk62
                rw [nI_toInt (show n60 < 2 ^ 31 by omega)] at x64
                refine V_aload_n 94 B dX12_prefixes_94 4 rfl ?_
                refine V_iload 95 B dX12_prefixes_95 0 rfl ?_
                refine V_csi 97 B (st := [.ref h0]) (As := [.int (nI (a30.1 0))]) (fun sz => rX12_sequenceOf l D Y (a30.1 0) (by omega) sz) glS_RX12_85 ⟨rfl, rfl⟩ ⟨(Nat.le_of_ble_eq_true rfl), (Nat.le_of_ble_eq_true rfl)⟩ ⟨(Nat.le_of_ble_eq_true rfl), (Nat.le_of_ble_eq_true rfl)⟩ [] rfl rfl (Nat.le_of_ble_eq_true rfl) rfl (fun _ _ _ => rfl) dX12_prefixes_97 (fun j65 u66 w67 => ?_)
                refine V_ws [(h0, oC 13 [.ref h1, .ref h2, .int (a30.2.1 1), .ref h3, .ref h4, .int (nI k5), .int (nI k6), .int p7, .int p8, .int p9, .int (nI k10), .int p11, .long q12, .ref h5, .ref h6, .int (nI k15), .int (nI k16)]), (h1, aI Y 3640 f0), (h2, aZ Y 2 f1), (h3, aZ Y 80 f3), (h4, aB Y 1600 f4), (h5, aI Y 200 f13), (h6, aI Y 800 f14)] rfl ?_
                have x68 := w67
                obtain rfl := x68
                refine V_iload_n 100 B dX12_prefixes_100 2 rfl ?_
                refine V_csi 101 B (st := [.int (nI (186 + 7 * (a30.1 0))), .ref h0]) (As := [.int (nI (a18.1 0))]) (fun sz => rX12_sequenceOf l D Y (a18.1 0) (by omega) sz) glS_RX12_85 ⟨rfl, rfl⟩ ⟨(Nat.le_of_ble_eq_true rfl), (Nat.le_of_ble_eq_true rfl)⟩ ⟨(Nat.le_of_ble_eq_true rfl), (Nat.le_of_ble_eq_true rfl)⟩ [] rfl rfl (Nat.le_of_ble_eq_true rfl) rfl (fun _ _ _ => rfl) dX12_prefixes_101 (fun j69 u70 w71 => ?_)
                refine V_ws [(h0, oC 13 [.ref h1, .ref h2, .int (a30.2.1 1), .ref h3, .ref h4, .int (nI k5), .int (nI k6), .int p7, .int p8, .int p9, .int (nI k10), .int p11, .long q12, .ref h5, .ref h6, .int (nI k15), .int (nI k16)]), (h1, aI Y 3640 f0), (h2, aZ Y 2 f1), (h3, aZ Y 80 f3), (h4, aB Y 1600 f4), (h5, aI Y 200 f13), (h6, aI Y 800 f14)] rfl ?_
                have x72 := w71
                obtain rfl := x72
                refine V_cvi 104 B (st := []) (As := [.int (nI (186 + 7 * (a30.1 0))), .int (nI (186 + 7 * (a18.1 0)))]) (fun sz => rX12_commonOf l D Y h0 h1 h2 h3 h4 h5 h6 (a30.2.1 1) k5 k6 p7 p8 p9 k10 p11 q12 k15 k16 f0 f1 f3 f4 f13 f14 HI (by omega) HP (186 + 7 * (a30.1 0)) (186 + 7 * (a18.1 0)) (rl13 (a30.1 0) (by omega)) (rl5 (a18.1 0) (by omega)) sz) glV_RX12_62 ⟨rfl, rfl⟩ ⟨(Nat.le_of_ble_eq_true rfl), (Nat.le_of_ble_eq_true rfl)⟩ ⟨(Nat.le_of_ble_eq_true rfl), (Nat.le_of_ble_eq_true rfl)⟩ [0, 0, 0, 0, 0, 0, 0] rfl 13 0 rfl rfl rfl rfl (Nat.le_of_ble_eq_true rfl) rfl (fun _ _ _ => rfl) dX12_prefixes_104 (fun j73 u74 w75 => ?_)
                refine V_ws [(h0, oC 13 [.ref h1, .ref h2, .int (a30.2.1 1), .ref h3, .ref h4, .int (nI k5), .int (nI k6), .int p7, .int p8, .int p9, .int (nI k10), .int p11, .long q12, .ref h5, .ref h6, .int (nI k15), .int (nI k16)]), (h1, aI Y 3640 f0), (h2, aZ Y 2 f1), (h3, aZ Y 80 f3), (h4, aB Y 1600 f4), (h5, aI Y 200 f13), (h6, aI Y 800 f14)] rfl ?_
                have x76 := w75
                obtain ⟨n77, rfl, x78⟩ := x76
                refine V_goto 107 B 112 dX12_prefixes_107 (by decide) ?_
                refine V_istore 112 B (lv2 := [(4, .int (nI n77)), (5, .int (nI (a30.1 0))), (3, .int (nI (a18.1 0))), (2, .int (a18.2.1 0)), (0, .ref h0), (1, .int (nI n4))]) dX12_prefixes_112 (by decide) rfl ?_
                refine V_iinc 114 B (v := (nI (1 + (a30.1 0)))) (lv2 := [(5, .int (nI (1 + (a30.1 0)))), (4, .int (nI n77)), (3, .int (nI (a18.1 0))), (2, .int (a18.2.1 0)), (0, .ref h0), (1, .int (nI n4))]) dX12_prefixes_114 1 rfl (nI_addE (a := (a30.1 0)) (b := 1) (by omega)) (by decide) rfl ?_
                refine V_goto 117 B 60 dX12_prefixes_117 (by decide) ?_
                refine V_lv [(5, .int (nI (1 + (a30.1 0)))), (4, .int (nI n77)), (3, .int (nI (a18.1 0))), (2, .int (a18.2.1 0)), (0, .ref h0), (1, .int (nI n4))] [0, 1, 2, 3, 4, 5] rfl ?_
                exact IH31 (mkW [1 + (a30.1 0)] [(nI n77), (a30.2.1 1)] [] [] [] []) (show 1 + (a30.1 0) ≤ 4000 by omega) (by show 100000 - (1 + (a30.1 0)) < 100000 - (a30.1 0); omega))
theorem dX12_bestOf_0 : decode cX12_bestOf 0 = .ok (.iconst (-1), 1) := by decide +kernel
theorem dX12_bestOf_1 : decode cX12_bestOf 1 = .ok (.istore_n 3, 1) := by decide +kernel
theorem dX12_bestOf_2 : decode cX12_bestOf 2 = .ok (.iconst 0, 1) := by decide +kernel
theorem dX12_bestOf_3 : decode cX12_bestOf 3 = .ok (.istore 4, 2) := by decide +kernel
theorem dX12_bestOf_5 : decode cX12_bestOf 5 = .ok (.iload 4, 2) := by decide +kernel
theorem dX12_bestOf_7 : decode cX12_bestOf 7 = .ok (.aload_n 0, 1) := by decide +kernel
theorem dX12_bestOf_8 : decode cX12_bestOf 8 = .ok (.getfield 9, 3) := by decide +kernel
theorem dX12_bestOf_11 : decode cX12_bestOf 11 = .ok (.iconst 3, 1) := by decide +kernel
theorem dX12_bestOf_12 : decode cX12_bestOf 12 = .ok (.iaload, 1) := by decide +kernel
theorem dX12_bestOf_13 : decode cX12_bestOf 13 = .ok (.if_icmp .ge 60, 3) := by decide +kernel
theorem dX12_bestOf_73 : decode cX12_bestOf 73 = .ok (.iload_n 3, 1) := by decide +kernel
theorem dX12_bestOf_74 : decode cX12_bestOf 74 = .ok (.ireturn, 1) := by decide +kernel
theorem dX12_bestFor_0 : decode cX12_bestFor 0 = .ok (.aload_n 0, 1) := by decide +kernel
theorem dX12_bestFor_1 : decode cX12_bestFor 1 = .ok (.iconst 0, 1) := by decide +kernel
theorem dX12_bestFor_2 : decode cX12_bestFor 2 = .ok (.putfield 38, 3) := by decide +kernel
theorem dX12_bestFor_5 : decode cX12_bestFor 5 = .ok (.aload_n 0, 1) := by decide +kernel
theorem dX12_bestFor_6 : decode cX12_bestFor 6 = .ok (.aload_n 0, 1) := by decide +kernel
theorem dX12_bestFor_7 : decode cX12_bestFor 7 = .ok (.iload_n 1, 1) := by decide +kernel
theorem dX12_bestFor_8 : decode cX12_bestFor 8 = .ok (.invokevirtual 91, 3) := by decide +kernel
theorem dX12_bestFor_11 : decode cX12_bestFor 11 = .ok (.ifCond .eq 11, 3) := by decide +kernel
theorem dX12_bestFor_22 : decode cX12_bestFor 22 = .ok (.iconst 1, 1) := by decide +kernel
theorem dX12_bestFor_23 : decode cX12_bestFor 23 = .ok (.goto 4, 3) := by decide +kernel
theorem dX12_bestFor_27 : decode cX12_bestFor 27 = .ok (.iconst 1, 1) := by decide +kernel
theorem dX12_bestFor_28 : decode cX12_bestFor 28 = .ok (.invokevirtual 69, 3) := by decide +kernel
theorem dX12_bestFor_31 : decode cX12_bestFor 31 = .ok (.ifCond .eq 7, 3) := by decide +kernel
theorem dX12_bestFor_34 : decode cX12_bestFor 34 = .ok (.iconst 0, 1) := by decide +kernel
theorem dX12_bestFor_35 : decode cX12_bestFor 35 = .ok (.goto 9, 3) := by decide +kernel
theorem dX12_bestFor_44 : decode cX12_bestFor 44 = .ok (.ireturn, 1) := by decide +kernel
theorem dX12_bestFor_14 : decode cX12_bestFor 14 = .ok (.aload_n 0, 1) := by decide +kernel
theorem dX12_bestFor_15 : decode cX12_bestFor 15 = .ok (.iload_n 2, 1) := by decide +kernel
theorem dX12_bestFor_16 : decode cX12_bestFor 16 = .ok (.invokevirtual 99, 3) := by decide +kernel
theorem dX12_bestFor_19 : decode cX12_bestFor 19 = .ok (.ifCond .ne 7, 3) := by decide +kernel
theorem dX12_bestFor_26 : decode cX12_bestFor 26 = .ok (.iconst 0, 1) := by decide +kernel
theorem dX12_bestFor_38 : decode cX12_bestFor 38 = .ok (.aload_n 0, 1) := by decide +kernel
theorem dX12_bestFor_39 : decode cX12_bestFor 39 = .ok (.iload_n 1, 1) := by decide +kernel
theorem dX12_bestFor_40 : decode cX12_bestFor 40 = .ok (.iload_n 2, 1) := by decide +kernel
theorem dX12_bestFor_41 : decode cX12_bestFor 41 = .ok (.invokevirtual 172, 3) := by decide +kernel
theorem dX12_effort_0 : decode cX12_effort 0 = .ok (.aload_n 0, 1) := by decide +kernel
theorem dX12_effort_1 : decode cX12_effort 1 = .ok (.iconst 0, 1) := by decide +kernel
theorem dX12_effort_2 : decode cX12_effort 2 = .ok (.putfield 38, 3) := by decide +kernel
theorem dX12_effort_5 : decode cX12_effort 5 = .ok (.aload_n 0, 1) := by decide +kernel
theorem dX12_effort_6 : decode cX12_effort 6 = .ok (.aload_n 0, 1) := by decide +kernel
theorem dX12_effort_7 : decode cX12_effort 7 = .ok (.iload_n 1, 1) := by decide +kernel
theorem dX12_effort_8 : decode cX12_effort 8 = .ok (.invokevirtual 91, 3) := by decide +kernel
theorem dX12_effort_11 : decode cX12_effort 11 = .ok (.ifCond .ne 7, 3) := by decide +kernel
theorem dX12_effort_14 : decode cX12_effort 14 = .ok (.iconst 1, 1) := by decide +kernel
theorem dX12_effort_15 : decode cX12_effort 15 = .ok (.goto 4, 3) := by decide +kernel
theorem dX12_effort_19 : decode cX12_effort 19 = .ok (.iconst 1, 1) := by decide +kernel
theorem dX12_effort_20 : decode cX12_effort 20 = .ok (.invokevirtual 69, 3) := by decide +kernel
theorem dX12_effort_23 : decode cX12_effort 23 = .ok (.ifCond .eq 5, 3) := by decide +kernel
theorem dX12_effort_26 : decode cX12_effort 26 = .ok (.lconst 0, 1) := by decide +kernel
theorem dX12_effort_27 : decode cX12_effort 27 = .ok (.lreturn, 1) := by decide +kernel
theorem dX12_effort_18 : decode cX12_effort 18 = .ok (.iconst 0, 1) := by decide +kernel
theorem dX12_effort_28 : decode cX12_effort 28 = .ok (.lconst 0, 1) := by decide +kernel
theorem dX12_effort_29 : decode cX12_effort 29 = .ok (.lstore_n 2, 1) := by decide +kernel
theorem dX12_effort_30 : decode cX12_effort 30 = .ok (.iconst 0, 1) := by decide +kernel
theorem dX12_effort_31 : decode cX12_effort 31 = .ok (.istore 4, 2) := by decide +kernel
theorem dX12_effort_33 : decode cX12_effort 33 = .ok (.iload 4, 2) := by decide +kernel
theorem dX12_effort_35 : decode cX12_effort 35 = .ok (.aload_n 0, 1) := by decide +kernel
theorem dX12_effort_36 : decode cX12_effort 36 = .ok (.getfield 9, 3) := by decide +kernel
theorem dX12_effort_39 : decode cX12_effort 39 = .ok (.iconst 1, 1) := by decide +kernel
theorem dX12_effort_40 : decode cX12_effort 40 = .ok (.iaload, 1) := by decide +kernel
theorem dX12_effort_41 : decode cX12_effort 41 = .ok (.if_icmp .ge 46, 3) := by decide +kernel
theorem dX12_effort_87 : decode cX12_effort 87 = .ok (.lload_n 2, 1) := by decide +kernel
theorem dX12_effort_88 : decode cX12_effort 88 = .ok (.lreturn, 1) := by decide +kernel
theorem dX12_effort_44 : decode cX12_effort 44 = .ok (.aload_n 0, 1) := by decide +kernel
theorem dX12_effort_45 : decode cX12_effort 45 = .ok (.iload_n 1, 1) := by decide +kernel
theorem dX12_effort_46 : decode cX12_effort 46 = .ok (.iload 4, 2) := by decide +kernel
theorem dX12_effort_48 : decode cX12_effort 48 = .ok (.invokevirtual 172, 3) := by decide +kernel
theorem dX12_meanCostBits_0 : decode cX12_meanCostBits 0 = .ok (.aload_n 0, 1) := by decide +kernel
theorem dX12_meanCostBits_1 : decode cX12_meanCostBits 1 = .ok (.iconst 0, 1) := by decide +kernel
theorem dX12_meanCostBits_2 : decode cX12_meanCostBits 2 = .ok (.putfield 38, 3) := by decide +kernel
theorem dX12_meanCostBits_5 : decode cX12_meanCostBits 5 = .ok (.aload_n 0, 1) := by decide +kernel
theorem dX12_meanCostBits_6 : decode cX12_meanCostBits 6 = .ok (.aload_n 0, 1) := by decide +kernel
theorem dX12_meanCostBits_7 : decode cX12_meanCostBits 7 = .ok (.iload_n 1, 1) := by decide +kernel
theorem dX12_meanCostBits_8 : decode cX12_meanCostBits 8 = .ok (.invokevirtual 91, 3) := by decide +kernel
theorem dX12_meanCostBits_11 : decode cX12_meanCostBits 11 = .ok (.ifCond .ne 7, 3) := by decide +kernel
theorem dX12_meanCostBits_14 : decode cX12_meanCostBits 14 = .ok (.iconst 1, 1) := by decide +kernel
theorem dX12_meanCostBits_15 : decode cX12_meanCostBits 15 = .ok (.goto 4, 3) := by decide +kernel
theorem dX12_meanCostBits_19 : decode cX12_meanCostBits 19 = .ok (.iconst 1, 1) := by decide +kernel
theorem dX12_meanCostBits_20 : decode cX12_meanCostBits 20 = .ok (.invokevirtual 69, 3) := by decide +kernel
theorem dX12_meanCostBits_23 : decode cX12_meanCostBits 23 = .ok (.ifCond .ne 24, 3) := by decide +kernel
theorem dX12_meanCostBits_47 : decode cX12_meanCostBits 47 = .ok (.iconst 0, 1) := by decide +kernel
theorem dX12_meanCostBits_48 : decode cX12_meanCostBits 48 = .ok (.ireturn, 1) := by decide +kernel
theorem dX12_meanCostBits_18 : decode cX12_meanCostBits 18 = .ok (.iconst 0, 1) := by decide +kernel
theorem dX12_meanCostBits_26 : decode cX12_meanCostBits 26 = .ok (.aload_n 0, 1) := by decide +kernel
theorem dX12_meanCostBits_27 : decode cX12_meanCostBits 27 = .ok (.aload_n 0, 1) := by decide +kernel
theorem dX12_meanCostBits_28 : decode cX12_meanCostBits 28 = .ok (.iload_n 1, 1) := by decide +kernel
theorem dX12_meanCostBits_29 : decode cX12_meanCostBits 29 = .ok (.invokevirtual 163, 3) := by decide +kernel
theorem dX12_meanCostBits_32 : decode cX12_meanCostBits 32 = .ok (.ifCond .ne 7, 3) := by decide +kernel
theorem dX12_meanCostBits_39 : decode cX12_meanCostBits 39 = .ok (.iconst 0, 1) := by decide +kernel
theorem dX12_meanCostBits_40 : decode cX12_meanCostBits 40 = .ok (.iconst 2, 1) := by decide +kernel
theorem dX12_meanCostBits_41 : decode cX12_meanCostBits 41 = .ok (.invokevirtual 69, 3) := by decide +kernel
theorem dX12_meanCostBits_44 : decode cX12_meanCostBits 44 = .ok (.ifCond .eq 5, 3) := by decide +kernel
theorem dX12_meanCostBits_49 : decode cX12_meanCostBits 49 = .ok (.iconst 0, 1) := by decide +kernel
theorem dX12_meanCostBits_50 : decode cX12_meanCostBits 50 = .ok (.istore_n 2, 1) := by decide +kernel
theorem dX12_meanCostBits_51 : decode cX12_meanCostBits 51 = .ok (.iconst 0, 1) := by decide +kernel
theorem dX12_meanCostBits_52 : decode cX12_meanCostBits 52 = .ok (.istore_n 3, 1) := by decide +kernel
theorem dX12_meanCostBits_53 : decode cX12_meanCostBits 53 = .ok (.iload_n 3, 1) := by decide +kernel
theorem dX12_meanCostBits_54 : decode cX12_meanCostBits 54 = .ok (.aload_n 0, 1) := by decide +kernel
theorem dX12_meanCostBits_55 : decode cX12_meanCostBits 55 = .ok (.getfield 9, 3) := by decide +kernel
theorem dX12_meanCostBits_58 : decode cX12_meanCostBits 58 = .ok (.iconst 3, 1) := by decide +kernel
theorem dX12_meanCostBits_59 : decode cX12_meanCostBits 59 = .ok (.iaload, 1) := by decide +kernel
theorem dX12_meanCostBits_60 : decode cX12_meanCostBits 60 = .ok (.if_icmp .ge 33, 3) := by decide +kernel
theorem dX12_meanCostBits_93 : decode cX12_meanCostBits 93 = .ok (.iload_n 2, 1) := by decide +kernel
theorem dX12_meanCostBits_94 : decode cX12_meanCostBits 94 = .ok (.i2f, 1) := by decide +kernel
theorem dX12_meanCostBits_95 : decode cX12_meanCostBits 95 = .ok (.aload_n 0, 1) := by decide +kernel
theorem dX12_meanCostBits_96 : decode cX12_meanCostBits 96 = .ok (.iload_n 1, 1) := by decide +kernel
theorem dX12_meanCostBits_97 : decode cX12_meanCostBits 97 = .ok (.invokevirtual 163, 3) := by decide +kernel
theorem dX12_meanCostBits_100 : decode cX12_meanCostBits 100 = .ok (.i2f, 1) := by decide +kernel
theorem dX12_meanCostBits_101 : decode cX12_meanCostBits 101 = .ok (.fdiv, 1) := by decide +kernel
theorem dX12_meanCostBits_102 : decode cX12_meanCostBits 102 = .ok (.invokestatic 175, 3) := by decide +kernel
theorem dJxf58ca_floatToIntBits_5c35a_0 : decode cJxf58ca_floatToIntBits_5c35a 0 = .ok (.fload_n 0, 1) := by decide +kernel
theorem dJxf58ca_floatToIntBits_5c35a_1 : decode cJxf58ca_floatToIntBits_5c35a 1 = .ok (.invokestatic 59, 3) := by decide +kernel
theorem dJxf58ca_isNaN_12338_0 : decode cJxf58ca_isNaN_12338 0 = .ok (.fload_n 0, 1) := by decide +kernel
theorem dJxf58ca_isNaN_12338_1 : decode cJxf58ca_isNaN_12338 1 = .ok (.fload_n 0, 1) := by decide +kernel
theorem dJxf58ca_isNaN_12338_2 : decode cJxf58ca_isNaN_12338 2 = .ok (.fcmp .l, 1) := by decide +kernel
theorem dJxf58ca_isNaN_12338_3 : decode cJxf58ca_isNaN_12338 3 = .ok (.ifCond .eq 7, 3) := by decide +kernel
theorem dJxf58ca_isNaN_12338_10 : decode cJxf58ca_isNaN_12338 10 = .ok (.iconst 0, 1) := by decide +kernel
theorem dJxf58ca_isNaN_12338_11 : decode cJxf58ca_isNaN_12338 11 = .ok (.ireturn, 1) := by decide +kernel
theorem dJxf58ca_isNaN_12338_6 : decode cJxf58ca_isNaN_12338 6 = .ok (.iconst 1, 1) := by decide +kernel
theorem dJxf58ca_isNaN_12338_7 : decode cJxf58ca_isNaN_12338 7 = .ok (.goto 4, 3) := by decide +kernel
set_option maxRecDepth 100000 in
set_option maxHeartbeats 4000000 in
theorem rJxf58ca_isNaN_12338 (l : Launch) (D : va_G) (Y : Nat → ClassId)  (s0 : UInt32) (hf0 : FP.Core.fIsNaN s0 = false) (sz : Nat) : Met l yJxf58ca_isNaN_12338 (WSm yJxf58ca_isNaN_12338 cJxf58ca_isNaN_12338 1 (some .boolean)) (mkR 0 0 0 0) (PreC D Y [.float s0] [] sz) (QI D (fun (r : Int32) (u : WU) => (r = 0 ∨ r = 1)) (fun (u : WU) => []) (va_A [] sz)) 0 0 (va_A [] sz) :=
  met_of (by decide +kernel) (Nat.le_of_ble_eq_true rfl) (fun p e s m args below meth c B hin hsz => by
    have B : VB p s m args meth c D Y (va_A [] sz) cJxf58ca_isNaN_12338 1 RJxf58ca (some .boolean) := B
    refine V_fload_n 0 B dJxf58ca_isNaN_12338_0 0 rfl ?_
    refine V_fload_n 1 B dJxf58ca_isNaN_12338_1 0 rfl ?_
    refine V_fcmp 2 B dJxf58ca_isNaN_12338_2 (fun j0 => ?_)
    refine V_if_eq 3 B 10 dJxf58ca_isNaN_12338_3 (by decide) (fun kk1 => ?_) (fun kk1 => ?_)
    ·
      obtain rfl : j0 = 0 := kk1
      have e3 : (0 : Int32).toInt = 0 := by decide +kernel
      refine V_iconst 10 B (v := 0) dJxf58ca_isNaN_12338_10 (by decide +kernel) ?_
      exact V_zret 11 B rfl dJxf58ca_isNaN_12338_11 (mkW [] [] [] [] [] []) (Or.inl rfl) rfl
    ·
      have x4 := x_ne kk1
      rw [show (0 : Int32).toInt = 0 by decide +kernel] at x4
      refine V_iconst 6 B (v := 1) dJxf58ca_isNaN_12338_6 (by decide +kernel) ?_
      refine V_goto 7 B 11 dJxf58ca_isNaN_12338_7 (by decide) ?_
      exact V_zret 11 B rfl dJxf58ca_isNaN_12338_11 (mkW [] [] [] [] [] []) (Or.inr rfl) rfl)
theorem glS_RJxf58ca_59 : GLS RJxf58ca 59 yJxf58ca_isNaN_12338 cJxf58ca_isNaN_12338 1 (some .boolean) 1 := ⟨⟨(mT9 3 rfl rfl), (mT9 4 rfl rfl), (mT1 27 rfl rfl), (mT9 5 rfl rfl)⟩, by decide +kernel⟩
theorem dJxf58ca_floatToIntBits_5c35a_4 : decode cJxf58ca_floatToIntBits_5c35a 4 = .ok (.ifCond .ne 8, 3) := by decide +kernel
theorem dJxf58ca_floatToIntBits_5c35a_7 : decode cJxf58ca_floatToIntBits_5c35a 7 = .ok (.fload_n 0, 1) := by decide +kernel
theorem dJxf58ca_floatToIntBits_5c35a_8 : decode cJxf58ca_floatToIntBits_5c35a 8 = .ok (.invokestatic 74, 3) := by decide +kernel
theorem dX12_clashPairs_0 : decode cX12_clashPairs 0 = .ok (.aload_n 0, 1) := by decide +kernel
theorem dX12_clashPairs_1 : decode cX12_clashPairs 1 = .ok (.iconst 0, 1) := by decide +kernel
theorem dX12_clashPairs_2 : decode cX12_clashPairs 2 = .ok (.putfield 38, 3) := by decide +kernel
theorem dX12_clashPairs_5 : decode cX12_clashPairs 5 = .ok (.aload_n 0, 1) := by decide +kernel
theorem dX12_clashPairs_6 : decode cX12_clashPairs 6 = .ok (.aload_n 0, 1) := by decide +kernel
theorem dX12_clashPairs_7 : decode cX12_clashPairs 7 = .ok (.iload_n 1, 1) := by decide +kernel
theorem dX12_clashPairs_8 : decode cX12_clashPairs 8 = .ok (.invokevirtual 91, 3) := by decide +kernel
theorem dX12_clashPairs_11 : decode cX12_clashPairs 11 = .ok (.ifCond .eq 11, 3) := by decide +kernel
theorem dX12_clashPairs_22 : decode cX12_clashPairs 22 = .ok (.iconst 1, 1) := by decide +kernel
theorem dX12_clashPairs_23 : decode cX12_clashPairs 23 = .ok (.goto 4, 3) := by decide +kernel
theorem dX12_clashPairs_27 : decode cX12_clashPairs 27 = .ok (.iconst 1, 1) := by decide +kernel
theorem dX12_clashPairs_28 : decode cX12_clashPairs 28 = .ok (.invokevirtual 69, 3) := by decide +kernel
theorem dX12_clashPairs_31 : decode cX12_clashPairs 31 = .ok (.ifCond .ne 21, 3) := by decide +kernel
theorem dX12_clashPairs_52 : decode cX12_clashPairs 52 = .ok (.iconst 0, 1) := by decide +kernel
theorem dX12_clashPairs_53 : decode cX12_clashPairs 53 = .ok (.ireturn, 1) := by decide +kernel
theorem dX12_clashPairs_14 : decode cX12_clashPairs 14 = .ok (.aload_n 0, 1) := by decide +kernel
theorem dX12_clashPairs_15 : decode cX12_clashPairs 15 = .ok (.iload_n 2, 1) := by decide +kernel
theorem dX12_clashPairs_16 : decode cX12_clashPairs 16 = .ok (.invokevirtual 91, 3) := by decide +kernel
theorem dX12_clashPairs_19 : decode cX12_clashPairs 19 = .ok (.ifCond .ne 7, 3) := by decide +kernel
theorem dX12_clashPairs_26 : decode cX12_clashPairs 26 = .ok (.iconst 0, 1) := by decide +kernel
theorem dX12_clashPairs_34 : decode cX12_clashPairs 34 = .ok (.aload_n 0, 1) := by decide +kernel
theorem dX12_clashPairs_35 : decode cX12_clashPairs 35 = .ok (.iload_n 1, 1) := by decide +kernel
theorem dX12_clashPairs_36 : decode cX12_clashPairs 36 = .ok (.iload_n 2, 1) := by decide +kernel
theorem dX12_clashPairs_37 : decode cX12_clashPairs 37 = .ok (.if_icmp .ne 7, 3) := by decide +kernel
theorem dX12_clashPairs_44 : decode cX12_clashPairs 44 = .ok (.iconst 0, 1) := by decide +kernel
theorem dX12_clashPairs_45 : decode cX12_clashPairs 45 = .ok (.iconst 2, 1) := by decide +kernel
theorem dX12_clashPairs_46 : decode cX12_clashPairs 46 = .ok (.invokevirtual 69, 3) := by decide +kernel
theorem dX12_clashPairs_49 : decode cX12_clashPairs 49 = .ok (.ifCond .eq 5, 3) := by decide +kernel
theorem dX12_clashPairs_54 : decode cX12_clashPairs 54 = .ok (.iconst 0, 1) := by decide +kernel
theorem dX12_clashPairs_55 : decode cX12_clashPairs 55 = .ok (.istore_n 3, 1) := by decide +kernel
theorem dX12_clashPairs_56 : decode cX12_clashPairs 56 = .ok (.iconst 0, 1) := by decide +kernel
theorem dX12_clashPairs_57 : decode cX12_clashPairs 57 = .ok (.istore 4, 2) := by decide +kernel
theorem dX12_clashPairs_59 : decode cX12_clashPairs 59 = .ok (.iload 4, 2) := by decide +kernel
theorem dX12_clashPairs_61 : decode cX12_clashPairs 61 = .ok (.aload_n 0, 1) := by decide +kernel
theorem dX12_clashPairs_62 : decode cX12_clashPairs 62 = .ok (.getfield 9, 3) := by decide +kernel
theorem dX12_clashPairs_65 : decode cX12_clashPairs 65 = .ok (.iconst 3, 1) := by decide +kernel
theorem dX12_clashPairs_66 : decode cX12_clashPairs 66 = .ok (.iaload, 1) := by decide +kernel
theorem dX12_clashPairs_67 : decode cX12_clashPairs 67 = .ok (.if_icmp .ge 32, 3) := by decide +kernel
theorem dX12_clashPairs_99 : decode cX12_clashPairs 99 = .ok (.iload_n 3, 1) := by decide +kernel
theorem dX12_clashPairs_100 : decode cX12_clashPairs 100 = .ok (.ireturn, 1) := by decide +kernel
theorem dX12_clashPairs_70 : decode cX12_clashPairs 70 = .ok (.aload_n 0, 1) := by decide +kernel
theorem dX12_clashPairs_71 : decode cX12_clashPairs 71 = .ok (.iload 4, 2) := by decide +kernel
theorem dX12_clashPairs_73 : decode cX12_clashPairs 73 = .ok (.invokevirtual 115, 3) := by decide +kernel
theorem dX12_clashPairs_76 : decode cX12_clashPairs 76 = .ok (.iload_n 1, 1) := by decide +kernel
theorem dX12_clashPairs_77 : decode cX12_clashPairs 77 = .ok (.if_icmp .ne 16, 3) := by decide +kernel
theorem dX12_clashPairs_93 : decode cX12_clashPairs 93 = .ok (.iinc 4 1, 3) := by decide +kernel
theorem dX12_clashPairs_96 : decode cX12_clashPairs 96 = .ok (.goto (-37), 3) := by decide +kernel
theorem dX12_clashPairs_80 : decode cX12_clashPairs 80 = .ok (.iload_n 3, 1) := by decide +kernel
theorem dX12_clashPairs_81 : decode cX12_clashPairs 81 = .ok (.aload_n 0, 1) := by decide +kernel
theorem dX12_clashPairs_82 : decode cX12_clashPairs 82 = .ok (.iload_n 2, 1) := by decide +kernel
theorem dX12_clashPairs_83 : decode cX12_clashPairs 83 = .ok (.iload 4, 2) := by decide +kernel
theorem dX12_clashPairs_85 : decode cX12_clashPairs 85 = .ok (.invokestatic 85, 3) := by decide +kernel
theorem dX12_clashPairs_88 : decode cX12_clashPairs 88 = .ok (.invokevirtual 139, 3) := by decide +kernel
theorem dX12_clashPairs_91 : decode cX12_clashPairs 91 = .ok (.iadd, 1) := by decide +kernel
theorem dX12_clashPairs_92 : decode cX12_clashPairs 92 = .ok (.istore_n 3, 1) := by decide +kernel
theorem dX12_clashPairs_40 : decode cX12_clashPairs 40 = .ok (.iconst 1, 1) := by decide +kernel
theorem dX12_clashPairs_41 : decode cX12_clashPairs 41 = .ok (.goto 4, 3) := by decide +kernel
set_option maxRecDepth 100000 in
set_option maxHeartbeats 4000000 in
theorem rX12_clashPairs (l : Launch) (D : va_G) (Y : Nat → ClassId) (h0 : Nat) (h1 : Nat) (h2 : Nat) (h3 : Nat) (h4 : Nat) (h5 : Nat) (h6 : Nat) (p2 : Int32) (k5 : Nat) (k6 : Nat) (p7 : Int32) (p8 : Int32) (p9 : Int32) (k10 : Nat) (p11 : Int32) (q12 : Int64) (k15 : Nat) (k16 : Nat) (f0 : Nat → Int32) (f1 : Nat → Int32) (f3 : Nat → Int32) (f4 : Nat → Int32) (f13 : Nat → Int32) (f14 : Nat → Int32) (HI : INV f0) (HL : k5 ≤ 1600) (HP : PLV f13) (s0 : Int32) (s1 : Int32)  (sz : Nat) : Met l yX12_clashPairs (WSm yX12_clashPairs cX12_clashPairs 5 (some .int)) (mkR 4 0 0 90) (PreC D Y [.ref h0, .int s0, .int s1] [(h0, oC 13 [.ref h1, .ref h2, .int p2, .ref h3, .ref h4, .int (nI k5), .int (nI k6), .int p7, .int p8, .int p9, .int (nI k10), .int p11, .long q12, .ref h5, .ref h6, .int (nI k15), .int (nI k16)]), (h1, aI Y 3640 f0), (h2, aZ Y 2 f1), (h3, aZ Y 80 f3), (h4, aB Y 1600 f4), (h5, aI Y 200 f13), (h6, aI Y 800 f14)] sz) (QI D (fun (r : Int32) (u : WU) => True) (fun (u : WU) => [(h0, oC 13 [.ref h1, .ref h2, .int (u.2.1 0), .ref h3, .ref h4, .int (nI k5), .int (nI k6), .int p7, .int p8, .int p9, .int (nI k10), .int p11, .long q12, .ref h5, .ref h6, .int (nI k15), .int (nI k16)]), (h1, aI Y 3640 f0), (h2, aZ Y 2 f1), (h3, aZ Y 80 f3), (h4, aB Y 1600 f4), (h5, aI Y 200 f13), (h6, aI Y 800 f14)]) (va_A [(h0, oC 13 [.ref h1, .ref h2, .int p2, .ref h3, .ref h4, .int (nI k5), .int (nI k6), .int p7, .int p8, .int p9, .int (nI k10), .int p11, .long q12, .ref h5, .ref h6, .int (nI k15), .int (nI k16)]), (h1, aI Y 3640 f0), (h2, aZ Y 2 f1), (h3, aZ Y 80 f3), (h4, aB Y 1600 f4), (h5, aI Y 200 f13), (h6, aI Y 800 f14)] sz)) 0 0 (va_A [(h0, oC 13 [.ref h1, .ref h2, .int p2, .ref h3, .ref h4, .int (nI k5), .int (nI k6), .int p7, .int p8, .int p9, .int (nI k10), .int p11, .long q12, .ref h5, .ref h6, .int (nI k15), .int (nI k16)]), (h1, aI Y 3640 f0), (h2, aZ Y 2 f1), (h3, aZ Y 80 f3), (h4, aB Y 1600 f4), (h5, aI Y 200 f13), (h6, aI Y 800 f14)] sz) :=
  met_of (by decide +kernel) (Nat.le_of_ble_eq_true rfl) (fun p e s m args below meth c B hin hsz => by
    have B : VB p s m args meth c D Y (va_A [(h0, oC 13 [.ref h1, .ref h2, .int p2, .ref h3, .ref h4, .int (nI k5), .int (nI k6), .int p7, .int p8, .int p9, .int (nI k10), .int p11, .long q12, .ref h5, .ref h6, .int (nI k15), .int (nI k16)]), (h1, aI Y 3640 f0), (h2, aZ Y 2 f1), (h3, aZ Y 80 f3), (h4, aB Y 1600 f4), (h5, aI Y 200 f13), (h6, aI Y 800 f14)] sz) cX12_clashPairs 5 RX12 (some .int) := B
    refine V_aload_n 0 B dX12_clashPairs_0 0 rfl ?_
    refine V_iconst 1 B (v := 0) dX12_clashPairs_1 (by decide +kernel) ?_
    refine V_put 2 B gp_RX12_38 0 rfl (Nat.le_of_ble_eq_true rfl) rfl rfl dX12_clashPairs_2 [(h0, oC 13 [.ref h1, .ref h2, .int 0, .ref h3, .ref h4, .int (nI k5), .int (nI k6), .int p7, .int p8, .int p9, .int (nI k10), .int p11, .long q12, .ref h5, .ref h6, .int (nI k15), .int (nI k16)]), (h1, aI Y 3640 f0), (h2, aZ Y 2 f1), (h3, aZ Y 80 f3), (h4, aB Y 1600 f4), (h5, aI Y 200 f13), (h6, aI Y 800 f14)] rfl ?_
    refine V_aload_n 5 B dX12_clashPairs_5 0 rfl ?_
    refine V_aload_n 6 B dX12_clashPairs_6 0 rfl ?_
    refine V_iload_n 7 B dX12_clashPairs_7 1 rfl ?_
    refine V_cvi 8 B (st := [.ref h0]) (As := [.int s0]) (fun sz => rX12_isMode l D Y h0 h1 h2 h3 h4 h5 h6 0 k5 k6 p7 p8 p9 k10 p11 q12 k15 k16 f0 f1 f3 f4 f13 f14 HI (by omega) HP s0 sz) glV_RX12_91 ⟨rfl, rfl⟩ ⟨(Nat.le_of_ble_eq_true rfl), (Nat.le_of_ble_eq_true rfl)⟩ ⟨(Nat.le_of_ble_eq_true rfl), (Nat.le_of_ble_eq_true rfl)⟩ [0, 0, 0, 0, 0, 0, 0] rfl 13 0 rfl rfl rfl rfl (Nat.le_of_ble_eq_true rfl) rfl (fun _ _ _ => rfl) dX12_clashPairs_8 (fun j0 u1 w2 => ?_)
    refine V_ws [(h0, oC 13 [.ref h1, .ref h2, .int 0, .ref h3, .ref h4, .int (nI k5), .int (nI k6), .int p7, .int p8, .int p9, .int (nI k10), .int p11, .long q12, .ref h5, .ref h6, .int (nI k15), .int (nI k16)]), (h1, aI Y 3640 f0), (h2, aZ Y 2 f1), (h3, aZ Y 80 f3), (h4, aB Y 1600 f4), (h5, aI Y 200 f13), (h6, aI Y 800 f14)] rfl ?_
    have x3 := w2
    have x7 : (gN f0 0) ≤ 6 := gN_le HI (by omega) (show bd 0 = (0, ((6 : Nat) : Int)) by decide +kernel)
    rcases x3 with rfl | ⟨rfl, n4, rfl, x6⟩
    ·
      refine V_if_eq_t 11 B 22 dX12_clashPairs_11 (by decide) (by decide +kernel) ?_
      refine V_iconst 22 B (v := 1) dX12_clashPairs_22 (by decide +kernel) ?_
      refine V_goto 23 B 27 dX12_clashPairs_23 (by decide) ?_
      refine V_iconst 27 B (v := 1) dX12_clashPairs_27 (by decide +kernel) ?_
      refine V_cvi 28 B (st := []) (As := [.int 1, .int 1]) (fun sz => rX12_throwsIf_1 l D Y h0 h1 h2 h3 h4 h5 h6 0 k5 k6 p7 p8 p9 k10 p11 q12 k15 k16 f0 f1 f3 f4 f13 f14 HI (by omega) HP 1 sz) glV_RX12_69 ⟨rfl, rfl⟩ ⟨(Nat.le_of_ble_eq_true rfl), (Nat.le_of_ble_eq_true rfl)⟩ ⟨(Nat.le_of_ble_eq_true rfl), (Nat.le_of_ble_eq_true rfl)⟩ [0, 0, 0, 0, 0, 0, 0] rfl 13 0 rfl rfl rfl rfl (Nat.le_of_ble_eq_true rfl) rfl (fun _ _ _ => rfl) dX12_clashPairs_28 (fun j8 u9 w10 => ?_)
      refine V_ws [(h0, oC 13 [.ref h1, .ref h2, .int (u9.2.1 0), .ref h3, .ref h4, .int (nI k5), .int (nI k6), .int p7, .int p8, .int p9, .int (nI k10), .int p11, .long q12, .ref h5, .ref h6, .int (nI k15), .int (nI k16)]), (h1, aI Y 3640 f0), (h2, aZ Y 2 f1), (h3, aZ Y 80 f3), (h4, aB Y 1600 f4), (h5, aI Y 200 f13), (h6, aI Y 800 f14)] rfl ?_
      have x11 := w10
      obtain rfl := x11
      refine V_if_ne_t 31 B 52 dX12_clashPairs_31 (by decide) (by decide +kernel) ?_
      refine V_iconst 52 B (v := 0) dX12_clashPairs_52 (by decide +kernel) ?_
      exact V_iret 53 B dX12_clashPairs_53 (mkW [] [(u9.2.1 0)] [] [] [] []) trivial rfl
    ·
      have e12 := nI_toInt (show n4 < 2 ^ 31 by omega)
      have x13 : (gN f0 0) ≤ 6 := gN_le HI (by omega) (show bd 0 = (0, ((6 : Nat) : Int)) by decide +kernel)
      refine V_if_eq_f 11 B 22 dX12_clashPairs_11 (by decide) (by decide +kernel) ?_
      refine V_aload_n 14 B dX12_clashPairs_14 0 rfl ?_
      refine V_iload_n 15 B dX12_clashPairs_15 2 rfl ?_
      refine V_cvi 16 B (st := [.ref h0]) (As := [.int s1]) (fun sz => rX12_isMode l D Y h0 h1 h2 h3 h4 h5 h6 0 k5 k6 p7 p8 p9 k10 p11 q12 k15 k16 f0 f1 f3 f4 f13 f14 HI (by omega) HP s1 sz) glV_RX12_91 ⟨rfl, rfl⟩ ⟨(Nat.le_of_ble_eq_true rfl), (Nat.le_of_ble_eq_true rfl)⟩ ⟨(Nat.le_of_ble_eq_true rfl), (Nat.le_of_ble_eq_true rfl)⟩ [0, 0, 0, 0, 0, 0, 0] rfl 13 0 rfl rfl rfl rfl (Nat.le_of_ble_eq_true rfl) rfl (fun _ _ _ => rfl) dX12_clashPairs_16 (fun j14 u15 w16 => ?_)
      refine V_ws [(h0, oC 13 [.ref h1, .ref h2, .int 0, .ref h3, .ref h4, .int (nI k5), .int (nI k6), .int p7, .int p8, .int p9, .int (nI k10), .int p11, .long q12, .ref h5, .ref h6, .int (nI k15), .int (nI k16)]), (h1, aI Y 3640 f0), (h2, aZ Y 2 f1), (h3, aZ Y 80 f3), (h4, aB Y 1600 f4), (h5, aI Y 200 f13), (h6, aI Y 800 f14)] rfl ?_
      have x17 := w16
      have x21 : (gN f0 0) ≤ 6 := gN_le HI (by omega) (show bd 0 = (0, ((6 : Nat) : Int)) by decide +kernel)
      rcases x17 with rfl | ⟨rfl, n18, rfl, x20⟩
      ·
        refine V_if_ne_f 19 B 26 dX12_clashPairs_19 (by decide) (by decide +kernel) ?_
        refine V_iconst 22 B (v := 1) dX12_clashPairs_22 (by decide +kernel) ?_
        refine V_goto 23 B 27 dX12_clashPairs_23 (by decide) ?_
        refine V_iconst 27 B (v := 1) dX12_clashPairs_27 (by decide +kernel) ?_
        refine V_cvi 28 B (st := []) (As := [.int 1, .int 1]) (fun sz => rX12_throwsIf_1 l D Y h0 h1 h2 h3 h4 h5 h6 0 k5 k6 p7 p8 p9 k10 p11 q12 k15 k16 f0 f1 f3 f4 f13 f14 HI (by omega) HP 1 sz) glV_RX12_69 ⟨rfl, rfl⟩ ⟨(Nat.le_of_ble_eq_true rfl), (Nat.le_of_ble_eq_true rfl)⟩ ⟨(Nat.le_of_ble_eq_true rfl), (Nat.le_of_ble_eq_true rfl)⟩ [0, 0, 0, 0, 0, 0, 0] rfl 13 0 rfl rfl rfl rfl (Nat.le_of_ble_eq_true rfl) rfl (fun _ _ _ => rfl) dX12_clashPairs_28 (fun j22 u23 w24 => ?_)
        refine V_ws [(h0, oC 13 [.ref h1, .ref h2, .int (u23.2.1 0), .ref h3, .ref h4, .int (nI k5), .int (nI k6), .int p7, .int p8, .int p9, .int (nI k10), .int p11, .long q12, .ref h5, .ref h6, .int (nI k15), .int (nI k16)]), (h1, aI Y 3640 f0), (h2, aZ Y 2 f1), (h3, aZ Y 80 f3), (h4, aB Y 1600 f4), (h5, aI Y 200 f13), (h6, aI Y 800 f14)] rfl ?_
        have x25 := w24
        obtain rfl := x25
        refine V_if_ne_t 31 B 52 dX12_clashPairs_31 (by decide) (by decide +kernel) ?_
        refine V_iconst 52 B (v := 0) dX12_clashPairs_52 (by decide +kernel) ?_
        exact V_iret 53 B dX12_clashPairs_53 (mkW [] [(u23.2.1 0)] [] [] [] []) trivial rfl
      ·
        have e26 := nI_toInt (show n18 < 2 ^ 31 by omega)
        have x27 : (gN f0 0) ≤ 6 := gN_le HI (by omega) (show bd 0 = (0, ((6 : Nat) : Int)) by decide +kernel)
        refine V_if_ne_t 19 B 26 dX12_clashPairs_19 (by decide) (by decide +kernel) ?_
        refine V_iconst 26 B (v := 0) dX12_clashPairs_26 (by decide +kernel) ?_
        refine V_iconst 27 B (v := 1) dX12_clashPairs_27 (by decide +kernel) ?_
        refine V_cvi 28 B (st := []) (As := [.int 0, .int 1]) (fun sz => rX12_throwsIf_0 l D Y h0 h1 h2 h3 h4 h5 h6 0 k5 k6 p7 p8 p9 k10 p11 q12 k15 k16 f0 f1 f3 f4 f13 f14 HI (by omega) HP 1 sz) glV_RX12_69 ⟨rfl, rfl⟩ ⟨(Nat.le_of_ble_eq_true rfl), (Nat.le_of_ble_eq_true rfl)⟩ ⟨(Nat.le_of_ble_eq_true rfl), (Nat.le_of_ble_eq_true rfl)⟩ [0, 0, 0, 0, 0, 0, 0] rfl 13 0 rfl rfl rfl rfl (Nat.le_of_ble_eq_true rfl) rfl (fun _ _ _ => rfl) dX12_clashPairs_28 (fun j28 u29 w30 => ?_)
        refine V_ws [(h0, oC 13 [.ref h1, .ref h2, .int (u29.2.1 0), .ref h3, .ref h4, .int (nI k5), .int (nI k6), .int p7, .int p8, .int p9, .int (nI k10), .int p11, .long q12, .ref h5, .ref h6, .int (nI k15), .int (nI k16)]), (h1, aI Y 3640 f0), (h2, aZ Y 2 f1), (h3, aZ Y 80 f3), (h4, aB Y 1600 f4), (h5, aI Y 200 f13), (h6, aI Y 800 f14)] rfl ?_
        have x31 := w30
        obtain rfl := x31
        refine V_if_ne_f 31 B 52 dX12_clashPairs_31 (by decide) (by decide +kernel) ?_
        refine V_aload_n 34 B dX12_clashPairs_34 0 rfl ?_
        refine V_iload_n 35 B dX12_clashPairs_35 1 rfl ?_
        refine V_iload_n 36 B dX12_clashPairs_36 2 rfl ?_
        refine V_icmp_ne 37 B 44 dX12_clashPairs_37 (by decide) (fun kk32 => ?_) (fun kk32 => ?_)
        ·
          have x33 := n_ne (a := n4) (b := n18) kk32
          refine V_iconst 44 B (v := 0) dX12_clashPairs_44 (by decide +kernel) ?_
          refine V_iconst 45 B (v := 2) dX12_clashPairs_45 (by decide +kernel) ?_
          refine V_cvi 46 B (st := []) (As := [.int 0, .int 2]) (fun sz => rX12_throwsIf_0 l D Y h0 h1 h2 h3 h4 h5 h6 (u29.2.1 0) k5 k6 p7 p8 p9 k10 p11 q12 k15 k16 f0 f1 f3 f4 f13 f14 HI (by omega) HP 2 sz) glV_RX12_69 ⟨rfl, rfl⟩ ⟨(Nat.le_of_ble_eq_true rfl), (Nat.le_of_ble_eq_true rfl)⟩ ⟨(Nat.le_of_ble_eq_true rfl), (Nat.le_of_ble_eq_true rfl)⟩ [0, 0, 0, 0, 0, 0, 0] rfl 13 0 rfl rfl rfl rfl (Nat.le_of_ble_eq_true rfl) rfl (fun _ _ _ => rfl) dX12_clashPairs_46 (fun j34 u35 w36 => ?_)
          refine V_ws [(h0, oC 13 [.ref h1, .ref h2, .int (u35.2.1 0), .ref h3, .ref h4, .int (nI k5), .int (nI k6), .int p7, .int p8, .int p9, .int (nI k10), .int p11, .long q12, .ref h5, .ref h6, .int (nI k15), .int (nI k16)]), (h1, aI Y 3640 f0), (h2, aZ Y 2 f1), (h3, aZ Y 80 f3), (h4, aB Y 1600 f4), (h5, aI Y 200 f13), (h6, aI Y 800 f14)] rfl ?_
          have x37 := w36
          obtain rfl := x37
          refine V_if_eq_t 49 B 54 dX12_clashPairs_49 (by decide) (by decide +kernel) ?_
          refine V_iconst 54 B (v := 0) dX12_clashPairs_54 (by decide +kernel) ?_
          refine V_istore_n 55 B (lv2 := [(3, .int 0), (0, .ref h0), (1, .int (nI n4)), (2, .int (nI n18))]) dX12_clashPairs_55 (by decide) rfl ?_
          refine V_iconst 56 B (v := 0) dX12_clashPairs_56 (by decide +kernel) ?_
          refine V_istore 57 B (lv2 := [(4, .int 0), (3, .int 0), (0, .ref h0), (1, .int (nI n4)), (2, .int (nI n18))]) dX12_clashPairs_57 (by decide) rfl ?_
          refine V_wloop (α := WU) (fun a => 100000 - (a.1 0)) (fun a => (a.1 0) ≤ 4000) (fun a => [(4, .int (nI (a.1 0))), (3, .int (a.2.1 0)), (0, .ref h0), (1, .int (nI n4)), (2, .int (nI n18))]) (fun a => [(h0, oC 13 [.ref h1, .ref h2, .int (a.2.1 1), .ref h3, .ref h4, .int (nI k5), .int (nI k6), .int p7, .int p8, .int p9, .int (nI k10), .int p11, .long q12, .ref h5, .ref h6, .int (nI k15), .int (nI k16)]), (h1, aI Y 3640 f0), (h2, aZ Y 2 f1), (h3, aZ Y 80 f3), (h4, aB Y 1600 f4), (h5, aI Y 200 f13), (h6, aI Y 800 f14)]) (mkW [0] [0, (u35.2.1 0)] [] [] [] []) (show 0 ≤ 4000 by omega) rfl rfl (fun a38 hI40 IH39 => ?_)
          refine V_lv [(4, .int (nI (a38.1 0))), (3, .int (a38.2.1 0)), (0, .ref h0), (1, .int (nI n4)), (2, .int (nI n18))] [0, 1, 2, 3, 4] rfl ?_
          refine V_ws [(h0, oC 13 [.ref h1, .ref h2, .int (a38.2.1 1), .ref h3, .ref h4, .int (nI k5), .int (nI k6), .int p7, .int p8, .int p9, .int (nI k10), .int p11, .long q12, .ref h5, .ref h6, .int (nI k15), .int (nI k16)]), (h1, aI Y 3640 f0), (h2, aZ Y 2 f1), (h3, aZ Y 80 f3), (h4, aB Y 1600 f4), (h5, aI Y 200 f13), (h6, aI Y 800 f14)] rfl ?_
          have x41 := hI40
          refine V_iload 59 B dX12_clashPairs_59 0 rfl ?_
          refine V_aload_n 61 B dX12_clashPairs_61 2 rfl ?_
          refine V_get 62 B gf_RX12_9 0 rfl rfl dX12_clashPairs_62 ?_
          refine V_iconst 65 B (v := 3) dX12_clashPairs_65 (by decide +kernel) ?_
          have x42 : (gN f0 3) ≤ 80 := gN_le HI (by omega) (show bd 3 = (0, ((80 : Nat) : Int)) by decide +kernel)
          refine V_iald 66 B (v := (nI (gN f0 3))) 1 rfl (vpin _ _ (by decide +kernel)) dX12_clashPairs_66 (by show f0 3 = _; exact gN_eq HI (by omega) (show bd 3 = (0, ((80 : Nat) : Int)) by decide +kernel)) ?_
          refine V_icmp_ge 67 B 99 dX12_clashPairs_67 (by decide) (fun kk43 => ?_) (fun kk43 => ?_)
          ·
            have x44 := n_le (a := (gN f0 3)) (b := (a38.1 0)) kk43 (by omega) (by omega)
            refine V_iload_n 99 B dX12_clashPairs_99 1 rfl ?_
            exact V_iret 100 B dX12_clashPairs_100 (mkW [] [(a38.2.1 1)] [] [] [] []) trivial rfl
          ·
            have x45 := n_nle (a := (gN f0 3)) (b := (a38.1 0)) kk43 (by omega) (by omega)
            refine V_aload_n 70 B dX12_clashPairs_70 2 rfl ?_
            refine V_iload 71 B dX12_clashPairs_71 0 rfl ?_
            refine V_cvi 73 B (st := []) (As := [.int (nI (a38.1 0))]) (fun sz => rX12_modeOf l D Y h0 h1 h2 h3 h4 h5 h6 (a38.2.1 1) k5 k6 p7 p8 p9 k10 p11 q12 k15 k16 f0 f1 f3 f4 f13 f14 HI (by omega) HP (a38.1 0) (by omega) sz) glV_RX12_115 ⟨rfl, rfl⟩ ⟨(Nat.le_of_ble_eq_true rfl), (Nat.le_of_ble_eq_true rfl)⟩ ⟨(Nat.le_of_ble_eq_true rfl), (Nat.le_of_ble_eq_true rfl)⟩ [0, 0, 0, 0, 0, 0, 0] rfl 13 0 rfl rfl rfl rfl (Nat.le_of_ble_eq_true rfl) rfl (fun _ _ _ => rfl) dX12_clashPairs_73 (fun j46 u47 w48 => ?_)
            refine V_ws [(h0, oC 13 [.ref h1, .ref h2, .int (a38.2.1 1), .ref h3, .ref h4, .int (nI k5), .int (nI k6), .int p7, .int p8, .int p9, .int (nI k10), .int p11, .long q12, .ref h5, .ref h6, .int (nI k15), .int (nI k16)]), (h1, aI Y 3640 f0), (h2, aZ Y 2 f1), (h3, aZ Y 80 f3), (h4, aB Y 1600 f4), (h5, aI Y 200 f13), (h6, aI Y 800 f14)] rfl ?_
            have x49 := w48
            refine V_iload_n 76 B dX12_clashPairs_76 3 rfl ?_
            refine V_icmp_ne 77 B 93 dX12_clashPairs_77 (by decide) (fun kk50 => ?_) (fun kk50 => ?_)
            ·
              have x51 := x_ne kk50
              rw [nI_toInt (show n4 < 2 ^ 31 by omega)] at x51
              refine V_iinc 93 B (v := (nI (1 + (a38.1 0)))) (lv2 := [(4, .int (nI (1 + (a38.1 0)))), (3, .int (a38.2.1 0)), (0, .ref h0), (1, .int (nI n4)), (2, .int (nI n18))]) dX12_clashPairs_93 0 rfl (nI_addE (a := (a38.1 0)) (b := 1) (by omega)) (by decide) rfl ?_
              refine V_goto 96 B 59 dX12_clashPairs_96 (by decide) ?_
              refine V_lv [(4, .int (nI (1 + (a38.1 0)))), (3, .int (a38.2.1 0)), (0, .ref h0), (1, .int (nI n4)), (2, .int (nI n18))] [0, 1, 2, 3, 4] rfl ?_
              exact IH39 (mkW [1 + (a38.1 0)] [(a38.2.1 0), (a38.2.1 1)] [] [] [] []) (show 1 + (a38.1 0) ≤ 4000 by omega) (by show 100000 - (1 + (a38.1 0)) < 100000 - (a38.1 0); omega)
            ·
              obtain rfl : j46 = (nI n4) := kk50
              have e53 := nI_toInt (show n4 < 2 ^ 31 by omega)
              refine V_iload_n 80 B dX12_clashPairs_80 1 rfl ?_
              refine V_aload_n 81 B dX12_clashPairs_81 2 rfl ?_
              refine V_iload_n 82 B dX12_clashPairs_82 4 rfl ?_
              refine V_iload 83 B dX12_clashPairs_83 0 rfl ?_
              refine V_csi 85 B (st := [.int (nI n18), .ref h0, .int (a38.2.1 0)]) (As := [.int (nI (a38.1 0))]) (fun sz => rX12_sequenceOf l D Y (a38.1 0) (by omega) sz) glS_RX12_85 ⟨rfl, rfl⟩ ⟨(Nat.le_of_ble_eq_true rfl), (Nat.le_of_ble_eq_true rfl)⟩ ⟨(Nat.le_of_ble_eq_true rfl), (Nat.le_of_ble_eq_true rfl)⟩ [] rfl rfl (Nat.le_of_ble_eq_true rfl) rfl (fun _ _ _ => rfl) dX12_clashPairs_85 (fun j54 u55 w56 => ?_)
              refine V_ws [(h0, oC 13 [.ref h1, .ref h2, .int (a38.2.1 1), .ref h3, .ref h4, .int (nI k5), .int (nI k6), .int p7, .int p8, .int p9, .int (nI k10), .int p11, .long q12, .ref h5, .ref h6, .int (nI k15), .int (nI k16)]), (h1, aI Y 3640 f0), (h2, aZ Y 2 f1), (h3, aZ Y 80 f3), (h4, aB Y 1600 f4), (h5, aI Y 200 f13), (h6, aI Y 800 f14)] rfl ?_
              have x57 := w56
              obtain rfl := x57
              refine V_cvi 88 B (st := [.int (a38.2.1 0)]) (As := [.int (nI n18), .int (nI (186 + 7 * (a38.1 0)))]) (fun sz => rX12_clashCount l D Y h0 h1 h2 h3 h4 h5 h6 (a38.2.1 1) k5 k6 p7 p8 p9 k10 p11 q12 k15 k16 f0 f1 f3 f4 f13 f14 HI (by omega) HP (nI n18) (186 + 7 * (a38.1 0)) (rl5 (a38.1 0) (by omega)) sz) glV_RX12_139 ⟨rfl, rfl⟩ ⟨(Nat.le_of_ble_eq_true rfl), (Nat.le_of_ble_eq_true rfl)⟩ ⟨(Nat.le_of_ble_eq_true rfl), (Nat.le_of_ble_eq_true rfl)⟩ [0, 0, 0, 0, 0, 0, 0] rfl 13 0 rfl rfl rfl rfl (Nat.le_of_ble_eq_true rfl) rfl (fun _ _ _ => rfl) dX12_clashPairs_88 (fun j58 u59 w60 => ?_)
              refine V_ws [(h0, oC 13 [.ref h1, .ref h2, .int (a38.2.1 1), .ref h3, .ref h4, .int (nI k5), .int (nI k6), .int p7, .int p8, .int p9, .int (nI k10), .int p11, .long q12, .ref h5, .ref h6, .int (nI k15), .int (nI k16)]), (h1, aI Y 3640 f0), (h2, aZ Y 2 f1), (h3, aZ Y 80 f3), (h4, aB Y 1600 f4), (h5, aI Y 200 f13), (h6, aI Y 800 f14)] rfl ?_
              refine V_iadd 91 B dX12_clashPairs_91 rfl ?_
              refine V_nmi (fun j61 _ => ?_)
              refine V_istore_n 92 B (lv2 := [(3, .int j61), (4, .int (nI (a38.1 0))), (0, .ref h0), (1, .int (nI n4)), (2, .int (nI n18))]) dX12_clashPairs_92 (by decide) rfl ?_
              refine V_iinc 93 B (v := (nI (1 + (a38.1 0)))) (lv2 := [(4, .int (nI (1 + (a38.1 0)))), (3, .int j61), (0, .ref h0), (1, .int (nI n4)), (2, .int (nI n18))]) dX12_clashPairs_93 1 rfl (nI_addE (a := (a38.1 0)) (b := 1) (by omega)) (by decide) rfl ?_
              refine V_goto 96 B 59 dX12_clashPairs_96 (by decide) ?_
              refine V_lv [(4, .int (nI (1 + (a38.1 0)))), (3, .int j61), (0, .ref h0), (1, .int (nI n4)), (2, .int (nI n18))] [0, 1, 2, 3, 4] rfl ?_
              exact IH39 (mkW [1 + (a38.1 0)] [j61, (a38.2.1 1)] [] [] [] []) (show 1 + (a38.1 0) ≤ 4000 by omega) (by show 100000 - (1 + (a38.1 0)) < 100000 - (a38.1 0); omega)
        ·
          have x62 := n_eq (a := n4) (b := n18) kk32 (by omega) (by omega)
          refine V_iconst 40 B (v := 1) dX12_clashPairs_40 (by decide +kernel) ?_
          refine V_goto 41 B 45 dX12_clashPairs_41 (by decide) ?_
          refine V_iconst 45 B (v := 2) dX12_clashPairs_45 (by decide +kernel) ?_
          refine V_cvi 46 B (st := []) (As := [.int 1, .int 2]) (fun sz => rX12_throwsIf_1 l D Y h0 h1 h2 h3 h4 h5 h6 (u29.2.1 0) k5 k6 p7 p8 p9 k10 p11 q12 k15 k16 f0 f1 f3 f4 f13 f14 HI (by omega) HP 2 sz) glV_RX12_69 ⟨rfl, rfl⟩ ⟨(Nat.le_of_ble_eq_true rfl), (Nat.le_of_ble_eq_true rfl)⟩ ⟨(Nat.le_of_ble_eq_true rfl), (Nat.le_of_ble_eq_true rfl)⟩ [0, 0, 0, 0, 0, 0, 0] rfl 13 0 rfl rfl rfl rfl (Nat.le_of_ble_eq_true rfl) rfl (fun _ _ _ => rfl) dX12_clashPairs_46 (fun j63 u64 w65 => ?_)
          refine V_ws [(h0, oC 13 [.ref h1, .ref h2, .int (u64.2.1 0), .ref h3, .ref h4, .int (nI k5), .int (nI k6), .int p7, .int p8, .int p9, .int (nI k10), .int p11, .long q12, .ref h5, .ref h6, .int (nI k15), .int (nI k16)]), (h1, aI Y 3640 f0), (h2, aZ Y 2 f1), (h3, aZ Y 80 f3), (h4, aB Y 1600 f4), (h5, aI Y 200 f13), (h6, aI Y 800 f14)] rfl ?_
          have x66 := w65
          obtain rfl := x66
          refine V_if_eq_f 49 B 54 dX12_clashPairs_49 (by decide) (by decide +kernel) ?_
          refine V_iconst 52 B (v := 0) dX12_clashPairs_52 (by decide +kernel) ?_
          exact V_iret 53 B dX12_clashPairs_53 (mkW [] [(u64.2.1 0)] [] [] [] []) trivial rfl)
