theorem dX12_force_0 : decode cX12_force 0 = .ok (.aload_n 0, 1) := by decide +kernel
theorem dX12_force_1 : decode cX12_force 1 = .ok (.iconst 0, 1) := by decide +kernel
theorem dX12_force_2 : decode cX12_force 2 = .ok (.putfield 38, 3) := by decide +kernel
theorem dX12_force_5 : decode cX12_force 5 = .ok (.aload_n 0, 1) := by decide +kernel
theorem dX12_force_6 : decode cX12_force 6 = .ok (.aload_n 0, 1) := by decide +kernel
theorem dX12_force_7 : decode cX12_force 7 = .ok (.iload_n 1, 1) := by decide +kernel
theorem dX12_force_8 : decode cX12_force 8 = .ok (.invokevirtual 91, 3) := by decide +kernel
theorem dX12_force_11 : decode cX12_force 11 = .ok (.ifCond .eq 11, 3) := by decide +kernel
theorem dX12_force_22 : decode cX12_force 22 = .ok (.iconst 1, 1) := by decide +kernel
theorem dX12_force_23 : decode cX12_force 23 = .ok (.goto 4, 3) := by decide +kernel
theorem dX12_force_27 : decode cX12_force 27 = .ok (.iconst 1, 1) := by decide +kernel
theorem dX12_force_28 : decode cX12_force 28 = .ok (.invokevirtual 69, 3) := by decide +kernel
theorem dX12_force_31 : decode cX12_force 31 = .ok (.ifCond .eq 5, 3) := by decide +kernel
theorem dX12_force_34 : decode cX12_force 34 = .ok (.iconst 0, 1) := by decide +kernel
theorem dX12_force_35 : decode cX12_force 35 = .ok (.ireturn, 1) := by decide +kernel
theorem dX12_force_14 : decode cX12_force 14 = .ok (.aload_n 0, 1) := by decide +kernel
theorem dX12_force_15 : decode cX12_force 15 = .ok (.iload_n 2, 1) := by decide +kernel
theorem dX12_force_16 : decode cX12_force 16 = .ok (.invokevirtual 99, 3) := by decide +kernel
theorem dX12_force_19 : decode cX12_force 19 = .ok (.ifCond .ne 7, 3) := by decide +kernel
theorem dX12_force_26 : decode cX12_force 26 = .ok (.iconst 0, 1) := by decide +kernel
theorem dX12_force_36 : decode cX12_force 36 = .ok (.aload_n 0, 1) := by decide +kernel
theorem dX12_force_37 : decode cX12_force 37 = .ok (.invokevirtual 125, 3) := by decide +kernel
theorem dX12_force_40 : decode cX12_force 40 = .ok (.ifCond .eq 8, 3) := by decide +kernel
theorem dX12_force_48 : decode cX12_force 48 = .ok (.aload_n 0, 1) := by decide +kernel
theorem dX12_force_49 : decode cX12_force 49 = .ok (.iload_n 1, 1) := by decide +kernel
theorem dX12_force_50 : decode cX12_force 50 = .ok (.iload_n 2, 1) := by decide +kernel
theorem dX12_force_51 : decode cX12_force 51 = .ok (.sipush 3624, 3) := by decide +kernel
theorem dX12_force_54 : decode cX12_force 54 = .ok (.invokevirtual 145, 3) := by decide +kernel
theorem glV_RX12_145 : GLV RX12 145 yX12_forced RX12 cX12_forced 6 (some .int) 3 := ⟨⟨(mT8 120 rfl rfl), (mT8 122 rfl rfl), (mTs 48 rfl rfl), (mT1 13 rfl rfl), (mT8 123 rfl rfl)⟩, by decide +kernel⟩
theorem dX12_force_57 : decode cX12_force 57 = .ok (.ireturn, 1) := by decide +kernel
theorem dX12_force_43 : decode cX12_force 43 = .ok (.bipush (-4), 2) := by decide +kernel
theorem dX12_force_45 : decode cX12_force 45 = .ok (.goto 12, 3) := by decide +kernel
set_option maxRecDepth 100000 in
set_option maxHeartbeats 4000000 in
theorem rX12_force (l : Launch) (D : va_G) (Y : Nat → ClassId) (h0 : Nat) (h1 : Nat) (h2 : Nat) (h3 : Nat) (h4 : Nat) (h5 : Nat) (h6 : Nat) (p2 : Int32) (k5 : Nat) (k6 : Nat) (p7 : Int32) (p8 : Int32) (p9 : Int32) (k10 : Nat) (p11 : Int32) (q12 : Int64) (k15 : Nat) (k16 : Nat) (f0 : Nat → Int32) (f1 : Nat → Int32) (f3 : Nat → Int32) (f4 : Nat → Int32) (f13 : Nat → Int32) (f14 : Nat → Int32) (ph : Nat → Int32) (HI : INV ph f0) (HL : k5 ≤ 1600) (HP : PLV f13) (s0 : Int32) (s1 : Int32)  (sz : Nat) : Met l yX12_force (WSm yX12_force cX12_force 3 (some .int)) (mkR 5 0 0 115) (PreC D Y [.ref h0, .int s0, .int s1] [(h0, oC 13 [.ref h1, .ref h2, .int p2, .ref h3, .ref h4, .int (nI k5), .int (nI k6), .int p7, .int p8, .int p9, .int (nI k10), .int p11, .long q12, .ref h5, .ref h6, .int (nI k15), .int (nI k16)]), (h1, aI Y 3640 f0), (h2, aZ Y 2 f1), (h3, aZ Y 80 f3), (h4, aB Y 1600 f4), (h5, aI Y 200 f13), (h6, aI Y 800 f14)] sz) (QI D (fun (r : Int32) (u : WU) => INV ph (u.2.2.2.1 0)) (fun (u : WU) => [(h0, oC 13 [.ref h1, .ref h2, .int (u.2.1 0), .ref h3, .ref h4, .int (nI k5), .int (nI k6), .int p7, .int p8, .int p9, .int (nI k10), .int p11, .long q12, .ref h5, .ref h6, .int (nI k15), .int (nI k16)]), (h1, aI Y 3640 (u.2.2.2.1 0)), (h2, aZ Y 2 f1), (h3, aZ Y 80 f3), (h4, aB Y 1600 f4), (h5, aI Y 200 f13), (h6, aI Y 800 f14)]) (va_A [(h0, oC 13 [.ref h1, .ref h2, .int p2, .ref h3, .ref h4, .int (nI k5), .int (nI k6), .int p7, .int p8, .int p9, .int (nI k10), .int p11, .long q12, .ref h5, .ref h6, .int (nI k15), .int (nI k16)]), (h1, aI Y 3640 f0), (h2, aZ Y 2 f1), (h3, aZ Y 80 f3), (h4, aB Y 1600 f4), (h5, aI Y 200 f13), (h6, aI Y 800 f14)] sz)) 0 0 (va_A [(h0, oC 13 [.ref h1, .ref h2, .int p2, .ref h3, .ref h4, .int (nI k5), .int (nI k6), .int p7, .int p8, .int p9, .int (nI k10), .int p11, .long q12, .ref h5, .ref h6, .int (nI k15), .int (nI k16)]), (h1, aI Y 3640 f0), (h2, aZ Y 2 f1), (h3, aZ Y 80 f3), (h4, aB Y 1600 f4), (h5, aI Y 200 f13), (h6, aI Y 800 f14)] sz) :=
  met_of  (by decide +kernel) (Nat.le_of_ble_eq_true rfl) (fun p e s m args below meth c B hin hsz => by
    have B : VB p s m args meth c D Y (va_A [(h0, oC 13 [.ref h1, .ref h2, .int p2, .ref h3, .ref h4, .int (nI k5), .int (nI k6), .int p7, .int p8, .int p9, .int (nI k10), .int p11, .long q12, .ref h5, .ref h6, .int (nI k15), .int (nI k16)]), (h1, aI Y 3640 f0), (h2, aZ Y 2 f1), (h3, aZ Y 80 f3), (h4, aB Y 1600 f4), (h5, aI Y 200 f13), (h6, aI Y 800 f14)] sz) cX12_force 3 RX12 (some .int) := B
    refine V_aload_n 0 B dX12_force_0 0 rfl ?_
    refine V_iconst 1 B (v := 0) dX12_force_1 (by decide +kernel) ?_
    refine V_put 2 B gp_RX12_38 0 rfl (Nat.le_of_ble_eq_true rfl) rfl rfl dX12_force_2 [(h0, oC 13 [.ref h1, .ref h2, .int 0, .ref h3, .ref h4, .int (nI k5), .int (nI k6), .int p7, .int p8, .int p9, .int (nI k10), .int p11, .long q12, .ref h5, .ref h6, .int (nI k15), .int (nI k16)]), (h1, aI Y 3640 f0), (h2, aZ Y 2 f1), (h3, aZ Y 80 f3), (h4, aB Y 1600 f4), (h5, aI Y 200 f13), (h6, aI Y 800 f14)] rfl ?_
    refine V_aload_n 5 B dX12_force_5 0 rfl ?_
    refine V_aload_n 6 B dX12_force_6 0 rfl ?_
    refine V_iload_n 7 B dX12_force_7 1 rfl ?_
    refine V_cvi 8 B (st := [.ref h0]) (As := [.int s0]) (fun sz => rX12_isMode l D Y h0 h1 h2 h3 h4 h5 h6 0 k5 k6 p7 p8 p9 k10 p11 q12 k15 k16 f0 f1 f3 f4 f13 f14 ph HI (by omega) HP s0 sz) glV_RX12_91 ⟨rfl, rfl⟩ ⟨(Nat.le_of_ble_eq_true rfl), (Nat.le_of_ble_eq_true rfl)⟩ ⟨(Nat.le_of_ble_eq_true rfl), (Nat.le_of_ble_eq_true rfl)⟩ [0, 0, 0, 0, 0, 0, 0] rfl 13 0 rfl rfl rfl rfl (Nat.le_of_ble_eq_true rfl) rfl (fun _ _ _ => rfl) dX12_force_8 (fun j0 u1 w2 => ?_)
    refine V_ws [(h0, oC 13 [.ref h1, .ref h2, .int 0, .ref h3, .ref h4, .int (nI k5), .int (nI k6), .int p7, .int p8, .int p9, .int (nI k10), .int p11, .long q12, .ref h5, .ref h6, .int (nI k15), .int (nI k16)]), (h1, aI Y 3640 f0), (h2, aZ Y 2 f1), (h3, aZ Y 80 f3), (h4, aB Y 1600 f4), (h5, aI Y 200 f13), (h6, aI Y 800 f14)] rfl ?_
    have x3 := w2
    clear w2
    have x7 : (gN f0 0) ≤ 6 := gN_le HI (by omega) (show bd 0 = (0, ((6 : Nat) : Int)) by decide +kernel)
    rcases x3 with rfl | ⟨rfl, n4, rfl, x6⟩
    ·
      refine V_if_eq_t 11 B 22 dX12_force_11 (by decide) (by decide +kernel) ?_
      refine V_iconst 22 B (v := 1) dX12_force_22 (by decide +kernel) ?_
      refine V_goto 23 B 27 dX12_force_23 (by decide) ?_
      refine V_iconst 27 B (v := 1) dX12_force_27 (by decide +kernel) ?_
      refine V_cvi 28 B (st := []) (As := [.int 1, .int 1]) (fun sz => rX12_throwsIf_1 l D Y h0 h1 h2 h3 h4 h5 h6 0 k5 k6 p7 p8 p9 k10 p11 q12 k15 k16 f0 f1 f3 f4 f13 f14 ph HI (by omega) HP 1 sz) glV_RX12_69 ⟨rfl, rfl⟩ ⟨(Nat.le_of_ble_eq_true rfl), (Nat.le_of_ble_eq_true rfl)⟩ ⟨(Nat.le_of_ble_eq_true rfl), (Nat.le_of_ble_eq_true rfl)⟩ [0, 0, 0, 0, 0, 0, 0] rfl 13 0 rfl rfl rfl rfl (Nat.le_of_ble_eq_true rfl) rfl (fun _ _ _ => rfl) dX12_force_28 (fun j8 u9 w10 => ?_)
      refine V_ws [(h0, oC 13 [.ref h1, .ref h2, .int (u9.2.1 0), .ref h3, .ref h4, .int (nI k5), .int (nI k6), .int p7, .int p8, .int p9, .int (nI k10), .int p11, .long q12, .ref h5, .ref h6, .int (nI k15), .int (nI k16)]), (h1, aI Y 3640 f0), (h2, aZ Y 2 f1), (h3, aZ Y 80 f3), (h4, aB Y 1600 f4), (h5, aI Y 200 f13), (h6, aI Y 800 f14)] rfl ?_
      have x11 := w10
      clear w10
      obtain rfl := x11
      refine V_if_eq_f 31 B 36 dX12_force_31 (by decide) (by decide +kernel) ?_
      refine V_iconst 34 B (v := 0) dX12_force_34 (by decide +kernel) ?_
      exact V_iret 35 B dX12_force_35 (mkW [] [(u9.2.1 0)] [] [f0] [] []) HI rfl
    ·
      have e12 := nI_toInt (show n4 < 2 ^ 31 by omega)
      have x13 : (gN f0 0) ≤ 6 := gN_le HI (by omega) (show bd 0 = (0, ((6 : Nat) : Int)) by decide +kernel)
      refine V_if_eq_f 11 B 22 dX12_force_11 (by decide) (by decide +kernel) ?_
      refine V_aload_n 14 B dX12_force_14 0 rfl ?_
      refine V_iload_n 15 B dX12_force_15 2 rfl ?_
      refine V_cvi 16 B (st := [.ref h0]) (As := [.int s1]) (fun sz => rX12_isCommand l D Y h0 h1 h2 h3 h4 h5 h6 0 k5 k6 p7 p8 p9 k10 p11 q12 k15 k16 f0 f1 f3 f4 f13 f14 ph HI (by omega) HP s1 sz) glV_RX12_99 ⟨rfl, rfl⟩ ⟨(Nat.le_of_ble_eq_true rfl), (Nat.le_of_ble_eq_true rfl)⟩ ⟨(Nat.le_of_ble_eq_true rfl), (Nat.le_of_ble_eq_true rfl)⟩ [0, 0, 0, 0, 0, 0, 0] rfl 13 0 rfl rfl rfl rfl (Nat.le_of_ble_eq_true rfl) rfl (fun _ _ _ => rfl) dX12_force_16 (fun j14 u15 w16 => ?_)
      refine V_ws [(h0, oC 13 [.ref h1, .ref h2, .int 0, .ref h3, .ref h4, .int (nI k5), .int (nI k6), .int p7, .int p8, .int p9, .int (nI k10), .int p11, .long q12, .ref h5, .ref h6, .int (nI k15), .int (nI k16)]), (h1, aI Y 3640 f0), (h2, aZ Y 2 f1), (h3, aZ Y 80 f3), (h4, aB Y 1600 f4), (h5, aI Y 200 f13), (h6, aI Y 800 f14)] rfl ?_
      have x17 := w16
      clear w16
      have x21 : (gN f0 1) ≤ 40 := gN_le HI (by omega) (show bd 1 = (0, ((40 : Nat) : Int)) by decide +kernel)
      rcases x17 with rfl | ⟨rfl, n18, rfl, x20⟩
      ·
        refine V_if_ne_f 19 B 26 dX12_force_19 (by decide) (by decide +kernel) ?_
        refine V_iconst 22 B (v := 1) dX12_force_22 (by decide +kernel) ?_
        refine V_goto 23 B 27 dX12_force_23 (by decide) ?_
        refine V_iconst 27 B (v := 1) dX12_force_27 (by decide +kernel) ?_
        refine V_cvi 28 B (st := []) (As := [.int 1, .int 1]) (fun sz => rX12_throwsIf_1 l D Y h0 h1 h2 h3 h4 h5 h6 0 k5 k6 p7 p8 p9 k10 p11 q12 k15 k16 f0 f1 f3 f4 f13 f14 ph HI (by omega) HP 1 sz) glV_RX12_69 ⟨rfl, rfl⟩ ⟨(Nat.le_of_ble_eq_true rfl), (Nat.le_of_ble_eq_true rfl)⟩ ⟨(Nat.le_of_ble_eq_true rfl), (Nat.le_of_ble_eq_true rfl)⟩ [0, 0, 0, 0, 0, 0, 0] rfl 13 0 rfl rfl rfl rfl (Nat.le_of_ble_eq_true rfl) rfl (fun _ _ _ => rfl) dX12_force_28 (fun j22 u23 w24 => ?_)
        refine V_ws [(h0, oC 13 [.ref h1, .ref h2, .int (u23.2.1 0), .ref h3, .ref h4, .int (nI k5), .int (nI k6), .int p7, .int p8, .int p9, .int (nI k10), .int p11, .long q12, .ref h5, .ref h6, .int (nI k15), .int (nI k16)]), (h1, aI Y 3640 f0), (h2, aZ Y 2 f1), (h3, aZ Y 80 f3), (h4, aB Y 1600 f4), (h5, aI Y 200 f13), (h6, aI Y 800 f14)] rfl ?_
        have x25 := w24
        clear w24
        obtain rfl := x25
        refine V_if_eq_f 31 B 36 dX12_force_31 (by decide) (by decide +kernel) ?_
        refine V_iconst 34 B (v := 0) dX12_force_34 (by decide +kernel) ?_
        exact V_iret 35 B dX12_force_35 (mkW [] [(u23.2.1 0)] [] [f0] [] []) HI rfl
      ·
        have e26 := nI_toInt (show n18 < 2 ^ 31 by omega)
        have x27 : (gN f0 1) ≤ 40 := gN_le HI (by omega) (show bd 1 = (0, ((40 : Nat) : Int)) by decide +kernel)
        refine V_if_ne_t 19 B 26 dX12_force_19 (by decide) (by decide +kernel) ?_
        refine V_iconst 26 B (v := 0) dX12_force_26 (by decide +kernel) ?_
        refine V_iconst 27 B (v := 1) dX12_force_27 (by decide +kernel) ?_
        refine V_cvi 28 B (st := []) (As := [.int 0, .int 1]) (fun sz => rX12_throwsIf_0 l D Y h0 h1 h2 h3 h4 h5 h6 0 k5 k6 p7 p8 p9 k10 p11 q12 k15 k16 f0 f1 f3 f4 f13 f14 ph HI (by omega) HP 1 sz) glV_RX12_69 ⟨rfl, rfl⟩ ⟨(Nat.le_of_ble_eq_true rfl), (Nat.le_of_ble_eq_true rfl)⟩ ⟨(Nat.le_of_ble_eq_true rfl), (Nat.le_of_ble_eq_true rfl)⟩ [0, 0, 0, 0, 0, 0, 0] rfl 13 0 rfl rfl rfl rfl (Nat.le_of_ble_eq_true rfl) rfl (fun _ _ _ => rfl) dX12_force_28 (fun j28 u29 w30 => ?_)
        refine V_ws [(h0, oC 13 [.ref h1, .ref h2, .int (u29.2.1 0), .ref h3, .ref h4, .int (nI k5), .int (nI k6), .int p7, .int p8, .int p9, .int (nI k10), .int p11, .long q12, .ref h5, .ref h6, .int (nI k15), .int (nI k16)]), (h1, aI Y 3640 f0), (h2, aZ Y 2 f1), (h3, aZ Y 80 f3), (h4, aB Y 1600 f4), (h5, aI Y 200 f13), (h6, aI Y 800 f14)] rfl ?_
        have x31 := w30
        clear w30
        obtain rfl := x31
        refine V_if_eq_t 31 B 36 dX12_force_31 (by decide) (by decide +kernel) ?_
        refine V_aload_n 36 B dX12_force_36 0 rfl ?_
        refine V_cvi 37 B (st := []) (As := []) (fun sz => rX12_hasNoDraft l D Y h0 h1 h2 h3 h4 h5 h6 (u29.2.1 0) k5 k6 p7 p8 p9 k10 p11 q12 k15 k16 f0 f1 f3 f4 f13 f14 ph HI (by omega) HP sz) glV_RX12_125 ⟨rfl, rfl⟩ ⟨(Nat.le_of_ble_eq_true rfl), (Nat.le_of_ble_eq_true rfl)⟩ ⟨(Nat.le_of_ble_eq_true rfl), (Nat.le_of_ble_eq_true rfl)⟩ [0, 0, 0, 0, 0, 0, 0] rfl 13 0 rfl rfl rfl rfl (Nat.le_of_ble_eq_true rfl) rfl (fun _ _ _ => rfl) dX12_force_37 (fun j32 u33 w34 => ?_)
        refine V_ws [(h0, oC 13 [.ref h1, .ref h2, .int (u29.2.1 0), .ref h3, .ref h4, .int (nI k5), .int (nI k6), .int p7, .int p8, .int p9, .int (nI k10), .int p11, .long q12, .ref h5, .ref h6, .int (nI k15), .int (nI k16)]), (h1, aI Y 3640 f0), (h2, aZ Y 2 f1), (h3, aZ Y 80 f3), (h4, aB Y 1600 f4), (h5, aI Y 200 f13), (h6, aI Y 800 f14)] rfl ?_
        have x35 := w34
        clear w34
        rcases x35 with rfl | rfl
        ·
          refine V_if_eq_t 40 B 48 dX12_force_40 (by decide) (by decide +kernel) ?_
          refine V_aload_n 48 B dX12_force_48 0 rfl ?_
          refine V_iload_n 49 B dX12_force_49 1 rfl ?_
          refine V_iload_n 50 B dX12_force_50 2 rfl ?_
          refine V_sipush 51 B (v := 3624) dX12_force_51 (by decide +kernel) ?_
          refine V_cvi 54 B (st := []) (As := [.int (nI n4), .int (nI n18), .int 3624]) (fun sz => rX12_forced l D Y h0 h1 h2 h3 h4 h5 h6 (u29.2.1 0) k5 k6 p7 p8 p9 k10 p11 q12 k15 k16 f0 f1 f3 f4 f13 f14 ph HI (by omega) HP (nI n4) n18 3624 (by omega) (show SQ 3624 by unfold SQ; decide +kernel) sz) glV_RX12_145 ⟨rfl, rfl⟩ ⟨(Nat.le_of_ble_eq_true rfl), (Nat.le_of_ble_eq_true rfl)⟩ ⟨(Nat.le_of_ble_eq_true rfl), (Nat.le_of_ble_eq_true rfl)⟩ [0, 0, 0, 0, 0, 0, 0] rfl 13 0 rfl rfl rfl rfl (Nat.le_of_ble_eq_true rfl) rfl (fun _ _ _ => rfl) dX12_force_54 (fun j36 u37 w38 => ?_)
          refine V_ws [(h0, oC 13 [.ref h1, .ref h2, .int (u29.2.1 0), .ref h3, .ref h4, .int (nI k5), .int (nI k6), .int p7, .int p8, .int p9, .int (nI k10), .int p11, .long q12, .ref h5, .ref h6, .int (nI k15), .int (nI k16)]), (h1, aI Y 3640 (u37.2.2.2.1 0)), (h2, aZ Y 2 f1), (h3, aZ Y 80 f3), (h4, aB Y 1600 f4), (h5, aI Y 200 f13), (h6, aI Y 800 f14)] rfl ?_
          have x39 := w38
          clear w38
          exact V_iret 57 B dX12_force_57 (mkW [] [(u29.2.1 0)] [] [(u37.2.2.2.1 0)] [] []) x39 rfl
        ·
          refine V_if_eq_f 40 B 48 dX12_force_40 (by decide) (by decide +kernel) ?_
          refine V_bipush 43 B (v := (-4)) dX12_force_43 (by decide +kernel) ?_
          refine V_goto 45 B 57 dX12_force_45 (by decide) ?_
          exact V_iret 57 B dX12_force_57 (mkW [] [(u29.2.1 0)] [] [f0] [] []) HI rfl)
theorem dX12_move_0 : decode cX12_move 0 = .ok (.aload_n 0, 1) := by decide +kernel
theorem dX12_move_1 : decode cX12_move 1 = .ok (.iconst 0, 1) := by decide +kernel
theorem dX12_move_2 : decode cX12_move 2 = .ok (.putfield 38, 3) := by decide +kernel
theorem dX12_move_5 : decode cX12_move 5 = .ok (.aload_n 0, 1) := by decide +kernel
theorem dX12_move_6 : decode cX12_move 6 = .ok (.aload_n 0, 1) := by decide +kernel
theorem dX12_move_7 : decode cX12_move 7 = .ok (.iload_n 1, 1) := by decide +kernel
theorem dX12_move_8 : decode cX12_move 8 = .ok (.invokevirtual 82, 3) := by decide +kernel
theorem dX12_move_11 : decode cX12_move 11 = .ok (.ifCond .ne 7, 3) := by decide +kernel
theorem dX12_move_14 : decode cX12_move 14 = .ok (.iconst 1, 1) := by decide +kernel
theorem dX12_move_15 : decode cX12_move 15 = .ok (.goto 4, 3) := by decide +kernel
theorem dX12_move_19 : decode cX12_move 19 = .ok (.iconst 1, 1) := by decide +kernel
theorem dX12_move_20 : decode cX12_move 20 = .ok (.invokevirtual 69, 3) := by decide +kernel
theorem dX12_move_23 : decode cX12_move 23 = .ok (.ifCond .eq 5, 3) := by decide +kernel
theorem dX12_move_26 : decode cX12_move 26 = .ok (.iconst 0, 1) := by decide +kernel
theorem dX12_move_27 : decode cX12_move 27 = .ok (.ireturn, 1) := by decide +kernel
theorem dX12_move_18 : decode cX12_move 18 = .ok (.iconst 0, 1) := by decide +kernel
theorem dX12_move_28 : decode cX12_move 28 = .ok (.aload_n 0, 1) := by decide +kernel
theorem dX12_move_29 : decode cX12_move 29 = .ok (.invokevirtual 125, 3) := by decide +kernel
theorem dX12_move_32 : decode cX12_move 32 = .ok (.ifCond .eq 6, 3) := by decide +kernel
theorem dX12_move_38 : decode cX12_move 38 = .ok (.aload_n 0, 1) := by decide +kernel
theorem dX12_move_39 : decode cX12_move 39 = .ok (.sipush 3624, 3) := by decide +kernel
theorem dX12_move_42 : decode cX12_move 42 = .ok (.invokevirtual 118, 3) := by decide +kernel
theorem dX12_move_45 : decode cX12_move 45 = .ok (.ifCond .ne 20, 3) := by decide +kernel
theorem dX12_move_48 : decode cX12_move 48 = .ok (.aload_n 0, 1) := by decide +kernel
theorem dX12_move_49 : decode cX12_move 49 = .ok (.aload_n 0, 1) := by decide +kernel
theorem dX12_move_50 : decode cX12_move 50 = .ok (.iload_n 1, 1) := by decide +kernel
theorem dX12_move_51 : decode cX12_move 51 = .ok (.invokevirtual 115, 3) := by decide +kernel
theorem dX12_move_54 : decode cX12_move 54 = .ok (.sipush 3624, 3) := by decide +kernel
theorem dX12_move_57 : decode cX12_move 57 = .ok (.iload_n 1, 1) := by decide +kernel
theorem dX12_move_58 : decode cX12_move 58 = .ok (.invokevirtual 121, 3) := by decide +kernel
theorem dX12_move_61 : decode cX12_move 61 = .ok (.iconst (-1), 1) := by decide +kernel
theorem dX12_move_62 : decode cX12_move 62 = .ok (.if_icmp .eq 7, 3) := by decide +kernel
theorem dX12_move_69 : decode cX12_move 69 = .ok (.aload_n 0, 1) := by decide +kernel
theorem dX12_move_70 : decode cX12_move 70 = .ok (.sipush 3624, 3) := by decide +kernel
theorem dX12_move_73 : decode cX12_move 73 = .ok (.iload_n 1, 1) := by decide +kernel
theorem dX12_move_74 : decode cX12_move 74 = .ok (.invokestatic 85, 3) := by decide +kernel
theorem dX12_move_77 : decode cX12_move 77 = .ok (.invokevirtual 88, 3) := by decide +kernel
theorem dX12_move_80 : decode cX12_move 80 = .ok (.aload_n 0, 1) := by decide +kernel
theorem dX12_move_81 : decode cX12_move 81 = .ok (.sipush 3624, 3) := by decide +kernel
theorem dX12_move_84 : decode cX12_move 84 = .ok (.invokevirtual 76, 3) := by decide +kernel
theorem dX12_move_87 : decode cX12_move 87 = .ok (.ireturn, 1) := by decide +kernel
theorem dX12_move_65 : decode cX12_move 65 = .ok (.sipush (-1000), 3) := by decide +kernel
theorem dX12_move_68 : decode cX12_move 68 = .ok (.ireturn, 1) := by decide +kernel
theorem dX12_move_35 : decode cX12_move 35 = .ok (.bipush (-4), 2) := by decide +kernel
theorem dX12_move_37 : decode cX12_move 37 = .ok (.ireturn, 1) := by decide +kernel
set_option maxRecDepth 100000 in
set_option maxHeartbeats 4000000 in
theorem rX12_move (l : Launch) (D : va_G) (Y : Nat → ClassId) (h0 : Nat) (h1 : Nat) (h2 : Nat) (h3 : Nat) (h4 : Nat) (h5 : Nat) (h6 : Nat) (p2 : Int32) (k5 : Nat) (k6 : Nat) (p7 : Int32) (p8 : Int32) (p9 : Int32) (k10 : Nat) (p11 : Int32) (q12 : Int64) (k15 : Nat) (k16 : Nat) (f0 : Nat → Int32) (f1 : Nat → Int32) (f3 : Nat → Int32) (f4 : Nat → Int32) (f13 : Nat → Int32) (f14 : Nat → Int32) (ph : Nat → Int32) (HI : INV ph f0) (HL : k5 ≤ 1600) (HP : PLV f13) (s0 : Int32)  (sz : Nat) : Met l yX12_move (WSm yX12_move cX12_move 2 (some .int)) (mkR 4 0 0 90) (PreC D Y [.ref h0, .int s0] [(h0, oC 13 [.ref h1, .ref h2, .int p2, .ref h3, .ref h4, .int (nI k5), .int (nI k6), .int p7, .int p8, .int p9, .int (nI k10), .int p11, .long q12, .ref h5, .ref h6, .int (nI k15), .int (nI k16)]), (h1, aI Y 3640 f0), (h2, aZ Y 2 f1), (h3, aZ Y 80 f3), (h4, aB Y 1600 f4), (h5, aI Y 200 f13), (h6, aI Y 800 f14)] sz) (QI D (fun (r : Int32) (u : WU) => INV ph (u.2.2.2.1 0)) (fun (u : WU) => [(h0, oC 13 [.ref h1, .ref h2, .int (u.2.1 0), .ref h3, .ref h4, .int (nI k5), .int (nI k6), .int p7, .int p8, .int p9, .int (nI k10), .int p11, .long q12, .ref h5, .ref h6, .int (nI k15), .int (nI k16)]), (h1, aI Y 3640 (u.2.2.2.1 0)), (h2, aZ Y 2 f1), (h3, aZ Y 80 f3), (h4, aB Y 1600 f4), (h5, aI Y 200 f13), (h6, aI Y 800 f14)]) (va_A [(h0, oC 13 [.ref h1, .ref h2, .int p2, .ref h3, .ref h4, .int (nI k5), .int (nI k6), .int p7, .int p8, .int p9, .int (nI k10), .int p11, .long q12, .ref h5, .ref h6, .int (nI k15), .int (nI k16)]), (h1, aI Y 3640 f0), (h2, aZ Y 2 f1), (h3, aZ Y 80 f3), (h4, aB Y 1600 f4), (h5, aI Y 200 f13), (h6, aI Y 800 f14)] sz)) 0 0 (va_A [(h0, oC 13 [.ref h1, .ref h2, .int p2, .ref h3, .ref h4, .int (nI k5), .int (nI k6), .int p7, .int p8, .int p9, .int (nI k10), .int p11, .long q12, .ref h5, .ref h6, .int (nI k15), .int (nI k16)]), (h1, aI Y 3640 f0), (h2, aZ Y 2 f1), (h3, aZ Y 80 f3), (h4, aB Y 1600 f4), (h5, aI Y 200 f13), (h6, aI Y 800 f14)] sz) :=
  met_of  (by decide +kernel) (Nat.le_of_ble_eq_true rfl) (fun p e s m args below meth c B hin hsz => by
    have B : VB p s m args meth c D Y (va_A [(h0, oC 13 [.ref h1, .ref h2, .int p2, .ref h3, .ref h4, .int (nI k5), .int (nI k6), .int p7, .int p8, .int p9, .int (nI k10), .int p11, .long q12, .ref h5, .ref h6, .int (nI k15), .int (nI k16)]), (h1, aI Y 3640 f0), (h2, aZ Y 2 f1), (h3, aZ Y 80 f3), (h4, aB Y 1600 f4), (h5, aI Y 200 f13), (h6, aI Y 800 f14)] sz) cX12_move 2 RX12 (some .int) := B
    refine V_aload_n 0 B dX12_move_0 0 rfl ?_
    refine V_iconst 1 B (v := 0) dX12_move_1 (by decide +kernel) ?_
    refine V_put 2 B gp_RX12_38 0 rfl (Nat.le_of_ble_eq_true rfl) rfl rfl dX12_move_2 [(h0, oC 13 [.ref h1, .ref h2, .int 0, .ref h3, .ref h4, .int (nI k5), .int (nI k6), .int p7, .int p8, .int p9, .int (nI k10), .int p11, .long q12, .ref h5, .ref h6, .int (nI k15), .int (nI k16)]), (h1, aI Y 3640 f0), (h2, aZ Y 2 f1), (h3, aZ Y 80 f3), (h4, aB Y 1600 f4), (h5, aI Y 200 f13), (h6, aI Y 800 f14)] rfl ?_
    refine V_aload_n 5 B dX12_move_5 0 rfl ?_
    refine V_aload_n 6 B dX12_move_6 0 rfl ?_
    refine V_iload_n 7 B dX12_move_7 1 rfl ?_
    refine V_cvi 8 B (st := [.ref h0]) (As := [.int s0]) (fun sz => rX12_isBinding l D Y h0 h1 h2 h3 h4 h5 h6 0 k5 k6 p7 p8 p9 k10 p11 q12 k15 k16 f0 f1 f3 f4 f13 f14 ph HI (by omega) HP s0 sz) glV_RX12_82 ⟨rfl, rfl⟩ ⟨(Nat.le_of_ble_eq_true rfl), (Nat.le_of_ble_eq_true rfl)⟩ ⟨(Nat.le_of_ble_eq_true rfl), (Nat.le_of_ble_eq_true rfl)⟩ [0, 0, 0, 0, 0, 0, 0] rfl 13 0 rfl rfl rfl rfl (Nat.le_of_ble_eq_true rfl) rfl (fun _ _ _ => rfl) dX12_move_8 (fun j0 u1 w2 => ?_)
    refine V_ws [(h0, oC 13 [.ref h1, .ref h2, .int 0, .ref h3, .ref h4, .int (nI k5), .int (nI k6), .int p7, .int p8, .int p9, .int (nI k10), .int p11, .long q12, .ref h5, .ref h6, .int (nI k15), .int (nI k16)]), (h1, aI Y 3640 f0), (h2, aZ Y 2 f1), (h3, aZ Y 80 f3), (h4, aB Y 1600 f4), (h5, aI Y 200 f13), (h6, aI Y 800 f14)] rfl ?_
    have x3 := w2
    clear w2
    have x7 : (gN f0 3) ≤ 80 := gN_le HI (by omega) (show bd 3 = (0, ((80 : Nat) : Int)) by decide +kernel)
    rcases x3 with rfl | ⟨rfl, n4, rfl, x6⟩
    ·
      refine V_if_ne_f 11 B 18 dX12_move_11 (by decide) (by decide +kernel) ?_
      refine V_iconst 14 B (v := 1) dX12_move_14 (by decide +kernel) ?_
      refine V_goto 15 B 19 dX12_move_15 (by decide) ?_
      refine V_iconst 19 B (v := 1) dX12_move_19 (by decide +kernel) ?_
      refine V_cvi 20 B (st := []) (As := [.int 1, .int 1]) (fun sz => rX12_throwsIf_1 l D Y h0 h1 h2 h3 h4 h5 h6 0 k5 k6 p7 p8 p9 k10 p11 q12 k15 k16 f0 f1 f3 f4 f13 f14 ph HI (by omega) HP 1 sz) glV_RX12_69 ⟨rfl, rfl⟩ ⟨(Nat.le_of_ble_eq_true rfl), (Nat.le_of_ble_eq_true rfl)⟩ ⟨(Nat.le_of_ble_eq_true rfl), (Nat.le_of_ble_eq_true rfl)⟩ [0, 0, 0, 0, 0, 0, 0] rfl 13 0 rfl rfl rfl rfl (Nat.le_of_ble_eq_true rfl) rfl (fun _ _ _ => rfl) dX12_move_20 (fun j8 u9 w10 => ?_)
      refine V_ws [(h0, oC 13 [.ref h1, .ref h2, .int (u9.2.1 0), .ref h3, .ref h4, .int (nI k5), .int (nI k6), .int p7, .int p8, .int p9, .int (nI k10), .int p11, .long q12, .ref h5, .ref h6, .int (nI k15), .int (nI k16)]), (h1, aI Y 3640 f0), (h2, aZ Y 2 f1), (h3, aZ Y 80 f3), (h4, aB Y 1600 f4), (h5, aI Y 200 f13), (h6, aI Y 800 f14)] rfl ?_
      have x11 := w10
      clear w10
      obtain rfl := x11
      refine V_if_eq_f 23 B 28 dX12_move_23 (by decide) (by decide +kernel) ?_
      refine V_iconst 26 B (v := 0) dX12_move_26 (by decide +kernel) ?_
      exact V_iret 27 B dX12_move_27 (mkW [] [(u9.2.1 0)] [] [f0] [] []) HI rfl
    ·
      have e12 := nI_toInt (show n4 < 2 ^ 31 by omega)
      have x13 : (gN f0 3) ≤ 80 := gN_le HI (by omega) (show bd 3 = (0, ((80 : Nat) : Int)) by decide +kernel)
      refine V_if_ne_t 11 B 18 dX12_move_11 (by decide) (by decide +kernel) ?_
      refine V_iconst 18 B (v := 0) dX12_move_18 (by decide +kernel) ?_
      refine V_iconst 19 B (v := 1) dX12_move_19 (by decide +kernel) ?_
      refine V_cvi 20 B (st := []) (As := [.int 0, .int 1]) (fun sz => rX12_throwsIf_0 l D Y h0 h1 h2 h3 h4 h5 h6 0 k5 k6 p7 p8 p9 k10 p11 q12 k15 k16 f0 f1 f3 f4 f13 f14 ph HI (by omega) HP 1 sz) glV_RX12_69 ⟨rfl, rfl⟩ ⟨(Nat.le_of_ble_eq_true rfl), (Nat.le_of_ble_eq_true rfl)⟩ ⟨(Nat.le_of_ble_eq_true rfl), (Nat.le_of_ble_eq_true rfl)⟩ [0, 0, 0, 0, 0, 0, 0] rfl 13 0 rfl rfl rfl rfl (Nat.le_of_ble_eq_true rfl) rfl (fun _ _ _ => rfl) dX12_move_20 (fun j14 u15 w16 => ?_)
      refine V_ws [(h0, oC 13 [.ref h1, .ref h2, .int (u15.2.1 0), .ref h3, .ref h4, .int (nI k5), .int (nI k6), .int p7, .int p8, .int p9, .int (nI k10), .int p11, .long q12, .ref h5, .ref h6, .int (nI k15), .int (nI k16)]), (h1, aI Y 3640 f0), (h2, aZ Y 2 f1), (h3, aZ Y 80 f3), (h4, aB Y 1600 f4), (h5, aI Y 200 f13), (h6, aI Y 800 f14)] rfl ?_
      have x17 := w16
      clear w16
      obtain rfl := x17
      refine V_if_eq_t 23 B 28 dX12_move_23 (by decide) (by decide +kernel) ?_
      refine V_aload_n 28 B dX12_move_28 0 rfl ?_
      refine V_cvi 29 B (st := []) (As := []) (fun sz => rX12_hasNoDraft l D Y h0 h1 h2 h3 h4 h5 h6 (u15.2.1 0) k5 k6 p7 p8 p9 k10 p11 q12 k15 k16 f0 f1 f3 f4 f13 f14 ph HI (by omega) HP sz) glV_RX12_125 ⟨rfl, rfl⟩ ⟨(Nat.le_of_ble_eq_true rfl), (Nat.le_of_ble_eq_true rfl)⟩ ⟨(Nat.le_of_ble_eq_true rfl), (Nat.le_of_ble_eq_true rfl)⟩ [0, 0, 0, 0, 0, 0, 0] rfl 13 0 rfl rfl rfl rfl (Nat.le_of_ble_eq_true rfl) rfl (fun _ _ _ => rfl) dX12_move_29 (fun j18 u19 w20 => ?_)
      refine V_ws [(h0, oC 13 [.ref h1, .ref h2, .int (u15.2.1 0), .ref h3, .ref h4, .int (nI k5), .int (nI k6), .int p7, .int p8, .int p9, .int (nI k10), .int p11, .long q12, .ref h5, .ref h6, .int (nI k15), .int (nI k16)]), (h1, aI Y 3640 f0), (h2, aZ Y 2 f1), (h3, aZ Y 80 f3), (h4, aB Y 1600 f4), (h5, aI Y 200 f13), (h6, aI Y 800 f14)] rfl ?_
      have x21 := w20
      clear w20
      rcases x21 with rfl | rfl
      ·
        refine V_if_eq_t 32 B 38 dX12_move_32 (by decide) (by decide +kernel) ?_
        refine V_aload_n 38 B dX12_move_38 0 rfl ?_
        refine V_sipush 39 B (v := 3624) dX12_move_39 (by decide +kernel) ?_
        refine V_cvi 42 B (st := []) (As := [.int 3624]) (fun sz => rX12_clashesReserved l D Y h0 h1 h2 h3 h4 h5 h6 (u15.2.1 0) k5 k6 p7 p8 p9 k10 p11 q12 k15 k16 f0 f1 f3 f4 f13 f14 ph HI (by omega) HP 3624 (show SQ 3624 by unfold SQ; decide +kernel) sz) glV_RX12_118 ⟨rfl, rfl⟩ ⟨(Nat.le_of_ble_eq_true rfl), (Nat.le_of_ble_eq_true rfl)⟩ ⟨(Nat.le_of_ble_eq_true rfl), (Nat.le_of_ble_eq_true rfl)⟩ [0, 0, 0, 0, 0, 0, 0] rfl 13 0 rfl rfl rfl rfl (Nat.le_of_ble_eq_true rfl) rfl (fun _ _ _ => rfl) dX12_move_42 (fun j22 u23 w24 => ?_)
        refine V_ws [(h0, oC 13 [.ref h1, .ref h2, .int (u15.2.1 0), .ref h3, .ref h4, .int (nI k5), .int (nI k6), .int p7, .int p8, .int p9, .int (nI k10), .int p11, .long q12, .ref h5, .ref h6, .int (nI k15), .int (nI k16)]), (h1, aI Y 3640 f0), (h2, aZ Y 2 f1), (h3, aZ Y 80 f3), (h4, aB Y 1600 f4), (h5, aI Y 200 f13), (h6, aI Y 800 f14)] rfl ?_
        have x25 := w24
        clear w24
        rcases x25 with rfl | rfl
        ·
          refine V_if_ne_f 45 B 65 dX12_move_45 (by decide) (by decide +kernel) ?_
          refine V_aload_n 48 B dX12_move_48 0 rfl ?_
          refine V_aload_n 49 B dX12_move_49 0 rfl ?_
          refine V_iload_n 50 B dX12_move_50 1 rfl ?_
          refine V_cvi 51 B (st := [.ref h0]) (As := [.int (nI n4)]) (fun sz => rX12_modeOf l D Y h0 h1 h2 h3 h4 h5 h6 (u15.2.1 0) k5 k6 p7 p8 p9 k10 p11 q12 k15 k16 f0 f1 f3 f4 f13 f14 ph HI (by omega) HP n4 (by omega) sz) glV_RX12_115 ⟨rfl, rfl⟩ ⟨(Nat.le_of_ble_eq_true rfl), (Nat.le_of_ble_eq_true rfl)⟩ ⟨(Nat.le_of_ble_eq_true rfl), (Nat.le_of_ble_eq_true rfl)⟩ [0, 0, 0, 0, 0, 0, 0] rfl 13 0 rfl rfl rfl rfl (Nat.le_of_ble_eq_true rfl) rfl (fun _ _ _ => rfl) dX12_move_51 (fun j26 u27 w28 => ?_)
          refine V_ws [(h0, oC 13 [.ref h1, .ref h2, .int (u15.2.1 0), .ref h3, .ref h4, .int (nI k5), .int (nI k6), .int p7, .int p8, .int p9, .int (nI k10), .int p11, .long q12, .ref h5, .ref h6, .int (nI k15), .int (nI k16)]), (h1, aI Y 3640 f0), (h2, aZ Y 2 f1), (h3, aZ Y 80 f3), (h4, aB Y 1600 f4), (h5, aI Y 200 f13), (h6, aI Y 800 f14)] rfl ?_
          have x29 := w28
          clear w28
          refine V_sipush 54 B (v := 3624) dX12_move_54 (by decide +kernel) ?_
          refine V_iload_n 57 B dX12_move_57 1 rfl ?_
          refine V_cvi 58 B (st := []) (As := [.int j26, .int 3624, .int (nI n4)]) (fun sz => rX12_clashIn l D Y h0 h1 h2 h3 h4 h5 h6 (u15.2.1 0) k5 k6 p7 p8 p9 k10 p11 q12 k15 k16 f0 f1 f3 f4 f13 f14 ph HI (by omega) HP j26 3624 (nI n4) (show SQ 3624 by unfold SQ; decide +kernel) sz) glV_RX12_121 ⟨rfl, rfl⟩ ⟨(Nat.le_of_ble_eq_true rfl), (Nat.le_of_ble_eq_true rfl)⟩ ⟨(Nat.le_of_ble_eq_true rfl), (Nat.le_of_ble_eq_true rfl)⟩ [0, 0, 0, 0, 0, 0, 0] rfl 13 0 rfl rfl rfl rfl (Nat.le_of_ble_eq_true rfl) rfl (fun _ _ _ => rfl) dX12_move_58 (fun j30 u31 w32 => ?_)
          refine V_ws [(h0, oC 13 [.ref h1, .ref h2, .int (u15.2.1 0), .ref h3, .ref h4, .int (nI k5), .int (nI k6), .int p7, .int p8, .int p9, .int (nI k10), .int p11, .long q12, .ref h5, .ref h6, .int (nI k15), .int (nI k16)]), (h1, aI Y 3640 f0), (h2, aZ Y 2 f1), (h3, aZ Y 80 f3), (h4, aB Y 1600 f4), (h5, aI Y 200 f13), (h6, aI Y 800 f14)] rfl ?_
          have x33 := w32
          clear w32
          have x36 : (gN f0 3) ≤ 80 := gN_le HI (by omega) (show bd 3 = (0, ((80 : Nat) : Int)) by decide +kernel)
          rcases x33 with ⟨rfl, x35⟩ | ⟨n34, rfl, x35, x37⟩
          ·
            refine V_iconst 61 B (v := (-1)) dX12_move_61 (by decide +kernel) ?_
            refine V_icmp_eq_t 62 B 69 dX12_move_62 (by decide) (by decide +kernel) ?_
            refine V_aload_n 69 B dX12_move_69 0 rfl ?_
            refine V_sipush 70 B (v := 3624) dX12_move_70 (by decide +kernel) ?_
            refine V_iload_n 73 B dX12_move_73 1 rfl ?_
            refine V_csi 74 B (st := [.int 3624, .ref h0]) (As := [.int (nI n4)]) (fun sz => rX12_sequenceOf l D Y n4 (by omega) sz) glS_RX12_85 ⟨rfl, rfl⟩ ⟨(Nat.le_of_ble_eq_true rfl), (Nat.le_of_ble_eq_true rfl)⟩ ⟨(Nat.le_of_ble_eq_true rfl), (Nat.le_of_ble_eq_true rfl)⟩ [] rfl rfl (Nat.le_of_ble_eq_true rfl) rfl (fun _ _ _ => rfl) dX12_move_74 (fun j38 u39 w40 => ?_)
            refine V_ws [(h0, oC 13 [.ref h1, .ref h2, .int (u15.2.1 0), .ref h3, .ref h4, .int (nI k5), .int (nI k6), .int p7, .int p8, .int p9, .int (nI k10), .int p11, .long q12, .ref h5, .ref h6, .int (nI k15), .int (nI k16)]), (h1, aI Y 3640 f0), (h2, aZ Y 2 f1), (h3, aZ Y 80 f3), (h4, aB Y 1600 f4), (h5, aI Y 200 f13), (h6, aI Y 800 f14)] rfl ?_
            have x41 := w40
            clear w40
            obtain rfl := x41
            refine V_cvv 77 B (st := []) (As := [.int 3624, .int (nI (186 + 7 * n4))]) (fun sz => rX12_copySequence l D Y h0 h1 h2 h3 h4 h5 h6 (u15.2.1 0) k5 k6 p7 p8 p9 k10 p11 q12 k15 k16 f0 f1 f3 f4 f13 f14 ph HI (by omega) HP 3624 (186 + 7 * n4) (show SQ 3624 by unfold SQ; decide +kernel) (rl5 n4 (by omega)) sz) glV_RX12_88 ⟨rfl, rfl⟩ ⟨(Nat.le_of_ble_eq_true rfl), (Nat.le_of_ble_eq_true rfl)⟩ ⟨(Nat.le_of_ble_eq_true rfl), (Nat.le_of_ble_eq_true rfl)⟩ [0, 0, 0, 0, 0, 0, 0] rfl 13 0 rfl rfl rfl rfl (Nat.le_of_ble_eq_true rfl) rfl (fun _ _ => rfl) dX12_move_77 (fun u43 w44 => ?_)
            refine V_ws [(h0, oC 13 [.ref h1, .ref h2, .int (u15.2.1 0), .ref h3, .ref h4, .int (nI k5), .int (nI k6), .int p7, .int p8, .int p9, .int (nI k10), .int p11, .long q12, .ref h5, .ref h6, .int (nI k15), .int (nI k16)]), (h1, aI Y 3640 (u43.2.2.2.1 0)), (h2, aZ Y 2 f1), (h3, aZ Y 80 f3), (h4, aB Y 1600 f4), (h5, aI Y 200 f13), (h6, aI Y 800 f14)] rfl ?_
            obtain ⟨x45, x46⟩ := w44
            refine V_aload_n 80 B dX12_move_80 0 rfl ?_
            refine V_sipush 81 B (v := 3624) dX12_move_81 (by decide +kernel) ?_
            refine V_cvi 84 B (st := []) (As := [.int 3624]) (fun sz => rX12_costOf l D Y h0 h1 h2 h3 h4 h5 h6 (u15.2.1 0) k5 k6 p7 p8 p9 k10 p11 q12 k15 k16 (u43.2.2.2.1 0) f1 f3 f4 f13 f14 ph x45 (by omega) HP 3624 (show SQ 3624 by unfold SQ; decide +kernel) sz) glV_RX12_76 ⟨rfl, rfl⟩ ⟨(Nat.le_of_ble_eq_true rfl), (Nat.le_of_ble_eq_true rfl)⟩ ⟨(Nat.le_of_ble_eq_true rfl), (Nat.le_of_ble_eq_true rfl)⟩ [0, 0, 0, 0, 0, 0, 0] rfl 13 0 rfl rfl rfl rfl (Nat.le_of_ble_eq_true rfl) rfl (fun _ _ _ => rfl) dX12_move_84 (fun j47 u48 w49 => ?_)
            refine V_ws [(h0, oC 13 [.ref h1, .ref h2, .int (u15.2.1 0), .ref h3, .ref h4, .int (nI k5), .int (nI k6), .int p7, .int p8, .int p9, .int (nI k10), .int p11, .long q12, .ref h5, .ref h6, .int (nI k15), .int (nI k16)]), (h1, aI Y 3640 (u43.2.2.2.1 0)), (h2, aZ Y 2 f1), (h3, aZ Y 80 f3), (h4, aB Y 1600 f4), (h5, aI Y 200 f13), (h6, aI Y 800 f14)] rfl ?_
            exact V_iret 87 B dX12_move_87 (mkW [] [(u15.2.1 0)] [] [(u43.2.2.2.1 0)] [] []) x45 rfl
          ·
            refine V_iconst 61 B (v := (-1)) dX12_move_61 (by decide +kernel) ?_
            refine V_icmp_eq_f 62 B 69 dX12_move_62 (by decide) (fun z => by have z2 := x_eq z; rw [nI_toInt (show n34 < 2 ^ 31 by omega), show ((-1) : Int32).toInt = (-1) by decide +kernel] at z2; omega) ?_
            refine V_sipush 65 B (v := (-1000)) dX12_move_65 (by decide +kernel) ?_
            exact V_iret 68 B dX12_move_68 (mkW [] [(u15.2.1 0)] [] [f0] [] []) HI rfl
        ·
          refine V_if_ne_t 45 B 65 dX12_move_45 (by decide) (by decide +kernel) ?_
          refine V_sipush 65 B (v := (-1000)) dX12_move_65 (by decide +kernel) ?_
          exact V_iret 68 B dX12_move_68 (mkW [] [(u15.2.1 0)] [] [f0] [] []) HI rfl
      ·
        refine V_if_eq_f 32 B 38 dX12_move_32 (by decide) (by decide +kernel) ?_
        refine V_bipush 35 B (v := (-4)) dX12_move_35 (by decide +kernel) ?_
        exact V_iret 37 B dX12_move_37 (mkW [] [(u15.2.1 0)] [] [f0] [] []) HI rfl)
theorem dX12_unbind_0 : decode cX12_unbind 0 = .ok (.aload_n 0, 1) := by decide +kernel
theorem dX12_unbind_1 : decode cX12_unbind 1 = .ok (.iconst 0, 1) := by decide +kernel
theorem dX12_unbind_2 : decode cX12_unbind 2 = .ok (.putfield 38, 3) := by decide +kernel
theorem dX12_unbind_5 : decode cX12_unbind 5 = .ok (.aload_n 0, 1) := by decide +kernel
theorem dX12_unbind_6 : decode cX12_unbind 6 = .ok (.aload_n 0, 1) := by decide +kernel
theorem dX12_unbind_7 : decode cX12_unbind 7 = .ok (.iload_n 1, 1) := by decide +kernel
theorem dX12_unbind_8 : decode cX12_unbind 8 = .ok (.invokevirtual 82, 3) := by decide +kernel
theorem dX12_unbind_11 : decode cX12_unbind 11 = .ok (.ifCond .ne 7, 3) := by decide +kernel
theorem dX12_unbind_14 : decode cX12_unbind 14 = .ok (.iconst 1, 1) := by decide +kernel
theorem dX12_unbind_15 : decode cX12_unbind 15 = .ok (.goto 4, 3) := by decide +kernel
theorem dX12_unbind_19 : decode cX12_unbind 19 = .ok (.iconst 1, 1) := by decide +kernel
theorem dX12_unbind_20 : decode cX12_unbind 20 = .ok (.invokevirtual 69, 3) := by decide +kernel
theorem dX12_unbind_23 : decode cX12_unbind 23 = .ok (.ifCond .eq 5, 3) := by decide +kernel
theorem dX12_unbind_26 : decode cX12_unbind 26 = .ok (.iconst 0, 1) := by decide +kernel
theorem dX12_unbind_27 : decode cX12_unbind 27 = .ok (.ireturn, 1) := by decide +kernel
theorem dX12_unbind_18 : decode cX12_unbind 18 = .ok (.iconst 0, 1) := by decide +kernel
theorem dX12_unbind_28 : decode cX12_unbind 28 = .ok (.aload_n 0, 1) := by decide +kernel
theorem dX12_unbind_29 : decode cX12_unbind 29 = .ok (.iload_n 1, 1) := by decide +kernel
theorem dX12_unbind_30 : decode cX12_unbind 30 = .ok (.invokevirtual 142, 3) := by decide +kernel
theorem dX12_unbind_33 : decode cX12_unbind 33 = .ok (.aload_n 0, 1) := by decide +kernel
theorem dX12_unbind_34 : decode cX12_unbind 34 = .ok (.getfield 9, 3) := by decide +kernel
theorem dX12_unbind_37 : decode cX12_unbind 37 = .ok (.iconst 3, 1) := by decide +kernel
theorem dX12_unbind_38 : decode cX12_unbind 38 = .ok (.iaload, 1) := by decide +kernel
theorem dX12_unbind_39 : decode cX12_unbind 39 = .ok (.ireturn, 1) := by decide +kernel
set_option maxRecDepth 100000 in
set_option maxHeartbeats 4000000 in
theorem rX12_unbind (l : Launch) (D : va_G) (Y : Nat → ClassId) (h0 : Nat) (h1 : Nat) (h2 : Nat) (h3 : Nat) (h4 : Nat) (h5 : Nat) (h6 : Nat) (p2 : Int32) (k5 : Nat) (k6 : Nat) (p7 : Int32) (p8 : Int32) (p9 : Int32) (k10 : Nat) (p11 : Int32) (q12 : Int64) (k15 : Nat) (k16 : Nat) (f0 : Nat → Int32) (f1 : Nat → Int32) (f3 : Nat → Int32) (f4 : Nat → Int32) (f13 : Nat → Int32) (f14 : Nat → Int32) (ph : Nat → Int32) (HI : INV ph f0) (HL : k5 ≤ 1600) (HP : PLV f13) (s0 : Int32)  (sz : Nat) : Met l yX12_unbind (WSm yX12_unbind cX12_unbind 2 (some .int)) (mkR 2 0 0 46) (PreC D Y [.ref h0, .int s0] [(h0, oC 13 [.ref h1, .ref h2, .int p2, .ref h3, .ref h4, .int (nI k5), .int (nI k6), .int p7, .int p8, .int p9, .int (nI k10), .int p11, .long q12, .ref h5, .ref h6, .int (nI k15), .int (nI k16)]), (h1, aI Y 3640 f0), (h2, aZ Y 2 f1), (h3, aZ Y 80 f3), (h4, aB Y 1600 f4), (h5, aI Y 200 f13), (h6, aI Y 800 f14)] sz) (QI D (fun (r : Int32) (u : WU) => INV ph (u.2.2.2.1 0)) (fun (u : WU) => [(h0, oC 13 [.ref h1, .ref h2, .int (u.2.1 0), .ref h3, .ref h4, .int (nI k5), .int (nI k6), .int p7, .int p8, .int p9, .int (nI k10), .int p11, .long q12, .ref h5, .ref h6, .int (nI k15), .int (nI k16)]), (h1, aI Y 3640 (u.2.2.2.1 0)), (h2, aZ Y 2 f1), (h3, aZ Y 80 f3), (h4, aB Y 1600 f4), (h5, aI Y 200 f13), (h6, aI Y 800 f14)]) (va_A [(h0, oC 13 [.ref h1, .ref h2, .int p2, .ref h3, .ref h4, .int (nI k5), .int (nI k6), .int p7, .int p8, .int p9, .int (nI k10), .int p11, .long q12, .ref h5, .ref h6, .int (nI k15), .int (nI k16)]), (h1, aI Y 3640 f0), (h2, aZ Y 2 f1), (h3, aZ Y 80 f3), (h4, aB Y 1600 f4), (h5, aI Y 200 f13), (h6, aI Y 800 f14)] sz)) 0 0 (va_A [(h0, oC 13 [.ref h1, .ref h2, .int p2, .ref h3, .ref h4, .int (nI k5), .int (nI k6), .int p7, .int p8, .int p9, .int (nI k10), .int p11, .long q12, .ref h5, .ref h6, .int (nI k15), .int (nI k16)]), (h1, aI Y 3640 f0), (h2, aZ Y 2 f1), (h3, aZ Y 80 f3), (h4, aB Y 1600 f4), (h5, aI Y 200 f13), (h6, aI Y 800 f14)] sz) :=
  met_of  (by decide +kernel) (Nat.le_of_ble_eq_true rfl) (fun p e s m args below meth c B hin hsz => by
    have B : VB p s m args meth c D Y (va_A [(h0, oC 13 [.ref h1, .ref h2, .int p2, .ref h3, .ref h4, .int (nI k5), .int (nI k6), .int p7, .int p8, .int p9, .int (nI k10), .int p11, .long q12, .ref h5, .ref h6, .int (nI k15), .int (nI k16)]), (h1, aI Y 3640 f0), (h2, aZ Y 2 f1), (h3, aZ Y 80 f3), (h4, aB Y 1600 f4), (h5, aI Y 200 f13), (h6, aI Y 800 f14)] sz) cX12_unbind 2 RX12 (some .int) := B
    refine V_aload_n 0 B dX12_unbind_0 0 rfl ?_
    refine V_iconst 1 B (v := 0) dX12_unbind_1 (by decide +kernel) ?_
    refine V_put 2 B gp_RX12_38 0 rfl (Nat.le_of_ble_eq_true rfl) rfl rfl dX12_unbind_2 [(h0, oC 13 [.ref h1, .ref h2, .int 0, .ref h3, .ref h4, .int (nI k5), .int (nI k6), .int p7, .int p8, .int p9, .int (nI k10), .int p11, .long q12, .ref h5, .ref h6, .int (nI k15), .int (nI k16)]), (h1, aI Y 3640 f0), (h2, aZ Y 2 f1), (h3, aZ Y 80 f3), (h4, aB Y 1600 f4), (h5, aI Y 200 f13), (h6, aI Y 800 f14)] rfl ?_
    refine V_aload_n 5 B dX12_unbind_5 0 rfl ?_
    refine V_aload_n 6 B dX12_unbind_6 0 rfl ?_
    refine V_iload_n 7 B dX12_unbind_7 1 rfl ?_
    refine V_cvi 8 B (st := [.ref h0]) (As := [.int s0]) (fun sz => rX12_isBinding l D Y h0 h1 h2 h3 h4 h5 h6 0 k5 k6 p7 p8 p9 k10 p11 q12 k15 k16 f0 f1 f3 f4 f13 f14 ph HI (by omega) HP s0 sz) glV_RX12_82 ⟨rfl, rfl⟩ ⟨(Nat.le_of_ble_eq_true rfl), (Nat.le_of_ble_eq_true rfl)⟩ ⟨(Nat.le_of_ble_eq_true rfl), (Nat.le_of_ble_eq_true rfl)⟩ [0, 0, 0, 0, 0, 0, 0] rfl 13 0 rfl rfl rfl rfl (Nat.le_of_ble_eq_true rfl) rfl (fun _ _ _ => rfl) dX12_unbind_8 (fun j0 u1 w2 => ?_)
    refine V_ws [(h0, oC 13 [.ref h1, .ref h2, .int 0, .ref h3, .ref h4, .int (nI k5), .int (nI k6), .int p7, .int p8, .int p9, .int (nI k10), .int p11, .long q12, .ref h5, .ref h6, .int (nI k15), .int (nI k16)]), (h1, aI Y 3640 f0), (h2, aZ Y 2 f1), (h3, aZ Y 80 f3), (h4, aB Y 1600 f4), (h5, aI Y 200 f13), (h6, aI Y 800 f14)] rfl ?_
    have x3 := w2
    clear w2
    have x7 : (gN f0 3) ≤ 80 := gN_le HI (by omega) (show bd 3 = (0, ((80 : Nat) : Int)) by decide +kernel)
    rcases x3 with rfl | ⟨rfl, n4, rfl, x6⟩
    ·
      refine V_if_ne_f 11 B 18 dX12_unbind_11 (by decide) (by decide +kernel) ?_
      refine V_iconst 14 B (v := 1) dX12_unbind_14 (by decide +kernel) ?_
      refine V_goto 15 B 19 dX12_unbind_15 (by decide) ?_
      refine V_iconst 19 B (v := 1) dX12_unbind_19 (by decide +kernel) ?_
      refine V_cvi 20 B (st := []) (As := [.int 1, .int 1]) (fun sz => rX12_throwsIf_1 l D Y h0 h1 h2 h3 h4 h5 h6 0 k5 k6 p7 p8 p9 k10 p11 q12 k15 k16 f0 f1 f3 f4 f13 f14 ph HI (by omega) HP 1 sz) glV_RX12_69 ⟨rfl, rfl⟩ ⟨(Nat.le_of_ble_eq_true rfl), (Nat.le_of_ble_eq_true rfl)⟩ ⟨(Nat.le_of_ble_eq_true rfl), (Nat.le_of_ble_eq_true rfl)⟩ [0, 0, 0, 0, 0, 0, 0] rfl 13 0 rfl rfl rfl rfl (Nat.le_of_ble_eq_true rfl) rfl (fun _ _ _ => rfl) dX12_unbind_20 (fun j8 u9 w10 => ?_)
      refine V_ws [(h0, oC 13 [.ref h1, .ref h2, .int (u9.2.1 0), .ref h3, .ref h4, .int (nI k5), .int (nI k6), .int p7, .int p8, .int p9, .int (nI k10), .int p11, .long q12, .ref h5, .ref h6, .int (nI k15), .int (nI k16)]), (h1, aI Y 3640 f0), (h2, aZ Y 2 f1), (h3, aZ Y 80 f3), (h4, aB Y 1600 f4), (h5, aI Y 200 f13), (h6, aI Y 800 f14)] rfl ?_
      have x11 := w10
      clear w10
      obtain rfl := x11
      refine V_if_eq_f 23 B 28 dX12_unbind_23 (by decide) (by decide +kernel) ?_
      refine V_iconst 26 B (v := 0) dX12_unbind_26 (by decide +kernel) ?_
      exact V_iret 27 B dX12_unbind_27 (mkW [] [(u9.2.1 0)] [] [f0] [] []) HI rfl
    ·
      have e12 := nI_toInt (show n4 < 2 ^ 31 by omega)
      have x13 : (gN f0 3) ≤ 80 := gN_le HI (by omega) (show bd 3 = (0, ((80 : Nat) : Int)) by decide +kernel)
      refine V_if_ne_t 11 B 18 dX12_unbind_11 (by decide) (by decide +kernel) ?_
      refine V_iconst 18 B (v := 0) dX12_unbind_18 (by decide +kernel) ?_
      refine V_iconst 19 B (v := 1) dX12_unbind_19 (by decide +kernel) ?_
      refine V_cvi 20 B (st := []) (As := [.int 0, .int 1]) (fun sz => rX12_throwsIf_0 l D Y h0 h1 h2 h3 h4 h5 h6 0 k5 k6 p7 p8 p9 k10 p11 q12 k15 k16 f0 f1 f3 f4 f13 f14 ph HI (by omega) HP 1 sz) glV_RX12_69 ⟨rfl, rfl⟩ ⟨(Nat.le_of_ble_eq_true rfl), (Nat.le_of_ble_eq_true rfl)⟩ ⟨(Nat.le_of_ble_eq_true rfl), (Nat.le_of_ble_eq_true rfl)⟩ [0, 0, 0, 0, 0, 0, 0] rfl 13 0 rfl rfl rfl rfl (Nat.le_of_ble_eq_true rfl) rfl (fun _ _ _ => rfl) dX12_unbind_20 (fun j14 u15 w16 => ?_)
      refine V_ws [(h0, oC 13 [.ref h1, .ref h2, .int (u15.2.1 0), .ref h3, .ref h4, .int (nI k5), .int (nI k6), .int p7, .int p8, .int p9, .int (nI k10), .int p11, .long q12, .ref h5, .ref h6, .int (nI k15), .int (nI k16)]), (h1, aI Y 3640 f0), (h2, aZ Y 2 f1), (h3, aZ Y 80 f3), (h4, aB Y 1600 f4), (h5, aI Y 200 f13), (h6, aI Y 800 f14)] rfl ?_
      have x17 := w16
      clear w16
      obtain rfl := x17
      refine V_if_eq_t 23 B 28 dX12_unbind_23 (by decide) (by decide +kernel) ?_
      refine V_aload_n 28 B dX12_unbind_28 0 rfl ?_
      refine V_iload_n 29 B dX12_unbind_29 1 rfl ?_
      refine V_cvv 30 B (st := []) (As := [.int (nI n4)]) (fun sz => rX12_remove l D Y h0 h1 h2 h3 h4 h5 h6 (u15.2.1 0) k5 k6 p7 p8 p9 k10 p11 q12 k15 k16 f0 f1 f3 f4 f13 f14 ph HI (by omega) HP n4 (by omega) (by omega) sz) glV_RX12_142 ⟨rfl, rfl⟩ ⟨(Nat.le_of_ble_eq_true rfl), (Nat.le_of_ble_eq_true rfl)⟩ ⟨(Nat.le_of_ble_eq_true rfl), (Nat.le_of_ble_eq_true rfl)⟩ [0, 0, 0, 0, 0, 0, 0] rfl 13 0 rfl rfl rfl rfl (Nat.le_of_ble_eq_true rfl) rfl (fun _ _ => rfl) dX12_unbind_30 (fun u19 w20 => ?_)
      refine V_ws [(h0, oC 13 [.ref h1, .ref h2, .int (u15.2.1 0), .ref h3, .ref h4, .int (nI k5), .int (nI k6), .int p7, .int p8, .int p9, .int (nI k10), .int p11, .long q12, .ref h5, .ref h6, .int (nI k15), .int (nI k16)]), (h1, aI Y 3640 (u19.2.2.2.1 0)), (h2, aZ Y 2 f1), (h3, aZ Y 80 f3), (h4, aB Y 1600 f4), (h5, aI Y 200 f13), (h6, aI Y 800 f14)] rfl ?_
      obtain ⟨x21, x22⟩ := w20
      refine V_aload_n 33 B dX12_unbind_33 0 rfl ?_
      refine V_get 34 B gf_RX12_9 0 rfl rfl dX12_unbind_34 ?_
      refine V_iconst 37 B (v := 3) dX12_unbind_37 (by decide +kernel) ?_
      have x23 : (gN (u19.2.2.2.1 0) 3) ≤ 80 := gN_le x21 (by omega) (show bd 3 = (0, ((80 : Nat) : Int)) by decide +kernel)
      refine V_iald 38 B (v := (nI ((gN (u19.2.2.2.1 0) 3)))) 1 rfl (vpin _ _ (by decide +kernel)) dX12_unbind_38 (by show (u19.2.2.2.1 0) 3 = _; exact gN_eq x21 (by omega) (show bd 3 = (0, ((80 : Nat) : Int)) by decide +kernel)) ?_
      exact V_iret 39 B dX12_unbind_39 (mkW [] [(u15.2.1 0)] [] [(u19.2.2.2.1 0)] [] []) x21 rfl)
theorem dX12_binding_0 : decode cX12_binding 0 = .ok (.aload_n 0, 1) := by decide +kernel
theorem dX12_binding_1 : decode cX12_binding 1 = .ok (.iconst 0, 1) := by decide +kernel
theorem dX12_binding_2 : decode cX12_binding 2 = .ok (.putfield 38, 3) := by decide +kernel
theorem dX12_binding_5 : decode cX12_binding 5 = .ok (.aload_n 0, 1) := by decide +kernel
theorem dX12_binding_6 : decode cX12_binding 6 = .ok (.aload_n 0, 1) := by decide +kernel
theorem dX12_binding_7 : decode cX12_binding 7 = .ok (.iload_n 1, 1) := by decide +kernel
theorem dX12_binding_8 : decode cX12_binding 8 = .ok (.invokevirtual 82, 3) := by decide +kernel
theorem dX12_binding_11 : decode cX12_binding 11 = .ok (.ifCond .ne 7, 3) := by decide +kernel
theorem dX12_binding_14 : decode cX12_binding 14 = .ok (.iconst 1, 1) := by decide +kernel
theorem dX12_binding_15 : decode cX12_binding 15 = .ok (.goto 4, 3) := by decide +kernel
theorem dX12_binding_19 : decode cX12_binding 19 = .ok (.iconst 1, 1) := by decide +kernel
theorem dX12_binding_20 : decode cX12_binding 20 = .ok (.invokevirtual 69, 3) := by decide +kernel
theorem dX12_binding_23 : decode cX12_binding 23 = .ok (.ifCond .eq 5, 3) := by decide +kernel
theorem dX12_binding_26 : decode cX12_binding 26 = .ok (.iconst 0, 1) := by decide +kernel
theorem dX12_binding_27 : decode cX12_binding 27 = .ok (.ireturn, 1) := by decide +kernel
theorem dX12_binding_18 : decode cX12_binding 18 = .ok (.iconst 0, 1) := by decide +kernel
theorem dX12_binding_28 : decode cX12_binding 28 = .ok (.iload_n 2, 1) := by decide +kernel
theorem dX12_binding_29 : decode cX12_binding 29 = .ok (.iconst 3, 1) := by decide +kernel
theorem dX12_binding_30 : decode cX12_binding 30 = .ok (.if_icmp .ne 14, 3) := by decide +kernel
theorem dX12_binding_44 : decode cX12_binding 44 = .ok (.iload_n 2, 1) := by decide +kernel
theorem dX12_binding_45 : decode cX12_binding 45 = .ok (.i2l, 1) := by decide +kernel
theorem dX12_binding_46 : decode cX12_binding 46 = .ok (.lconst 0, 1) := by decide +kernel
theorem dX12_binding_47 : decode cX12_binding 47 = .ok (.ldc2_w 94, 3) := by decide +kernel
theorem dX12_binding_50 : decode cX12_binding 50 = .ok (.invokestatic 41, 3) := by decide +kernel
theorem dX12_binding_53 : decode cX12_binding 53 = .ok (.ifCond .eq 17, 3) := by decide +kernel
theorem dX12_binding_70 : decode cX12_binding 70 = .ok (.iconst (-1), 1) := by decide +kernel
theorem dX12_binding_71 : decode cX12_binding 71 = .ok (.ireturn, 1) := by decide +kernel
theorem dX12_binding_56 : decode cX12_binding 56 = .ok (.aload_n 0, 1) := by decide +kernel
theorem dX12_binding_57 : decode cX12_binding 57 = .ok (.getfield 9, 3) := by decide +kernel
theorem dX12_binding_60 : decode cX12_binding 60 = .ok (.iload_n 1, 1) := by decide +kernel
theorem dX12_binding_61 : decode cX12_binding 61 = .ok (.invokestatic 79, 3) := by decide +kernel
theorem dX12_binding_64 : decode cX12_binding 64 = .ok (.iload_n 2, 1) := by decide +kernel
theorem dX12_binding_65 : decode cX12_binding 65 = .ok (.iadd, 1) := by decide +kernel
theorem dX12_binding_66 : decode cX12_binding 66 = .ok (.iaload, 1) := by decide +kernel
theorem dX12_binding_67 : decode cX12_binding 67 = .ok (.goto 4, 3) := by decide +kernel
theorem dX12_binding_33 : decode cX12_binding 33 = .ok (.aload_n 0, 1) := by decide +kernel
theorem dX12_binding_34 : decode cX12_binding 34 = .ok (.iload_n 1, 1) := by decide +kernel
theorem dX12_binding_35 : decode cX12_binding 35 = .ok (.invokestatic 85, 3) := by decide +kernel
theorem dX12_binding_38 : decode cX12_binding 38 = .ok (.invokevirtual 76, 3) := by decide +kernel
theorem dX12_binding_41 : decode cX12_binding 41 = .ok (.goto 30, 3) := by decide +kernel
set_option maxRecDepth 100000 in
set_option maxHeartbeats 4000000 in
theorem rX12_binding (l : Launch) (D : va_G) (Y : Nat → ClassId) (h0 : Nat) (h1 : Nat) (h2 : Nat) (h3 : Nat) (h4 : Nat) (h5 : Nat) (h6 : Nat) (p2 : Int32) (k5 : Nat) (k6 : Nat) (p7 : Int32) (p8 : Int32) (p9 : Int32) (k10 : Nat) (p11 : Int32) (q12 : Int64) (k15 : Nat) (k16 : Nat) (f0 : Nat → Int32) (f1 : Nat → Int32) (f3 : Nat → Int32) (f4 : Nat → Int32) (f13 : Nat → Int32) (f14 : Nat → Int32) (ph : Nat → Int32) (HI : INV ph f0) (HL : k5 ≤ 1600) (HP : PLV f13) (s0 : Int32) (s1 : Int32)  (sz : Nat) : Met l yX12_binding (WSm yX12_binding cX12_binding 3 (some .int)) (mkR 3 0 0 65) (PreC D Y [.ref h0, .int s0, .int s1] [(h0, oC 13 [.ref h1, .ref h2, .int p2, .ref h3, .ref h4, .int (nI k5), .int (nI k6), .int p7, .int p8, .int p9, .int (nI k10), .int p11, .long q12, .ref h5, .ref h6, .int (nI k15), .int (nI k16)]), (h1, aI Y 3640 f0), (h2, aZ Y 2 f1), (h3, aZ Y 80 f3), (h4, aB Y 1600 f4), (h5, aI Y 200 f13), (h6, aI Y 800 f14)] sz) (QI D (fun (r : Int32) (u : WU) => True) (fun (u : WU) => [(h0, oC 13 [.ref h1, .ref h2, .int (u.2.1 0), .ref h3, .ref h4, .int (nI k5), .int (nI k6), .int p7, .int p8, .int p9, .int (nI k10), .int p11, .long q12, .ref h5, .ref h6, .int (nI k15), .int (nI k16)]), (h1, aI Y 3640 f0), (h2, aZ Y 2 f1), (h3, aZ Y 80 f3), (h4, aB Y 1600 f4), (h5, aI Y 200 f13), (h6, aI Y 800 f14)]) (va_A [(h0, oC 13 [.ref h1, .ref h2, .int p2, .ref h3, .ref h4, .int (nI k5), .int (nI k6), .int p7, .int p8, .int p9, .int (nI k10), .int p11, .long q12, .ref h5, .ref h6, .int (nI k15), .int (nI k16)]), (h1, aI Y 3640 f0), (h2, aZ Y 2 f1), (h3, aZ Y 80 f3), (h4, aB Y 1600 f4), (h5, aI Y 200 f13), (h6, aI Y 800 f14)] sz)) 0 0 (va_A [(h0, oC 13 [.ref h1, .ref h2, .int p2, .ref h3, .ref h4, .int (nI k5), .int (nI k6), .int p7, .int p8, .int p9, .int (nI k10), .int p11, .long q12, .ref h5, .ref h6, .int (nI k15), .int (nI k16)]), (h1, aI Y 3640 f0), (h2, aZ Y 2 f1), (h3, aZ Y 80 f3), (h4, aB Y 1600 f4), (h5, aI Y 200 f13), (h6, aI Y 800 f14)] sz) :=
  met_of  (by decide +kernel) (Nat.le_of_ble_eq_true rfl) (fun p e s m args below meth c B hin hsz => by
    have B : VB p s m args meth c D Y (va_A [(h0, oC 13 [.ref h1, .ref h2, .int p2, .ref h3, .ref h4, .int (nI k5), .int (nI k6), .int p7, .int p8, .int p9, .int (nI k10), .int p11, .long q12, .ref h5, .ref h6, .int (nI k15), .int (nI k16)]), (h1, aI Y 3640 f0), (h2, aZ Y 2 f1), (h3, aZ Y 80 f3), (h4, aB Y 1600 f4), (h5, aI Y 200 f13), (h6, aI Y 800 f14)] sz) cX12_binding 3 RX12 (some .int) := B
    refine V_aload_n 0 B dX12_binding_0 0 rfl ?_
    refine V_iconst 1 B (v := 0) dX12_binding_1 (by decide +kernel) ?_
    refine V_put 2 B gp_RX12_38 0 rfl (Nat.le_of_ble_eq_true rfl) rfl rfl dX12_binding_2 [(h0, oC 13 [.ref h1, .ref h2, .int 0, .ref h3, .ref h4, .int (nI k5), .int (nI k6), .int p7, .int p8, .int p9, .int (nI k10), .int p11, .long q12, .ref h5, .ref h6, .int (nI k15), .int (nI k16)]), (h1, aI Y 3640 f0), (h2, aZ Y 2 f1), (h3, aZ Y 80 f3), (h4, aB Y 1600 f4), (h5, aI Y 200 f13), (h6, aI Y 800 f14)] rfl ?_
    refine V_aload_n 5 B dX12_binding_5 0 rfl ?_
    refine V_aload_n 6 B dX12_binding_6 0 rfl ?_
    refine V_iload_n 7 B dX12_binding_7 1 rfl ?_
    refine V_cvi 8 B (st := [.ref h0]) (As := [.int s0]) (fun sz => rX12_isBinding l D Y h0 h1 h2 h3 h4 h5 h6 0 k5 k6 p7 p8 p9 k10 p11 q12 k15 k16 f0 f1 f3 f4 f13 f14 ph HI (by omega) HP s0 sz) glV_RX12_82 ⟨rfl, rfl⟩ ⟨(Nat.le_of_ble_eq_true rfl), (Nat.le_of_ble_eq_true rfl)⟩ ⟨(Nat.le_of_ble_eq_true rfl), (Nat.le_of_ble_eq_true rfl)⟩ [0, 0, 0, 0, 0, 0, 0] rfl 13 0 rfl rfl rfl rfl (Nat.le_of_ble_eq_true rfl) rfl (fun _ _ _ => rfl) dX12_binding_8 (fun j0 u1 w2 => ?_)
    refine V_ws [(h0, oC 13 [.ref h1, .ref h2, .int 0, .ref h3, .ref h4, .int (nI k5), .int (nI k6), .int p7, .int p8, .int p9, .int (nI k10), .int p11, .long q12, .ref h5, .ref h6, .int (nI k15), .int (nI k16)]), (h1, aI Y 3640 f0), (h2, aZ Y 2 f1), (h3, aZ Y 80 f3), (h4, aB Y 1600 f4), (h5, aI Y 200 f13), (h6, aI Y 800 f14)] rfl ?_
    have x3 := w2
    clear w2
    have x7 : (gN f0 3) ≤ 80 := gN_le HI (by omega) (show bd 3 = (0, ((80 : Nat) : Int)) by decide +kernel)
    rcases x3 with rfl | ⟨rfl, n4, rfl, x6⟩
    ·
      refine V_if_ne_f 11 B 18 dX12_binding_11 (by decide) (by decide +kernel) ?_
      refine V_iconst 14 B (v := 1) dX12_binding_14 (by decide +kernel) ?_
      refine V_goto 15 B 19 dX12_binding_15 (by decide) ?_
      refine V_iconst 19 B (v := 1) dX12_binding_19 (by decide +kernel) ?_
      refine V_cvi 20 B (st := []) (As := [.int 1, .int 1]) (fun sz => rX12_throwsIf_1 l D Y h0 h1 h2 h3 h4 h5 h6 0 k5 k6 p7 p8 p9 k10 p11 q12 k15 k16 f0 f1 f3 f4 f13 f14 ph HI (by omega) HP 1 sz) glV_RX12_69 ⟨rfl, rfl⟩ ⟨(Nat.le_of_ble_eq_true rfl), (Nat.le_of_ble_eq_true rfl)⟩ ⟨(Nat.le_of_ble_eq_true rfl), (Nat.le_of_ble_eq_true rfl)⟩ [0, 0, 0, 0, 0, 0, 0] rfl 13 0 rfl rfl rfl rfl (Nat.le_of_ble_eq_true rfl) rfl (fun _ _ _ => rfl) dX12_binding_20 (fun j8 u9 w10 => ?_)
      refine V_ws [(h0, oC 13 [.ref h1, .ref h2, .int (u9.2.1 0), .ref h3, .ref h4, .int (nI k5), .int (nI k6), .int p7, .int p8, .int p9, .int (nI k10), .int p11, .long q12, .ref h5, .ref h6, .int (nI k15), .int (nI k16)]), (h1, aI Y 3640 f0), (h2, aZ Y 2 f1), (h3, aZ Y 80 f3), (h4, aB Y 1600 f4), (h5, aI Y 200 f13), (h6, aI Y 800 f14)] rfl ?_
      have x11 := w10
      clear w10
      obtain rfl := x11
      refine V_if_eq_f 23 B 28 dX12_binding_23 (by decide) (by decide +kernel) ?_
      refine V_iconst 26 B (v := 0) dX12_binding_26 (by decide +kernel) ?_
      exact V_iret 27 B dX12_binding_27 (mkW [] [(u9.2.1 0)] [] [] [] []) trivial rfl
    ·
      have e12 := nI_toInt (show n4 < 2 ^ 31 by omega)
      have x13 : (gN f0 3) ≤ 80 := gN_le HI (by omega) (show bd 3 = (0, ((80 : Nat) : Int)) by decide +kernel)
      refine V_if_ne_t 11 B 18 dX12_binding_11 (by decide) (by decide +kernel) ?_
      refine V_iconst 18 B (v := 0) dX12_binding_18 (by decide +kernel) ?_
      refine V_iconst 19 B (v := 1) dX12_binding_19 (by decide +kernel) ?_
      refine V_cvi 20 B (st := []) (As := [.int 0, .int 1]) (fun sz => rX12_throwsIf_0 l D Y h0 h1 h2 h3 h4 h5 h6 0 k5 k6 p7 p8 p9 k10 p11 q12 k15 k16 f0 f1 f3 f4 f13 f14 ph HI (by omega) HP 1 sz) glV_RX12_69 ⟨rfl, rfl⟩ ⟨(Nat.le_of_ble_eq_true rfl), (Nat.le_of_ble_eq_true rfl)⟩ ⟨(Nat.le_of_ble_eq_true rfl), (Nat.le_of_ble_eq_true rfl)⟩ [0, 0, 0, 0, 0, 0, 0] rfl 13 0 rfl rfl rfl rfl (Nat.le_of_ble_eq_true rfl) rfl (fun _ _ _ => rfl) dX12_binding_20 (fun j14 u15 w16 => ?_)
      refine V_ws [(h0, oC 13 [.ref h1, .ref h2, .int (u15.2.1 0), .ref h3, .ref h4, .int (nI k5), .int (nI k6), .int p7, .int p8, .int p9, .int (nI k10), .int p11, .long q12, .ref h5, .ref h6, .int (nI k15), .int (nI k16)]), (h1, aI Y 3640 f0), (h2, aZ Y 2 f1), (h3, aZ Y 80 f3), (h4, aB Y 1600 f4), (h5, aI Y 200 f13), (h6, aI Y 800 f14)] rfl ?_
      have x17 := w16
      clear w16
      obtain rfl := x17
      refine V_if_eq_t 23 B 28 dX12_binding_23 (by decide) (by decide +kernel) ?_
      refine V_iload_n 28 B dX12_binding_28 2 rfl ?_
      refine V_iconst 29 B (v := 3) dX12_binding_29 (by decide +kernel) ?_
      refine V_icmp_ne 30 B 44 dX12_binding_30 (by decide) (fun kk18 => ?_) (fun kk18 => ?_)
      ·
        have x19 := x_ne kk18
        rw [show (3 : Int32).toInt = 3 by decide +kernel] at x19
        refine V_iload_n 44 B dX12_binding_44 2 rfl ?_
        refine V_i2l 45 B dX12_binding_45 rfl ?_
        refine V_nml (fun o20 e21 => ?_)
        have x22 : o20.toInt = s1.toInt := by rw [e21, Int32.toInt_toInt64]
        refine V_lconst 46 B (v := 0) dX12_binding_46 (by decide +kernel) ?_
        refine V_ldc2 47 B (v := 2) dX12_binding_47 (mT8 41 rfl rfl) ?_
        refine V_csi 50 B (st := []) (As := [.long o20, .long 0, .long 2]) (fun sz => rX12_inRange l D Y o20 0 2 sz) glS_RX12_41 ⟨rfl, rfl⟩ ⟨(Nat.le_of_ble_eq_true rfl), (Nat.le_of_ble_eq_true rfl)⟩ ⟨(Nat.le_of_ble_eq_true rfl), (Nat.le_of_ble_eq_true rfl)⟩ [] rfl rfl (Nat.le_of_ble_eq_true rfl) rfl (fun _ _ _ => rfl) dX12_binding_50 (fun j23 u24 w25 => ?_)
        refine V_ws [(h0, oC 13 [.ref h1, .ref h2, .int (u15.2.1 0), .ref h3, .ref h4, .int (nI k5), .int (nI k6), .int p7, .int p8, .int p9, .int (nI k10), .int p11, .long q12, .ref h5, .ref h6, .int (nI k15), .int (nI k16)]), (h1, aI Y 3640 f0), (h2, aZ Y 2 f1), (h3, aZ Y 80 f3), (h4, aB Y 1600 f4), (h5, aI Y 200 f13), (h6, aI Y 800 f14)] rfl ?_
        rcases w25 with ⟨rfl, x28⟩ | ⟨rfl, x26, x27⟩
        ·
          rw [show (0 : Int64).toInt = 0 by decide +kernel] at x28
          rw [show (2 : Int64).toInt = 2 by decide +kernel] at x28
          refine V_if_eq_t 53 B 70 dX12_binding_53 (by decide) (by decide +kernel) ?_
          refine V_iconst 70 B (v := (-1)) dX12_binding_70 (by decide +kernel) ?_
          exact V_iret 71 B dX12_binding_71 (mkW [] [(u15.2.1 0)] [] [] [] []) trivial rfl
        ·
          rw [show (0 : Int64).toInt = 0 by decide +kernel] at x26
          rw [show (2 : Int64).toInt = 2 by decide +kernel] at x27
          refine V_if_eq_f 53 B 70 dX12_binding_53 (by decide) (by decide +kernel) ?_
          refine V_aload_n 56 B dX12_binding_56 0 rfl ?_
          refine V_get 57 B gf_RX12_9 0 rfl rfl dX12_binding_57 ?_
          refine V_iload_n 60 B dX12_binding_60 1 rfl ?_
          refine V_csi 61 B (st := [.ref h1]) (As := [.int (nI n4)]) (fun sz => rX12_bindingAt l D Y n4 (by omega) sz) glS_RX12_79 ⟨rfl, rfl⟩ ⟨(Nat.le_of_ble_eq_true rfl), (Nat.le_of_ble_eq_true rfl)⟩ ⟨(Nat.le_of_ble_eq_true rfl), (Nat.le_of_ble_eq_true rfl)⟩ [] rfl rfl (Nat.le_of_ble_eq_true rfl) rfl (fun _ _ _ => rfl) dX12_binding_61 (fun j29 u30 w31 => ?_)
          refine V_ws [(h0, oC 13 [.ref h1, .ref h2, .int (u15.2.1 0), .ref h3, .ref h4, .int (nI k5), .int (nI k6), .int p7, .int p8, .int p9, .int (nI k10), .int p11, .long q12, .ref h5, .ref h6, .int (nI k15), .int (nI k16)]), (h1, aI Y 3640 f0), (h2, aZ Y 2 f1), (h3, aZ Y 80 f3), (h4, aB Y 1600 f4), (h5, aI Y 200 f13), (h6, aI Y 800 f14)] rfl ?_
          have x32 := w31
          clear w31
          obtain rfl := x32
          refine V_iload_n 64 B dX12_binding_64 2 rfl ?_
          obtain ⟨n33, x34, rfl⟩ := nat_of (x := s1) (n := 2) (by omega) (by omega)
          have e35 := nI_toInt (show n33 < 2 ^ 31 by omega)
          refine V_iadd 65 B (v := (nI (184 + n33 + 7 * n4))) dX12_binding_65 (nI_addE (a := 184 + 7 * n4) (b := n33) (by omega)) ?_
          refine V_iald 66 B (v := f0 (184 + n33 + 7 * n4)) 1 rfl (vp_in_nI (n := 184 + n33 + 7 * n4) (by omega) (by decide)) dX12_binding_66 (by rw [nI_clamp (show 184 + n33 + 7 * n4 < 2 ^ 31 by omega)]) ?_
          refine V_nmi (fun j36 e37 => ?_)
          refine V_goto 67 B 71 dX12_binding_67 (by decide) ?_
          exact V_iret 71 B dX12_binding_71 (mkW [] [(u15.2.1 0)] [] [] [] []) trivial rfl
      ·
        obtain rfl : s1 = 3 := kk18
        have e39 : (3 : Int32).toInt = 3 := by decide +kernel
        refine V_aload_n 33 B dX12_binding_33 0 rfl ?_
        refine V_iload_n 34 B dX12_binding_34 1 rfl ?_
        refine V_csi 35 B (st := [.ref h0]) (As := [.int (nI n4)]) (fun sz => rX12_sequenceOf l D Y n4 (by omega) sz) glS_RX12_85 ⟨rfl, rfl⟩ ⟨(Nat.le_of_ble_eq_true rfl), (Nat.le_of_ble_eq_true rfl)⟩ ⟨(Nat.le_of_ble_eq_true rfl), (Nat.le_of_ble_eq_true rfl)⟩ [] rfl rfl (Nat.le_of_ble_eq_true rfl) rfl (fun _ _ _ => rfl) dX12_binding_35 (fun j40 u41 w42 => ?_)
        refine V_ws [(h0, oC 13 [.ref h1, .ref h2, .int (u15.2.1 0), .ref h3, .ref h4, .int (nI k5), .int (nI k6), .int p7, .int p8, .int p9, .int (nI k10), .int p11, .long q12, .ref h5, .ref h6, .int (nI k15), .int (nI k16)]), (h1, aI Y 3640 f0), (h2, aZ Y 2 f1), (h3, aZ Y 80 f3), (h4, aB Y 1600 f4), (h5, aI Y 200 f13), (h6, aI Y 800 f14)] rfl ?_
        have x43 := w42
        clear w42
        obtain rfl := x43
        refine V_cvi 38 B (st := []) (As := [.int (nI (186 + 7 * n4))]) (fun sz => rX12_costOf l D Y h0 h1 h2 h3 h4 h5 h6 (u15.2.1 0) k5 k6 p7 p8 p9 k10 p11 q12 k15 k16 f0 f1 f3 f4 f13 f14 ph HI (by omega) HP (186 + 7 * n4) (rl5 n4 (by omega)) sz) glV_RX12_76 ⟨rfl, rfl⟩ ⟨(Nat.le_of_ble_eq_true rfl), (Nat.le_of_ble_eq_true rfl)⟩ ⟨(Nat.le_of_ble_eq_true rfl), (Nat.le_of_ble_eq_true rfl)⟩ [0, 0, 0, 0, 0, 0, 0] rfl 13 0 rfl rfl rfl rfl (Nat.le_of_ble_eq_true rfl) rfl (fun _ _ _ => rfl) dX12_binding_38 (fun j44 u45 w46 => ?_)
        refine V_ws [(h0, oC 13 [.ref h1, .ref h2, .int (u15.2.1 0), .ref h3, .ref h4, .int (nI k5), .int (nI k6), .int p7, .int p8, .int p9, .int (nI k10), .int p11, .long q12, .ref h5, .ref h6, .int (nI k15), .int (nI k16)]), (h1, aI Y 3640 f0), (h2, aZ Y 2 f1), (h3, aZ Y 80 f3), (h4, aB Y 1600 f4), (h5, aI Y 200 f13), (h6, aI Y 800 f14)] rfl ?_
        refine V_goto 41 B 71 dX12_binding_41 (by decide) ?_
        exact V_iret 71 B dX12_binding_71 (mkW [] [(u15.2.1 0)] [] [] [] []) trivial rfl)
theorem dX12_bindingStroke_0 : decode cX12_bindingStroke 0 = .ok (.aload_n 0, 1) := by decide +kernel
theorem dX12_bindingStroke_1 : decode cX12_bindingStroke 1 = .ok (.iconst 0, 1) := by decide +kernel
theorem dX12_bindingStroke_2 : decode cX12_bindingStroke 2 = .ok (.putfield 38, 3) := by decide +kernel
theorem dX12_bindingStroke_5 : decode cX12_bindingStroke 5 = .ok (.aload_n 0, 1) := by decide +kernel
theorem dX12_bindingStroke_6 : decode cX12_bindingStroke 6 = .ok (.aload_n 0, 1) := by decide +kernel
theorem dX12_bindingStroke_7 : decode cX12_bindingStroke 7 = .ok (.iload_n 1, 1) := by decide +kernel
theorem dX12_bindingStroke_8 : decode cX12_bindingStroke 8 = .ok (.invokevirtual 82, 3) := by decide +kernel
theorem dX12_bindingStroke_11 : decode cX12_bindingStroke 11 = .ok (.ifCond .ne 7, 3) := by decide +kernel
theorem dX12_bindingStroke_14 : decode cX12_bindingStroke 14 = .ok (.iconst 1, 1) := by decide +kernel
theorem dX12_bindingStroke_15 : decode cX12_bindingStroke 15 = .ok (.goto 4, 3) := by decide +kernel
theorem dX12_bindingStroke_19 : decode cX12_bindingStroke 19 = .ok (.iconst 1, 1) := by decide +kernel
theorem dX12_bindingStroke_20 : decode cX12_bindingStroke 20 = .ok (.invokevirtual 69, 3) := by decide +kernel
theorem dX12_bindingStroke_23 : decode cX12_bindingStroke 23 = .ok (.ifCond .eq 7, 3) := by decide +kernel
theorem dX12_bindingStroke_26 : decode cX12_bindingStroke 26 = .ok (.iconst 0, 1) := by decide +kernel
theorem dX12_bindingStroke_27 : decode cX12_bindingStroke 27 = .ok (.goto 12, 3) := by decide +kernel
theorem dX12_bindingStroke_39 : decode cX12_bindingStroke 39 = .ok (.ireturn, 1) := by decide +kernel
theorem dX12_bindingStroke_18 : decode cX12_bindingStroke 18 = .ok (.iconst 0, 1) := by decide +kernel
theorem dX12_bindingStroke_30 : decode cX12_bindingStroke 30 = .ok (.aload_n 0, 1) := by decide +kernel
theorem dX12_bindingStroke_31 : decode cX12_bindingStroke 31 = .ok (.iload_n 1, 1) := by decide +kernel
theorem dX12_bindingStroke_32 : decode cX12_bindingStroke 32 = .ok (.invokestatic 85, 3) := by decide +kernel
theorem dX12_bindingStroke_35 : decode cX12_bindingStroke 35 = .ok (.iload_n 2, 1) := by decide +kernel
theorem dX12_bindingStroke_36 : decode cX12_bindingStroke 36 = .ok (.invokevirtual 73, 3) := by decide +kernel
set_option maxRecDepth 100000 in
set_option maxHeartbeats 4000000 in
theorem rX12_bindingStroke (l : Launch) (D : va_G) (Y : Nat → ClassId) (h0 : Nat) (h1 : Nat) (h2 : Nat) (h3 : Nat) (h4 : Nat) (h5 : Nat) (h6 : Nat) (p2 : Int32) (k5 : Nat) (k6 : Nat) (p7 : Int32) (p8 : Int32) (p9 : Int32) (k10 : Nat) (p11 : Int32) (q12 : Int64) (k15 : Nat) (k16 : Nat) (f0 : Nat → Int32) (f1 : Nat → Int32) (f3 : Nat → Int32) (f4 : Nat → Int32) (f13 : Nat → Int32) (f14 : Nat → Int32) (ph : Nat → Int32) (HI : INV ph f0) (HL : k5 ≤ 1600) (HP : PLV f13) (s0 : Int32) (s1 : Int32)  (sz : Nat) : Met l yX12_bindingStroke (WSm yX12_bindingStroke cX12_bindingStroke 3 (some .int)) (mkR 2 0 0 47) (PreC D Y [.ref h0, .int s0, .int s1] [(h0, oC 13 [.ref h1, .ref h2, .int p2, .ref h3, .ref h4, .int (nI k5), .int (nI k6), .int p7, .int p8, .int p9, .int (nI k10), .int p11, .long q12, .ref h5, .ref h6, .int (nI k15), .int (nI k16)]), (h1, aI Y 3640 f0), (h2, aZ Y 2 f1), (h3, aZ Y 80 f3), (h4, aB Y 1600 f4), (h5, aI Y 200 f13), (h6, aI Y 800 f14)] sz) (QI D (fun (r : Int32) (u : WU) => True) (fun (u : WU) => [(h0, oC 13 [.ref h1, .ref h2, .int (u.2.1 0), .ref h3, .ref h4, .int (nI k5), .int (nI k6), .int p7, .int p8, .int p9, .int (nI k10), .int p11, .long q12, .ref h5, .ref h6, .int (nI k15), .int (nI k16)]), (h1, aI Y 3640 f0), (h2, aZ Y 2 f1), (h3, aZ Y 80 f3), (h4, aB Y 1600 f4), (h5, aI Y 200 f13), (h6, aI Y 800 f14)]) (va_A [(h0, oC 13 [.ref h1, .ref h2, .int p2, .ref h3, .ref h4, .int (nI k5), .int (nI k6), .int p7, .int p8, .int p9, .int (nI k10), .int p11, .long q12, .ref h5, .ref h6, .int (nI k15), .int (nI k16)]), (h1, aI Y 3640 f0), (h2, aZ Y 2 f1), (h3, aZ Y 80 f3), (h4, aB Y 1600 f4), (h5, aI Y 200 f13), (h6, aI Y 800 f14)] sz)) 0 0 (va_A [(h0, oC 13 [.ref h1, .ref h2, .int p2, .ref h3, .ref h4, .int (nI k5), .int (nI k6), .int p7, .int p8, .int p9, .int (nI k10), .int p11, .long q12, .ref h5, .ref h6, .int (nI k15), .int (nI k16)]), (h1, aI Y 3640 f0), (h2, aZ Y 2 f1), (h3, aZ Y 80 f3), (h4, aB Y 1600 f4), (h5, aI Y 200 f13), (h6, aI Y 800 f14)] sz) :=
  met_of  (by decide +kernel) (Nat.le_of_ble_eq_true rfl) (fun p e s m args below meth c B hin hsz => by
    have B : VB p s m args meth c D Y (va_A [(h0, oC 13 [.ref h1, .ref h2, .int p2, .ref h3, .ref h4, .int (nI k5), .int (nI k6), .int p7, .int p8, .int p9, .int (nI k10), .int p11, .long q12, .ref h5, .ref h6, .int (nI k15), .int (nI k16)]), (h1, aI Y 3640 f0), (h2, aZ Y 2 f1), (h3, aZ Y 80 f3), (h4, aB Y 1600 f4), (h5, aI Y 200 f13), (h6, aI Y 800 f14)] sz) cX12_bindingStroke 3 RX12 (some .int) := B
    refine V_aload_n 0 B dX12_bindingStroke_0 0 rfl ?_
    refine V_iconst 1 B (v := 0) dX12_bindingStroke_1 (by decide +kernel) ?_
    refine V_put 2 B gp_RX12_38 0 rfl (Nat.le_of_ble_eq_true rfl) rfl rfl dX12_bindingStroke_2 [(h0, oC 13 [.ref h1, .ref h2, .int 0, .ref h3, .ref h4, .int (nI k5), .int (nI k6), .int p7, .int p8, .int p9, .int (nI k10), .int p11, .long q12, .ref h5, .ref h6, .int (nI k15), .int (nI k16)]), (h1, aI Y 3640 f0), (h2, aZ Y 2 f1), (h3, aZ Y 80 f3), (h4, aB Y 1600 f4), (h5, aI Y 200 f13), (h6, aI Y 800 f14)] rfl ?_
    refine V_aload_n 5 B dX12_bindingStroke_5 0 rfl ?_
    refine V_aload_n 6 B dX12_bindingStroke_6 0 rfl ?_
    refine V_iload_n 7 B dX12_bindingStroke_7 1 rfl ?_
    refine V_cvi 8 B (st := [.ref h0]) (As := [.int s0]) (fun sz => rX12_isBinding l D Y h0 h1 h2 h3 h4 h5 h6 0 k5 k6 p7 p8 p9 k10 p11 q12 k15 k16 f0 f1 f3 f4 f13 f14 ph HI (by omega) HP s0 sz) glV_RX12_82 ⟨rfl, rfl⟩ ⟨(Nat.le_of_ble_eq_true rfl), (Nat.le_of_ble_eq_true rfl)⟩ ⟨(Nat.le_of_ble_eq_true rfl), (Nat.le_of_ble_eq_true rfl)⟩ [0, 0, 0, 0, 0, 0, 0] rfl 13 0 rfl rfl rfl rfl (Nat.le_of_ble_eq_true rfl) rfl (fun _ _ _ => rfl) dX12_bindingStroke_8 (fun j0 u1 w2 => ?_)
    refine V_ws [(h0, oC 13 [.ref h1, .ref h2, .int 0, .ref h3, .ref h4, .int (nI k5), .int (nI k6), .int p7, .int p8, .int p9, .int (nI k10), .int p11, .long q12, .ref h5, .ref h6, .int (nI k15), .int (nI k16)]), (h1, aI Y 3640 f0), (h2, aZ Y 2 f1), (h3, aZ Y 80 f3), (h4, aB Y 1600 f4), (h5, aI Y 200 f13), (h6, aI Y 800 f14)] rfl ?_
    have x3 := w2
    clear w2
    have x7 : (gN f0 3) ≤ 80 := gN_le HI (by omega) (show bd 3 = (0, ((80 : Nat) : Int)) by decide +kernel)
    rcases x3 with rfl | ⟨rfl, n4, rfl, x6⟩
    ·
      refine V_if_ne_f 11 B 18 dX12_bindingStroke_11 (by decide) (by decide +kernel) ?_
      refine V_iconst 14 B (v := 1) dX12_bindingStroke_14 (by decide +kernel) ?_
      refine V_goto 15 B 19 dX12_bindingStroke_15 (by decide) ?_
      refine V_iconst 19 B (v := 1) dX12_bindingStroke_19 (by decide +kernel) ?_
      refine V_cvi 20 B (st := []) (As := [.int 1, .int 1]) (fun sz => rX12_throwsIf_1 l D Y h0 h1 h2 h3 h4 h5 h6 0 k5 k6 p7 p8 p9 k10 p11 q12 k15 k16 f0 f1 f3 f4 f13 f14 ph HI (by omega) HP 1 sz) glV_RX12_69 ⟨rfl, rfl⟩ ⟨(Nat.le_of_ble_eq_true rfl), (Nat.le_of_ble_eq_true rfl)⟩ ⟨(Nat.le_of_ble_eq_true rfl), (Nat.le_of_ble_eq_true rfl)⟩ [0, 0, 0, 0, 0, 0, 0] rfl 13 0 rfl rfl rfl rfl (Nat.le_of_ble_eq_true rfl) rfl (fun _ _ _ => rfl) dX12_bindingStroke_20 (fun j8 u9 w10 => ?_)
      refine V_ws [(h0, oC 13 [.ref h1, .ref h2, .int (u9.2.1 0), .ref h3, .ref h4, .int (nI k5), .int (nI k6), .int p7, .int p8, .int p9, .int (nI k10), .int p11, .long q12, .ref h5, .ref h6, .int (nI k15), .int (nI k16)]), (h1, aI Y 3640 f0), (h2, aZ Y 2 f1), (h3, aZ Y 80 f3), (h4, aB Y 1600 f4), (h5, aI Y 200 f13), (h6, aI Y 800 f14)] rfl ?_
      have x11 := w10
      clear w10
      obtain rfl := x11
      refine V_if_eq_f 23 B 30 dX12_bindingStroke_23 (by decide) (by decide +kernel) ?_
      refine V_iconst 26 B (v := 0) dX12_bindingStroke_26 (by decide +kernel) ?_
      refine V_goto 27 B 39 dX12_bindingStroke_27 (by decide) ?_
      exact V_iret 39 B dX12_bindingStroke_39 (mkW [] [(u9.2.1 0)] [] [] [] []) trivial rfl
    ·
      have e12 := nI_toInt (show n4 < 2 ^ 31 by omega)
      have x13 : (gN f0 3) ≤ 80 := gN_le HI (by omega) (show bd 3 = (0, ((80 : Nat) : Int)) by decide +kernel)
      refine V_if_ne_t 11 B 18 dX12_bindingStroke_11 (by decide) (by decide +kernel) ?_
      refine V_iconst 18 B (v := 0) dX12_bindingStroke_18 (by decide +kernel) ?_
      refine V_iconst 19 B (v := 1) dX12_bindingStroke_19 (by decide +kernel) ?_
      refine V_cvi 20 B (st := []) (As := [.int 0, .int 1]) (fun sz => rX12_throwsIf_0 l D Y h0 h1 h2 h3 h4 h5 h6 0 k5 k6 p7 p8 p9 k10 p11 q12 k15 k16 f0 f1 f3 f4 f13 f14 ph HI (by omega) HP 1 sz) glV_RX12_69 ⟨rfl, rfl⟩ ⟨(Nat.le_of_ble_eq_true rfl), (Nat.le_of_ble_eq_true rfl)⟩ ⟨(Nat.le_of_ble_eq_true rfl), (Nat.le_of_ble_eq_true rfl)⟩ [0, 0, 0, 0, 0, 0, 0] rfl 13 0 rfl rfl rfl rfl (Nat.le_of_ble_eq_true rfl) rfl (fun _ _ _ => rfl) dX12_bindingStroke_20 (fun j14 u15 w16 => ?_)
      refine V_ws [(h0, oC 13 [.ref h1, .ref h2, .int (u15.2.1 0), .ref h3, .ref h4, .int (nI k5), .int (nI k6), .int p7, .int p8, .int p9, .int (nI k10), .int p11, .long q12, .ref h5, .ref h6, .int (nI k15), .int (nI k16)]), (h1, aI Y 3640 f0), (h2, aZ Y 2 f1), (h3, aZ Y 80 f3), (h4, aB Y 1600 f4), (h5, aI Y 200 f13), (h6, aI Y 800 f14)] rfl ?_
      have x17 := w16
      clear w16
      obtain rfl := x17
      refine V_if_eq_t 23 B 30 dX12_bindingStroke_23 (by decide) (by decide +kernel) ?_
      refine V_aload_n 30 B dX12_bindingStroke_30 0 rfl ?_
      refine V_iload_n 31 B dX12_bindingStroke_31 1 rfl ?_
      refine V_csi 32 B (st := [.ref h0]) (As := [.int (nI n4)]) (fun sz => rX12_sequenceOf l D Y n4 (by omega) sz) glS_RX12_85 ⟨rfl, rfl⟩ ⟨(Nat.le_of_ble_eq_true rfl), (Nat.le_of_ble_eq_true rfl)⟩ ⟨(Nat.le_of_ble_eq_true rfl), (Nat.le_of_ble_eq_true rfl)⟩ [] rfl rfl (Nat.le_of_ble_eq_true rfl) rfl (fun _ _ _ => rfl) dX12_bindingStroke_32 (fun j18 u19 w20 => ?_)
      refine V_ws [(h0, oC 13 [.ref h1, .ref h2, .int (u15.2.1 0), .ref h3, .ref h4, .int (nI k5), .int (nI k6), .int p7, .int p8, .int p9, .int (nI k10), .int p11, .long q12, .ref h5, .ref h6, .int (nI k15), .int (nI k16)]), (h1, aI Y 3640 f0), (h2, aZ Y 2 f1), (h3, aZ Y 80 f3), (h4, aB Y 1600 f4), (h5, aI Y 200 f13), (h6, aI Y 800 f14)] rfl ?_
      have x21 := w20
      clear w20
      obtain rfl := x21
      refine V_iload_n 35 B dX12_bindingStroke_35 2 rfl ?_
      refine V_cvi 36 B (st := []) (As := [.int (nI (186 + 7 * n4)), .int s1]) (fun sz => rX12_strokeAt l D Y h0 h1 h2 h3 h4 h5 h6 (u15.2.1 0) k5 k6 p7 p8 p9 k10 p11 q12 k15 k16 f0 f1 f3 f4 f13 f14 ph HI (by omega) HP (186 + 7 * n4) s1 (rl5 n4 (by omega)) sz) glV_RX12_73 ⟨rfl, rfl⟩ ⟨(Nat.le_of_ble_eq_true rfl), (Nat.le_of_ble_eq_true rfl)⟩ ⟨(Nat.le_of_ble_eq_true rfl), (Nat.le_of_ble_eq_true rfl)⟩ [0, 0, 0, 0, 0, 0, 0] rfl 13 0 rfl rfl rfl rfl (Nat.le_of_ble_eq_true rfl) rfl (fun _ _ _ => rfl) dX12_bindingStroke_36 (fun j22 u23 w24 => ?_)
      refine V_ws [(h0, oC 13 [.ref h1, .ref h2, .int (u15.2.1 0), .ref h3, .ref h4, .int (nI k5), .int (nI k6), .int p7, .int p8, .int p9, .int (nI k10), .int p11, .long q12, .ref h5, .ref h6, .int (nI k15), .int (nI k16)]), (h1, aI Y 3640 f0), (h2, aZ Y 2 f1), (h3, aZ Y 80 f3), (h4, aB Y 1600 f4), (h5, aI Y 200 f13), (h6, aI Y 800 f14)] rfl ?_
      exact V_iret 39 B dX12_bindingStroke_39 (mkW [] [(u15.2.1 0)] [] [] [] []) trivial rfl)
theorem dX12_clashing_0 : decode cX12_clashing 0 = .ok (.aload_n 0, 1) := by decide +kernel
theorem dX12_clashing_1 : decode cX12_clashing 1 = .ok (.iconst 0, 1) := by decide +kernel
theorem dX12_clashing_2 : decode cX12_clashing 2 = .ok (.putfield 38, 3) := by decide +kernel
theorem dX12_clashing_5 : decode cX12_clashing 5 = .ok (.aload_n 0, 1) := by decide +kernel
theorem dX12_clashing_6 : decode cX12_clashing 6 = .ok (.aload_n 0, 1) := by decide +kernel
theorem dX12_clashing_7 : decode cX12_clashing 7 = .ok (.iload_n 1, 1) := by decide +kernel
theorem dX12_clashing_8 : decode cX12_clashing 8 = .ok (.invokevirtual 91, 3) := by decide +kernel
theorem dX12_clashing_11 : decode cX12_clashing 11 = .ok (.ifCond .ne 7, 3) := by decide +kernel
theorem dX12_clashing_14 : decode cX12_clashing 14 = .ok (.iconst 1, 1) := by decide +kernel
theorem dX12_clashing_15 : decode cX12_clashing 15 = .ok (.goto 4, 3) := by decide +kernel
theorem dX12_clashing_19 : decode cX12_clashing 19 = .ok (.iconst 1, 1) := by decide +kernel
theorem dX12_clashing_20 : decode cX12_clashing 20 = .ok (.invokevirtual 69, 3) := by decide +kernel
theorem dX12_clashing_23 : decode cX12_clashing 23 = .ok (.ifCond .eq 7, 3) := by decide +kernel
theorem dX12_clashing_26 : decode cX12_clashing 26 = .ok (.iconst 0, 1) := by decide +kernel
theorem dX12_clashing_27 : decode cX12_clashing 27 = .ok (.goto 24, 3) := by decide +kernel
theorem dX12_clashing_51 : decode cX12_clashing 51 = .ok (.ireturn, 1) := by decide +kernel
theorem dX12_clashing_18 : decode cX12_clashing 18 = .ok (.iconst 0, 1) := by decide +kernel
theorem dX12_clashing_30 : decode cX12_clashing 30 = .ok (.aload_n 0, 1) := by decide +kernel
theorem dX12_clashing_31 : decode cX12_clashing 31 = .ok (.invokevirtual 125, 3) := by decide +kernel
theorem dX12_clashing_34 : decode cX12_clashing 34 = .ok (.ifCond .eq 8, 3) := by decide +kernel
theorem dX12_clashing_42 : decode cX12_clashing 42 = .ok (.aload_n 0, 1) := by decide +kernel
theorem dX12_clashing_43 : decode cX12_clashing 43 = .ok (.iload_n 1, 1) := by decide +kernel
theorem dX12_clashing_44 : decode cX12_clashing 44 = .ok (.sipush 3624, 3) := by decide +kernel
theorem dX12_clashing_47 : decode cX12_clashing 47 = .ok (.iconst (-1), 1) := by decide +kernel
theorem dX12_clashing_48 : decode cX12_clashing 48 = .ok (.invokevirtual 121, 3) := by decide +kernel
theorem dX12_clashing_37 : decode cX12_clashing 37 = .ok (.bipush (-4), 2) := by decide +kernel
theorem dX12_clashing_39 : decode cX12_clashing 39 = .ok (.goto 12, 3) := by decide +kernel
set_option maxRecDepth 100000 in
set_option maxHeartbeats 4000000 in
theorem rX12_clashing (l : Launch) (D : va_G) (Y : Nat → ClassId) (h0 : Nat) (h1 : Nat) (h2 : Nat) (h3 : Nat) (h4 : Nat) (h5 : Nat) (h6 : Nat) (p2 : Int32) (k5 : Nat) (k6 : Nat) (p7 : Int32) (p8 : Int32) (p9 : Int32) (k10 : Nat) (p11 : Int32) (q12 : Int64) (k15 : Nat) (k16 : Nat) (f0 : Nat → Int32) (f1 : Nat → Int32) (f3 : Nat → Int32) (f4 : Nat → Int32) (f13 : Nat → Int32) (f14 : Nat → Int32) (ph : Nat → Int32) (HI : INV ph f0) (HL : k5 ≤ 1600) (HP : PLV f13) (s0 : Int32)  (sz : Nat) : Met l yX12_clashing (WSm yX12_clashing cX12_clashing 2 (some .int)) (mkR 4 0 0 90) (PreC D Y [.ref h0, .int s0] [(h0, oC 13 [.ref h1, .ref h2, .int p2, .ref h3, .ref h4, .int (nI k5), .int (nI k6), .int p7, .int p8, .int p9, .int (nI k10), .int p11, .long q12, .ref h5, .ref h6, .int (nI k15), .int (nI k16)]), (h1, aI Y 3640 f0), (h2, aZ Y 2 f1), (h3, aZ Y 80 f3), (h4, aB Y 1600 f4), (h5, aI Y 200 f13), (h6, aI Y 800 f14)] sz) (QI D (fun (r : Int32) (u : WU) => True) (fun (u : WU) => [(h0, oC 13 [.ref h1, .ref h2, .int (u.2.1 0), .ref h3, .ref h4, .int (nI k5), .int (nI k6), .int p7, .int p8, .int p9, .int (nI k10), .int p11, .long q12, .ref h5, .ref h6, .int (nI k15), .int (nI k16)]), (h1, aI Y 3640 f0), (h2, aZ Y 2 f1), (h3, aZ Y 80 f3), (h4, aB Y 1600 f4), (h5, aI Y 200 f13), (h6, aI Y 800 f14)]) (va_A [(h0, oC 13 [.ref h1, .ref h2, .int p2, .ref h3, .ref h4, .int (nI k5), .int (nI k6), .int p7, .int p8, .int p9, .int (nI k10), .int p11, .long q12, .ref h5, .ref h6, .int (nI k15), .int (nI k16)]), (h1, aI Y 3640 f0), (h2, aZ Y 2 f1), (h3, aZ Y 80 f3), (h4, aB Y 1600 f4), (h5, aI Y 200 f13), (h6, aI Y 800 f14)] sz)) 0 0 (va_A [(h0, oC 13 [.ref h1, .ref h2, .int p2, .ref h3, .ref h4, .int (nI k5), .int (nI k6), .int p7, .int p8, .int p9, .int (nI k10), .int p11, .long q12, .ref h5, .ref h6, .int (nI k15), .int (nI k16)]), (h1, aI Y 3640 f0), (h2, aZ Y 2 f1), (h3, aZ Y 80 f3), (h4, aB Y 1600 f4), (h5, aI Y 200 f13), (h6, aI Y 800 f14)] sz) :=
  met_of  (by decide +kernel) (Nat.le_of_ble_eq_true rfl) (fun p e s m args below meth c B hin hsz => by
    have B : VB p s m args meth c D Y (va_A [(h0, oC 13 [.ref h1, .ref h2, .int p2, .ref h3, .ref h4, .int (nI k5), .int (nI k6), .int p7, .int p8, .int p9, .int (nI k10), .int p11, .long q12, .ref h5, .ref h6, .int (nI k15), .int (nI k16)]), (h1, aI Y 3640 f0), (h2, aZ Y 2 f1), (h3, aZ Y 80 f3), (h4, aB Y 1600 f4), (h5, aI Y 200 f13), (h6, aI Y 800 f14)] sz) cX12_clashing 2 RX12 (some .int) := B
    refine V_aload_n 0 B dX12_clashing_0 0 rfl ?_
    refine V_iconst 1 B (v := 0) dX12_clashing_1 (by decide +kernel) ?_
    refine V_put 2 B gp_RX12_38 0 rfl (Nat.le_of_ble_eq_true rfl) rfl rfl dX12_clashing_2 [(h0, oC 13 [.ref h1, .ref h2, .int 0, .ref h3, .ref h4, .int (nI k5), .int (nI k6), .int p7, .int p8, .int p9, .int (nI k10), .int p11, .long q12, .ref h5, .ref h6, .int (nI k15), .int (nI k16)]), (h1, aI Y 3640 f0), (h2, aZ Y 2 f1), (h3, aZ Y 80 f3), (h4, aB Y 1600 f4), (h5, aI Y 200 f13), (h6, aI Y 800 f14)] rfl ?_
    refine V_aload_n 5 B dX12_clashing_5 0 rfl ?_
    refine V_aload_n 6 B dX12_clashing_6 0 rfl ?_
    refine V_iload_n 7 B dX12_clashing_7 1 rfl ?_
    refine V_cvi 8 B (st := [.ref h0]) (As := [.int s0]) (fun sz => rX12_isMode l D Y h0 h1 h2 h3 h4 h5 h6 0 k5 k6 p7 p8 p9 k10 p11 q12 k15 k16 f0 f1 f3 f4 f13 f14 ph HI (by omega) HP s0 sz) glV_RX12_91 ⟨rfl, rfl⟩ ⟨(Nat.le_of_ble_eq_true rfl), (Nat.le_of_ble_eq_true rfl)⟩ ⟨(Nat.le_of_ble_eq_true rfl), (Nat.le_of_ble_eq_true rfl)⟩ [0, 0, 0, 0, 0, 0, 0] rfl 13 0 rfl rfl rfl rfl (Nat.le_of_ble_eq_true rfl) rfl (fun _ _ _ => rfl) dX12_clashing_8 (fun j0 u1 w2 => ?_)
    refine V_ws [(h0, oC 13 [.ref h1, .ref h2, .int 0, .ref h3, .ref h4, .int (nI k5), .int (nI k6), .int p7, .int p8, .int p9, .int (nI k10), .int p11, .long q12, .ref h5, .ref h6, .int (nI k15), .int (nI k16)]), (h1, aI Y 3640 f0), (h2, aZ Y 2 f1), (h3, aZ Y 80 f3), (h4, aB Y 1600 f4), (h5, aI Y 200 f13), (h6, aI Y 800 f14)] rfl ?_
    have x3 := w2
    clear w2
    have x7 : (gN f0 0) ≤ 6 := gN_le HI (by omega) (show bd 0 = (0, ((6 : Nat) : Int)) by decide +kernel)
    rcases x3 with rfl | ⟨rfl, n4, rfl, x6⟩
    ·
      refine V_if_ne_f 11 B 18 dX12_clashing_11 (by decide) (by decide +kernel) ?_
      refine V_iconst 14 B (v := 1) dX12_clashing_14 (by decide +kernel) ?_
      refine V_goto 15 B 19 dX12_clashing_15 (by decide) ?_
      refine V_iconst 19 B (v := 1) dX12_clashing_19 (by decide +kernel) ?_
      refine V_cvi 20 B (st := []) (As := [.int 1, .int 1]) (fun sz => rX12_throwsIf_1 l D Y h0 h1 h2 h3 h4 h5 h6 0 k5 k6 p7 p8 p9 k10 p11 q12 k15 k16 f0 f1 f3 f4 f13 f14 ph HI (by omega) HP 1 sz) glV_RX12_69 ⟨rfl, rfl⟩ ⟨(Nat.le_of_ble_eq_true rfl), (Nat.le_of_ble_eq_true rfl)⟩ ⟨(Nat.le_of_ble_eq_true rfl), (Nat.le_of_ble_eq_true rfl)⟩ [0, 0, 0, 0, 0, 0, 0] rfl 13 0 rfl rfl rfl rfl (Nat.le_of_ble_eq_true rfl) rfl (fun _ _ _ => rfl) dX12_clashing_20 (fun j8 u9 w10 => ?_)
      refine V_ws [(h0, oC 13 [.ref h1, .ref h2, .int (u9.2.1 0), .ref h3, .ref h4, .int (nI k5), .int (nI k6), .int p7, .int p8, .int p9, .int (nI k10), .int p11, .long q12, .ref h5, .ref h6, .int (nI k15), .int (nI k16)]), (h1, aI Y 3640 f0), (h2, aZ Y 2 f1), (h3, aZ Y 80 f3), (h4, aB Y 1600 f4), (h5, aI Y 200 f13), (h6, aI Y 800 f14)] rfl ?_
      have x11 := w10
      clear w10
      obtain rfl := x11
      refine V_if_eq_f 23 B 30 dX12_clashing_23 (by decide) (by decide +kernel) ?_
      refine V_iconst 26 B (v := 0) dX12_clashing_26 (by decide +kernel) ?_
      refine V_goto 27 B 51 dX12_clashing_27 (by decide) ?_
      exact V_iret 51 B dX12_clashing_51 (mkW [] [(u9.2.1 0)] [] [] [] []) trivial rfl
    ·
      have e12 := nI_toInt (show n4 < 2 ^ 31 by omega)
      have x13 : (gN f0 0) ≤ 6 := gN_le HI (by omega) (show bd 0 = (0, ((6 : Nat) : Int)) by decide +kernel)
      refine V_if_ne_t 11 B 18 dX12_clashing_11 (by decide) (by decide +kernel) ?_
      refine V_iconst 18 B (v := 0) dX12_clashing_18 (by decide +kernel) ?_
      refine V_iconst 19 B (v := 1) dX12_clashing_19 (by decide +kernel) ?_
      refine V_cvi 20 B (st := []) (As := [.int 0, .int 1]) (fun sz => rX12_throwsIf_0 l D Y h0 h1 h2 h3 h4 h5 h6 0 k5 k6 p7 p8 p9 k10 p11 q12 k15 k16 f0 f1 f3 f4 f13 f14 ph HI (by omega) HP 1 sz) glV_RX12_69 ⟨rfl, rfl⟩ ⟨(Nat.le_of_ble_eq_true rfl), (Nat.le_of_ble_eq_true rfl)⟩ ⟨(Nat.le_of_ble_eq_true rfl), (Nat.le_of_ble_eq_true rfl)⟩ [0, 0, 0, 0, 0, 0, 0] rfl 13 0 rfl rfl rfl rfl (Nat.le_of_ble_eq_true rfl) rfl (fun _ _ _ => rfl) dX12_clashing_20 (fun j14 u15 w16 => ?_)
      refine V_ws [(h0, oC 13 [.ref h1, .ref h2, .int (u15.2.1 0), .ref h3, .ref h4, .int (nI k5), .int (nI k6), .int p7, .int p8, .int p9, .int (nI k10), .int p11, .long q12, .ref h5, .ref h6, .int (nI k15), .int (nI k16)]), (h1, aI Y 3640 f0), (h2, aZ Y 2 f1), (h3, aZ Y 80 f3), (h4, aB Y 1600 f4), (h5, aI Y 200 f13), (h6, aI Y 800 f14)] rfl ?_
      have x17 := w16
      clear w16
      obtain rfl := x17
      refine V_if_eq_t 23 B 30 dX12_clashing_23 (by decide) (by decide +kernel) ?_
      refine V_aload_n 30 B dX12_clashing_30 0 rfl ?_
      refine V_cvi 31 B (st := []) (As := []) (fun sz => rX12_hasNoDraft l D Y h0 h1 h2 h3 h4 h5 h6 (u15.2.1 0) k5 k6 p7 p8 p9 k10 p11 q12 k15 k16 f0 f1 f3 f4 f13 f14 ph HI (by omega) HP sz) glV_RX12_125 ⟨rfl, rfl⟩ ⟨(Nat.le_of_ble_eq_true rfl), (Nat.le_of_ble_eq_true rfl)⟩ ⟨(Nat.le_of_ble_eq_true rfl), (Nat.le_of_ble_eq_true rfl)⟩ [0, 0, 0, 0, 0, 0, 0] rfl 13 0 rfl rfl rfl rfl (Nat.le_of_ble_eq_true rfl) rfl (fun _ _ _ => rfl) dX12_clashing_31 (fun j18 u19 w20 => ?_)
      refine V_ws [(h0, oC 13 [.ref h1, .ref h2, .int (u15.2.1 0), .ref h3, .ref h4, .int (nI k5), .int (nI k6), .int p7, .int p8, .int p9, .int (nI k10), .int p11, .long q12, .ref h5, .ref h6, .int (nI k15), .int (nI k16)]), (h1, aI Y 3640 f0), (h2, aZ Y 2 f1), (h3, aZ Y 80 f3), (h4, aB Y 1600 f4), (h5, aI Y 200 f13), (h6, aI Y 800 f14)] rfl ?_
      have x21 := w20
      clear w20
      rcases x21 with rfl | rfl
      ·
        refine V_if_eq_t 34 B 42 dX12_clashing_34 (by decide) (by decide +kernel) ?_
        refine V_aload_n 42 B dX12_clashing_42 0 rfl ?_
        refine V_iload_n 43 B dX12_clashing_43 1 rfl ?_
        refine V_sipush 44 B (v := 3624) dX12_clashing_44 (by decide +kernel) ?_
        refine V_iconst 47 B (v := (-1)) dX12_clashing_47 (by decide +kernel) ?_
        refine V_cvi 48 B (st := []) (As := [.int (nI n4), .int 3624, .int (-1)]) (fun sz => rX12_clashIn l D Y h0 h1 h2 h3 h4 h5 h6 (u15.2.1 0) k5 k6 p7 p8 p9 k10 p11 q12 k15 k16 f0 f1 f3 f4 f13 f14 ph HI (by omega) HP (nI n4) 3624 (-1) (show SQ 3624 by unfold SQ; decide +kernel) sz) glV_RX12_121 ⟨rfl, rfl⟩ ⟨(Nat.le_of_ble_eq_true rfl), (Nat.le_of_ble_eq_true rfl)⟩ ⟨(Nat.le_of_ble_eq_true rfl), (Nat.le_of_ble_eq_true rfl)⟩ [0, 0, 0, 0, 0, 0, 0] rfl 13 0 rfl rfl rfl rfl (Nat.le_of_ble_eq_true rfl) rfl (fun _ _ _ => rfl) dX12_clashing_48 (fun j22 u23 w24 => ?_)
        refine V_ws [(h0, oC 13 [.ref h1, .ref h2, .int (u15.2.1 0), .ref h3, .ref h4, .int (nI k5), .int (nI k6), .int p7, .int p8, .int p9, .int (nI k10), .int p11, .long q12, .ref h5, .ref h6, .int (nI k15), .int (nI k16)]), (h1, aI Y 3640 f0), (h2, aZ Y 2 f1), (h3, aZ Y 80 f3), (h4, aB Y 1600 f4), (h5, aI Y 200 f13), (h6, aI Y 800 f14)] rfl ?_
        have x25 := w24
        clear w24
        have x28 : (gN f0 3) ≤ 80 := gN_le HI (by omega) (show bd 3 = (0, ((80 : Nat) : Int)) by decide +kernel)
        rcases x25 with ⟨rfl, x27⟩ | ⟨n26, rfl, x27, x29⟩
        ·
          exact V_iret 51 B dX12_clashing_51 (mkW [] [(u15.2.1 0)] [] [] [] []) trivial rfl
        ·
          exact V_iret 51 B dX12_clashing_51 (mkW [] [(u15.2.1 0)] [] [] [] []) trivial rfl
      ·
        refine V_if_eq_f 34 B 42 dX12_clashing_34 (by decide) (by decide +kernel) ?_
        refine V_bipush 37 B (v := (-4)) dX12_clashing_37 (by decide +kernel) ?_
        refine V_goto 39 B 51 dX12_clashing_39 (by decide) ?_
        exact V_iret 51 B dX12_clashing_51 (mkW [] [(u15.2.1 0)] [] [] [] []) trivial rfl)
theorem dX12_clashes_0 : decode cX12_clashes 0 = .ok (.aload_n 0, 1) := by decide +kernel
theorem dX12_clashes_1 : decode cX12_clashes 1 = .ok (.iconst 0, 1) := by decide +kernel
theorem dX12_clashes_2 : decode cX12_clashes 2 = .ok (.putfield 38, 3) := by decide +kernel
theorem dX12_clashes_5 : decode cX12_clashes 5 = .ok (.aload_n 0, 1) := by decide +kernel
theorem dX12_clashes_6 : decode cX12_clashes 6 = .ok (.aload_n 0, 1) := by decide +kernel
theorem dX12_clashes_7 : decode cX12_clashes 7 = .ok (.iload_n 1, 1) := by decide +kernel
theorem dX12_clashes_8 : decode cX12_clashes 8 = .ok (.invokevirtual 91, 3) := by decide +kernel
theorem dX12_clashes_11 : decode cX12_clashes 11 = .ok (.ifCond .ne 7, 3) := by decide +kernel
theorem dX12_clashes_14 : decode cX12_clashes 14 = .ok (.iconst 1, 1) := by decide +kernel
theorem dX12_clashes_15 : decode cX12_clashes 15 = .ok (.goto 4, 3) := by decide +kernel
theorem dX12_clashes_19 : decode cX12_clashes 19 = .ok (.iconst 1, 1) := by decide +kernel
theorem dX12_clashes_20 : decode cX12_clashes 20 = .ok (.invokevirtual 69, 3) := by decide +kernel
theorem dX12_clashes_23 : decode cX12_clashes 23 = .ok (.ifCond .eq 7, 3) := by decide +kernel
theorem dX12_clashes_26 : decode cX12_clashes 26 = .ok (.iconst 0, 1) := by decide +kernel
theorem dX12_clashes_27 : decode cX12_clashes 27 = .ok (.goto 23, 3) := by decide +kernel
theorem dX12_clashes_50 : decode cX12_clashes 50 = .ok (.ireturn, 1) := by decide +kernel
theorem dX12_clashes_18 : decode cX12_clashes 18 = .ok (.iconst 0, 1) := by decide +kernel
theorem dX12_clashes_30 : decode cX12_clashes 30 = .ok (.aload_n 0, 1) := by decide +kernel
theorem dX12_clashes_31 : decode cX12_clashes 31 = .ok (.invokevirtual 125, 3) := by decide +kernel
theorem dX12_clashes_34 : decode cX12_clashes 34 = .ok (.ifCond .eq 8, 3) := by decide +kernel
theorem dX12_clashes_42 : decode cX12_clashes 42 = .ok (.aload_n 0, 1) := by decide +kernel
theorem dX12_clashes_43 : decode cX12_clashes 43 = .ok (.iload_n 1, 1) := by decide +kernel
theorem dX12_clashes_44 : decode cX12_clashes 44 = .ok (.sipush 3624, 3) := by decide +kernel
theorem dX12_clashes_47 : decode cX12_clashes 47 = .ok (.invokevirtual 139, 3) := by decide +kernel
theorem dX12_clashes_37 : decode cX12_clashes 37 = .ok (.bipush (-4), 2) := by decide +kernel
theorem dX12_clashes_39 : decode cX12_clashes 39 = .ok (.goto 11, 3) := by decide +kernel
set_option maxRecDepth 100000 in
set_option maxHeartbeats 4000000 in
theorem rX12_clashes (l : Launch) (D : va_G) (Y : Nat → ClassId) (h0 : Nat) (h1 : Nat) (h2 : Nat) (h3 : Nat) (h4 : Nat) (h5 : Nat) (h6 : Nat) (p2 : Int32) (k5 : Nat) (k6 : Nat) (p7 : Int32) (p8 : Int32) (p9 : Int32) (k10 : Nat) (p11 : Int32) (q12 : Int64) (k15 : Nat) (k16 : Nat) (f0 : Nat → Int32) (f1 : Nat → Int32) (f3 : Nat → Int32) (f4 : Nat → Int32) (f13 : Nat → Int32) (f14 : Nat → Int32) (ph : Nat → Int32) (HI : INV ph f0) (HL : k5 ≤ 1600) (HP : PLV f13) (s0 : Int32)  (sz : Nat) : Met l yX12_clashes (WSm yX12_clashes cX12_clashes 2 (some .int)) (mkR 4 0 0 90) (PreC D Y [.ref h0, .int s0] [(h0, oC 13 [.ref h1, .ref h2, .int p2, .ref h3, .ref h4, .int (nI k5), .int (nI k6), .int p7, .int p8, .int p9, .int (nI k10), .int p11, .long q12, .ref h5, .ref h6, .int (nI k15), .int (nI k16)]), (h1, aI Y 3640 f0), (h2, aZ Y 2 f1), (h3, aZ Y 80 f3), (h4, aB Y 1600 f4), (h5, aI Y 200 f13), (h6, aI Y 800 f14)] sz) (QI D (fun (r : Int32) (u : WU) => True) (fun (u : WU) => [(h0, oC 13 [.ref h1, .ref h2, .int (u.2.1 0), .ref h3, .ref h4, .int (nI k5), .int (nI k6), .int p7, .int p8, .int p9, .int (nI k10), .int p11, .long q12, .ref h5, .ref h6, .int (nI k15), .int (nI k16)]), (h1, aI Y 3640 f0), (h2, aZ Y 2 f1), (h3, aZ Y 80 f3), (h4, aB Y 1600 f4), (h5, aI Y 200 f13), (h6, aI Y 800 f14)]) (va_A [(h0, oC 13 [.ref h1, .ref h2, .int p2, .ref h3, .ref h4, .int (nI k5), .int (nI k6), .int p7, .int p8, .int p9, .int (nI k10), .int p11, .long q12, .ref h5, .ref h6, .int (nI k15), .int (nI k16)]), (h1, aI Y 3640 f0), (h2, aZ Y 2 f1), (h3, aZ Y 80 f3), (h4, aB Y 1600 f4), (h5, aI Y 200 f13), (h6, aI Y 800 f14)] sz)) 0 0 (va_A [(h0, oC 13 [.ref h1, .ref h2, .int p2, .ref h3, .ref h4, .int (nI k5), .int (nI k6), .int p7, .int p8, .int p9, .int (nI k10), .int p11, .long q12, .ref h5, .ref h6, .int (nI k15), .int (nI k16)]), (h1, aI Y 3640 f0), (h2, aZ Y 2 f1), (h3, aZ Y 80 f3), (h4, aB Y 1600 f4), (h5, aI Y 200 f13), (h6, aI Y 800 f14)] sz) :=
  met_of  (by decide +kernel) (Nat.le_of_ble_eq_true rfl) (fun p e s m args below meth c B hin hsz => by
    have B : VB p s m args meth c D Y (va_A [(h0, oC 13 [.ref h1, .ref h2, .int p2, .ref h3, .ref h4, .int (nI k5), .int (nI k6), .int p7, .int p8, .int p9, .int (nI k10), .int p11, .long q12, .ref h5, .ref h6, .int (nI k15), .int (nI k16)]), (h1, aI Y 3640 f0), (h2, aZ Y 2 f1), (h3, aZ Y 80 f3), (h4, aB Y 1600 f4), (h5, aI Y 200 f13), (h6, aI Y 800 f14)] sz) cX12_clashes 2 RX12 (some .int) := B
    refine V_aload_n 0 B dX12_clashes_0 0 rfl ?_
    refine V_iconst 1 B (v := 0) dX12_clashes_1 (by decide +kernel) ?_
    refine V_put 2 B gp_RX12_38 0 rfl (Nat.le_of_ble_eq_true rfl) rfl rfl dX12_clashes_2 [(h0, oC 13 [.ref h1, .ref h2, .int 0, .ref h3, .ref h4, .int (nI k5), .int (nI k6), .int p7, .int p8, .int p9, .int (nI k10), .int p11, .long q12, .ref h5, .ref h6, .int (nI k15), .int (nI k16)]), (h1, aI Y 3640 f0), (h2, aZ Y 2 f1), (h3, aZ Y 80 f3), (h4, aB Y 1600 f4), (h5, aI Y 200 f13), (h6, aI Y 800 f14)] rfl ?_
    refine V_aload_n 5 B dX12_clashes_5 0 rfl ?_
    refine V_aload_n 6 B dX12_clashes_6 0 rfl ?_
    refine V_iload_n 7 B dX12_clashes_7 1 rfl ?_
    refine V_cvi 8 B (st := [.ref h0]) (As := [.int s0]) (fun sz => rX12_isMode l D Y h0 h1 h2 h3 h4 h5 h6 0 k5 k6 p7 p8 p9 k10 p11 q12 k15 k16 f0 f1 f3 f4 f13 f14 ph HI (by omega) HP s0 sz) glV_RX12_91 ⟨rfl, rfl⟩ ⟨(Nat.le_of_ble_eq_true rfl), (Nat.le_of_ble_eq_true rfl)⟩ ⟨(Nat.le_of_ble_eq_true rfl), (Nat.le_of_ble_eq_true rfl)⟩ [0, 0, 0, 0, 0, 0, 0] rfl 13 0 rfl rfl rfl rfl (Nat.le_of_ble_eq_true rfl) rfl (fun _ _ _ => rfl) dX12_clashes_8 (fun j0 u1 w2 => ?_)
    refine V_ws [(h0, oC 13 [.ref h1, .ref h2, .int 0, .ref h3, .ref h4, .int (nI k5), .int (nI k6), .int p7, .int p8, .int p9, .int (nI k10), .int p11, .long q12, .ref h5, .ref h6, .int (nI k15), .int (nI k16)]), (h1, aI Y 3640 f0), (h2, aZ Y 2 f1), (h3, aZ Y 80 f3), (h4, aB Y 1600 f4), (h5, aI Y 200 f13), (h6, aI Y 800 f14)] rfl ?_
    have x3 := w2
    clear w2
    have x7 : (gN f0 0) ≤ 6 := gN_le HI (by omega) (show bd 0 = (0, ((6 : Nat) : Int)) by decide +kernel)
    rcases x3 with rfl | ⟨rfl, n4, rfl, x6⟩
    ·
      refine V_if_ne_f 11 B 18 dX12_clashes_11 (by decide) (by decide +kernel) ?_
      refine V_iconst 14 B (v := 1) dX12_clashes_14 (by decide +kernel) ?_
      refine V_goto 15 B 19 dX12_clashes_15 (by decide) ?_
      refine V_iconst 19 B (v := 1) dX12_clashes_19 (by decide +kernel) ?_
      refine V_cvi 20 B (st := []) (As := [.int 1, .int 1]) (fun sz => rX12_throwsIf_1 l D Y h0 h1 h2 h3 h4 h5 h6 0 k5 k6 p7 p8 p9 k10 p11 q12 k15 k16 f0 f1 f3 f4 f13 f14 ph HI (by omega) HP 1 sz) glV_RX12_69 ⟨rfl, rfl⟩ ⟨(Nat.le_of_ble_eq_true rfl), (Nat.le_of_ble_eq_true rfl)⟩ ⟨(Nat.le_of_ble_eq_true rfl), (Nat.le_of_ble_eq_true rfl)⟩ [0, 0, 0, 0, 0, 0, 0] rfl 13 0 rfl rfl rfl rfl (Nat.le_of_ble_eq_true rfl) rfl (fun _ _ _ => rfl) dX12_clashes_20 (fun j8 u9 w10 => ?_)
      refine V_ws [(h0, oC 13 [.ref h1, .ref h2, .int (u9.2.1 0), .ref h3, .ref h4, .int (nI k5), .int (nI k6), .int p7, .int p8, .int p9, .int (nI k10), .int p11, .long q12, .ref h5, .ref h6, .int (nI k15), .int (nI k16)]), (h1, aI Y 3640 f0), (h2, aZ Y 2 f1), (h3, aZ Y 80 f3), (h4, aB Y 1600 f4), (h5, aI Y 200 f13), (h6, aI Y 800 f14)] rfl ?_
      have x11 := w10
      clear w10
      obtain rfl := x11
      refine V_if_eq_f 23 B 30 dX12_clashes_23 (by decide) (by decide +kernel) ?_
      refine V_iconst 26 B (v := 0) dX12_clashes_26 (by decide +kernel) ?_
      refine V_goto 27 B 50 dX12_clashes_27 (by decide) ?_
      exact V_iret 50 B dX12_clashes_50 (mkW [] [(u9.2.1 0)] [] [] [] []) trivial rfl
    ·
      have e12 := nI_toInt (show n4 < 2 ^ 31 by omega)
      have x13 : (gN f0 0) ≤ 6 := gN_le HI (by omega) (show bd 0 = (0, ((6 : Nat) : Int)) by decide +kernel)
      refine V_if_ne_t 11 B 18 dX12_clashes_11 (by decide) (by decide +kernel) ?_
      refine V_iconst 18 B (v := 0) dX12_clashes_18 (by decide +kernel) ?_
      refine V_iconst 19 B (v := 1) dX12_clashes_19 (by decide +kernel) ?_
      refine V_cvi 20 B (st := []) (As := [.int 0, .int 1]) (fun sz => rX12_throwsIf_0 l D Y h0 h1 h2 h3 h4 h5 h6 0 k5 k6 p7 p8 p9 k10 p11 q12 k15 k16 f0 f1 f3 f4 f13 f14 ph HI (by omega) HP 1 sz) glV_RX12_69 ⟨rfl, rfl⟩ ⟨(Nat.le_of_ble_eq_true rfl), (Nat.le_of_ble_eq_true rfl)⟩ ⟨(Nat.le_of_ble_eq_true rfl), (Nat.le_of_ble_eq_true rfl)⟩ [0, 0, 0, 0, 0, 0, 0] rfl 13 0 rfl rfl rfl rfl (Nat.le_of_ble_eq_true rfl) rfl (fun _ _ _ => rfl) dX12_clashes_20 (fun j14 u15 w16 => ?_)
      refine V_ws [(h0, oC 13 [.ref h1, .ref h2, .int (u15.2.1 0), .ref h3, .ref h4, .int (nI k5), .int (nI k6), .int p7, .int p8, .int p9, .int (nI k10), .int p11, .long q12, .ref h5, .ref h6, .int (nI k15), .int (nI k16)]), (h1, aI Y 3640 f0), (h2, aZ Y 2 f1), (h3, aZ Y 80 f3), (h4, aB Y 1600 f4), (h5, aI Y 200 f13), (h6, aI Y 800 f14)] rfl ?_
      have x17 := w16
      clear w16
      obtain rfl := x17
      refine V_if_eq_t 23 B 30 dX12_clashes_23 (by decide) (by decide +kernel) ?_
      refine V_aload_n 30 B dX12_clashes_30 0 rfl ?_
      refine V_cvi 31 B (st := []) (As := []) (fun sz => rX12_hasNoDraft l D Y h0 h1 h2 h3 h4 h5 h6 (u15.2.1 0) k5 k6 p7 p8 p9 k10 p11 q12 k15 k16 f0 f1 f3 f4 f13 f14 ph HI (by omega) HP sz) glV_RX12_125 ⟨rfl, rfl⟩ ⟨(Nat.le_of_ble_eq_true rfl), (Nat.le_of_ble_eq_true rfl)⟩ ⟨(Nat.le_of_ble_eq_true rfl), (Nat.le_of_ble_eq_true rfl)⟩ [0, 0, 0, 0, 0, 0, 0] rfl 13 0 rfl rfl rfl rfl (Nat.le_of_ble_eq_true rfl) rfl (fun _ _ _ => rfl) dX12_clashes_31 (fun j18 u19 w20 => ?_)
      refine V_ws [(h0, oC 13 [.ref h1, .ref h2, .int (u15.2.1 0), .ref h3, .ref h4, .int (nI k5), .int (nI k6), .int p7, .int p8, .int p9, .int (nI k10), .int p11, .long q12, .ref h5, .ref h6, .int (nI k15), .int (nI k16)]), (h1, aI Y 3640 f0), (h2, aZ Y 2 f1), (h3, aZ Y 80 f3), (h4, aB Y 1600 f4), (h5, aI Y 200 f13), (h6, aI Y 800 f14)] rfl ?_
      have x21 := w20
      clear w20
      rcases x21 with rfl | rfl
      ·
        refine V_if_eq_t 34 B 42 dX12_clashes_34 (by decide) (by decide +kernel) ?_
        refine V_aload_n 42 B dX12_clashes_42 0 rfl ?_
        refine V_iload_n 43 B dX12_clashes_43 1 rfl ?_
        refine V_sipush 44 B (v := 3624) dX12_clashes_44 (by decide +kernel) ?_
        refine V_cvi 47 B (st := []) (As := [.int (nI n4), .int 3624]) (fun sz => rX12_clashCount l D Y h0 h1 h2 h3 h4 h5 h6 (u15.2.1 0) k5 k6 p7 p8 p9 k10 p11 q12 k15 k16 f0 f1 f3 f4 f13 f14 ph HI (by omega) HP (nI n4) 3624 (show SQ 3624 by unfold SQ; decide +kernel) sz) glV_RX12_139 ⟨rfl, rfl⟩ ⟨(Nat.le_of_ble_eq_true rfl), (Nat.le_of_ble_eq_true rfl)⟩ ⟨(Nat.le_of_ble_eq_true rfl), (Nat.le_of_ble_eq_true rfl)⟩ [0, 0, 0, 0, 0, 0, 0] rfl 13 0 rfl rfl rfl rfl (Nat.le_of_ble_eq_true rfl) rfl (fun _ _ _ => rfl) dX12_clashes_47 (fun j22 u23 w24 => ?_)
        refine V_ws [(h0, oC 13 [.ref h1, .ref h2, .int (u15.2.1 0), .ref h3, .ref h4, .int (nI k5), .int (nI k6), .int p7, .int p8, .int p9, .int (nI k10), .int p11, .long q12, .ref h5, .ref h6, .int (nI k15), .int (nI k16)]), (h1, aI Y 3640 f0), (h2, aZ Y 2 f1), (h3, aZ Y 80 f3), (h4, aB Y 1600 f4), (h5, aI Y 200 f13), (h6, aI Y 800 f14)] rfl ?_
        have x25 := w24
        clear w24
        exact V_iret 50 B dX12_clashes_50 (mkW [] [(u15.2.1 0)] [] [] [] []) trivial rfl
      ·
        refine V_if_eq_f 34 B 42 dX12_clashes_34 (by decide) (by decide +kernel) ?_
        refine V_bipush 37 B (v := (-4)) dX12_clashes_37 (by decide +kernel) ?_
        refine V_goto 39 B 50 dX12_clashes_39 (by decide) ?_
        exact V_iret 50 B dX12_clashes_50 (mkW [] [(u15.2.1 0)] [] [] [] []) trivial rfl)
theorem dX12_reason_0 : decode cX12_reason 0 = .ok (.aload_n 0, 1) := by decide +kernel
theorem dX12_reason_1 : decode cX12_reason 1 = .ok (.iconst 0, 1) := by decide +kernel
theorem dX12_reason_2 : decode cX12_reason 2 = .ok (.putfield 38, 3) := by decide +kernel
theorem dX12_reason_5 : decode cX12_reason 5 = .ok (.aload_n 0, 1) := by decide +kernel
theorem dX12_reason_6 : decode cX12_reason 6 = .ok (.aload_n 0, 1) := by decide +kernel
theorem dX12_reason_7 : decode cX12_reason 7 = .ok (.iload_n 1, 1) := by decide +kernel
theorem dX12_reason_8 : decode cX12_reason 8 = .ok (.invokevirtual 91, 3) := by decide +kernel
theorem dX12_reason_11 : decode cX12_reason 11 = .ok (.ifCond .ne 7, 3) := by decide +kernel
theorem dX12_reason_14 : decode cX12_reason 14 = .ok (.iconst 1, 1) := by decide +kernel
theorem dX12_reason_15 : decode cX12_reason 15 = .ok (.goto 4, 3) := by decide +kernel
theorem dX12_reason_19 : decode cX12_reason 19 = .ok (.iconst 1, 1) := by decide +kernel
theorem dX12_reason_20 : decode cX12_reason 20 = .ok (.invokevirtual 69, 3) := by decide +kernel
theorem dX12_reason_23 : decode cX12_reason 23 = .ok (.ifCond .eq 5, 3) := by decide +kernel
theorem dX12_reason_26 : decode cX12_reason 26 = .ok (.iconst 0, 1) := by decide +kernel
theorem dX12_reason_27 : decode cX12_reason 27 = .ok (.ireturn, 1) := by decide +kernel
theorem dX12_reason_18 : decode cX12_reason 18 = .ok (.iconst 0, 1) := by decide +kernel
theorem dX12_reason_28 : decode cX12_reason 28 = .ok (.aload_n 0, 1) := by decide +kernel
theorem dX12_reason_29 : decode cX12_reason 29 = .ok (.invokevirtual 125, 3) := by decide +kernel
theorem dX12_reason_32 : decode cX12_reason 32 = .ok (.ifCond .eq 6, 3) := by decide +kernel
theorem dX12_reason_38 : decode cX12_reason 38 = .ok (.aload_n 0, 1) := by decide +kernel
theorem dX12_reason_39 : decode cX12_reason 39 = .ok (.sipush 3624, 3) := by decide +kernel
theorem dX12_reason_42 : decode cX12_reason 42 = .ok (.invokevirtual 118, 3) := by decide +kernel
theorem dX12_reason_45 : decode cX12_reason 45 = .ok (.ifCond .eq 5, 3) := by decide +kernel
theorem dX12_reason_50 : decode cX12_reason 50 = .ok (.iconst 0, 1) := by decide +kernel
theorem dX12_reason_51 : decode cX12_reason 51 = .ok (.istore_n 2, 1) := by decide +kernel
theorem dX12_reason_52 : decode cX12_reason 52 = .ok (.iconst 0, 1) := by decide +kernel
theorem dX12_reason_53 : decode cX12_reason 53 = .ok (.istore_n 3, 1) := by decide +kernel
theorem dX12_reason_54 : decode cX12_reason 54 = .ok (.iconst 0, 1) := by decide +kernel
theorem dX12_reason_55 : decode cX12_reason 55 = .ok (.istore 4, 2) := by decide +kernel
theorem dX12_reason_57 : decode cX12_reason 57 = .ok (.iload 4, 2) := by decide +kernel
theorem dX12_reason_59 : decode cX12_reason 59 = .ok (.aload_n 0, 1) := by decide +kernel
theorem dX12_reason_60 : decode cX12_reason 60 = .ok (.getfield 9, 3) := by decide +kernel
theorem dX12_reason_63 : decode cX12_reason 63 = .ok (.iconst 3, 1) := by decide +kernel
theorem dX12_reason_64 : decode cX12_reason 64 = .ok (.iaload, 1) := by decide +kernel
theorem dX12_reason_65 : decode cX12_reason 65 = .ok (.if_icmp .ge 52, 3) := by decide +kernel
theorem dX12_reason_117 : decode cX12_reason 117 = .ok (.iload_n 2, 1) := by decide +kernel
theorem dX12_reason_118 : decode cX12_reason 118 = .ok (.ifCond .eq 7, 3) := by decide +kernel
theorem dX12_reason_125 : decode cX12_reason 125 = .ok (.iload_n 3, 1) := by decide +kernel
theorem dX12_reason_126 : decode cX12_reason 126 = .ok (.ifCond .eq 7, 3) := by decide +kernel
theorem dX12_reason_133 : decode cX12_reason 133 = .ok (.aload_n 0, 1) := by decide +kernel
theorem dX12_reason_134 : decode cX12_reason 134 = .ok (.iload_n 1, 1) := by decide +kernel
theorem dX12_reason_135 : decode cX12_reason 135 = .ok (.sipush 3624, 3) := by decide +kernel
theorem dX12_reason_138 : decode cX12_reason 138 = .ok (.iconst (-1), 1) := by decide +kernel
theorem dX12_reason_139 : decode cX12_reason 139 = .ok (.invokevirtual 121, 3) := by decide +kernel
theorem dX12_reason_142 : decode cX12_reason 142 = .ok (.iconst (-1), 1) := by decide +kernel
theorem dX12_reason_143 : decode cX12_reason 143 = .ok (.if_icmp .ne 7, 3) := by decide +kernel
theorem dX12_reason_146 : decode cX12_reason 146 = .ok (.iconst 0, 1) := by decide +kernel
theorem dX12_reason_147 : decode cX12_reason 147 = .ok (.goto 4, 3) := by decide +kernel
theorem dX12_reason_151 : decode cX12_reason 151 = .ok (.ireturn, 1) := by decide +kernel
theorem dX12_reason_150 : decode cX12_reason 150 = .ok (.iconst 4, 1) := by decide +kernel
theorem dX12_reason_129 : decode cX12_reason 129 = .ok (.iconst 3, 1) := by decide +kernel
theorem dX12_reason_130 : decode cX12_reason 130 = .ok (.goto 21, 3) := by decide +kernel
theorem dX12_reason_121 : decode cX12_reason 121 = .ok (.iconst 2, 1) := by decide +kernel
theorem dX12_reason_122 : decode cX12_reason 122 = .ok (.goto 29, 3) := by decide +kernel
theorem dX12_reason_68 : decode cX12_reason 68 = .ok (.aload_n 0, 1) := by decide +kernel
theorem dX12_reason_69 : decode cX12_reason 69 = .ok (.iload 4, 2) := by decide +kernel
theorem dX12_reason_71 : decode cX12_reason 71 = .ok (.invokevirtual 115, 3) := by decide +kernel
theorem dX12_reason_74 : decode cX12_reason 74 = .ok (.iload_n 1, 1) := by decide +kernel
theorem dX12_reason_75 : decode cX12_reason 75 = .ok (.if_icmp .eq 6, 3) := by decide +kernel
theorem dX12_reason_81 : decode cX12_reason 81 = .ok (.iload_n 2, 1) := by decide +kernel
theorem dX12_reason_82 : decode cX12_reason 82 = .ok (.aload_n 0, 1) := by decide +kernel
theorem dX12_reason_83 : decode cX12_reason 83 = .ok (.sipush 3624, 3) := by decide +kernel
theorem dX12_reason_86 : decode cX12_reason 86 = .ok (.iload 4, 2) := by decide +kernel
theorem dX12_reason_88 : decode cX12_reason 88 = .ok (.invokestatic 85, 3) := by decide +kernel
theorem dX12_reason_91 : decode cX12_reason 91 = .ok (.invokevirtual 148, 3) := by decide +kernel
theorem glV_RX12_148 : GLV RX12 148 yX12_areEqual RX12 cX12_areEqual 3 (some .boolean) 2 := ⟨⟨(mT8 160 rfl rfl), (mT8 162 rfl rfl), (mTs 51 rfl rfl), (mT1 13 rfl rfl), (mT8 163 rfl rfl)⟩, by decide +kernel⟩
theorem dX12_reason_94 : decode cX12_reason 94 = .ok (.ior, 1) := by decide +kernel
theorem dX12_reason_95 : decode cX12_reason 95 = .ok (.istore_n 2, 1) := by decide +kernel
theorem dX12_reason_96 : decode cX12_reason 96 = .ok (.iload_n 3, 1) := by decide +kernel
theorem dX12_reason_97 : decode cX12_reason 97 = .ok (.aload_n 0, 1) := by decide +kernel
theorem dX12_reason_98 : decode cX12_reason 98 = .ok (.sipush 3624, 3) := by decide +kernel
theorem dX12_reason_101 : decode cX12_reason 101 = .ok (.iload 4, 2) := by decide +kernel
theorem dX12_reason_103 : decode cX12_reason 103 = .ok (.invokestatic 85, 3) := by decide +kernel
theorem dX12_reason_106 : decode cX12_reason 106 = .ok (.invokevirtual 151, 3) := by decide +kernel
theorem glV_RX12_151 : GLV RX12 151 yX12_isProperPrefix RX12 cX12_isProperPrefix 3 (some .boolean) 2 := ⟨⟨(mT8 164 rfl rfl), (mT8 166 rfl rfl), (mTs 52 rfl rfl), (mT1 13 rfl rfl), (mT8 167 rfl rfl)⟩, by decide +kernel⟩
theorem dX12_reason_109 : decode cX12_reason 109 = .ok (.ior, 1) := by decide +kernel
theorem dX12_reason_110 : decode cX12_reason 110 = .ok (.istore_n 3, 1) := by decide +kernel
theorem dX12_reason_111 : decode cX12_reason 111 = .ok (.iinc 4 1, 3) := by decide +kernel
theorem dX12_reason_114 : decode cX12_reason 114 = .ok (.goto (-57), 3) := by decide +kernel
theorem dX12_reason_78 : decode cX12_reason 78 = .ok (.goto 33, 3) := by decide +kernel
theorem dX12_reason_48 : decode cX12_reason 48 = .ok (.iconst 1, 1) := by decide +kernel
theorem dX12_reason_49 : decode cX12_reason 49 = .ok (.ireturn, 1) := by decide +kernel
theorem dX12_reason_35 : decode cX12_reason 35 = .ok (.bipush (-4), 2) := by decide +kernel
theorem dX12_reason_37 : decode cX12_reason 37 = .ok (.ireturn, 1) := by decide +kernel
set_option maxRecDepth 100000 in
set_option maxHeartbeats 4000000 in
theorem rX12_reason (l : Launch) (D : va_G) (Y : Nat → ClassId) (h0 : Nat) (h1 : Nat) (h2 : Nat) (h3 : Nat) (h4 : Nat) (h5 : Nat) (h6 : Nat) (p2 : Int32) (k5 : Nat) (k6 : Nat) (p7 : Int32) (p8 : Int32) (p9 : Int32) (k10 : Nat) (p11 : Int32) (q12 : Int64) (k15 : Nat) (k16 : Nat) (f0 : Nat → Int32) (f1 : Nat → Int32) (f3 : Nat → Int32) (f4 : Nat → Int32) (f13 : Nat → Int32) (f14 : Nat → Int32) (ph : Nat → Int32) (HI : INV ph f0) (HL : k5 ≤ 1600) (HP : PLV f13) (s0 : Int32)  (sz : Nat) : Met l yX12_reason (WSm yX12_reason cX12_reason 5 (some .int)) (mkR 4 0 0 90) (PreC D Y [.ref h0, .int s0] [(h0, oC 13 [.ref h1, .ref h2, .int p2, .ref h3, .ref h4, .int (nI k5), .int (nI k6), .int p7, .int p8, .int p9, .int (nI k10), .int p11, .long q12, .ref h5, .ref h6, .int (nI k15), .int (nI k16)]), (h1, aI Y 3640 f0), (h2, aZ Y 2 f1), (h3, aZ Y 80 f3), (h4, aB Y 1600 f4), (h5, aI Y 200 f13), (h6, aI Y 800 f14)] sz) (QI D (fun (r : Int32) (u : WU) => True) (fun (u : WU) => [(h0, oC 13 [.ref h1, .ref h2, .int (u.2.1 0), .ref h3, .ref h4, .int (nI k5), .int (nI k6), .int p7, .int p8, .int p9, .int (nI k10), .int p11, .long q12, .ref h5, .ref h6, .int (nI k15), .int (nI k16)]), (h1, aI Y 3640 f0), (h2, aZ Y 2 f1), (h3, aZ Y 80 f3), (h4, aB Y 1600 f4), (h5, aI Y 200 f13), (h6, aI Y 800 f14)]) (va_A [(h0, oC 13 [.ref h1, .ref h2, .int p2, .ref h3, .ref h4, .int (nI k5), .int (nI k6), .int p7, .int p8, .int p9, .int (nI k10), .int p11, .long q12, .ref h5, .ref h6, .int (nI k15), .int (nI k16)]), (h1, aI Y 3640 f0), (h2, aZ Y 2 f1), (h3, aZ Y 80 f3), (h4, aB Y 1600 f4), (h5, aI Y 200 f13), (h6, aI Y 800 f14)] sz)) 0 0 (va_A [(h0, oC 13 [.ref h1, .ref h2, .int p2, .ref h3, .ref h4, .int (nI k5), .int (nI k6), .int p7, .int p8, .int p9, .int (nI k10), .int p11, .long q12, .ref h5, .ref h6, .int (nI k15), .int (nI k16)]), (h1, aI Y 3640 f0), (h2, aZ Y 2 f1), (h3, aZ Y 80 f3), (h4, aB Y 1600 f4), (h5, aI Y 200 f13), (h6, aI Y 800 f14)] sz) :=
  met_of  (by decide +kernel) (Nat.le_of_ble_eq_true rfl) (fun p e s m args below meth c B hin hsz => by
    have B : VB p s m args meth c D Y (va_A [(h0, oC 13 [.ref h1, .ref h2, .int p2, .ref h3, .ref h4, .int (nI k5), .int (nI k6), .int p7, .int p8, .int p9, .int (nI k10), .int p11, .long q12, .ref h5, .ref h6, .int (nI k15), .int (nI k16)]), (h1, aI Y 3640 f0), (h2, aZ Y 2 f1), (h3, aZ Y 80 f3), (h4, aB Y 1600 f4), (h5, aI Y 200 f13), (h6, aI Y 800 f14)] sz) cX12_reason 5 RX12 (some .int) := B
    refine V_aload_n 0 B dX12_reason_0 0 rfl ?_
    refine V_iconst 1 B (v := 0) dX12_reason_1 (by decide +kernel) ?_
    refine V_put 2 B gp_RX12_38 0 rfl (Nat.le_of_ble_eq_true rfl) rfl rfl dX12_reason_2 [(h0, oC 13 [.ref h1, .ref h2, .int 0, .ref h3, .ref h4, .int (nI k5), .int (nI k6), .int p7, .int p8, .int p9, .int (nI k10), .int p11, .long q12, .ref h5, .ref h6, .int (nI k15), .int (nI k16)]), (h1, aI Y 3640 f0), (h2, aZ Y 2 f1), (h3, aZ Y 80 f3), (h4, aB Y 1600 f4), (h5, aI Y 200 f13), (h6, aI Y 800 f14)] rfl ?_
    refine V_aload_n 5 B dX12_reason_5 0 rfl ?_
    refine V_aload_n 6 B dX12_reason_6 0 rfl ?_
    refine V_iload_n 7 B dX12_reason_7 1 rfl ?_
    refine V_cvi 8 B (st := [.ref h0]) (As := [.int s0]) (fun sz => rX12_isMode l D Y h0 h1 h2 h3 h4 h5 h6 0 k5 k6 p7 p8 p9 k10 p11 q12 k15 k16 f0 f1 f3 f4 f13 f14 ph HI (by omega) HP s0 sz) glV_RX12_91 ⟨rfl, rfl⟩ ⟨(Nat.le_of_ble_eq_true rfl), (Nat.le_of_ble_eq_true rfl)⟩ ⟨(Nat.le_of_ble_eq_true rfl), (Nat.le_of_ble_eq_true rfl)⟩ [0, 0, 0, 0, 0, 0, 0] rfl 13 0 rfl rfl rfl rfl (Nat.le_of_ble_eq_true rfl) rfl (fun _ _ _ => rfl) dX12_reason_8 (fun j0 u1 w2 => ?_)
    refine V_ws [(h0, oC 13 [.ref h1, .ref h2, .int 0, .ref h3, .ref h4, .int (nI k5), .int (nI k6), .int p7, .int p8, .int p9, .int (nI k10), .int p11, .long q12, .ref h5, .ref h6, .int (nI k15), .int (nI k16)]), (h1, aI Y 3640 f0), (h2, aZ Y 2 f1), (h3, aZ Y 80 f3), (h4, aB Y 1600 f4), (h5, aI Y 200 f13), (h6, aI Y 800 f14)] rfl ?_
    have x3 := w2
    clear w2
    have x7 : (gN f0 0) ≤ 6 := gN_le HI (by omega) (show bd 0 = (0, ((6 : Nat) : Int)) by decide +kernel)
    rcases x3 with rfl | ⟨rfl, n4, rfl, x6⟩
    ·
      refine V_if_ne_f 11 B 18 dX12_reason_11 (by decide) (by decide +kernel) ?_
      refine V_iconst 14 B (v := 1) dX12_reason_14 (by decide +kernel) ?_
      refine V_goto 15 B 19 dX12_reason_15 (by decide) ?_
      refine V_iconst 19 B (v := 1) dX12_reason_19 (by decide +kernel) ?_
      refine V_cvi 20 B (st := []) (As := [.int 1, .int 1]) (fun sz => rX12_throwsIf_1 l D Y h0 h1 h2 h3 h4 h5 h6 0 k5 k6 p7 p8 p9 k10 p11 q12 k15 k16 f0 f1 f3 f4 f13 f14 ph HI (by omega) HP 1 sz) glV_RX12_69 ⟨rfl, rfl⟩ ⟨(Nat.le_of_ble_eq_true rfl), (Nat.le_of_ble_eq_true rfl)⟩ ⟨(Nat.le_of_ble_eq_true rfl), (Nat.le_of_ble_eq_true rfl)⟩ [0, 0, 0, 0, 0, 0, 0] rfl 13 0 rfl rfl rfl rfl (Nat.le_of_ble_eq_true rfl) rfl (fun _ _ _ => rfl) dX12_reason_20 (fun j8 u9 w10 => ?_)
      refine V_ws [(h0, oC 13 [.ref h1, .ref h2, .int (u9.2.1 0), .ref h3, .ref h4, .int (nI k5), .int (nI k6), .int p7, .int p8, .int p9, .int (nI k10), .int p11, .long q12, .ref h5, .ref h6, .int (nI k15), .int (nI k16)]), (h1, aI Y 3640 f0), (h2, aZ Y 2 f1), (h3, aZ Y 80 f3), (h4, aB Y 1600 f4), (h5, aI Y 200 f13), (h6, aI Y 800 f14)] rfl ?_
      have x11 := w10
      clear w10
      obtain rfl := x11
      refine V_if_eq_f 23 B 28 dX12_reason_23 (by decide) (by decide +kernel) ?_
      refine V_iconst 26 B (v := 0) dX12_reason_26 (by decide +kernel) ?_
      exact V_iret 27 B dX12_reason_27 (mkW [] [(u9.2.1 0)] [] [] [] []) trivial rfl
    ·
      have e12 := nI_toInt (show n4 < 2 ^ 31 by omega)
      have x13 : (gN f0 0) ≤ 6 := gN_le HI (by omega) (show bd 0 = (0, ((6 : Nat) : Int)) by decide +kernel)
      refine V_if_ne_t 11 B 18 dX12_reason_11 (by decide) (by decide +kernel) ?_
      refine V_iconst 18 B (v := 0) dX12_reason_18 (by decide +kernel) ?_
      refine V_iconst 19 B (v := 1) dX12_reason_19 (by decide +kernel) ?_
      refine V_cvi 20 B (st := []) (As := [.int 0, .int 1]) (fun sz => rX12_throwsIf_0 l D Y h0 h1 h2 h3 h4 h5 h6 0 k5 k6 p7 p8 p9 k10 p11 q12 k15 k16 f0 f1 f3 f4 f13 f14 ph HI (by omega) HP 1 sz) glV_RX12_69 ⟨rfl, rfl⟩ ⟨(Nat.le_of_ble_eq_true rfl), (Nat.le_of_ble_eq_true rfl)⟩ ⟨(Nat.le_of_ble_eq_true rfl), (Nat.le_of_ble_eq_true rfl)⟩ [0, 0, 0, 0, 0, 0, 0] rfl 13 0 rfl rfl rfl rfl (Nat.le_of_ble_eq_true rfl) rfl (fun _ _ _ => rfl) dX12_reason_20 (fun j14 u15 w16 => ?_)
      refine V_ws [(h0, oC 13 [.ref h1, .ref h2, .int (u15.2.1 0), .ref h3, .ref h4, .int (nI k5), .int (nI k6), .int p7, .int p8, .int p9, .int (nI k10), .int p11, .long q12, .ref h5, .ref h6, .int (nI k15), .int (nI k16)]), (h1, aI Y 3640 f0), (h2, aZ Y 2 f1), (h3, aZ Y 80 f3), (h4, aB Y 1600 f4), (h5, aI Y 200 f13), (h6, aI Y 800 f14)] rfl ?_
      have x17 := w16
      clear w16
      obtain rfl := x17
      refine V_if_eq_t 23 B 28 dX12_reason_23 (by decide) (by decide +kernel) ?_
      refine V_aload_n 28 B dX12_reason_28 0 rfl ?_
      refine V_cvi 29 B (st := []) (As := []) (fun sz => rX12_hasNoDraft l D Y h0 h1 h2 h3 h4 h5 h6 (u15.2.1 0) k5 k6 p7 p8 p9 k10 p11 q12 k15 k16 f0 f1 f3 f4 f13 f14 ph HI (by omega) HP sz) glV_RX12_125 ⟨rfl, rfl⟩ ⟨(Nat.le_of_ble_eq_true rfl), (Nat.le_of_ble_eq_true rfl)⟩ ⟨(Nat.le_of_ble_eq_true rfl), (Nat.le_of_ble_eq_true rfl)⟩ [0, 0, 0, 0, 0, 0, 0] rfl 13 0 rfl rfl rfl rfl (Nat.le_of_ble_eq_true rfl) rfl (fun _ _ _ => rfl) dX12_reason_29 (fun j18 u19 w20 => ?_)
      refine V_ws [(h0, oC 13 [.ref h1, .ref h2, .int (u15.2.1 0), .ref h3, .ref h4, .int (nI k5), .int (nI k6), .int p7, .int p8, .int p9, .int (nI k10), .int p11, .long q12, .ref h5, .ref h6, .int (nI k15), .int (nI k16)]), (h1, aI Y 3640 f0), (h2, aZ Y 2 f1), (h3, aZ Y 80 f3), (h4, aB Y 1600 f4), (h5, aI Y 200 f13), (h6, aI Y 800 f14)] rfl ?_
      have x21 := w20
      clear w20
      rcases x21 with rfl | rfl
      ·
        refine V_if_eq_t 32 B 38 dX12_reason_32 (by decide) (by decide +kernel) ?_
        refine V_aload_n 38 B dX12_reason_38 0 rfl ?_
        refine V_sipush 39 B (v := 3624) dX12_reason_39 (by decide +kernel) ?_
        refine V_cvi 42 B (st := []) (As := [.int 3624]) (fun sz => rX12_clashesReserved l D Y h0 h1 h2 h3 h4 h5 h6 (u15.2.1 0) k5 k6 p7 p8 p9 k10 p11 q12 k15 k16 f0 f1 f3 f4 f13 f14 ph HI (by omega) HP 3624 (show SQ 3624 by unfold SQ; decide +kernel) sz) glV_RX12_118 ⟨rfl, rfl⟩ ⟨(Nat.le_of_ble_eq_true rfl), (Nat.le_of_ble_eq_true rfl)⟩ ⟨(Nat.le_of_ble_eq_true rfl), (Nat.le_of_ble_eq_true rfl)⟩ [0, 0, 0, 0, 0, 0, 0] rfl 13 0 rfl rfl rfl rfl (Nat.le_of_ble_eq_true rfl) rfl (fun _ _ _ => rfl) dX12_reason_42 (fun j22 u23 w24 => ?_)
        refine V_ws [(h0, oC 13 [.ref h1, .ref h2, .int (u15.2.1 0), .ref h3, .ref h4, .int (nI k5), .int (nI k6), .int p7, .int p8, .int p9, .int (nI k10), .int p11, .long q12, .ref h5, .ref h6, .int (nI k15), .int (nI k16)]), (h1, aI Y 3640 f0), (h2, aZ Y 2 f1), (h3, aZ Y 80 f3), (h4, aB Y 1600 f4), (h5, aI Y 200 f13), (h6, aI Y 800 f14)] rfl ?_
        have x25 := w24
        clear w24
        rcases x25 with rfl | rfl
        ·
          refine V_if_eq_t 45 B 50 dX12_reason_45 (by decide) (by decide +kernel) ?_
          refine V_iconst 50 B (v := 0) dX12_reason_50 (by decide +kernel) ?_
          refine V_istore_n 51 B (lv2 := [(2, .int 0), (0, .ref h0), (1, .int (nI n4))]) dX12_reason_51 (by decide) rfl ?_
          refine V_iconst 52 B (v := 0) dX12_reason_52 (by decide +kernel) ?_
          refine V_istore_n 53 B (lv2 := [(3, .int 0), (2, .int 0), (0, .ref h0), (1, .int (nI n4))]) dX12_reason_53 (by decide) rfl ?_
          refine V_iconst 54 B (v := 0) dX12_reason_54 (by decide +kernel) ?_
          refine V_istore 55 B (lv2 := [(4, .int 0), (3, .int 0), (2, .int 0), (0, .ref h0), (1, .int (nI n4))]) dX12_reason_55 (by decide) rfl ?_
          refine V_wloop (α := WU) (fun a => 100000 - (a.1 0)) (fun a => (a.1 0) ≤ 4000) (fun a => [(4, .int (nI (a.1 0))), (3, .int (a.2.1 0)), (2, .int (a.2.1 1)), (0, .ref h0), (1, .int (nI n4))]) (fun a => [(h0, oC 13 [.ref h1, .ref h2, .int (u15.2.1 0), .ref h3, .ref h4, .int (nI k5), .int (nI k6), .int p7, .int p8, .int p9, .int (nI k10), .int p11, .long q12, .ref h5, .ref h6, .int (nI k15), .int (nI k16)]), (h1, aI Y 3640 f0), (h2, aZ Y 2 f1), (h3, aZ Y 80 f3), (h4, aB Y 1600 f4), (h5, aI Y 200 f13), (h6, aI Y 800 f14)]) (mkW [0] [0, 0] [] [] [] []) (show 0 ≤ 4000 by omega) rfl rfl (fun a26 hI28 IH27 => ?_)
          refine V_lv [(4, .int (nI (a26.1 0))), (3, .int (a26.2.1 0)), (2, .int (a26.2.1 1)), (0, .ref h0), (1, .int (nI n4))] [0, 1, 2, 3, 4] rfl ?_
          refine V_ws [(h0, oC 13 [.ref h1, .ref h2, .int (u15.2.1 0), .ref h3, .ref h4, .int (nI k5), .int (nI k6), .int p7, .int p8, .int p9, .int (nI k10), .int p11, .long q12, .ref h5, .ref h6, .int (nI k15), .int (nI k16)]), (h1, aI Y 3640 f0), (h2, aZ Y 2 f1), (h3, aZ Y 80 f3), (h4, aB Y 1600 f4), (h5, aI Y 200 f13), (h6, aI Y 800 f14)] rfl ?_
          have x29 := hI28
          refine V_iload 57 B dX12_reason_57 0 rfl ?_
          refine V_aload_n 59 B dX12_reason_59 3 rfl ?_
          refine V_get 60 B gf_RX12_9 0 rfl rfl dX12_reason_60 ?_
          refine V_iconst 63 B (v := 3) dX12_reason_63 (by decide +kernel) ?_
          have x30 : (gN f0 3) ≤ 80 := gN_le HI (by omega) (show bd 3 = (0, ((80 : Nat) : Int)) by decide +kernel)
          refine V_iald 64 B (v := (nI (gN f0 3))) 1 rfl (vpin _ _ (by decide +kernel)) dX12_reason_64 (by show f0 3 = _; exact gN_eq HI (by omega) (show bd 3 = (0, ((80 : Nat) : Int)) by decide +kernel)) ?_
          refine V_icmp_ge 65 B 117 dX12_reason_65 (by decide) (fun kk31 => ?_) (fun kk31 => ?_)
          ·
            have x32 := n_le (a := (gN f0 3)) (b := (a26.1 0)) kk31 (by omega) (by omega)
            refine V_iload_n 117 B dX12_reason_117 2 rfl ?_
            refine V_if_eq 118 B 125 dX12_reason_118 (by decide) (fun kk33 => ?_) (fun kk33 => ?_)
            ·
              have x34 := x_eq kk33
              rw [show (0 : Int32).toInt = 0 by decide +kernel] at x34
              refine V_iload_n 125 B dX12_reason_125 1 rfl ?_
              refine V_if_eq 126 B 133 dX12_reason_126 (by decide) (fun kk35 => ?_) (fun kk35 => ?_)
              ·
                have x36 := x_eq kk35
                rw [show (0 : Int32).toInt = 0 by decide +kernel] at x36
                refine V_aload_n 133 B dX12_reason_133 3 rfl ?_
                refine V_iload_n 134 B dX12_reason_134 4 rfl ?_
                refine V_sipush 135 B (v := 3624) dX12_reason_135 (by decide +kernel) ?_
                refine V_iconst 138 B (v := (-1)) dX12_reason_138 (by decide +kernel) ?_
                refine V_cvi 139 B (st := []) (As := [.int (nI n4), .int 3624, .int (-1)]) (fun sz => rX12_clashIn l D Y h0 h1 h2 h3 h4 h5 h6 (u15.2.1 0) k5 k6 p7 p8 p9 k10 p11 q12 k15 k16 f0 f1 f3 f4 f13 f14 ph HI (by omega) HP (nI n4) 3624 (-1) (show SQ 3624 by unfold SQ; decide +kernel) sz) glV_RX12_121 ⟨rfl, rfl⟩ ⟨(Nat.le_of_ble_eq_true rfl), (Nat.le_of_ble_eq_true rfl)⟩ ⟨(Nat.le_of_ble_eq_true rfl), (Nat.le_of_ble_eq_true rfl)⟩ [0, 0, 0, 0, 0, 0, 0] rfl 13 0 rfl rfl rfl rfl (Nat.le_of_ble_eq_true rfl) rfl (fun _ _ _ => rfl) dX12_reason_139 (fun j37 u38 w39 => ?_)
                refine V_ws [(h0, oC 13 [.ref h1, .ref h2, .int (u15.2.1 0), .ref h3, .ref h4, .int (nI k5), .int (nI k6), .int p7, .int p8, .int p9, .int (nI k10), .int p11, .long q12, .ref h5, .ref h6, .int (nI k15), .int (nI k16)]), (h1, aI Y 3640 f0), (h2, aZ Y 2 f1), (h3, aZ Y 80 f3), (h4, aB Y 1600 f4), (h5, aI Y 200 f13), (h6, aI Y 800 f14)] rfl ?_
                have x40 := w39
                clear w39
                have x43 : (gN f0 3) ≤ 80 := gN_le HI (by omega) (show bd 3 = (0, ((80 : Nat) : Int)) by decide +kernel)
                rcases x40 with ⟨rfl, x42⟩ | ⟨n41, rfl, x42, x44⟩
                ·
                  refine V_iconst 142 B (v := (-1)) dX12_reason_142 (by decide +kernel) ?_
                  refine V_icmp_ne_f 143 B 150 dX12_reason_143 (by decide) (by decide +kernel) ?_
                  refine V_iconst 146 B (v := 0) dX12_reason_146 (by decide +kernel) ?_
                  refine V_goto 147 B 151 dX12_reason_147 (by decide) ?_
                  exact V_iret 151 B dX12_reason_151 (mkW [] [(u15.2.1 0)] [] [] [] []) trivial rfl
                ·
                  refine V_iconst 142 B (v := (-1)) dX12_reason_142 (by decide +kernel) ?_
                  refine V_icmp_ne_t 143 B 150 dX12_reason_143 (by decide) (fun z => by have z2 := x_eq z; rw [nI_toInt (show n41 < 2 ^ 31 by omega), show ((-1) : Int32).toInt = (-1) by decide +kernel] at z2; omega) ?_
                  refine V_iconst 150 B (v := 4) dX12_reason_150 (by decide +kernel) ?_
                  exact V_iret 151 B dX12_reason_151 (mkW [] [(u15.2.1 0)] [] [] [] []) trivial rfl
              ·
                have x46 := x_ne kk35
                rw [show (0 : Int32).toInt = 0 by decide +kernel] at x46
                refine V_iconst 129 B (v := 3) dX12_reason_129 (by decide +kernel) ?_
                refine V_goto 130 B 151 dX12_reason_130 (by decide) ?_
                exact V_iret 151 B dX12_reason_151 (mkW [] [(u15.2.1 0)] [] [] [] []) trivial rfl
            ·
              have x47 := x_ne kk33
              rw [show (0 : Int32).toInt = 0 by decide +kernel] at x47
              refine V_iconst 121 B (v := 2) dX12_reason_121 (by decide +kernel) ?_
              refine V_goto 122 B 151 dX12_reason_122 (by decide) ?_
              exact V_iret 151 B dX12_reason_151 (mkW [] [(u15.2.1 0)] [] [] [] []) trivial rfl
          ·
            have x48 := n_nle (a := (gN f0 3)) (b := (a26.1 0)) kk31 (by omega) (by omega)
            refine V_aload_n 68 B dX12_reason_68 3 rfl ?_
            refine V_iload 69 B dX12_reason_69 0 rfl ?_
            refine V_cvi 71 B (st := []) (As := [.int (nI (a26.1 0))]) (fun sz => rX12_modeOf l D Y h0 h1 h2 h3 h4 h5 h6 (u15.2.1 0) k5 k6 p7 p8 p9 k10 p11 q12 k15 k16 f0 f1 f3 f4 f13 f14 ph HI (by omega) HP (a26.1 0) (by omega) sz) glV_RX12_115 ⟨rfl, rfl⟩ ⟨(Nat.le_of_ble_eq_true rfl), (Nat.le_of_ble_eq_true rfl)⟩ ⟨(Nat.le_of_ble_eq_true rfl), (Nat.le_of_ble_eq_true rfl)⟩ [0, 0, 0, 0, 0, 0, 0] rfl 13 0 rfl rfl rfl rfl (Nat.le_of_ble_eq_true rfl) rfl (fun _ _ _ => rfl) dX12_reason_71 (fun j49 u50 w51 => ?_)
            refine V_ws [(h0, oC 13 [.ref h1, .ref h2, .int (u15.2.1 0), .ref h3, .ref h4, .int (nI k5), .int (nI k6), .int p7, .int p8, .int p9, .int (nI k10), .int p11, .long q12, .ref h5, .ref h6, .int (nI k15), .int (nI k16)]), (h1, aI Y 3640 f0), (h2, aZ Y 2 f1), (h3, aZ Y 80 f3), (h4, aB Y 1600 f4), (h5, aI Y 200 f13), (h6, aI Y 800 f14)] rfl ?_
            have x52 := w51
            clear w51
            refine V_iload_n 74 B dX12_reason_74 4 rfl ?_
            refine V_icmp_eq 75 B 81 dX12_reason_75 (by decide) (fun kk53 => ?_) (fun kk53 => ?_)
            ·
              obtain rfl : j49 = (nI n4) := kk53
              have e55 := nI_toInt (show n4 < 2 ^ 31 by omega)
              refine V_iload_n 81 B dX12_reason_81 2 rfl ?_
              refine V_aload_n 82 B dX12_reason_82 3 rfl ?_
              refine V_sipush 83 B (v := 3624) dX12_reason_83 (by decide +kernel) ?_
              refine V_iload 86 B dX12_reason_86 0 rfl ?_
              refine V_csi 88 B (st := [.int 3624, .ref h0, .int (a26.2.1 1)]) (As := [.int (nI (a26.1 0))]) (fun sz => rX12_sequenceOf l D Y (a26.1 0) (by omega) sz) glS_RX12_85 ⟨rfl, rfl⟩ ⟨(Nat.le_of_ble_eq_true rfl), (Nat.le_of_ble_eq_true rfl)⟩ ⟨(Nat.le_of_ble_eq_true rfl), (Nat.le_of_ble_eq_true rfl)⟩ [] rfl rfl (Nat.le_of_ble_eq_true rfl) rfl (fun _ _ _ => rfl) dX12_reason_88 (fun j56 u57 w58 => ?_)
              refine V_ws [(h0, oC 13 [.ref h1, .ref h2, .int (u15.2.1 0), .ref h3, .ref h4, .int (nI k5), .int (nI k6), .int p7, .int p8, .int p9, .int (nI k10), .int p11, .long q12, .ref h5, .ref h6, .int (nI k15), .int (nI k16)]), (h1, aI Y 3640 f0), (h2, aZ Y 2 f1), (h3, aZ Y 80 f3), (h4, aB Y 1600 f4), (h5, aI Y 200 f13), (h6, aI Y 800 f14)] rfl ?_
              have x59 := w58
              clear w58
              obtain rfl := x59
              refine V_cvi 91 B (st := [.int (a26.2.1 1)]) (As := [.int 3624, .int (nI (186 + 7 * (a26.1 0)))]) (fun sz => rX12_areEqual l D Y h0 h1 h2 h3 h4 h5 h6 (u15.2.1 0) k5 k6 p7 p8 p9 k10 p11 q12 k15 k16 f0 f1 f3 f4 f13 f14 ph HI (by omega) HP 3624 (186 + 7 * (a26.1 0)) (show SQ 3624 by unfold SQ; decide +kernel) (rl5 (a26.1 0) (by omega)) sz) glV_RX12_148 ⟨rfl, rfl⟩ ⟨(Nat.le_of_ble_eq_true rfl), (Nat.le_of_ble_eq_true rfl)⟩ ⟨(Nat.le_of_ble_eq_true rfl), (Nat.le_of_ble_eq_true rfl)⟩ [0, 0, 0, 0, 0, 0, 0] rfl 13 0 rfl rfl rfl rfl (Nat.le_of_ble_eq_true rfl) rfl (fun _ _ _ => rfl) dX12_reason_91 (fun j60 u61 w62 => ?_)
              refine V_ws [(h0, oC 13 [.ref h1, .ref h2, .int (u15.2.1 0), .ref h3, .ref h4, .int (nI k5), .int (nI k6), .int p7, .int p8, .int p9, .int (nI k10), .int p11, .long q12, .ref h5, .ref h6, .int (nI k15), .int (nI k16)]), (h1, aI Y 3640 f0), (h2, aZ Y 2 f1), (h3, aZ Y 80 f3), (h4, aB Y 1600 f4), (h5, aI Y 200 f13), (h6, aI Y 800 f14)] rfl ?_
              have x63 := w62
              clear w62
              rcases x63 with rfl | rfl
              ·
                refine V_ior 94 B dX12_reason_94 rfl ?_
                refine V_nmi (fun j64 e65 => ?_)
                refine V_istore_n 95 B (lv2 := [(2, .int j64), (4, .int (nI (a26.1 0))), (3, .int (a26.2.1 0)), (0, .ref h0), (1, .int (nI n4))]) dX12_reason_95 (by decide) rfl ?_
                refine V_iload_n 96 B dX12_reason_96 2 rfl ?_
                refine V_aload_n 97 B dX12_reason_97 3 rfl ?_
                refine V_sipush 98 B (v := 3624) dX12_reason_98 (by decide +kernel) ?_
                refine V_iload 101 B dX12_reason_101 1 rfl ?_
                refine V_csi 103 B (st := [.int 3624, .ref h0, .int (a26.2.1 0)]) (As := [.int (nI (a26.1 0))]) (fun sz => rX12_sequenceOf l D Y (a26.1 0) (by omega) sz) glS_RX12_85 ⟨rfl, rfl⟩ ⟨(Nat.le_of_ble_eq_true rfl), (Nat.le_of_ble_eq_true rfl)⟩ ⟨(Nat.le_of_ble_eq_true rfl), (Nat.le_of_ble_eq_true rfl)⟩ [] rfl rfl (Nat.le_of_ble_eq_true rfl) rfl (fun _ _ _ => rfl) dX12_reason_103 (fun j66 u67 w68 => ?_)
                refine V_ws [(h0, oC 13 [.ref h1, .ref h2, .int (u15.2.1 0), .ref h3, .ref h4, .int (nI k5), .int (nI k6), .int p7, .int p8, .int p9, .int (nI k10), .int p11, .long q12, .ref h5, .ref h6, .int (nI k15), .int (nI k16)]), (h1, aI Y 3640 f0), (h2, aZ Y 2 f1), (h3, aZ Y 80 f3), (h4, aB Y 1600 f4), (h5, aI Y 200 f13), (h6, aI Y 800 f14)] rfl ?_
                have x69 := w68
                clear w68
                obtain rfl := x69
                refine V_cvi 106 B (st := [.int (a26.2.1 0)]) (As := [.int 3624, .int (nI (186 + 7 * (a26.1 0)))]) (fun sz => rX12_isProperPrefix l D Y h0 h1 h2 h3 h4 h5 h6 (u15.2.1 0) k5 k6 p7 p8 p9 k10 p11 q12 k15 k16 f0 f1 f3 f4 f13 f14 ph HI (by omega) HP 3624 (186 + 7 * (a26.1 0)) (show SQ 3624 by unfold SQ; decide +kernel) (rl5 (a26.1 0) (by omega)) sz) glV_RX12_151 ⟨rfl, rfl⟩ ⟨(Nat.le_of_ble_eq_true rfl), (Nat.le_of_ble_eq_true rfl)⟩ ⟨(Nat.le_of_ble_eq_true rfl), (Nat.le_of_ble_eq_true rfl)⟩ [0, 0, 0, 0, 0, 0, 0] rfl 13 0 rfl rfl rfl rfl (Nat.le_of_ble_eq_true rfl) rfl (fun _ _ _ => rfl) dX12_reason_106 (fun j70 u71 w72 => ?_)
                refine V_ws [(h0, oC 13 [.ref h1, .ref h2, .int (u15.2.1 0), .ref h3, .ref h4, .int (nI k5), .int (nI k6), .int p7, .int p8, .int p9, .int (nI k10), .int p11, .long q12, .ref h5, .ref h6, .int (nI k15), .int (nI k16)]), (h1, aI Y 3640 f0), (h2, aZ Y 2 f1), (h3, aZ Y 80 f3), (h4, aB Y 1600 f4), (h5, aI Y 200 f13), (h6, aI Y 800 f14)] rfl ?_
                have x73 := w72
                clear w72
                rcases x73 with rfl | ⟨rfl, x74⟩
                ·
                  refine V_ior 109 B dX12_reason_109 rfl ?_
                  refine V_nmi (fun j75 e76 => ?_)
                  refine V_istore_n 110 B (lv2 := [(3, .int j75), (2, .int j64), (4, .int (nI (a26.1 0))), (0, .ref h0), (1, .int (nI n4))]) dX12_reason_110 (by decide) rfl ?_
                  refine V_iinc 111 B (v := (nI (1 + (a26.1 0)))) (lv2 := [(4, .int (nI (1 + (a26.1 0)))), (3, .int j75), (2, .int j64), (0, .ref h0), (1, .int (nI n4))]) dX12_reason_111 2 rfl (nI_addE (a := (a26.1 0)) (b := 1) (by omega)) (by decide) rfl ?_
                  refine V_goto 114 B 57 dX12_reason_114 (by decide) ?_
                  refine V_lv [(4, .int (nI (1 + (a26.1 0)))), (3, .int j75), (2, .int j64), (0, .ref h0), (1, .int (nI n4))] [0, 1, 2, 3, 4] rfl ?_
                  exact IH27 (mkW [1 + (a26.1 0)] [j75, j64] [] [] [] []) (show 1 + (a26.1 0) ≤ 4000 by omega) (by show 100000 - (1 + (a26.1 0)) < 100000 - (a26.1 0); omega)
                ·
                  refine V_ior 109 B dX12_reason_109 rfl ?_
                  refine V_nmi (fun j77 e78 => ?_)
                  refine V_istore_n 110 B (lv2 := [(3, .int j77), (2, .int j64), (4, .int (nI (a26.1 0))), (0, .ref h0), (1, .int (nI n4))]) dX12_reason_110 (by decide) rfl ?_
                  refine V_iinc 111 B (v := (nI (1 + (a26.1 0)))) (lv2 := [(4, .int (nI (1 + (a26.1 0)))), (3, .int j77), (2, .int j64), (0, .ref h0), (1, .int (nI n4))]) dX12_reason_111 2 rfl (nI_addE (a := (a26.1 0)) (b := 1) (by omega)) (by decide) rfl ?_
                  refine V_goto 114 B 57 dX12_reason_114 (by decide) ?_
                  refine V_lv [(4, .int (nI (1 + (a26.1 0)))), (3, .int j77), (2, .int j64), (0, .ref h0), (1, .int (nI n4))] [0, 1, 2, 3, 4] rfl ?_
                  exact IH27 (mkW [1 + (a26.1 0)] [j77, j64] [] [] [] []) (show 1 + (a26.1 0) ≤ 4000 by omega) (by show 100000 - (1 + (a26.1 0)) < 100000 - (a26.1 0); omega)
              ·
                refine V_ior 94 B dX12_reason_94 rfl ?_
                refine V_nmi (fun j79 e80 => ?_)
                refine V_istore_n 95 B (lv2 := [(2, .int j79), (4, .int (nI (a26.1 0))), (3, .int (a26.2.1 0)), (0, .ref h0), (1, .int (nI n4))]) dX12_reason_95 (by decide) rfl ?_
                refine V_iload_n 96 B dX12_reason_96 2 rfl ?_
                refine V_aload_n 97 B dX12_reason_97 3 rfl ?_
                refine V_sipush 98 B (v := 3624) dX12_reason_98 (by decide +kernel) ?_
                refine V_iload 101 B dX12_reason_101 1 rfl ?_
                refine V_csi 103 B (st := [.int 3624, .ref h0, .int (a26.2.1 0)]) (As := [.int (nI (a26.1 0))]) (fun sz => rX12_sequenceOf l D Y (a26.1 0) (by omega) sz) glS_RX12_85 ⟨rfl, rfl⟩ ⟨(Nat.le_of_ble_eq_true rfl), (Nat.le_of_ble_eq_true rfl)⟩ ⟨(Nat.le_of_ble_eq_true rfl), (Nat.le_of_ble_eq_true rfl)⟩ [] rfl rfl (Nat.le_of_ble_eq_true rfl) rfl (fun _ _ _ => rfl) dX12_reason_103 (fun j81 u82 w83 => ?_)
                refine V_ws [(h0, oC 13 [.ref h1, .ref h2, .int (u15.2.1 0), .ref h3, .ref h4, .int (nI k5), .int (nI k6), .int p7, .int p8, .int p9, .int (nI k10), .int p11, .long q12, .ref h5, .ref h6, .int (nI k15), .int (nI k16)]), (h1, aI Y 3640 f0), (h2, aZ Y 2 f1), (h3, aZ Y 80 f3), (h4, aB Y 1600 f4), (h5, aI Y 200 f13), (h6, aI Y 800 f14)] rfl ?_
                have x84 := w83
                clear w83
                obtain rfl := x84
                refine V_cvi 106 B (st := [.int (a26.2.1 0)]) (As := [.int 3624, .int (nI (186 + 7 * (a26.1 0)))]) (fun sz => rX12_isProperPrefix l D Y h0 h1 h2 h3 h4 h5 h6 (u15.2.1 0) k5 k6 p7 p8 p9 k10 p11 q12 k15 k16 f0 f1 f3 f4 f13 f14 ph HI (by omega) HP 3624 (186 + 7 * (a26.1 0)) (show SQ 3624 by unfold SQ; decide +kernel) (rl5 (a26.1 0) (by omega)) sz) glV_RX12_151 ⟨rfl, rfl⟩ ⟨(Nat.le_of_ble_eq_true rfl), (Nat.le_of_ble_eq_true rfl)⟩ ⟨(Nat.le_of_ble_eq_true rfl), (Nat.le_of_ble_eq_true rfl)⟩ [0, 0, 0, 0, 0, 0, 0] rfl 13 0 rfl rfl rfl rfl (Nat.le_of_ble_eq_true rfl) rfl (fun _ _ _ => rfl) dX12_reason_106 (fun j85 u86 w87 => ?_)
                refine V_ws [(h0, oC 13 [.ref h1, .ref h2, .int (u15.2.1 0), .ref h3, .ref h4, .int (nI k5), .int (nI k6), .int p7, .int p8, .int p9, .int (nI k10), .int p11, .long q12, .ref h5, .ref h6, .int (nI k15), .int (nI k16)]), (h1, aI Y 3640 f0), (h2, aZ Y 2 f1), (h3, aZ Y 80 f3), (h4, aB Y 1600 f4), (h5, aI Y 200 f13), (h6, aI Y 800 f14)] rfl ?_
                have x88 := w87
                clear w87
                rcases x88 with rfl | ⟨rfl, x89⟩
                ·
                  refine V_ior 109 B dX12_reason_109 rfl ?_
                  refine V_nmi (fun j90 e91 => ?_)
                  refine V_istore_n 110 B (lv2 := [(3, .int j90), (2, .int j79), (4, .int (nI (a26.1 0))), (0, .ref h0), (1, .int (nI n4))]) dX12_reason_110 (by decide) rfl ?_
                  refine V_iinc 111 B (v := (nI (1 + (a26.1 0)))) (lv2 := [(4, .int (nI (1 + (a26.1 0)))), (3, .int j90), (2, .int j79), (0, .ref h0), (1, .int (nI n4))]) dX12_reason_111 2 rfl (nI_addE (a := (a26.1 0)) (b := 1) (by omega)) (by decide) rfl ?_
                  refine V_goto 114 B 57 dX12_reason_114 (by decide) ?_
                  refine V_lv [(4, .int (nI (1 + (a26.1 0)))), (3, .int j90), (2, .int j79), (0, .ref h0), (1, .int (nI n4))] [0, 1, 2, 3, 4] rfl ?_
                  exact IH27 (mkW [1 + (a26.1 0)] [j90, j79] [] [] [] []) (show 1 + (a26.1 0) ≤ 4000 by omega) (by show 100000 - (1 + (a26.1 0)) < 100000 - (a26.1 0); omega)
                ·
                  refine V_ior 109 B dX12_reason_109 rfl ?_
                  refine V_nmi (fun j92 e93 => ?_)
                  refine V_istore_n 110 B (lv2 := [(3, .int j92), (2, .int j79), (4, .int (nI (a26.1 0))), (0, .ref h0), (1, .int (nI n4))]) dX12_reason_110 (by decide) rfl ?_
                  refine V_iinc 111 B (v := (nI (1 + (a26.1 0)))) (lv2 := [(4, .int (nI (1 + (a26.1 0)))), (3, .int j92), (2, .int j79), (0, .ref h0), (1, .int (nI n4))]) dX12_reason_111 2 rfl (nI_addE (a := (a26.1 0)) (b := 1) (by omega)) (by decide) rfl ?_
                  refine V_goto 114 B 57 dX12_reason_114 (by decide) ?_
                  refine V_lv [(4, .int (nI (1 + (a26.1 0)))), (3, .int j92), (2, .int j79), (0, .ref h0), (1, .int (nI n4))] [0, 1, 2, 3, 4] rfl ?_
                  exact IH27 (mkW [1 + (a26.1 0)] [j92, j79] [] [] [] []) (show 1 + (a26.1 0) ≤ 4000 by omega) (by show 100000 - (1 + (a26.1 0)) < 100000 - (a26.1 0); omega)
            ·
              have x94 := x_ne kk53
              rw [nI_toInt (show n4 < 2 ^ 31 by omega)] at x94
              refine V_goto 78 B 111 dX12_reason_78 (by decide) ?_
              refine V_iinc 111 B (v := (nI (1 + (a26.1 0)))) (lv2 := [(4, .int (nI (1 + (a26.1 0)))), (3, .int (a26.2.1 0)), (2, .int (a26.2.1 1)), (0, .ref h0), (1, .int (nI n4))]) dX12_reason_111 0 rfl (nI_addE (a := (a26.1 0)) (b := 1) (by omega)) (by decide) rfl ?_
              refine V_goto 114 B 57 dX12_reason_114 (by decide) ?_
              refine V_lv [(4, .int (nI (1 + (a26.1 0)))), (3, .int (a26.2.1 0)), (2, .int (a26.2.1 1)), (0, .ref h0), (1, .int (nI n4))] [0, 1, 2, 3, 4] rfl ?_
              exact IH27 (mkW [1 + (a26.1 0)] [(a26.2.1 0), (a26.2.1 1)] [] [] [] []) (show 1 + (a26.1 0) ≤ 4000 by omega) (by show 100000 - (1 + (a26.1 0)) < 100000 - (a26.1 0); omega)
        ·
          refine V_if_eq_f 45 B 50 dX12_reason_45 (by decide) (by decide +kernel) ?_
          refine V_iconst 48 B (v := 1) dX12_reason_48 (by decide +kernel) ?_
          exact V_iret 49 B dX12_reason_49 (mkW [] [(u15.2.1 0)] [] [] [] []) trivial rfl
      ·
        refine V_if_eq_f 32 B 38 dX12_reason_32 (by decide) (by decide +kernel) ?_
        refine V_bipush 35 B (v := (-4)) dX12_reason_35 (by decide +kernel) ?_
        exact V_iret 37 B dX12_reason_37 (mkW [] [(u15.2.1 0)] [] [] [] []) trivial rfl)
