set_option maxRecDepth 100000 in
set_option maxHeartbeats 4000000 in
theorem rX12_press (l : Launch) (D : va_G) (Y : Nat → ClassId) (h0 : Nat) (h1 : Nat) (h2 : Nat) (h3 : Nat) (h4 : Nat) (h5 : Nat) (h6 : Nat) (p2 : Int32) (k5 : Nat) (k6 : Nat) (p7 : Int32) (p8 : Int32) (p9 : Int32) (k10 : Nat) (p11 : Int32) (q12 : Int64) (k15 : Nat) (k16 : Nat) (f0 : Nat → Int32) (f1 : Nat → Int32) (f3 : Nat → Int32) (f4 : Nat → Int32) (f13 : Nat → Int32) (f14 : Nat → Int32) (ph : Nat → Int32) (HI : INV ph f0) (HL : k5 ≤ 1600) (HP : PLV f13) (s0 : Int32)  (sz : Nat) : Met l yX12_press (WSm yX12_press cX12_press 2 (some .int)) (mkR 8 0 0 183) (PreC D Y [.ref h0, .int s0] [(h0, oC 13 [.ref h1, .ref h2, .int p2, .ref h3, .ref h4, .int (nI k5), .int (nI k6), .int p7, .int p8, .int p9, .int (nI k10), .int p11, .long q12, .ref h5, .ref h6, .int (nI k15), .int (nI k16)]), (h1, aI Y 3640 f0), (h2, aZ Y 2 f1), (h3, aZ Y 80 f3), (h4, aB Y 1600 f4), (h5, aI Y 200 f13), (h6, aI Y 800 f14)] sz) (QI D (fun (r : Int32) (u : WU) => INV ph (u.2.2.2.1 0)) (fun (u : WU) => [(h0, oC 13 [.ref h1, .ref h2, .int (u.2.1 0), .ref h3, .ref h4, .int (nI k5), .int (nI k6), .int p7, .int p8, .int p9, .int (nI k10), .int p11, .long q12, .ref h5, .ref h6, .int (nI k15), .int (nI k16)]), (h1, aI Y 3640 (u.2.2.2.1 0)), (h2, aZ Y 2 f1), (h3, aZ Y 80 f3), (h4, aB Y 1600 f4), (h5, aI Y 200 f13), (h6, aI Y 800 f14)]) (va_A [(h0, oC 13 [.ref h1, .ref h2, .int p2, .ref h3, .ref h4, .int (nI k5), .int (nI k6), .int p7, .int p8, .int p9, .int (nI k10), .int p11, .long q12, .ref h5, .ref h6, .int (nI k15), .int (nI k16)]), (h1, aI Y 3640 f0), (h2, aZ Y 2 f1), (h3, aZ Y 80 f3), (h4, aB Y 1600 f4), (h5, aI Y 200 f13), (h6, aI Y 800 f14)] sz)) 0 0 (va_A [(h0, oC 13 [.ref h1, .ref h2, .int p2, .ref h3, .ref h4, .int (nI k5), .int (nI k6), .int p7, .int p8, .int p9, .int (nI k10), .int p11, .long q12, .ref h5, .ref h6, .int (nI k15), .int (nI k16)]), (h1, aI Y 3640 f0), (h2, aZ Y 2 f1), (h3, aZ Y 80 f3), (h4, aB Y 1600 f4), (h5, aI Y 200 f13), (h6, aI Y 800 f14)] sz) :=
  met_of  (by decide +kernel) (Nat.le_of_ble_eq_true rfl) (fun p e s m args below meth c B hin hsz => by
    have B : VB p s m args meth c D Y (va_A [(h0, oC 13 [.ref h1, .ref h2, .int p2, .ref h3, .ref h4, .int (nI k5), .int (nI k6), .int p7, .int p8, .int p9, .int (nI k10), .int p11, .long q12, .ref h5, .ref h6, .int (nI k15), .int (nI k16)]), (h1, aI Y 3640 f0), (h2, aZ Y 2 f1), (h3, aZ Y 80 f3), (h4, aB Y 1600 f4), (h5, aI Y 200 f13), (h6, aI Y 800 f14)] sz) cX12_press 2 RX12 (some .int) := B
    refine V_aload_n 0 B dX12_press_0 0 rfl ?_
    refine V_iconst 1 B (v := 0) dX12_press_1 (by decide +kernel) ?_
    refine V_put 2 B gp_RX12_38 0 rfl (Nat.le_of_ble_eq_true rfl) rfl rfl dX12_press_2 [(h0, oC 13 [.ref h1, .ref h2, .int 0, .ref h3, .ref h4, .int (nI k5), .int (nI k6), .int p7, .int p8, .int p9, .int (nI k10), .int p11, .long q12, .ref h5, .ref h6, .int (nI k15), .int (nI k16)]), (h1, aI Y 3640 f0), (h2, aZ Y 2 f1), (h3, aZ Y 80 f3), (h4, aB Y 1600 f4), (h5, aI Y 200 f13), (h6, aI Y 800 f14)] rfl ?_
    refine V_aload_n 5 B dX12_press_5 0 rfl ?_
    refine V_iload_n 6 B dX12_press_6 1 rfl ?_
    refine V_csi 7 B (st := [.ref h0]) (As := [.int s0]) (fun sz => rX12_isKey l D Y s0 sz) glS_RX12_204 ⟨rfl, rfl⟩ ⟨(Nat.le_of_ble_eq_true rfl), (Nat.le_of_ble_eq_true rfl)⟩ ⟨(Nat.le_of_ble_eq_true rfl), (Nat.le_of_ble_eq_true rfl)⟩ [] rfl rfl (Nat.le_of_ble_eq_true rfl) rfl (fun _ _ _ => rfl) dX12_press_7 (fun j0 u1 w2 => ?_)
    refine V_ws [(h0, oC 13 [.ref h1, .ref h2, .int 0, .ref h3, .ref h4, .int (nI k5), .int (nI k6), .int p7, .int p8, .int p9, .int (nI k10), .int p11, .long q12, .ref h5, .ref h6, .int (nI k15), .int (nI k16)]), (h1, aI Y 3640 f0), (h2, aZ Y 2 f1), (h3, aZ Y 80 f3), (h4, aB Y 1600 f4), (h5, aI Y 200 f13), (h6, aI Y 800 f14)] rfl ?_
    have x3 := w2
    clear w2
    rcases x3 with rfl | ⟨rfl, n4, rfl, x5⟩
    ·
      refine V_if_ne_f 10 B 17 dX12_press_10 (by decide) (by decide +kernel) ?_
      refine V_iconst 13 B (v := 1) dX12_press_13 (by decide +kernel) ?_
      refine V_goto 14 B 18 dX12_press_14 (by decide) ?_
      refine V_iconst 18 B (v := 1) dX12_press_18 (by decide +kernel) ?_
      refine V_cvi 19 B (st := []) (As := [.int 1, .int 1]) (fun sz => rX12_throwsIf_1 l D Y h0 h1 h2 h3 h4 h5 h6 0 k5 k6 p7 p8 p9 k10 p11 q12 k15 k16 f0 f1 f3 f4 f13 f14 ph HI (by omega) HP 1 sz) glV_RX12_69 ⟨rfl, rfl⟩ ⟨(Nat.le_of_ble_eq_true rfl), (Nat.le_of_ble_eq_true rfl)⟩ ⟨(Nat.le_of_ble_eq_true rfl), (Nat.le_of_ble_eq_true rfl)⟩ [0, 0, 0, 0, 0, 0, 0] rfl 13 0 rfl rfl rfl rfl (Nat.le_of_ble_eq_true rfl) rfl (fun _ _ _ => rfl) dX12_press_19 (fun j7 u8 w9 => ?_)
      refine V_ws [(h0, oC 13 [.ref h1, .ref h2, .int (u8.2.1 0), .ref h3, .ref h4, .int (nI k5), .int (nI k6), .int p7, .int p8, .int p9, .int (nI k10), .int p11, .long q12, .ref h5, .ref h6, .int (nI k15), .int (nI k16)]), (h1, aI Y 3640 f0), (h2, aZ Y 2 f1), (h3, aZ Y 80 f3), (h4, aB Y 1600 f4), (h5, aI Y 200 f13), (h6, aI Y 800 f14)] rfl ?_
      have x10 := w9
      clear w9
      obtain rfl := x10
      refine V_if_eq_f 22 B 29 dX12_press_22 (by decide) (by decide +kernel) ?_
      refine V_iconst 25 B (v := 0) dX12_press_25 (by decide +kernel) ?_
      refine V_goto 26 B 34 dX12_press_26 (by decide) ?_
      exact V_iret 34 B dX12_press_34 (mkW [] [(u8.2.1 0)] [] [f0] [] []) HI rfl
    ·
      have e11 := nI_toInt (show n4 < 2 ^ 31 by omega)
      refine V_if_ne_t 10 B 17 dX12_press_10 (by decide) (by decide +kernel) ?_
      refine V_iconst 17 B (v := 0) dX12_press_17 (by decide +kernel) ?_
      refine V_iconst 18 B (v := 1) dX12_press_18 (by decide +kernel) ?_
      refine V_cvi 19 B (st := []) (As := [.int 0, .int 1]) (fun sz => rX12_throwsIf_0 l D Y h0 h1 h2 h3 h4 h5 h6 0 k5 k6 p7 p8 p9 k10 p11 q12 k15 k16 f0 f1 f3 f4 f13 f14 ph HI (by omega) HP 1 sz) glV_RX12_69 ⟨rfl, rfl⟩ ⟨(Nat.le_of_ble_eq_true rfl), (Nat.le_of_ble_eq_true rfl)⟩ ⟨(Nat.le_of_ble_eq_true rfl), (Nat.le_of_ble_eq_true rfl)⟩ [0, 0, 0, 0, 0, 0, 0] rfl 13 0 rfl rfl rfl rfl (Nat.le_of_ble_eq_true rfl) rfl (fun _ _ _ => rfl) dX12_press_19 (fun j12 u13 w14 => ?_)
      refine V_ws [(h0, oC 13 [.ref h1, .ref h2, .int (u13.2.1 0), .ref h3, .ref h4, .int (nI k5), .int (nI k6), .int p7, .int p8, .int p9, .int (nI k10), .int p11, .long q12, .ref h5, .ref h6, .int (nI k15), .int (nI k16)]), (h1, aI Y 3640 f0), (h2, aZ Y 2 f1), (h3, aZ Y 80 f3), (h4, aB Y 1600 f4), (h5, aI Y 200 f13), (h6, aI Y 800 f14)] rfl ?_
      have x15 := w14
      clear w14
      obtain rfl := x15
      refine V_if_eq_t 22 B 29 dX12_press_22 (by decide) (by decide +kernel) ?_
      refine V_aload_n 29 B dX12_press_29 0 rfl ?_
      refine V_iload_n 30 B dX12_press_30 1 rfl ?_
      refine V_cvi 31 B (st := []) (As := [.int (nI n4)]) (fun sz => rX12_pressed l D Y h0 h1 h2 h3 h4 h5 h6 (u13.2.1 0) k5 k6 p7 p8 p9 k10 p11 q12 k15 k16 f0 f1 f3 f4 f13 f14 ph HI (by omega) HP n4 (by omega) sz) glV_RX12_221 ⟨rfl, rfl⟩ ⟨(Nat.le_of_ble_eq_true rfl), (Nat.le_of_ble_eq_true rfl)⟩ ⟨(Nat.le_of_ble_eq_true rfl), (Nat.le_of_ble_eq_true rfl)⟩ [0, 0, 0, 0, 0, 0, 0] rfl 13 0 rfl rfl rfl rfl (Nat.le_of_ble_eq_true rfl) rfl (fun _ _ _ => rfl) dX12_press_31 (fun j16 u17 w18 => ?_)
      refine V_ws [(h0, oC 13 [.ref h1, .ref h2, .int (u13.2.1 0), .ref h3, .ref h4, .int (nI k5), .int (nI k6), .int p7, .int p8, .int p9, .int (nI k10), .int p11, .long q12, .ref h5, .ref h6, .int (nI k15), .int (nI k16)]), (h1, aI Y 3640 (u17.2.2.2.1 0)), (h2, aZ Y 2 f1), (h3, aZ Y 80 f3), (h4, aB Y 1600 f4), (h5, aI Y 200 f13), (h6, aI Y 800 f14)] rfl ?_
      have x19 := w18
      clear w18
      exact V_iret 34 B dX12_press_34 (mkW [] [(u13.2.1 0)] [] [(u17.2.2.2.1 0)] [] []) x19 rfl)
theorem dX12_release_0 : decode cX12_release 0 = .ok (.aload_n 0, 1) := by decide +kernel
theorem dX12_release_1 : decode cX12_release 1 = .ok (.iconst 0, 1) := by decide +kernel
theorem dX12_release_2 : decode cX12_release 2 = .ok (.putfield 38, 3) := by decide +kernel
theorem dX12_release_5 : decode cX12_release 5 = .ok (.aload_n 0, 1) := by decide +kernel
theorem dX12_release_6 : decode cX12_release 6 = .ok (.iload_n 1, 1) := by decide +kernel
theorem dX12_release_7 : decode cX12_release 7 = .ok (.invokestatic 204, 3) := by decide +kernel
theorem dX12_release_10 : decode cX12_release 10 = .ok (.ifCond .ne 7, 3) := by decide +kernel
theorem dX12_release_13 : decode cX12_release 13 = .ok (.iconst 1, 1) := by decide +kernel
theorem dX12_release_14 : decode cX12_release 14 = .ok (.goto 4, 3) := by decide +kernel
theorem dX12_release_18 : decode cX12_release 18 = .ok (.iconst 1, 1) := by decide +kernel
theorem dX12_release_19 : decode cX12_release 19 = .ok (.invokevirtual 69, 3) := by decide +kernel
theorem dX12_release_22 : decode cX12_release 22 = .ok (.ifCond .eq 5, 3) := by decide +kernel
theorem dX12_release_25 : decode cX12_release 25 = .ok (.iconst 0, 1) := by decide +kernel
theorem dX12_release_26 : decode cX12_release 26 = .ok (.ireturn, 1) := by decide +kernel
theorem dX12_release_17 : decode cX12_release 17 = .ok (.iconst 0, 1) := by decide +kernel
theorem dX12_release_27 : decode cX12_release 27 = .ok (.aload_n 0, 1) := by decide +kernel
theorem dX12_release_28 : decode cX12_release 28 = .ok (.iload_n 1, 1) := by decide +kernel
theorem dX12_release_29 : decode cX12_release 29 = .ok (.invokevirtual 209, 3) := by decide +kernel
theorem dX12_release_32 : decode cX12_release 32 = .ok (.istore_n 2, 1) := by decide +kernel
theorem dX12_release_33 : decode cX12_release 33 = .ok (.iload_n 2, 1) := by decide +kernel
theorem dX12_release_34 : decode cX12_release 34 = .ok (.iconst (-1), 1) := by decide +kernel
theorem dX12_release_35 : decode cX12_release 35 = .ok (.if_icmp .eq 12, 3) := by decide +kernel
theorem dX12_release_47 : decode cX12_release 47 = .ok (.iconst 0, 1) := by decide +kernel
theorem dX12_release_48 : decode cX12_release 48 = .ok (.ireturn, 1) := by decide +kernel
theorem dX12_release_38 : decode cX12_release 38 = .ok (.aload_n 0, 1) := by decide +kernel
theorem dX12_release_39 : decode cX12_release 39 = .ok (.iload_n 2, 1) := by decide +kernel
theorem dX12_release_40 : decode cX12_release 40 = .ok (.iconst 1, 1) := by decide +kernel
theorem dX12_release_41 : decode cX12_release 41 = .ok (.invokevirtual 193, 3) := by decide +kernel
theorem dX12_release_44 : decode cX12_release 44 = .ok (.ifCond .ne 5, 3) := by decide +kernel
theorem dX12_release_49 : decode cX12_release 49 = .ok (.aload_n 0, 1) := by decide +kernel
theorem dX12_release_50 : decode cX12_release 50 = .ok (.getfield 9, 3) := by decide +kernel
theorem dX12_release_53 : decode cX12_release 53 = .ok (.sipush 744, 3) := by decide +kernel
theorem dX12_release_56 : decode cX12_release 56 = .ok (.bipush 28, 2) := by decide +kernel
theorem dX12_release_58 : decode cX12_release 58 = .ok (.iload_n 2, 1) := by decide +kernel
theorem dX12_release_59 : decode cX12_release 59 = .ok (.imul, 1) := by decide +kernel
theorem dX12_release_60 : decode cX12_release 60 = .ok (.iadd, 1) := by decide +kernel
theorem dX12_release_61 : decode cX12_release 61 = .ok (.iconst 1, 1) := by decide +kernel
theorem dX12_release_62 : decode cX12_release 62 = .ok (.iadd, 1) := by decide +kernel
theorem dX12_release_63 : decode cX12_release 63 = .ok (.iconst 0, 1) := by decide +kernel
theorem dX12_release_64 : decode cX12_release 64 = .ok (.iastore, 1) := by decide +kernel
theorem dX12_release_65 : decode cX12_release 65 = .ok (.iconst 1, 1) := by decide +kernel
theorem dX12_release_66 : decode cX12_release 66 = .ok (.ireturn, 1) := by decide +kernel
set_option maxRecDepth 100000 in
set_option maxHeartbeats 4000000 in
theorem rX12_release (l : Launch) (D : va_G) (Y : Nat → ClassId) (h0 : Nat) (h1 : Nat) (h2 : Nat) (h3 : Nat) (h4 : Nat) (h5 : Nat) (h6 : Nat) (p2 : Int32) (k5 : Nat) (k6 : Nat) (p7 : Int32) (p8 : Int32) (p9 : Int32) (k10 : Nat) (p11 : Int32) (q12 : Int64) (k15 : Nat) (k16 : Nat) (f0 : Nat → Int32) (f1 : Nat → Int32) (f3 : Nat → Int32) (f4 : Nat → Int32) (f13 : Nat → Int32) (f14 : Nat → Int32) (ph : Nat → Int32) (HI : INV ph f0) (HL : k5 ≤ 1600) (HP : PLV f13) (s0 : Int32)  (sz : Nat) : Met l yX12_release (WSm yX12_release cX12_release 3 (some .boolean)) (mkR 2 0 0 45) (PreC D Y [.ref h0, .int s0] [(h0, oC 13 [.ref h1, .ref h2, .int p2, .ref h3, .ref h4, .int (nI k5), .int (nI k6), .int p7, .int p8, .int p9, .int (nI k10), .int p11, .long q12, .ref h5, .ref h6, .int (nI k15), .int (nI k16)]), (h1, aI Y 3640 f0), (h2, aZ Y 2 f1), (h3, aZ Y 80 f3), (h4, aB Y 1600 f4), (h5, aI Y 200 f13), (h6, aI Y 800 f14)] sz) (QI D (fun (r : Int32) (u : WU) => (r = 0 ∨ r = 1) ∧ INV ph (u.2.2.2.1 0)) (fun (u : WU) => [(h0, oC 13 [.ref h1, .ref h2, .int (u.2.1 0), .ref h3, .ref h4, .int (nI k5), .int (nI k6), .int p7, .int p8, .int p9, .int (nI k10), .int p11, .long q12, .ref h5, .ref h6, .int (nI k15), .int (nI k16)]), (h1, aI Y 3640 (u.2.2.2.1 0)), (h2, aZ Y 2 f1), (h3, aZ Y 80 f3), (h4, aB Y 1600 f4), (h5, aI Y 200 f13), (h6, aI Y 800 f14)]) (va_A [(h0, oC 13 [.ref h1, .ref h2, .int p2, .ref h3, .ref h4, .int (nI k5), .int (nI k6), .int p7, .int p8, .int p9, .int (nI k10), .int p11, .long q12, .ref h5, .ref h6, .int (nI k15), .int (nI k16)]), (h1, aI Y 3640 f0), (h2, aZ Y 2 f1), (h3, aZ Y 80 f3), (h4, aB Y 1600 f4), (h5, aI Y 200 f13), (h6, aI Y 800 f14)] sz)) 0 0 (va_A [(h0, oC 13 [.ref h1, .ref h2, .int p2, .ref h3, .ref h4, .int (nI k5), .int (nI k6), .int p7, .int p8, .int p9, .int (nI k10), .int p11, .long q12, .ref h5, .ref h6, .int (nI k15), .int (nI k16)]), (h1, aI Y 3640 f0), (h2, aZ Y 2 f1), (h3, aZ Y 80 f3), (h4, aB Y 1600 f4), (h5, aI Y 200 f13), (h6, aI Y 800 f14)] sz) :=
  met_of  (by decide +kernel) (Nat.le_of_ble_eq_true rfl) (fun p e s m args below meth c B hin hsz => by
    have B : VB p s m args meth c D Y (va_A [(h0, oC 13 [.ref h1, .ref h2, .int p2, .ref h3, .ref h4, .int (nI k5), .int (nI k6), .int p7, .int p8, .int p9, .int (nI k10), .int p11, .long q12, .ref h5, .ref h6, .int (nI k15), .int (nI k16)]), (h1, aI Y 3640 f0), (h2, aZ Y 2 f1), (h3, aZ Y 80 f3), (h4, aB Y 1600 f4), (h5, aI Y 200 f13), (h6, aI Y 800 f14)] sz) cX12_release 3 RX12 (some .boolean) := B
    refine V_aload_n 0 B dX12_release_0 0 rfl ?_
    refine V_iconst 1 B (v := 0) dX12_release_1 (by decide +kernel) ?_
    refine V_put 2 B gp_RX12_38 0 rfl (Nat.le_of_ble_eq_true rfl) rfl rfl dX12_release_2 [(h0, oC 13 [.ref h1, .ref h2, .int 0, .ref h3, .ref h4, .int (nI k5), .int (nI k6), .int p7, .int p8, .int p9, .int (nI k10), .int p11, .long q12, .ref h5, .ref h6, .int (nI k15), .int (nI k16)]), (h1, aI Y 3640 f0), (h2, aZ Y 2 f1), (h3, aZ Y 80 f3), (h4, aB Y 1600 f4), (h5, aI Y 200 f13), (h6, aI Y 800 f14)] rfl ?_
    refine V_aload_n 5 B dX12_release_5 0 rfl ?_
    refine V_iload_n 6 B dX12_release_6 1 rfl ?_
    refine V_csi 7 B (st := [.ref h0]) (As := [.int s0]) (fun sz => rX12_isKey l D Y s0 sz) glS_RX12_204 ⟨rfl, rfl⟩ ⟨(Nat.le_of_ble_eq_true rfl), (Nat.le_of_ble_eq_true rfl)⟩ ⟨(Nat.le_of_ble_eq_true rfl), (Nat.le_of_ble_eq_true rfl)⟩ [] rfl rfl (Nat.le_of_ble_eq_true rfl) rfl (fun _ _ _ => rfl) dX12_release_7 (fun j0 u1 w2 => ?_)
    refine V_ws [(h0, oC 13 [.ref h1, .ref h2, .int 0, .ref h3, .ref h4, .int (nI k5), .int (nI k6), .int p7, .int p8, .int p9, .int (nI k10), .int p11, .long q12, .ref h5, .ref h6, .int (nI k15), .int (nI k16)]), (h1, aI Y 3640 f0), (h2, aZ Y 2 f1), (h3, aZ Y 80 f3), (h4, aB Y 1600 f4), (h5, aI Y 200 f13), (h6, aI Y 800 f14)] rfl ?_
    have x3 := w2
    clear w2
    rcases x3 with rfl | ⟨rfl, n4, rfl, x5⟩
    ·
      refine V_if_ne_f 10 B 17 dX12_release_10 (by decide) (by decide +kernel) ?_
      refine V_iconst 13 B (v := 1) dX12_release_13 (by decide +kernel) ?_
      refine V_goto 14 B 18 dX12_release_14 (by decide) ?_
      refine V_iconst 18 B (v := 1) dX12_release_18 (by decide +kernel) ?_
      refine V_cvi 19 B (st := []) (As := [.int 1, .int 1]) (fun sz => rX12_throwsIf_1 l D Y h0 h1 h2 h3 h4 h5 h6 0 k5 k6 p7 p8 p9 k10 p11 q12 k15 k16 f0 f1 f3 f4 f13 f14 ph HI (by omega) HP 1 sz) glV_RX12_69 ⟨rfl, rfl⟩ ⟨(Nat.le_of_ble_eq_true rfl), (Nat.le_of_ble_eq_true rfl)⟩ ⟨(Nat.le_of_ble_eq_true rfl), (Nat.le_of_ble_eq_true rfl)⟩ [0, 0, 0, 0, 0, 0, 0] rfl 13 0 rfl rfl rfl rfl (Nat.le_of_ble_eq_true rfl) rfl (fun _ _ _ => rfl) dX12_release_19 (fun j7 u8 w9 => ?_)
      refine V_ws [(h0, oC 13 [.ref h1, .ref h2, .int (u8.2.1 0), .ref h3, .ref h4, .int (nI k5), .int (nI k6), .int p7, .int p8, .int p9, .int (nI k10), .int p11, .long q12, .ref h5, .ref h6, .int (nI k15), .int (nI k16)]), (h1, aI Y 3640 f0), (h2, aZ Y 2 f1), (h3, aZ Y 80 f3), (h4, aB Y 1600 f4), (h5, aI Y 200 f13), (h6, aI Y 800 f14)] rfl ?_
      have x10 := w9
      clear w9
      obtain rfl := x10
      refine V_if_eq_f 22 B 27 dX12_release_22 (by decide) (by decide +kernel) ?_
      refine V_iconst 25 B (v := 0) dX12_release_25 (by decide +kernel) ?_
      exact V_zret 26 B rfl dX12_release_26 (mkW [] [(u8.2.1 0)] [] [f0] [] []) ⟨(Or.inl rfl), HI⟩ rfl
    ·
      have e11 := nI_toInt (show n4 < 2 ^ 31 by omega)
      refine V_if_ne_t 10 B 17 dX12_release_10 (by decide) (by decide +kernel) ?_
      refine V_iconst 17 B (v := 0) dX12_release_17 (by decide +kernel) ?_
      refine V_iconst 18 B (v := 1) dX12_release_18 (by decide +kernel) ?_
      refine V_cvi 19 B (st := []) (As := [.int 0, .int 1]) (fun sz => rX12_throwsIf_0 l D Y h0 h1 h2 h3 h4 h5 h6 0 k5 k6 p7 p8 p9 k10 p11 q12 k15 k16 f0 f1 f3 f4 f13 f14 ph HI (by omega) HP 1 sz) glV_RX12_69 ⟨rfl, rfl⟩ ⟨(Nat.le_of_ble_eq_true rfl), (Nat.le_of_ble_eq_true rfl)⟩ ⟨(Nat.le_of_ble_eq_true rfl), (Nat.le_of_ble_eq_true rfl)⟩ [0, 0, 0, 0, 0, 0, 0] rfl 13 0 rfl rfl rfl rfl (Nat.le_of_ble_eq_true rfl) rfl (fun _ _ _ => rfl) dX12_release_19 (fun j12 u13 w14 => ?_)
      refine V_ws [(h0, oC 13 [.ref h1, .ref h2, .int (u13.2.1 0), .ref h3, .ref h4, .int (nI k5), .int (nI k6), .int p7, .int p8, .int p9, .int (nI k10), .int p11, .long q12, .ref h5, .ref h6, .int (nI k15), .int (nI k16)]), (h1, aI Y 3640 f0), (h2, aZ Y 2 f1), (h3, aZ Y 80 f3), (h4, aB Y 1600 f4), (h5, aI Y 200 f13), (h6, aI Y 800 f14)] rfl ?_
      have x15 := w14
      clear w14
      obtain rfl := x15
      refine V_if_eq_t 22 B 27 dX12_release_22 (by decide) (by decide +kernel) ?_
      refine V_aload_n 27 B dX12_release_27 0 rfl ?_
      refine V_iload_n 28 B dX12_release_28 1 rfl ?_
      refine V_cvi 29 B (st := []) (As := [.int (nI n4)]) (fun sz => rX12_layerOf l D Y h0 h1 h2 h3 h4 h5 h6 (u13.2.1 0) k5 k6 p7 p8 p9 k10 p11 q12 k15 k16 f0 f1 f3 f4 f13 f14 ph HI (by omega) HP (nI n4) sz) glV_RX12_209 ⟨rfl, rfl⟩ ⟨(Nat.le_of_ble_eq_true rfl), (Nat.le_of_ble_eq_true rfl)⟩ ⟨(Nat.le_of_ble_eq_true rfl), (Nat.le_of_ble_eq_true rfl)⟩ [0, 0, 0, 0, 0, 0, 0] rfl 13 0 rfl rfl rfl rfl (Nat.le_of_ble_eq_true rfl) rfl (fun _ _ _ => rfl) dX12_release_29 (fun j16 u17 w18 => ?_)
      refine V_ws [(h0, oC 13 [.ref h1, .ref h2, .int (u13.2.1 0), .ref h3, .ref h4, .int (nI k5), .int (nI k6), .int p7, .int p8, .int p9, .int (nI k10), .int p11, .long q12, .ref h5, .ref h6, .int (nI k15), .int (nI k16)]), (h1, aI Y 3640 f0), (h2, aZ Y 2 f1), (h3, aZ Y 80 f3), (h4, aB Y 1600 f4), (h5, aI Y 200 f13), (h6, aI Y 800 f14)] rfl ?_
      have x19 := w18
      clear w18
      have x22 : (gN f0 4) ≤ 4 := gN_le HI (by omega) (show bd 4 = (0, ((4 : Nat) : Int)) by decide +kernel)
      rcases x19 with rfl | ⟨n20, rfl, x21⟩
      ·
        refine V_istore_n 32 B (lv2 := [(2, .int (-1)), (0, .ref h0), (1, .int (nI n4))]) dX12_release_32 (by decide) rfl ?_
        refine V_iload_n 33 B dX12_release_33 0 rfl ?_
        refine V_iconst 34 B (v := (-1)) dX12_release_34 (by decide +kernel) ?_
        refine V_icmp_eq_t 35 B 47 dX12_release_35 (by decide) (by decide +kernel) ?_
        refine V_iconst 47 B (v := 0) dX12_release_47 (by decide +kernel) ?_
        exact V_zret 48 B rfl dX12_release_48 (mkW [] [(u13.2.1 0)] [] [f0] [] []) ⟨(Or.inl rfl), HI⟩ rfl
      ·
        refine V_istore_n 32 B (lv2 := [(2, .int (nI n20)), (0, .ref h0), (1, .int (nI n4))]) dX12_release_32 (by decide) rfl ?_
        refine V_iload_n 33 B dX12_release_33 0 rfl ?_
        refine V_iconst 34 B (v := (-1)) dX12_release_34 (by decide +kernel) ?_
        refine V_icmp_eq_f 35 B 47 dX12_release_35 (by decide) (fun z => by have z2 := x_eq z; rw [nI_toInt (show n20 < 2 ^ 31 by omega), show ((-1) : Int32).toInt = (-1) by decide +kernel] at z2; omega) ?_
        refine V_aload_n 38 B dX12_release_38 1 rfl ?_
        refine V_iload_n 39 B dX12_release_39 0 rfl ?_
        refine V_iconst 40 B (v := 1) dX12_release_40 (by decide +kernel) ?_
        refine V_cvi 41 B (st := []) (As := [.int (nI n20), .int 1]) (fun sz => rX12_ofLayer l D Y h0 h1 h2 h3 h4 h5 h6 (u13.2.1 0) k5 k6 p7 p8 p9 k10 p11 q12 k15 k16 f0 f1 f3 f4 f13 f14 ph HI (by omega) HP n20 1 (by omega) (by omega) sz) glV_RX12_193 ⟨rfl, rfl⟩ ⟨(Nat.le_of_ble_eq_true rfl), (Nat.le_of_ble_eq_true rfl)⟩ ⟨(Nat.le_of_ble_eq_true rfl), (Nat.le_of_ble_eq_true rfl)⟩ [0, 0, 0, 0, 0, 0, 0] rfl 13 0 rfl rfl rfl rfl (Nat.le_of_ble_eq_true rfl) rfl (fun _ _ _ => rfl) dX12_release_41 (fun j24 u25 w26 => ?_)
        refine V_ws [(h0, oC 13 [.ref h1, .ref h2, .int (u13.2.1 0), .ref h3, .ref h4, .int (nI k5), .int (nI k6), .int p7, .int p8, .int p9, .int (nI k10), .int p11, .long q12, .ref h5, .ref h6, .int (nI k15), .int (nI k16)]), (h1, aI Y 3640 f0), (h2, aZ Y 2 f1), (h3, aZ Y 80 f3), (h4, aB Y 1600 f4), (h5, aI Y 200 f13), (h6, aI Y 800 f14)] rfl ?_
        refine V_if_ne 44 B 49 dX12_release_44 (by decide) (fun kk27 => ?_) (fun kk27 => ?_)
        ·
          have x28 := x_ne kk27
          rw [show (0 : Int32).toInt = 0 by decide +kernel] at x28
          refine V_aload_n 49 B dX12_release_49 1 rfl ?_
          refine V_get 50 B gf_RX12_9 0 rfl rfl dX12_release_50 ?_
          refine V_sipush 53 B (v := 744) dX12_release_53 (by decide +kernel) ?_
          refine V_bipush 56 B (v := 28) dX12_release_56 (by decide +kernel) ?_
          refine V_iload_n 58 B dX12_release_58 0 rfl ?_
          refine V_imul 59 B (v := (nI (28 * n20))) dX12_release_59 (nI_mulE (a := 28) (b := n20) (by omega)) ?_
          refine V_iadd 60 B (v := (nI (744 + 28 * n20))) dX12_release_60 (nI_addE (a := 744) (b := 28 * n20) (by omega)) ?_
          refine V_iconst 61 B (v := 1) dX12_release_61 (by decide +kernel) ?_
          refine V_iadd 62 B (v := (nI (745 + 28 * n20))) dX12_release_62 (nI_addE (a := 744 + 28 * n20) (b := 1) (by omega)) ?_
          refine V_iconst 63 B (v := 0) dX12_release_63 (by decide +kernel) ?_
          have hv29 : INV ph (upd f0 (745 + 28 * n20) 0) := INV_free HI (rl22 n20 (by omega))
          refine V_iast 64 B 1 rfl (vp_in_nI (n := 745 + 28 * n20) (by omega) (by decide)) dX12_release_64 [(h0, oC 13 [.ref h1, .ref h2, .int (u13.2.1 0), .ref h3, .ref h4, .int (nI k5), .int (nI k6), .int p7, .int p8, .int p9, .int (nI k10), .int p11, .long q12, .ref h5, .ref h6, .int (nI k15), .int (nI k16)]), (h1, aI Y 3640 (upd f0 (745 + 28 * n20) 0)), (h2, aZ Y 2 f1), (h3, aZ Y 80 f3), (h4, aB Y 1600 f4), (h5, aI Y 200 f13), (h6, aI Y 800 f14)] (by rw [nI_clamp (show 745 + 28 * n20 < 2 ^ 31 by omega)]; rfl) ?_
          refine V_iconst 65 B (v := 1) dX12_release_65 (by decide +kernel) ?_
          exact V_zret 66 B rfl dX12_release_66 (mkW [] [(u13.2.1 0)] [] [(upd f0 (745 + 28 * n20) 0)] [] []) ⟨(Or.inr rfl), hv29⟩ rfl
        ·
          obtain rfl : j24 = 0 := kk27
          have e31 : (0 : Int32).toInt = 0 := by decide +kernel
          refine V_iconst 47 B (v := 0) dX12_release_47 (by decide +kernel) ?_
          exact V_zret 48 B rfl dX12_release_48 (mkW [] [(u13.2.1 0)] [] [f0] [] []) ⟨(Or.inl rfl), HI⟩ rfl)
theorem dX12_type_0 : decode cX12_type 0 = .ok (.aload_n 0, 1) := by decide +kernel
theorem dX12_type_1 : decode cX12_type 1 = .ok (.iconst 0, 1) := by decide +kernel
theorem dX12_type_2 : decode cX12_type 2 = .ok (.putfield 38, 3) := by decide +kernel
theorem dX12_type_5 : decode cX12_type 5 = .ok (.aload_n 0, 1) := by decide +kernel
theorem dX12_type_6 : decode cX12_type 6 = .ok (.iload_n 1, 1) := by decide +kernel
theorem dX12_type_7 : decode cX12_type 7 = .ok (.invokestatic 65, 3) := by decide +kernel
theorem dX12_type_10 : decode cX12_type 10 = .ok (.ifCond .ne 7, 3) := by decide +kernel
theorem dX12_type_13 : decode cX12_type 13 = .ok (.iconst 1, 1) := by decide +kernel
theorem dX12_type_14 : decode cX12_type 14 = .ok (.goto 4, 3) := by decide +kernel
theorem dX12_type_18 : decode cX12_type 18 = .ok (.iconst 1, 1) := by decide +kernel
theorem dX12_type_19 : decode cX12_type 19 = .ok (.invokevirtual 69, 3) := by decide +kernel
theorem dX12_type_22 : decode cX12_type 22 = .ok (.ifCond .eq 7, 3) := by decide +kernel
theorem dX12_type_25 : decode cX12_type 25 = .ok (.iconst 0, 1) := by decide +kernel
theorem dX12_type_26 : decode cX12_type 26 = .ok (.goto 8, 3) := by decide +kernel
theorem dX12_type_34 : decode cX12_type 34 = .ok (.ireturn, 1) := by decide +kernel
theorem dX12_type_17 : decode cX12_type 17 = .ok (.iconst 0, 1) := by decide +kernel
theorem dX12_type_29 : decode cX12_type 29 = .ok (.aload_n 0, 1) := by decide +kernel
theorem dX12_type_30 : decode cX12_type 30 = .ok (.iload_n 1, 1) := by decide +kernel
theorem dX12_type_31 : decode cX12_type 31 = .ok (.invokevirtual 218, 3) := by decide +kernel
set_option maxRecDepth 100000 in
set_option maxHeartbeats 4000000 in
theorem rX12_type (l : Launch) (D : va_G) (Y : Nat → ClassId) (h0 : Nat) (h1 : Nat) (h2 : Nat) (h3 : Nat) (h4 : Nat) (h5 : Nat) (h6 : Nat) (p2 : Int32) (k5 : Nat) (k6 : Nat) (p7 : Int32) (p8 : Int32) (p9 : Int32) (k10 : Nat) (p11 : Int32) (q12 : Int64) (k15 : Nat) (k16 : Nat) (f0 : Nat → Int32) (f1 : Nat → Int32) (f3 : Nat → Int32) (f4 : Nat → Int32) (f13 : Nat → Int32) (f14 : Nat → Int32) (ph : Nat → Int32) (HI : INV ph f0) (HL : k5 ≤ 1600) (HP : PLV f13) (s0 : Int32)  (sz : Nat) : Met l yX12_type (WSm yX12_type cX12_type 2 (some .int)) (mkR 7 0 0 161) (PreC D Y [.ref h0, .int s0] [(h0, oC 13 [.ref h1, .ref h2, .int p2, .ref h3, .ref h4, .int (nI k5), .int (nI k6), .int p7, .int p8, .int p9, .int (nI k10), .int p11, .long q12, .ref h5, .ref h6, .int (nI k15), .int (nI k16)]), (h1, aI Y 3640 f0), (h2, aZ Y 2 f1), (h3, aZ Y 80 f3), (h4, aB Y 1600 f4), (h5, aI Y 200 f13), (h6, aI Y 800 f14)] sz) (QI D (fun (r : Int32) (u : WU) => INV ph (u.2.2.2.1 0)) (fun (u : WU) => [(h0, oC 13 [.ref h1, .ref h2, .int (u.2.1 0), .ref h3, .ref h4, .int (nI k5), .int (nI k6), .int p7, .int p8, .int p9, .int (nI k10), .int p11, .long q12, .ref h5, .ref h6, .int (nI k15), .int (nI k16)]), (h1, aI Y 3640 (u.2.2.2.1 0)), (h2, aZ Y 2 f1), (h3, aZ Y 80 f3), (h4, aB Y 1600 f4), (h5, aI Y 200 f13), (h6, aI Y 800 f14)]) (va_A [(h0, oC 13 [.ref h1, .ref h2, .int p2, .ref h3, .ref h4, .int (nI k5), .int (nI k6), .int p7, .int p8, .int p9, .int (nI k10), .int p11, .long q12, .ref h5, .ref h6, .int (nI k15), .int (nI k16)]), (h1, aI Y 3640 f0), (h2, aZ Y 2 f1), (h3, aZ Y 80 f3), (h4, aB Y 1600 f4), (h5, aI Y 200 f13), (h6, aI Y 800 f14)] sz)) 0 0 (va_A [(h0, oC 13 [.ref h1, .ref h2, .int p2, .ref h3, .ref h4, .int (nI k5), .int (nI k6), .int p7, .int p8, .int p9, .int (nI k10), .int p11, .long q12, .ref h5, .ref h6, .int (nI k15), .int (nI k16)]), (h1, aI Y 3640 f0), (h2, aZ Y 2 f1), (h3, aZ Y 80 f3), (h4, aB Y 1600 f4), (h5, aI Y 200 f13), (h6, aI Y 800 f14)] sz) :=
  met_of  (by decide +kernel) (Nat.le_of_ble_eq_true rfl) (fun p e s m args below meth c B hin hsz => by
    have B : VB p s m args meth c D Y (va_A [(h0, oC 13 [.ref h1, .ref h2, .int p2, .ref h3, .ref h4, .int (nI k5), .int (nI k6), .int p7, .int p8, .int p9, .int (nI k10), .int p11, .long q12, .ref h5, .ref h6, .int (nI k15), .int (nI k16)]), (h1, aI Y 3640 f0), (h2, aZ Y 2 f1), (h3, aZ Y 80 f3), (h4, aB Y 1600 f4), (h5, aI Y 200 f13), (h6, aI Y 800 f14)] sz) cX12_type 2 RX12 (some .int) := B
    refine V_aload_n 0 B dX12_type_0 0 rfl ?_
    refine V_iconst 1 B (v := 0) dX12_type_1 (by decide +kernel) ?_
    refine V_put 2 B gp_RX12_38 0 rfl (Nat.le_of_ble_eq_true rfl) rfl rfl dX12_type_2 [(h0, oC 13 [.ref h1, .ref h2, .int 0, .ref h3, .ref h4, .int (nI k5), .int (nI k6), .int p7, .int p8, .int p9, .int (nI k10), .int p11, .long q12, .ref h5, .ref h6, .int (nI k15), .int (nI k16)]), (h1, aI Y 3640 f0), (h2, aZ Y 2 f1), (h3, aZ Y 80 f3), (h4, aB Y 1600 f4), (h5, aI Y 200 f13), (h6, aI Y 800 f14)] rfl ?_
    refine V_aload_n 5 B dX12_type_5 0 rfl ?_
    refine V_iload_n 6 B dX12_type_6 1 rfl ?_
    refine V_csi 7 B (st := [.ref h0]) (As := [.int s0]) (fun sz => rX12_isStroke l D Y s0 sz) glS_RX12_65 ⟨rfl, rfl⟩ ⟨(Nat.le_of_ble_eq_true rfl), (Nat.le_of_ble_eq_true rfl)⟩ ⟨(Nat.le_of_ble_eq_true rfl), (Nat.le_of_ble_eq_true rfl)⟩ [] rfl rfl (Nat.le_of_ble_eq_true rfl) rfl (fun _ _ _ => rfl) dX12_type_7 (fun j0 u1 w2 => ?_)
    refine V_ws [(h0, oC 13 [.ref h1, .ref h2, .int 0, .ref h3, .ref h4, .int (nI k5), .int (nI k6), .int p7, .int p8, .int p9, .int (nI k10), .int p11, .long q12, .ref h5, .ref h6, .int (nI k15), .int (nI k16)]), (h1, aI Y 3640 f0), (h2, aZ Y 2 f1), (h3, aZ Y 80 f3), (h4, aB Y 1600 f4), (h5, aI Y 200 f13), (h6, aI Y 800 f14)] rfl ?_
    have x3 := w2
    clear w2
    rcases x3 with rfl | rfl
    ·
      refine V_if_ne_f 10 B 17 dX12_type_10 (by decide) (by decide +kernel) ?_
      refine V_iconst 13 B (v := 1) dX12_type_13 (by decide +kernel) ?_
      refine V_goto 14 B 18 dX12_type_14 (by decide) ?_
      refine V_iconst 18 B (v := 1) dX12_type_18 (by decide +kernel) ?_
      refine V_cvi 19 B (st := []) (As := [.int 1, .int 1]) (fun sz => rX12_throwsIf_1 l D Y h0 h1 h2 h3 h4 h5 h6 0 k5 k6 p7 p8 p9 k10 p11 q12 k15 k16 f0 f1 f3 f4 f13 f14 ph HI (by omega) HP 1 sz) glV_RX12_69 ⟨rfl, rfl⟩ ⟨(Nat.le_of_ble_eq_true rfl), (Nat.le_of_ble_eq_true rfl)⟩ ⟨(Nat.le_of_ble_eq_true rfl), (Nat.le_of_ble_eq_true rfl)⟩ [0, 0, 0, 0, 0, 0, 0] rfl 13 0 rfl rfl rfl rfl (Nat.le_of_ble_eq_true rfl) rfl (fun _ _ _ => rfl) dX12_type_19 (fun j4 u5 w6 => ?_)
      refine V_ws [(h0, oC 13 [.ref h1, .ref h2, .int (u5.2.1 0), .ref h3, .ref h4, .int (nI k5), .int (nI k6), .int p7, .int p8, .int p9, .int (nI k10), .int p11, .long q12, .ref h5, .ref h6, .int (nI k15), .int (nI k16)]), (h1, aI Y 3640 f0), (h2, aZ Y 2 f1), (h3, aZ Y 80 f3), (h4, aB Y 1600 f4), (h5, aI Y 200 f13), (h6, aI Y 800 f14)] rfl ?_
      have x7 := w6
      clear w6
      obtain rfl := x7
      refine V_if_eq_f 22 B 29 dX12_type_22 (by decide) (by decide +kernel) ?_
      refine V_iconst 25 B (v := 0) dX12_type_25 (by decide +kernel) ?_
      refine V_goto 26 B 34 dX12_type_26 (by decide) ?_
      exact V_iret 34 B dX12_type_34 (mkW [] [(u5.2.1 0)] [] [f0] [] []) HI rfl
    ·
      refine V_if_ne_t 10 B 17 dX12_type_10 (by decide) (by decide +kernel) ?_
      refine V_iconst 17 B (v := 0) dX12_type_17 (by decide +kernel) ?_
      refine V_iconst 18 B (v := 1) dX12_type_18 (by decide +kernel) ?_
      refine V_cvi 19 B (st := []) (As := [.int 0, .int 1]) (fun sz => rX12_throwsIf_0 l D Y h0 h1 h2 h3 h4 h5 h6 0 k5 k6 p7 p8 p9 k10 p11 q12 k15 k16 f0 f1 f3 f4 f13 f14 ph HI (by omega) HP 1 sz) glV_RX12_69 ⟨rfl, rfl⟩ ⟨(Nat.le_of_ble_eq_true rfl), (Nat.le_of_ble_eq_true rfl)⟩ ⟨(Nat.le_of_ble_eq_true rfl), (Nat.le_of_ble_eq_true rfl)⟩ [0, 0, 0, 0, 0, 0, 0] rfl 13 0 rfl rfl rfl rfl (Nat.le_of_ble_eq_true rfl) rfl (fun _ _ _ => rfl) dX12_type_19 (fun j8 u9 w10 => ?_)
      refine V_ws [(h0, oC 13 [.ref h1, .ref h2, .int (u9.2.1 0), .ref h3, .ref h4, .int (nI k5), .int (nI k6), .int p7, .int p8, .int p9, .int (nI k10), .int p11, .long q12, .ref h5, .ref h6, .int (nI k15), .int (nI k16)]), (h1, aI Y 3640 f0), (h2, aZ Y 2 f1), (h3, aZ Y 80 f3), (h4, aB Y 1600 f4), (h5, aI Y 200 f13), (h6, aI Y 800 f14)] rfl ?_
      have x11 := w10
      clear w10
      obtain rfl := x11
      refine V_if_eq_t 22 B 29 dX12_type_22 (by decide) (by decide +kernel) ?_
      refine V_aload_n 29 B dX12_type_29 0 rfl ?_
      refine V_iload_n 30 B dX12_type_30 1 rfl ?_
      refine V_cvi 31 B (st := []) (As := [.int s0]) (fun sz => rX12_makes l D Y h0 h1 h2 h3 h4 h5 h6 (u9.2.1 0) k5 k6 p7 p8 p9 k10 p11 q12 k15 k16 f0 f1 f3 f4 f13 f14 ph HI (by omega) HP s0 sz) glV_RX12_218 ⟨rfl, rfl⟩ ⟨(Nat.le_of_ble_eq_true rfl), (Nat.le_of_ble_eq_true rfl)⟩ ⟨(Nat.le_of_ble_eq_true rfl), (Nat.le_of_ble_eq_true rfl)⟩ [0, 0, 0, 0, 0, 0, 0] rfl 13 0 rfl rfl rfl rfl (Nat.le_of_ble_eq_true rfl) rfl (fun _ _ _ => rfl) dX12_type_31 (fun j12 u13 w14 => ?_)
      refine V_ws [(h0, oC 13 [.ref h1, .ref h2, .int (u9.2.1 0), .ref h3, .ref h4, .int (nI k5), .int (nI k6), .int p7, .int p8, .int p9, .int (nI k10), .int p11, .long q12, .ref h5, .ref h6, .int (nI k15), .int (nI k16)]), (h1, aI Y 3640 (u13.2.2.2.1 0)), (h2, aZ Y 2 f1), (h3, aZ Y 80 f3), (h4, aB Y 1600 f4), (h5, aI Y 200 f13), (h6, aI Y 800 f14)] rfl ?_
      have x15 := w14
      clear w14
      exact V_iret 34 B dX12_type_34 (mkW [] [(u9.2.1 0)] [] [(u13.2.2.2.1 0)] [] []) x15 rfl)
theorem dX12_typeDraft_0 : decode cX12_typeDraft 0 = .ok (.aload_n 0, 1) := by decide +kernel
theorem dX12_typeDraft_1 : decode cX12_typeDraft 1 = .ok (.iconst 0, 1) := by decide +kernel
theorem dX12_typeDraft_2 : decode cX12_typeDraft 2 = .ok (.putfield 38, 3) := by decide +kernel
theorem dX12_typeDraft_5 : decode cX12_typeDraft 5 = .ok (.iconst 0, 1) := by decide +kernel
theorem dX12_typeDraft_6 : decode cX12_typeDraft 6 = .ok (.istore_n 1, 1) := by decide +kernel
theorem dX12_typeDraft_7 : decode cX12_typeDraft 7 = .ok (.iconst 1, 1) := by decide +kernel
theorem dX12_typeDraft_8 : decode cX12_typeDraft 8 = .ok (.istore_n 2, 1) := by decide +kernel
theorem dX12_typeDraft_9 : decode cX12_typeDraft 9 = .ok (.iload_n 2, 1) := by decide +kernel
theorem dX12_typeDraft_10 : decode cX12_typeDraft 10 = .ok (.aload_n 0, 1) := by decide +kernel
theorem dX12_typeDraft_11 : decode cX12_typeDraft 11 = .ok (.getfield 9, 3) := by decide +kernel
theorem dX12_typeDraft_14 : decode cX12_typeDraft 14 = .ok (.sipush 3624, 3) := by decide +kernel
theorem dX12_typeDraft_17 : decode cX12_typeDraft 17 = .ok (.iaload, 1) := by decide +kernel
theorem dX12_typeDraft_18 : decode cX12_typeDraft 18 = .ok (.if_icmp .gt 35, 3) := by decide +kernel
theorem dX12_typeDraft_53 : decode cX12_typeDraft 53 = .ok (.iload_n 1, 1) := by decide +kernel
theorem dX12_typeDraft_54 : decode cX12_typeDraft 54 = .ok (.ireturn, 1) := by decide +kernel
theorem dX12_typeDraft_21 : decode cX12_typeDraft 21 = .ok (.iload_n 1, 1) := by decide +kernel
theorem dX12_typeDraft_22 : decode cX12_typeDraft 22 = .ok (.aload_n 0, 1) := by decide +kernel
theorem dX12_typeDraft_23 : decode cX12_typeDraft 23 = .ok (.aload_n 0, 1) := by decide +kernel
theorem dX12_typeDraft_24 : decode cX12_typeDraft 24 = .ok (.getfield 9, 3) := by decide +kernel
theorem dX12_typeDraft_27 : decode cX12_typeDraft 27 = .ok (.sipush 3624, 3) := by decide +kernel
theorem dX12_typeDraft_30 : decode cX12_typeDraft 30 = .ok (.iload_n 2, 1) := by decide +kernel
theorem dX12_typeDraft_31 : decode cX12_typeDraft 31 = .ok (.iadd, 1) := by decide +kernel
theorem dX12_typeDraft_32 : decode cX12_typeDraft 32 = .ok (.iaload, 1) := by decide +kernel
theorem rl23 : ∀ z0, z0 < 5 → 1 ≤ z0 → bd (3624 + z0) = FREE := by decide +kernel
theorem dX12_typeDraft_33 : decode cX12_typeDraft 33 = .ok (.invokevirtual 218, 3) := by decide +kernel
theorem dX12_typeDraft_36 : decode cX12_typeDraft 36 = .ok (.iconst (-1), 1) := by decide +kernel
theorem dX12_typeDraft_37 : decode cX12_typeDraft 37 = .ok (.if_icmp .ne 7, 3) := by decide +kernel
theorem dX12_typeDraft_44 : decode cX12_typeDraft 44 = .ok (.iconst 1, 1) := by decide +kernel
theorem dX12_typeDraft_45 : decode cX12_typeDraft 45 = .ok (.iadd, 1) := by decide +kernel
theorem dX12_typeDraft_46 : decode cX12_typeDraft 46 = .ok (.istore_n 1, 1) := by decide +kernel
theorem dX12_typeDraft_47 : decode cX12_typeDraft 47 = .ok (.iinc 2 1, 3) := by decide +kernel
theorem dX12_typeDraft_50 : decode cX12_typeDraft 50 = .ok (.goto (-41), 3) := by decide +kernel
theorem dX12_typeDraft_40 : decode cX12_typeDraft 40 = .ok (.iconst 0, 1) := by decide +kernel
theorem dX12_typeDraft_41 : decode cX12_typeDraft 41 = .ok (.goto 4, 3) := by decide +kernel
set_option maxRecDepth 100000 in
set_option maxHeartbeats 4000000 in
theorem rX12_typeDraft (l : Launch) (D : va_G) (Y : Nat → ClassId) (h0 : Nat) (h1 : Nat) (h2 : Nat) (h3 : Nat) (h4 : Nat) (h5 : Nat) (h6 : Nat) (p2 : Int32) (k5 : Nat) (k6 : Nat) (p7 : Int32) (p8 : Int32) (p9 : Int32) (k10 : Nat) (p11 : Int32) (q12 : Int64) (k15 : Nat) (k16 : Nat) (f0 : Nat → Int32) (f1 : Nat → Int32) (f3 : Nat → Int32) (f4 : Nat → Int32) (f13 : Nat → Int32) (f14 : Nat → Int32) (ph : Nat → Int32) (HI : INV ph f0) (HL : k5 ≤ 1600) (HP : PLV f13)   (sz : Nat) : Met l yX12_typeDraft (WSm yX12_typeDraft cX12_typeDraft 3 (some .int)) (mkR 7 0 0 161) (PreC D Y [.ref h0] [(h0, oC 13 [.ref h1, .ref h2, .int p2, .ref h3, .ref h4, .int (nI k5), .int (nI k6), .int p7, .int p8, .int p9, .int (nI k10), .int p11, .long q12, .ref h5, .ref h6, .int (nI k15), .int (nI k16)]), (h1, aI Y 3640 f0), (h2, aZ Y 2 f1), (h3, aZ Y 80 f3), (h4, aB Y 1600 f4), (h5, aI Y 200 f13), (h6, aI Y 800 f14)] sz) (QI D (fun (r : Int32) (u : WU) => INV ph (u.2.2.2.1 0)) (fun (u : WU) => [(h0, oC 13 [.ref h1, .ref h2, .int (u.2.1 0), .ref h3, .ref h4, .int (nI k5), .int (nI k6), .int p7, .int p8, .int p9, .int (nI k10), .int p11, .long q12, .ref h5, .ref h6, .int (nI k15), .int (nI k16)]), (h1, aI Y 3640 (u.2.2.2.1 0)), (h2, aZ Y 2 f1), (h3, aZ Y 80 f3), (h4, aB Y 1600 f4), (h5, aI Y 200 f13), (h6, aI Y 800 f14)]) (va_A [(h0, oC 13 [.ref h1, .ref h2, .int p2, .ref h3, .ref h4, .int (nI k5), .int (nI k6), .int p7, .int p8, .int p9, .int (nI k10), .int p11, .long q12, .ref h5, .ref h6, .int (nI k15), .int (nI k16)]), (h1, aI Y 3640 f0), (h2, aZ Y 2 f1), (h3, aZ Y 80 f3), (h4, aB Y 1600 f4), (h5, aI Y 200 f13), (h6, aI Y 800 f14)] sz)) 0 0 (va_A [(h0, oC 13 [.ref h1, .ref h2, .int p2, .ref h3, .ref h4, .int (nI k5), .int (nI k6), .int p7, .int p8, .int p9, .int (nI k10), .int p11, .long q12, .ref h5, .ref h6, .int (nI k15), .int (nI k16)]), (h1, aI Y 3640 f0), (h2, aZ Y 2 f1), (h3, aZ Y 80 f3), (h4, aB Y 1600 f4), (h5, aI Y 200 f13), (h6, aI Y 800 f14)] sz) :=
  met_of  (by decide +kernel) (Nat.le_of_ble_eq_true rfl) (fun p e s m args below meth c B hin hsz => by
    have B : VB p s m args meth c D Y (va_A [(h0, oC 13 [.ref h1, .ref h2, .int p2, .ref h3, .ref h4, .int (nI k5), .int (nI k6), .int p7, .int p8, .int p9, .int (nI k10), .int p11, .long q12, .ref h5, .ref h6, .int (nI k15), .int (nI k16)]), (h1, aI Y 3640 f0), (h2, aZ Y 2 f1), (h3, aZ Y 80 f3), (h4, aB Y 1600 f4), (h5, aI Y 200 f13), (h6, aI Y 800 f14)] sz) cX12_typeDraft 3 RX12 (some .int) := B
    refine V_aload_n 0 B dX12_typeDraft_0 0 rfl ?_
    refine V_iconst 1 B (v := 0) dX12_typeDraft_1 (by decide +kernel) ?_
    refine V_put 2 B gp_RX12_38 0 rfl (Nat.le_of_ble_eq_true rfl) rfl rfl dX12_typeDraft_2 [(h0, oC 13 [.ref h1, .ref h2, .int 0, .ref h3, .ref h4, .int (nI k5), .int (nI k6), .int p7, .int p8, .int p9, .int (nI k10), .int p11, .long q12, .ref h5, .ref h6, .int (nI k15), .int (nI k16)]), (h1, aI Y 3640 f0), (h2, aZ Y 2 f1), (h3, aZ Y 80 f3), (h4, aB Y 1600 f4), (h5, aI Y 200 f13), (h6, aI Y 800 f14)] rfl ?_
    refine V_iconst 5 B (v := 0) dX12_typeDraft_5 (by decide +kernel) ?_
    refine V_istore_n 6 B (lv2 := [(1, .int 0), (0, .ref h0)]) dX12_typeDraft_6 (by decide) rfl ?_
    refine V_iconst 7 B (v := 1) dX12_typeDraft_7 (by decide +kernel) ?_
    refine V_istore_n 8 B (lv2 := [(2, .int 1), (1, .int 0), (0, .ref h0)]) dX12_typeDraft_8 (by decide) rfl ?_
    refine V_wloop (α := WU) (fun a => 100000 - (a.1 0)) (fun a => INV ph (a.2.2.2.1 0) ∧ (a.1 0) ≤ 4000 ∧ 1 ≤ (a.1 0)) (fun a => [(2, .int (nI (a.1 0))), (1, .int (a.2.1 0)), (0, .ref h0)]) (fun a => [(h0, oC 13 [.ref h1, .ref h2, .int 0, .ref h3, .ref h4, .int (nI k5), .int (nI k6), .int p7, .int p8, .int p9, .int (nI k10), .int p11, .long q12, .ref h5, .ref h6, .int (nI k15), .int (nI k16)]), (h1, aI Y 3640 (a.2.2.2.1 0)), (h2, aZ Y 2 f1), (h3, aZ Y 80 f3), (h4, aB Y 1600 f4), (h5, aI Y 200 f13), (h6, aI Y 800 f14)]) (mkW [1] [0] [] [f0] [] []) ⟨HI, (show 1 ≤ 4000 by omega), (show 1 ≤ 1 by omega)⟩ rfl rfl (fun a0 hI2 IH1 => ?_)
    refine V_lv [(2, .int (nI (a0.1 0))), (1, .int (a0.2.1 0)), (0, .ref h0)] [0, 1, 2] rfl ?_
    refine V_ws [(h0, oC 13 [.ref h1, .ref h2, .int 0, .ref h3, .ref h4, .int (nI k5), .int (nI k6), .int p7, .int p8, .int p9, .int (nI k10), .int p11, .long q12, .ref h5, .ref h6, .int (nI k15), .int (nI k16)]), (h1, aI Y 3640 (a0.2.2.2.1 0)), (h2, aZ Y 2 f1), (h3, aZ Y 80 f3), (h4, aB Y 1600 f4), (h5, aI Y 200 f13), (h6, aI Y 800 f14)] rfl ?_
    obtain ⟨x3, x4, x5⟩ := hI2
    refine V_iload_n 9 B dX12_typeDraft_9 0 rfl ?_
    refine V_aload_n 10 B dX12_typeDraft_10 2 rfl ?_
    refine V_get 11 B gf_RX12_9 0 rfl rfl dX12_typeDraft_11 ?_
    refine V_sipush 14 B (v := 3624) dX12_typeDraft_14 (by decide +kernel) ?_
    have x6 : (gN (a0.2.2.2.1 0) 3624) ≤ 4 := gN_le x3 (by omega) (show bd 3624 = (0, ((4 : Nat) : Int)) by decide +kernel)
    refine V_iald 17 B (v := (nI ((gN (a0.2.2.2.1 0) 3624)))) 1 rfl (vpin _ _ (by decide +kernel)) dX12_typeDraft_17 (by show (a0.2.2.2.1 0) 3624 = _; exact gN_eq x3 (by omega) (show bd 3624 = (0, ((4 : Nat) : Int)) by decide +kernel)) ?_
    refine V_icmp_gt 18 B 53 dX12_typeDraft_18 (by decide) (fun kk7 => ?_) (fun kk7 => ?_)
    ·
      have x8 := n_lt (a := (gN (a0.2.2.2.1 0) 3624)) (b := (a0.1 0)) kk7 (by omega) (by omega)
      refine V_iload_n 53 B dX12_typeDraft_53 1 rfl ?_
      exact V_iret 54 B dX12_typeDraft_54 (mkW [] [0] [] [(a0.2.2.2.1 0)] [] []) x3 rfl
    ·
      have x9 := n_nlt (a := (gN (a0.2.2.2.1 0) 3624)) (b := (a0.1 0)) kk7 (by omega) (by omega)
      refine V_iload_n 21 B dX12_typeDraft_21 1 rfl ?_
      refine V_aload_n 22 B dX12_typeDraft_22 2 rfl ?_
      refine V_aload_n 23 B dX12_typeDraft_23 2 rfl ?_
      refine V_get 24 B gf_RX12_9 0 rfl rfl dX12_typeDraft_24 ?_
      refine V_sipush 27 B (v := 3624) dX12_typeDraft_27 (by decide +kernel) ?_
      refine V_iload_n 30 B dX12_typeDraft_30 0 rfl ?_
      refine V_iadd 31 B (v := (nI (3624 + (a0.1 0)))) dX12_typeDraft_31 (nI_addE (a := 3624) (b := (a0.1 0)) (by omega)) ?_
      refine V_iald 32 B (v := (a0.2.2.2.1 0) (3624 + (a0.1 0))) 1 rfl (vp_in_nI (n := 3624 + (a0.1 0)) (by omega) (by decide)) dX12_typeDraft_32 (by rw [nI_clamp (show 3624 + (a0.1 0) < 2 ^ 31 by omega)]) ?_
      refine V_nmi (fun j10 e11 => ?_)
      refine V_cvi 33 B (st := [.int (a0.2.1 0)]) (As := [.int j10]) (fun sz => rX12_makes l D Y h0 h1 h2 h3 h4 h5 h6 0 k5 k6 p7 p8 p9 k10 p11 q12 k15 k16 (a0.2.2.2.1 0) f1 f3 f4 f13 f14 ph x3 (by omega) HP j10 sz) glV_RX12_218 ⟨rfl, rfl⟩ ⟨(Nat.le_of_ble_eq_true rfl), (Nat.le_of_ble_eq_true rfl)⟩ ⟨(Nat.le_of_ble_eq_true rfl), (Nat.le_of_ble_eq_true rfl)⟩ [0, 0, 0, 0, 0, 0, 0] rfl 13 0 rfl rfl rfl rfl (Nat.le_of_ble_eq_true rfl) rfl (fun _ _ _ => rfl) dX12_typeDraft_33 (fun j12 u13 w14 => ?_)
      refine V_ws [(h0, oC 13 [.ref h1, .ref h2, .int 0, .ref h3, .ref h4, .int (nI k5), .int (nI k6), .int p7, .int p8, .int p9, .int (nI k10), .int p11, .long q12, .ref h5, .ref h6, .int (nI k15), .int (nI k16)]), (h1, aI Y 3640 (u13.2.2.2.1 0)), (h2, aZ Y 2 f1), (h3, aZ Y 80 f3), (h4, aB Y 1600 f4), (h5, aI Y 200 f13), (h6, aI Y 800 f14)] rfl ?_
      have x15 := w14
      clear w14
      refine V_iconst 36 B (v := (-1)) dX12_typeDraft_36 (by decide +kernel) ?_
      refine V_icmp_ne 37 B 44 dX12_typeDraft_37 (by decide) (fun kk16 => ?_) (fun kk16 => ?_)
      ·
        have x17 := x_ne kk16
        rw [show ((-1) : Int32).toInt = (-1) by decide +kernel] at x17
        refine V_iconst 44 B (v := 1) dX12_typeDraft_44 (by decide +kernel) ?_
        refine V_iadd 45 B dX12_typeDraft_45 rfl ?_
        refine V_nmi (fun j18 e19 => ?_)
        refine V_istore_n 46 B (lv2 := [(1, .int j18), (2, .int (nI (a0.1 0))), (0, .ref h0)]) dX12_typeDraft_46 (by decide) rfl ?_
        refine V_iinc 47 B (v := (nI (1 + (a0.1 0)))) (lv2 := [(2, .int (nI (1 + (a0.1 0)))), (1, .int j18), (0, .ref h0)]) dX12_typeDraft_47 1 rfl (nI_addE (a := (a0.1 0)) (b := 1) (by omega)) (by decide) rfl ?_
        refine V_goto 50 B 9 dX12_typeDraft_50 (by decide) ?_
        refine V_lv [(2, .int (nI (1 + (a0.1 0)))), (1, .int j18), (0, .ref h0)] [0, 1, 2] rfl ?_
        exact IH1 (mkW [1 + (a0.1 0)] [j18] [] [(u13.2.2.2.1 0)] [] []) ⟨x15, (show 1 + (a0.1 0) ≤ 4000 by omega), (show 1 ≤ 1 + (a0.1 0) by omega)⟩ (by show 100000 - (1 + (a0.1 0)) < 100000 - (a0.1 0); omega)
      ·
        obtain rfl : j12 = (-1) := kk16
        have e21 : ((-1) : Int32).toInt = (-1) := by decide +kernel
        refine V_iconst 40 B (v := 0) dX12_typeDraft_40 (by decide +kernel) ?_
        refine V_goto 41 B 45 dX12_typeDraft_41 (by decide) ?_
        refine V_iadd 45 B (v := (a0.2.1 0)) dX12_typeDraft_45 (Int32.add_zero _) ?_
        refine V_istore_n 46 B (lv2 := [(1, .int (a0.2.1 0)), (2, .int (nI (a0.1 0))), (0, .ref h0)]) dX12_typeDraft_46 (by decide) rfl ?_
        refine V_iinc 47 B (v := (nI (1 + (a0.1 0)))) (lv2 := [(2, .int (nI (1 + (a0.1 0)))), (1, .int (a0.2.1 0)), (0, .ref h0)]) dX12_typeDraft_47 1 rfl (nI_addE (a := (a0.1 0)) (b := 1) (by omega)) (by decide) rfl ?_
        refine V_goto 50 B 9 dX12_typeDraft_50 (by decide) ?_
        refine V_lv [(2, .int (nI (1 + (a0.1 0)))), (1, .int (a0.2.1 0)), (0, .ref h0)] [0, 1, 2] rfl ?_
        exact IH1 (mkW [1 + (a0.1 0)] [(a0.2.1 0)] [] [(u13.2.2.2.1 0)] [] []) ⟨x15, (show 1 + (a0.1 0) ≤ 4000 by omega), (show 1 ≤ 1 + (a0.1 0) by omega)⟩ (by show 100000 - (1 + (a0.1 0)) < 100000 - (a0.1 0); omega))
theorem dX12_dropLate_0 : decode cX12_dropLate 0 = .ok (.aload_n 0, 1) := by decide +kernel
theorem dX12_dropLate_1 : decode cX12_dropLate 1 = .ok (.getfield 9, 3) := by decide +kernel
theorem dX12_dropLate_4 : decode cX12_dropLate 4 = .ok (.bipush 8, 2) := by decide +kernel
theorem dX12_dropLate_6 : decode cX12_dropLate 6 = .ok (.iaload, 1) := by decide +kernel
theorem dX12_dropLate_7 : decode cX12_dropLate 7 = .ok (.ifCond .eq 36, 3) := by decide +kernel
theorem dX12_dropLate_43 : decode cX12_dropLate 43 = .ok (.return_, 1) := by decide +kernel
theorem dX12_dropLate_10 : decode cX12_dropLate 10 = .ok (.aload_n 0, 1) := by decide +kernel
theorem dX12_dropLate_11 : decode cX12_dropLate 11 = .ok (.getfield 9, 3) := by decide +kernel
theorem dX12_dropLate_14 : decode cX12_dropLate 14 = .ok (.iconst 5, 1) := by decide +kernel
theorem dX12_dropLate_15 : decode cX12_dropLate 15 = .ok (.iaload, 1) := by decide +kernel
theorem dX12_dropLate_16 : decode cX12_dropLate 16 = .ok (.ifCond .eq 27, 3) := by decide +kernel
theorem dX12_dropLate_19 : decode cX12_dropLate 19 = .ok (.aload_n 0, 1) := by decide +kernel
theorem dX12_dropLate_20 : decode cX12_dropLate 20 = .ok (.getfield 9, 3) := by decide +kernel
theorem dX12_dropLate_23 : decode cX12_dropLate 23 = .ok (.bipush 9, 2) := by decide +kernel
theorem dX12_dropLate_25 : decode cX12_dropLate 25 = .ok (.iaload, 1) := by decide +kernel
theorem dX12_dropLate_26 : decode cX12_dropLate 26 = .ok (.aload_n 0, 1) := by decide +kernel
theorem dX12_dropLate_27 : decode cX12_dropLate 27 = .ok (.getfield 9, 3) := by decide +kernel
theorem dX12_dropLate_30 : decode cX12_dropLate 30 = .ok (.bipush 10, 2) := by decide +kernel
theorem dX12_dropLate_32 : decode cX12_dropLate 32 = .ok (.iaload, 1) := by decide +kernel
theorem dX12_dropLate_33 : decode cX12_dropLate 33 = .ok (.isub, 1) := by decide +kernel
theorem dX12_dropLate_34 : decode cX12_dropLate 34 = .ok (.aload_n 0, 1) := by decide +kernel
theorem dX12_dropLate_35 : decode cX12_dropLate 35 = .ok (.getfield 9, 3) := by decide +kernel
theorem dX12_dropLate_38 : decode cX12_dropLate 38 = .ok (.iconst 5, 1) := by decide +kernel
theorem dX12_dropLate_39 : decode cX12_dropLate 39 = .ok (.iaload, 1) := by decide +kernel
theorem dX12_dropLate_40 : decode cX12_dropLate 40 = .ok (.if_icmp .ge 4, 3) := by decide +kernel
theorem dX12_dropLate_44 : decode cX12_dropLate 44 = .ok (.aload_n 0, 1) := by decide +kernel
theorem dX12_dropLate_45 : decode cX12_dropLate 45 = .ok (.getfield 9, 3) := by decide +kernel
theorem dX12_dropLate_48 : decode cX12_dropLate 48 = .ok (.bipush 8, 2) := by decide +kernel
theorem dX12_dropLate_50 : decode cX12_dropLate 50 = .ok (.iconst 0, 1) := by decide +kernel
theorem dX12_dropLate_51 : decode cX12_dropLate 51 = .ok (.iastore, 1) := by decide +kernel
theorem dX12_dropLate_52 : decode cX12_dropLate 52 = .ok (.aload_n 0, 1) := by decide +kernel
theorem dX12_dropLate_53 : decode cX12_dropLate 53 = .ok (.getfield 9, 3) := by decide +kernel
theorem dX12_dropLate_56 : decode cX12_dropLate 56 = .ok (.bipush 12, 2) := by decide +kernel
theorem dX12_dropLate_58 : decode cX12_dropLate 58 = .ok (.dup2, 1) := by decide +kernel
theorem dX12_dropLate_59 : decode cX12_dropLate 59 = .ok (.iaload, 1) := by decide +kernel
theorem dX12_dropLate_60 : decode cX12_dropLate 60 = .ok (.iconst 1, 1) := by decide +kernel
theorem dX12_dropLate_61 : decode cX12_dropLate 61 = .ok (.iadd, 1) := by decide +kernel
theorem dX12_dropLate_62 : decode cX12_dropLate 62 = .ok (.iastore, 1) := by decide +kernel
theorem dX12_dropLate_63 : decode cX12_dropLate 63 = .ok (.return_, 1) := by decide +kernel
set_option maxRecDepth 100000 in
set_option maxHeartbeats 4000000 in
theorem rX12_dropLate (l : Launch) (D : va_G) (Y : Nat → ClassId) (h0 : Nat) (h1 : Nat) (h2 : Nat) (h3 : Nat) (h4 : Nat) (h5 : Nat) (h6 : Nat) (p2 : Int32) (k5 : Nat) (k6 : Nat) (p7 : Int32) (p8 : Int32) (p9 : Int32) (k10 : Nat) (p11 : Int32) (q12 : Int64) (k15 : Nat) (k16 : Nat) (f0 : Nat → Int32) (f1 : Nat → Int32) (f3 : Nat → Int32) (f4 : Nat → Int32) (f13 : Nat → Int32) (f14 : Nat → Int32) (ph : Nat → Int32) (HI : INV ph f0) (HL : k5 ≤ 1600) (HP : PLV f13)   (sz : Nat) : Met l yX12_dropLate (WSm yX12_dropLate cX12_dropLate 1 none) (mkR 0 0 0 0) (PreC D Y [.ref h0] [(h0, oC 13 [.ref h1, .ref h2, .int p2, .ref h3, .ref h4, .int (nI k5), .int (nI k6), .int p7, .int p8, .int p9, .int (nI k10), .int p11, .long q12, .ref h5, .ref h6, .int (nI k15), .int (nI k16)]), (h1, aI Y 3640 f0), (h2, aZ Y 2 f1), (h3, aZ Y 80 f3), (h4, aB Y 1600 f4), (h5, aI Y 200 f13), (h6, aI Y 800 f14)] sz) (QV D (fun (u : WU) => INV ph (u.2.2.2.1 0)) (fun (u : WU) => [(h0, oC 13 [.ref h1, .ref h2, .int p2, .ref h3, .ref h4, .int (nI k5), .int (nI k6), .int p7, .int p8, .int p9, .int (nI k10), .int p11, .long q12, .ref h5, .ref h6, .int (nI k15), .int (nI k16)]), (h1, aI Y 3640 (u.2.2.2.1 0)), (h2, aZ Y 2 f1), (h3, aZ Y 80 f3), (h4, aB Y 1600 f4), (h5, aI Y 200 f13), (h6, aI Y 800 f14)]) (va_A [(h0, oC 13 [.ref h1, .ref h2, .int p2, .ref h3, .ref h4, .int (nI k5), .int (nI k6), .int p7, .int p8, .int p9, .int (nI k10), .int p11, .long q12, .ref h5, .ref h6, .int (nI k15), .int (nI k16)]), (h1, aI Y 3640 f0), (h2, aZ Y 2 f1), (h3, aZ Y 80 f3), (h4, aB Y 1600 f4), (h5, aI Y 200 f13), (h6, aI Y 800 f14)] sz)) 0 0 (va_A [(h0, oC 13 [.ref h1, .ref h2, .int p2, .ref h3, .ref h4, .int (nI k5), .int (nI k6), .int p7, .int p8, .int p9, .int (nI k10), .int p11, .long q12, .ref h5, .ref h6, .int (nI k15), .int (nI k16)]), (h1, aI Y 3640 f0), (h2, aZ Y 2 f1), (h3, aZ Y 80 f3), (h4, aB Y 1600 f4), (h5, aI Y 200 f13), (h6, aI Y 800 f14)] sz) :=
  met_of  (by decide +kernel) (Nat.le_of_ble_eq_true rfl) (fun p e s m args below meth c B hin hsz => by
    have B : VB p s m args meth c D Y (va_A [(h0, oC 13 [.ref h1, .ref h2, .int p2, .ref h3, .ref h4, .int (nI k5), .int (nI k6), .int p7, .int p8, .int p9, .int (nI k10), .int p11, .long q12, .ref h5, .ref h6, .int (nI k15), .int (nI k16)]), (h1, aI Y 3640 f0), (h2, aZ Y 2 f1), (h3, aZ Y 80 f3), (h4, aB Y 1600 f4), (h5, aI Y 200 f13), (h6, aI Y 800 f14)] sz) cX12_dropLate 1 RX12 none := B
    refine V_aload_n 0 B dX12_dropLate_0 0 rfl ?_
    refine V_get 1 B gf_RX12_9 0 rfl rfl dX12_dropLate_1 ?_
    refine V_bipush 4 B (v := 8) dX12_dropLate_4 (by decide +kernel) ?_
    have x0 : (gN f0 8) ≤ 3 := gN_le HI (by omega) (show bd 8 = (0, ((3 : Nat) : Int)) by decide +kernel)
    refine V_iald 6 B (v := (nI (gN f0 8))) 1 rfl (vpin _ _ (by decide +kernel)) dX12_dropLate_6 (by show f0 8 = _; exact gN_eq HI (by omega) (show bd 8 = (0, ((3 : Nat) : Int)) by decide +kernel)) ?_
    refine V_if_eq 7 B 43 dX12_dropLate_7 (by decide) (fun kk1 => ?_) (fun kk1 => ?_)
    ·
      have x2 := n_eq (a := (gN f0 8)) (b := 0) kk1 (by omega) (by omega)
      exact V_vret 43 B dX12_dropLate_43 (mkW [] [] [] [f0] [] []) HI rfl
    ·
      have x3 := n_ne (a := (gN f0 8)) (b := 0) kk1
      refine V_aload_n 10 B dX12_dropLate_10 0 rfl ?_
      refine V_get 11 B gf_RX12_9 0 rfl rfl dX12_dropLate_11 ?_
      refine V_iconst 14 B (v := 5) dX12_dropLate_14 (by decide +kernel) ?_
      refine V_iald 15 B (v := f0 (5)) 1 rfl (vpin _ _ (by decide +kernel)) dX12_dropLate_15 (by rfl) ?_
      refine V_nmi (fun j4 e5 => ?_)
      refine V_if_eq 16 B 43 dX12_dropLate_16 (by decide) (fun kk6 => ?_) (fun kk6 => ?_)
      ·
        obtain rfl : j4 = 0 := kk6
        have e8 : (0 : Int32).toInt = 0 := by decide +kernel
        exact V_vret 43 B dX12_dropLate_43 (mkW [] [] [] [f0] [] []) HI rfl
      ·
        have x9 := x_ne kk6
        rw [show (0 : Int32).toInt = 0 by decide +kernel] at x9
        refine V_aload_n 19 B dX12_dropLate_19 0 rfl ?_
        refine V_get 20 B gf_RX12_9 0 rfl rfl dX12_dropLate_20 ?_
        refine V_bipush 23 B (v := 9) dX12_dropLate_23 (by decide +kernel) ?_
        refine V_iald 25 B (v := f0 (9)) 1 rfl (vpin _ _ (by decide +kernel)) dX12_dropLate_25 (by rfl) ?_
        refine V_nmi (fun j10 e11 => ?_)
        refine V_aload_n 26 B dX12_dropLate_26 0 rfl ?_
        refine V_get 27 B gf_RX12_9 0 rfl rfl dX12_dropLate_27 ?_
        refine V_bipush 30 B (v := 10) dX12_dropLate_30 (by decide +kernel) ?_
        refine V_iald 32 B (v := f0 (10)) 1 rfl (vpin _ _ (by decide +kernel)) dX12_dropLate_32 (by rfl) ?_
        refine V_nmi (fun j12 e13 => ?_)
        refine V_isub 33 B dX12_dropLate_33 rfl ?_
        refine V_nmi (fun j14 e15 => ?_)
        refine V_aload_n 34 B dX12_dropLate_34 0 rfl ?_
        refine V_get 35 B gf_RX12_9 0 rfl rfl dX12_dropLate_35 ?_
        refine V_iconst 38 B (v := 5) dX12_dropLate_38 (by decide +kernel) ?_
        refine V_iald 39 B (v := f0 (5)) 1 rfl (vpin _ _ (by decide +kernel)) dX12_dropLate_39 (by rfl) ?_
        refine V_nmi (fun j16 e17 => ?_)
        refine V_icmp_ge 40 B 44 dX12_dropLate_40 (by decide) (fun kk18 => ?_) (fun kk18 => ?_)
        ·
          have x19 := x_le kk18
          refine V_aload_n 44 B dX12_dropLate_44 0 rfl ?_
          refine V_get 45 B gf_RX12_9 0 rfl rfl dX12_dropLate_45 ?_
          refine V_bipush 48 B (v := 8) dX12_dropLate_48 (by decide +kernel) ?_
          refine V_iconst 50 B (v := 0) dX12_dropLate_50 (by decide +kernel) ?_
          have hv20 : INV ph (upd f0 8 0) := INV_nat (v := 0) HI (show bd 8 = (0, ((3 : Nat) : Int)) by decide +kernel) (by omega) (by decide)
          refine V_iast 51 B 1 rfl (vpin _ _ (by decide +kernel)) dX12_dropLate_51 [(h0, oC 13 [.ref h1, .ref h2, .int p2, .ref h3, .ref h4, .int (nI k5), .int (nI k6), .int p7, .int p8, .int p9, .int (nI k10), .int p11, .long q12, .ref h5, .ref h6, .int (nI k15), .int (nI k16)]), (h1, aI Y 3640 (upd f0 8 0)), (h2, aZ Y 2 f1), (h3, aZ Y 80 f3), (h4, aB Y 1600 f4), (h5, aI Y 200 f13), (h6, aI Y 800 f14)] rfl ?_
          refine V_aload_n 52 B dX12_dropLate_52 0 rfl ?_
          refine V_get 53 B gf_RX12_9 0 rfl rfl dX12_dropLate_53 ?_
          refine V_bipush 56 B (v := 12) dX12_dropLate_56 (by decide +kernel) ?_
          refine V_dup2_11 58 B dX12_dropLate_58 rfl rfl ?_
          refine V_iald 59 B (v := f0 (12)) 1 rfl (vpin _ _ (by decide +kernel)) dX12_dropLate_59 (by show (upd f0 8 0) 12 = _; rw [upd_ne (by omega)]) ?_
          refine V_nmi (fun j21 e22 => ?_)
          refine V_iconst 60 B (v := 1) dX12_dropLate_60 (by decide +kernel) ?_
          refine V_iadd 61 B dX12_dropLate_61 rfl ?_
          refine V_nmi (fun j23 e24 => ?_)
          have hv25 : INV ph (upd (upd f0 8 0) 12 j23) := INV_free hv20 (show bd 12 = FREE by decide +kernel)
          refine V_iast 62 B 1 rfl (vpin _ _ (by decide +kernel)) dX12_dropLate_62 [(h0, oC 13 [.ref h1, .ref h2, .int p2, .ref h3, .ref h4, .int (nI k5), .int (nI k6), .int p7, .int p8, .int p9, .int (nI k10), .int p11, .long q12, .ref h5, .ref h6, .int (nI k15), .int (nI k16)]), (h1, aI Y 3640 (upd (upd f0 8 0) 12 j23)), (h2, aZ Y 2 f1), (h3, aZ Y 80 f3), (h4, aB Y 1600 f4), (h5, aI Y 200 f13), (h6, aI Y 800 f14)] rfl ?_
          exact V_vret 63 B dX12_dropLate_63 (mkW [] [] [] [(upd (upd f0 8 0) 12 j23)] [] []) hv25 rfl
        ·
          have x26 := x_nle kk18
          exact V_vret 43 B dX12_dropLate_43 (mkW [] [] [] [f0] [] []) HI rfl)
theorem dX12_tick_0 : decode cX12_tick 0 = .ok (.aload_n 0, 1) := by decide +kernel
theorem dX12_tick_1 : decode cX12_tick 1 = .ok (.iconst 0, 1) := by decide +kernel
theorem dX12_tick_2 : decode cX12_tick 2 = .ok (.putfield 38, 3) := by decide +kernel
theorem dX12_tick_5 : decode cX12_tick 5 = .ok (.aload_n 0, 1) := by decide +kernel
theorem dX12_tick_6 : decode cX12_tick 6 = .ok (.iload_n 1, 1) := by decide +kernel
theorem dX12_tick_7 : decode cX12_tick 7 = .ok (.i2l, 1) := by decide +kernel
theorem dX12_tick_8 : decode cX12_tick 8 = .ok (.lconst 1, 1) := by decide +kernel
theorem dX12_tick_9 : decode cX12_tick 9 = .ok (.ldc2_w 224, 3) := by decide +kernel
theorem dX12_tick_12 : decode cX12_tick 12 = .ok (.invokestatic 41, 3) := by decide +kernel
theorem dX12_tick_15 : decode cX12_tick 15 = .ok (.ifCond .ne 7, 3) := by decide +kernel
theorem dX12_tick_18 : decode cX12_tick 18 = .ok (.iconst 1, 1) := by decide +kernel
theorem dX12_tick_19 : decode cX12_tick 19 = .ok (.goto 4, 3) := by decide +kernel
theorem dX12_tick_23 : decode cX12_tick 23 = .ok (.iconst 1, 1) := by decide +kernel
theorem dX12_tick_24 : decode cX12_tick 24 = .ok (.invokevirtual 69, 3) := by decide +kernel
theorem dX12_tick_27 : decode cX12_tick 27 = .ok (.ifCond .eq 5, 3) := by decide +kernel
theorem dX12_tick_30 : decode cX12_tick 30 = .ok (.iconst 0, 1) := by decide +kernel
theorem dX12_tick_31 : decode cX12_tick 31 = .ok (.ireturn, 1) := by decide +kernel
theorem dX12_tick_22 : decode cX12_tick 22 = .ok (.iconst 0, 1) := by decide +kernel
theorem dX12_tick_32 : decode cX12_tick 32 = .ok (.aload_n 0, 1) := by decide +kernel
theorem dX12_tick_33 : decode cX12_tick 33 = .ok (.getfield 9, 3) := by decide +kernel
theorem dX12_tick_36 : decode cX12_tick 36 = .ok (.bipush 9, 2) := by decide +kernel
theorem dX12_tick_38 : decode cX12_tick 38 = .ok (.iaload, 1) := by decide +kernel
theorem dX12_tick_39 : decode cX12_tick 39 = .ok (.iload_n 1, 1) := by decide +kernel
theorem dX12_tick_40 : decode cX12_tick 40 = .ok (.iadd, 1) := by decide +kernel
theorem dX12_tick_41 : decode cX12_tick 41 = .ok (.ldc 184, 2) := by decide +kernel
theorem dX12_tick_43 : decode cX12_tick 43 = .ok (.if_icmp .le 6, 3) := by decide +kernel
theorem dX12_tick_49 : decode cX12_tick 49 = .ok (.aload_n 0, 1) := by decide +kernel
theorem dX12_tick_50 : decode cX12_tick 50 = .ok (.getfield 9, 3) := by decide +kernel
theorem dX12_tick_53 : decode cX12_tick 53 = .ok (.bipush 9, 2) := by decide +kernel
theorem dX12_tick_55 : decode cX12_tick 55 = .ok (.dup2, 1) := by decide +kernel
theorem dX12_tick_56 : decode cX12_tick 56 = .ok (.iaload, 1) := by decide +kernel
theorem dX12_tick_57 : decode cX12_tick 57 = .ok (.iload_n 1, 1) := by decide +kernel
theorem dX12_tick_58 : decode cX12_tick 58 = .ok (.iadd, 1) := by decide +kernel
theorem dX12_tick_59 : decode cX12_tick 59 = .ok (.iastore, 1) := by decide +kernel
theorem dX12_tick_60 : decode cX12_tick 60 = .ok (.aload_n 0, 1) := by decide +kernel
theorem dX12_tick_61 : decode cX12_tick 61 = .ok (.invokevirtual 226, 3) := by decide +kernel
theorem glV_RX12_226 : GLV RX12 226 yX12_dropLate RX12 cX12_dropLate 1 none 0 := ⟨⟨(mT9 122 rfl rfl), (mT9 124 rfl rfl), (mTs 69 rfl rfl), (mT1 13 rfl rfl), (mT9 125 rfl rfl)⟩, by decide +kernel⟩
theorem dX12_tick_64 : decode cX12_tick 64 = .ok (.aload_n 0, 1) := by decide +kernel
theorem dX12_tick_65 : decode cX12_tick 65 = .ok (.getfield 9, 3) := by decide +kernel
theorem dX12_tick_68 : decode cX12_tick 68 = .ok (.bipush 9, 2) := by decide +kernel
theorem dX12_tick_70 : decode cX12_tick 70 = .ok (.iaload, 1) := by decide +kernel
theorem dX12_tick_71 : decode cX12_tick 71 = .ok (.ireturn, 1) := by decide +kernel
theorem dX12_tick_46 : decode cX12_tick 46 = .ok (.bipush (-2), 2) := by decide +kernel
theorem dX12_tick_48 : decode cX12_tick 48 = .ok (.ireturn, 1) := by decide +kernel
set_option maxRecDepth 100000 in
set_option maxHeartbeats 4000000 in
theorem rX12_tick (l : Launch) (D : va_G) (Y : Nat → ClassId) (h0 : Nat) (h1 : Nat) (h2 : Nat) (h3 : Nat) (h4 : Nat) (h5 : Nat) (h6 : Nat) (p2 : Int32) (k5 : Nat) (k6 : Nat) (p7 : Int32) (p8 : Int32) (p9 : Int32) (k10 : Nat) (p11 : Int32) (q12 : Int64) (k15 : Nat) (k16 : Nat) (f0 : Nat → Int32) (f1 : Nat → Int32) (f3 : Nat → Int32) (f4 : Nat → Int32) (f13 : Nat → Int32) (f14 : Nat → Int32) (ph : Nat → Int32) (HI : INV ph f0) (HL : k5 ≤ 1600) (HP : PLV f13) (s0 : Int32)  (sz : Nat) : Met l yX12_tick (WSm yX12_tick cX12_tick 2 (some .int)) (mkR 1 0 0 25) (PreC D Y [.ref h0, .int s0] [(h0, oC 13 [.ref h1, .ref h2, .int p2, .ref h3, .ref h4, .int (nI k5), .int (nI k6), .int p7, .int p8, .int p9, .int (nI k10), .int p11, .long q12, .ref h5, .ref h6, .int (nI k15), .int (nI k16)]), (h1, aI Y 3640 f0), (h2, aZ Y 2 f1), (h3, aZ Y 80 f3), (h4, aB Y 1600 f4), (h5, aI Y 200 f13), (h6, aI Y 800 f14)] sz) (QI D (fun (r : Int32) (u : WU) => INV ph (u.2.2.2.1 0)) (fun (u : WU) => [(h0, oC 13 [.ref h1, .ref h2, .int (u.2.1 0), .ref h3, .ref h4, .int (nI k5), .int (nI k6), .int p7, .int p8, .int p9, .int (nI k10), .int p11, .long q12, .ref h5, .ref h6, .int (nI k15), .int (nI k16)]), (h1, aI Y 3640 (u.2.2.2.1 0)), (h2, aZ Y 2 f1), (h3, aZ Y 80 f3), (h4, aB Y 1600 f4), (h5, aI Y 200 f13), (h6, aI Y 800 f14)]) (va_A [(h0, oC 13 [.ref h1, .ref h2, .int p2, .ref h3, .ref h4, .int (nI k5), .int (nI k6), .int p7, .int p8, .int p9, .int (nI k10), .int p11, .long q12, .ref h5, .ref h6, .int (nI k15), .int (nI k16)]), (h1, aI Y 3640 f0), (h2, aZ Y 2 f1), (h3, aZ Y 80 f3), (h4, aB Y 1600 f4), (h5, aI Y 200 f13), (h6, aI Y 800 f14)] sz)) 0 0 (va_A [(h0, oC 13 [.ref h1, .ref h2, .int p2, .ref h3, .ref h4, .int (nI k5), .int (nI k6), .int p7, .int p8, .int p9, .int (nI k10), .int p11, .long q12, .ref h5, .ref h6, .int (nI k15), .int (nI k16)]), (h1, aI Y 3640 f0), (h2, aZ Y 2 f1), (h3, aZ Y 80 f3), (h4, aB Y 1600 f4), (h5, aI Y 200 f13), (h6, aI Y 800 f14)] sz) :=
  met_of  (by decide +kernel) (Nat.le_of_ble_eq_true rfl) (fun p e s m args below meth c B hin hsz => by
    have B : VB p s m args meth c D Y (va_A [(h0, oC 13 [.ref h1, .ref h2, .int p2, .ref h3, .ref h4, .int (nI k5), .int (nI k6), .int p7, .int p8, .int p9, .int (nI k10), .int p11, .long q12, .ref h5, .ref h6, .int (nI k15), .int (nI k16)]), (h1, aI Y 3640 f0), (h2, aZ Y 2 f1), (h3, aZ Y 80 f3), (h4, aB Y 1600 f4), (h5, aI Y 200 f13), (h6, aI Y 800 f14)] sz) cX12_tick 2 RX12 (some .int) := B
    refine V_aload_n 0 B dX12_tick_0 0 rfl ?_
    refine V_iconst 1 B (v := 0) dX12_tick_1 (by decide +kernel) ?_
    refine V_put 2 B gp_RX12_38 0 rfl (Nat.le_of_ble_eq_true rfl) rfl rfl dX12_tick_2 [(h0, oC 13 [.ref h1, .ref h2, .int 0, .ref h3, .ref h4, .int (nI k5), .int (nI k6), .int p7, .int p8, .int p9, .int (nI k10), .int p11, .long q12, .ref h5, .ref h6, .int (nI k15), .int (nI k16)]), (h1, aI Y 3640 f0), (h2, aZ Y 2 f1), (h3, aZ Y 80 f3), (h4, aB Y 1600 f4), (h5, aI Y 200 f13), (h6, aI Y 800 f14)] rfl ?_
    refine V_aload_n 5 B dX12_tick_5 0 rfl ?_
    refine V_iload_n 6 B dX12_tick_6 1 rfl ?_
    refine V_i2l 7 B dX12_tick_7 rfl ?_
    refine V_nml (fun o0 e1 => ?_)
    have x2 : o0.toInt = s0.toInt := by rw [e1, Int32.toInt_toInt64]
    refine V_lconst 8 B (v := 1) dX12_tick_8 (by decide +kernel) ?_
    refine V_ldc2 9 B (v := 1000) dX12_tick_9 (mT9 121 rfl rfl) ?_
    refine V_csi 12 B (st := [.ref h0]) (As := [.long o0, .long 1, .long 1000]) (fun sz => rX12_inRange l D Y o0 1 1000 sz) glS_RX12_41 ⟨rfl, rfl⟩ ⟨(Nat.le_of_ble_eq_true rfl), (Nat.le_of_ble_eq_true rfl)⟩ ⟨(Nat.le_of_ble_eq_true rfl), (Nat.le_of_ble_eq_true rfl)⟩ [] rfl rfl (Nat.le_of_ble_eq_true rfl) rfl (fun _ _ _ => rfl) dX12_tick_12 (fun j3 u4 w5 => ?_)
    refine V_ws [(h0, oC 13 [.ref h1, .ref h2, .int 0, .ref h3, .ref h4, .int (nI k5), .int (nI k6), .int p7, .int p8, .int p9, .int (nI k10), .int p11, .long q12, .ref h5, .ref h6, .int (nI k15), .int (nI k16)]), (h1, aI Y 3640 f0), (h2, aZ Y 2 f1), (h3, aZ Y 80 f3), (h4, aB Y 1600 f4), (h5, aI Y 200 f13), (h6, aI Y 800 f14)] rfl ?_
    rcases w5 with ⟨rfl, x8⟩ | ⟨rfl, x6, x7⟩
    ·
      rw [show (1 : Int64).toInt = 1 by decide +kernel] at x8
      rw [show (1000 : Int64).toInt = 1000 by decide +kernel] at x8
      refine V_if_ne_f 15 B 22 dX12_tick_15 (by decide) (by decide +kernel) ?_
      refine V_iconst 18 B (v := 1) dX12_tick_18 (by decide +kernel) ?_
      refine V_goto 19 B 23 dX12_tick_19 (by decide) ?_
      refine V_iconst 23 B (v := 1) dX12_tick_23 (by decide +kernel) ?_
      refine V_cvi 24 B (st := []) (As := [.int 1, .int 1]) (fun sz => rX12_throwsIf_1 l D Y h0 h1 h2 h3 h4 h5 h6 0 k5 k6 p7 p8 p9 k10 p11 q12 k15 k16 f0 f1 f3 f4 f13 f14 ph HI (by omega) HP 1 sz) glV_RX12_69 ⟨rfl, rfl⟩ ⟨(Nat.le_of_ble_eq_true rfl), (Nat.le_of_ble_eq_true rfl)⟩ ⟨(Nat.le_of_ble_eq_true rfl), (Nat.le_of_ble_eq_true rfl)⟩ [0, 0, 0, 0, 0, 0, 0] rfl 13 0 rfl rfl rfl rfl (Nat.le_of_ble_eq_true rfl) rfl (fun _ _ _ => rfl) dX12_tick_24 (fun j9 u10 w11 => ?_)
      refine V_ws [(h0, oC 13 [.ref h1, .ref h2, .int (u10.2.1 0), .ref h3, .ref h4, .int (nI k5), .int (nI k6), .int p7, .int p8, .int p9, .int (nI k10), .int p11, .long q12, .ref h5, .ref h6, .int (nI k15), .int (nI k16)]), (h1, aI Y 3640 f0), (h2, aZ Y 2 f1), (h3, aZ Y 80 f3), (h4, aB Y 1600 f4), (h5, aI Y 200 f13), (h6, aI Y 800 f14)] rfl ?_
      have x12 := w11
      clear w11
      obtain rfl := x12
      refine V_if_eq_f 27 B 32 dX12_tick_27 (by decide) (by decide +kernel) ?_
      refine V_iconst 30 B (v := 0) dX12_tick_30 (by decide +kernel) ?_
      exact V_iret 31 B dX12_tick_31 (mkW [] [(u10.2.1 0)] [] [f0] [] []) HI rfl
    ·
      rw [show (1 : Int64).toInt = 1 by decide +kernel] at x6
      rw [show (1000 : Int64).toInt = 1000 by decide +kernel] at x7
      refine V_if_ne_t 15 B 22 dX12_tick_15 (by decide) (by decide +kernel) ?_
      refine V_iconst 22 B (v := 0) dX12_tick_22 (by decide +kernel) ?_
      refine V_iconst 23 B (v := 1) dX12_tick_23 (by decide +kernel) ?_
      refine V_cvi 24 B (st := []) (As := [.int 0, .int 1]) (fun sz => rX12_throwsIf_0 l D Y h0 h1 h2 h3 h4 h5 h6 0 k5 k6 p7 p8 p9 k10 p11 q12 k15 k16 f0 f1 f3 f4 f13 f14 ph HI (by omega) HP 1 sz) glV_RX12_69 ⟨rfl, rfl⟩ ⟨(Nat.le_of_ble_eq_true rfl), (Nat.le_of_ble_eq_true rfl)⟩ ⟨(Nat.le_of_ble_eq_true rfl), (Nat.le_of_ble_eq_true rfl)⟩ [0, 0, 0, 0, 0, 0, 0] rfl 13 0 rfl rfl rfl rfl (Nat.le_of_ble_eq_true rfl) rfl (fun _ _ _ => rfl) dX12_tick_24 (fun j13 u14 w15 => ?_)
      refine V_ws [(h0, oC 13 [.ref h1, .ref h2, .int (u14.2.1 0), .ref h3, .ref h4, .int (nI k5), .int (nI k6), .int p7, .int p8, .int p9, .int (nI k10), .int p11, .long q12, .ref h5, .ref h6, .int (nI k15), .int (nI k16)]), (h1, aI Y 3640 f0), (h2, aZ Y 2 f1), (h3, aZ Y 80 f3), (h4, aB Y 1600 f4), (h5, aI Y 200 f13), (h6, aI Y 800 f14)] rfl ?_
      have x16 := w15
      clear w15
      obtain rfl := x16
      refine V_if_eq_t 27 B 32 dX12_tick_27 (by decide) (by decide +kernel) ?_
      refine V_aload_n 32 B dX12_tick_32 0 rfl ?_
      refine V_get 33 B gf_RX12_9 0 rfl rfl dX12_tick_33 ?_
      refine V_bipush 36 B (v := 9) dX12_tick_36 (by decide +kernel) ?_
      refine V_iald 38 B (v := f0 (9)) 1 rfl (vpin _ _ (by decide +kernel)) dX12_tick_38 (by rfl) ?_
      refine V_nmi (fun j17 e18 => ?_)
      refine V_iload_n 39 B dX12_tick_39 1 rfl ?_
      refine V_iadd 40 B dX12_tick_40 rfl ?_
      refine V_nmi (fun j19 e20 => ?_)
      refine V_ldc 41 B (v := 1000000) dX12_tick_41 (mT9 25 rfl rfl) ?_
      refine V_icmp_le 43 B 49 dX12_tick_43 (by decide) (fun kk21 => ?_) (fun kk21 => ?_)
      ·
        have x22 := x_le kk21
        rw [show (1000000 : Int32).toInt = 1000000 by decide +kernel] at x22
        refine V_aload_n 49 B dX12_tick_49 0 rfl ?_
        refine V_get 50 B gf_RX12_9 0 rfl rfl dX12_tick_50 ?_
        refine V_bipush 53 B (v := 9) dX12_tick_53 (by decide +kernel) ?_
        refine V_dup2_11 55 B dX12_tick_55 rfl rfl ?_
        refine V_iald 56 B (v := f0 (9)) 1 rfl (vpin _ _ (by decide +kernel)) dX12_tick_56 (by rfl) ?_
        refine V_nmi (fun j23 e24 => ?_)
        refine V_iload_n 57 B dX12_tick_57 1 rfl ?_
        refine V_iadd 58 B dX12_tick_58 rfl ?_
        refine V_nmi (fun j25 e26 => ?_)
        have hv27 : INV ph (upd f0 9 j25) := INV_free HI (show bd 9 = FREE by decide +kernel)
        refine V_iast 59 B 1 rfl (vpin _ _ (by decide +kernel)) dX12_tick_59 [(h0, oC 13 [.ref h1, .ref h2, .int (u14.2.1 0), .ref h3, .ref h4, .int (nI k5), .int (nI k6), .int p7, .int p8, .int p9, .int (nI k10), .int p11, .long q12, .ref h5, .ref h6, .int (nI k15), .int (nI k16)]), (h1, aI Y 3640 (upd f0 9 j25)), (h2, aZ Y 2 f1), (h3, aZ Y 80 f3), (h4, aB Y 1600 f4), (h5, aI Y 200 f13), (h6, aI Y 800 f14)] rfl ?_
        refine V_aload_n 60 B dX12_tick_60 0 rfl ?_
        refine V_cvv 61 B (st := []) (As := []) (fun sz => rX12_dropLate l D Y h0 h1 h2 h3 h4 h5 h6 (u14.2.1 0) k5 k6 p7 p8 p9 k10 p11 q12 k15 k16 (upd f0 9 j25) f1 f3 f4 f13 f14 ph hv27 (by omega) HP sz) glV_RX12_226 ⟨rfl, rfl⟩ ⟨(Nat.le_of_ble_eq_true rfl), (Nat.le_of_ble_eq_true rfl)⟩ ⟨(Nat.le_of_ble_eq_true rfl), (Nat.le_of_ble_eq_true rfl)⟩ [0, 0, 0, 0, 0, 0, 0] rfl 13 0 rfl rfl rfl rfl (Nat.le_of_ble_eq_true rfl) rfl (fun _ _ => rfl) dX12_tick_61 (fun u29 w30 => ?_)
        refine V_ws [(h0, oC 13 [.ref h1, .ref h2, .int (u14.2.1 0), .ref h3, .ref h4, .int (nI k5), .int (nI k6), .int p7, .int p8, .int p9, .int (nI k10), .int p11, .long q12, .ref h5, .ref h6, .int (nI k15), .int (nI k16)]), (h1, aI Y 3640 (u29.2.2.2.1 0)), (h2, aZ Y 2 f1), (h3, aZ Y 80 f3), (h4, aB Y 1600 f4), (h5, aI Y 200 f13), (h6, aI Y 800 f14)] rfl ?_
        have x31 := w30
        clear w30
        refine V_aload_n 64 B dX12_tick_64 0 rfl ?_
        refine V_get 65 B gf_RX12_9 0 rfl rfl dX12_tick_65 ?_
        refine V_bipush 68 B (v := 9) dX12_tick_68 (by decide +kernel) ?_
        refine V_iald 70 B (v := (u29.2.2.2.1 0) (9)) 1 rfl (vpin _ _ (by decide +kernel)) dX12_tick_70 (by rfl) ?_
        refine V_nmi (fun j32 e33 => ?_)
        exact V_iret 71 B dX12_tick_71 (mkW [] [(u14.2.1 0)] [] [(u29.2.2.2.1 0)] [] []) x31 rfl
      ·
        have x34 := x_nle kk21
        rw [show (1000000 : Int32).toInt = 1000000 by decide +kernel] at x34
        refine V_bipush 46 B (v := (-2)) dX12_tick_46 (by decide +kernel) ?_
        exact V_iret 48 B dX12_tick_48 (mkW [] [(u14.2.1 0)] [] [f0] [] []) HI rfl)
theorem dX12_typing_0 : decode cX12_typing 0 = .ok (.aload_n 0, 1) := by decide +kernel
theorem dX12_typing_1 : decode cX12_typing 1 = .ok (.iconst 0, 1) := by decide +kernel
theorem dX12_typing_2 : decode cX12_typing 2 = .ok (.putfield 38, 3) := by decide +kernel
theorem dX12_typing_5 : decode cX12_typing 5 = .ok (.iload_n 1, 1) := by decide +kernel
theorem dX12_typing_6 : decode cX12_typing 6 = .ok (.tableswitch 82 0 4 #[34, 42, 50, 58, 66], 34) := by decide +kernel
theorem dX12_typing_40 : decode cX12_typing 40 = .ok (.aload_n 0, 1) := by decide +kernel
theorem dX12_typing_41 : decode cX12_typing 41 = .ok (.getfield 9, 3) := by decide +kernel
theorem dX12_typing_44 : decode cX12_typing 44 = .ok (.bipush 6, 2) := by decide +kernel
theorem dX12_typing_46 : decode cX12_typing 46 = .ok (.iaload, 1) := by decide +kernel
theorem dX12_typing_47 : decode cX12_typing 47 = .ok (.ireturn, 1) := by decide +kernel
theorem dX12_typing_48 : decode cX12_typing 48 = .ok (.aload_n 0, 1) := by decide +kernel
theorem dX12_typing_49 : decode cX12_typing 49 = .ok (.getfield 9, 3) := by decide +kernel
theorem dX12_typing_52 : decode cX12_typing 52 = .ok (.bipush 11, 2) := by decide +kernel
theorem dX12_typing_54 : decode cX12_typing 54 = .ok (.iaload, 1) := by decide +kernel
theorem dX12_typing_55 : decode cX12_typing 55 = .ok (.ireturn, 1) := by decide +kernel
theorem dX12_typing_56 : decode cX12_typing 56 = .ok (.aload_n 0, 1) := by decide +kernel
theorem dX12_typing_57 : decode cX12_typing 57 = .ok (.getfield 9, 3) := by decide +kernel
theorem dX12_typing_60 : decode cX12_typing 60 = .ok (.bipush 12, 2) := by decide +kernel
theorem dX12_typing_62 : decode cX12_typing 62 = .ok (.iaload, 1) := by decide +kernel
theorem dX12_typing_63 : decode cX12_typing 63 = .ok (.ireturn, 1) := by decide +kernel
theorem dX12_typing_64 : decode cX12_typing 64 = .ok (.aload_n 0, 1) := by decide +kernel
theorem dX12_typing_65 : decode cX12_typing 65 = .ok (.getfield 9, 3) := by decide +kernel
theorem dX12_typing_68 : decode cX12_typing 68 = .ok (.bipush 13, 2) := by decide +kernel
theorem dX12_typing_70 : decode cX12_typing 70 = .ok (.iaload, 1) := by decide +kernel
theorem dX12_typing_71 : decode cX12_typing 71 = .ok (.ireturn, 1) := by decide +kernel
theorem dX12_typing_72 : decode cX12_typing 72 = .ok (.aload_n 0, 1) := by decide +kernel
theorem dX12_typing_73 : decode cX12_typing 73 = .ok (.getfield 9, 3) := by decide +kernel
theorem dX12_typing_76 : decode cX12_typing 76 = .ok (.bipush 9, 2) := by decide +kernel
theorem dX12_typing_78 : decode cX12_typing 78 = .ok (.iaload, 1) := by decide +kernel
theorem dX12_typing_79 : decode cX12_typing 79 = .ok (.aload_n 0, 1) := by decide +kernel
theorem dX12_typing_80 : decode cX12_typing 80 = .ok (.getfield 9, 3) := by decide +kernel
theorem dX12_typing_83 : decode cX12_typing 83 = .ok (.bipush 10, 2) := by decide +kernel
theorem dX12_typing_85 : decode cX12_typing 85 = .ok (.iaload, 1) := by decide +kernel
theorem dX12_typing_86 : decode cX12_typing 86 = .ok (.isub, 1) := by decide +kernel
theorem dX12_typing_87 : decode cX12_typing 87 = .ok (.ireturn, 1) := by decide +kernel
theorem dX12_typing_88 : decode cX12_typing 88 = .ok (.iconst (-1), 1) := by decide +kernel
theorem dX12_typing_89 : decode cX12_typing 89 = .ok (.ireturn, 1) := by decide +kernel
set_option maxRecDepth 100000 in
set_option maxHeartbeats 4000000 in
theorem rX12_typing (l : Launch) (D : va_G) (Y : Nat → ClassId) (h0 : Nat) (h1 : Nat) (h2 : Nat) (h3 : Nat) (h4 : Nat) (h5 : Nat) (h6 : Nat) (p2 : Int32) (k5 : Nat) (k6 : Nat) (p7 : Int32) (p8 : Int32) (p9 : Int32) (k10 : Nat) (p11 : Int32) (q12 : Int64) (k15 : Nat) (k16 : Nat) (f0 : Nat → Int32) (f1 : Nat → Int32) (f3 : Nat → Int32) (f4 : Nat → Int32) (f13 : Nat → Int32) (f14 : Nat → Int32) (ph : Nat → Int32) (HI : INV ph f0) (HL : k5 ≤ 1600) (HP : PLV f13) (s0 : Int32)  (sz : Nat) : Met l yX12_typing (WSm yX12_typing cX12_typing 2 (some .int)) (mkR 0 0 0 0) (PreC D Y [.ref h0, .int s0] [(h0, oC 13 [.ref h1, .ref h2, .int p2, .ref h3, .ref h4, .int (nI k5), .int (nI k6), .int p7, .int p8, .int p9, .int (nI k10), .int p11, .long q12, .ref h5, .ref h6, .int (nI k15), .int (nI k16)]), (h1, aI Y 3640 f0), (h2, aZ Y 2 f1), (h3, aZ Y 80 f3), (h4, aB Y 1600 f4), (h5, aI Y 200 f13), (h6, aI Y 800 f14)] sz) (QI D (fun (r : Int32) (u : WU) => True) (fun (u : WU) => [(h0, oC 13 [.ref h1, .ref h2, .int (u.2.1 0), .ref h3, .ref h4, .int (nI k5), .int (nI k6), .int p7, .int p8, .int p9, .int (nI k10), .int p11, .long q12, .ref h5, .ref h6, .int (nI k15), .int (nI k16)]), (h1, aI Y 3640 f0), (h2, aZ Y 2 f1), (h3, aZ Y 80 f3), (h4, aB Y 1600 f4), (h5, aI Y 200 f13), (h6, aI Y 800 f14)]) (va_A [(h0, oC 13 [.ref h1, .ref h2, .int p2, .ref h3, .ref h4, .int (nI k5), .int (nI k6), .int p7, .int p8, .int p9, .int (nI k10), .int p11, .long q12, .ref h5, .ref h6, .int (nI k15), .int (nI k16)]), (h1, aI Y 3640 f0), (h2, aZ Y 2 f1), (h3, aZ Y 80 f3), (h4, aB Y 1600 f4), (h5, aI Y 200 f13), (h6, aI Y 800 f14)] sz)) 0 0 (va_A [(h0, oC 13 [.ref h1, .ref h2, .int p2, .ref h3, .ref h4, .int (nI k5), .int (nI k6), .int p7, .int p8, .int p9, .int (nI k10), .int p11, .long q12, .ref h5, .ref h6, .int (nI k15), .int (nI k16)]), (h1, aI Y 3640 f0), (h2, aZ Y 2 f1), (h3, aZ Y 80 f3), (h4, aB Y 1600 f4), (h5, aI Y 200 f13), (h6, aI Y 800 f14)] sz) :=
  met_of  (by decide +kernel) (Nat.le_of_ble_eq_true rfl) (fun p e s m args below meth c B hin hsz => by
    have B : VB p s m args meth c D Y (va_A [(h0, oC 13 [.ref h1, .ref h2, .int p2, .ref h3, .ref h4, .int (nI k5), .int (nI k6), .int p7, .int p8, .int p9, .int (nI k10), .int p11, .long q12, .ref h5, .ref h6, .int (nI k15), .int (nI k16)]), (h1, aI Y 3640 f0), (h2, aZ Y 2 f1), (h3, aZ Y 80 f3), (h4, aB Y 1600 f4), (h5, aI Y 200 f13), (h6, aI Y 800 f14)] sz) cX12_typing 2 RX12 (some .int) := B
    refine V_aload_n 0 B dX12_typing_0 0 rfl ?_
    refine V_iconst 1 B (v := 0) dX12_typing_1 (by decide +kernel) ?_
    refine V_put 2 B gp_RX12_38 0 rfl (Nat.le_of_ble_eq_true rfl) rfl rfl dX12_typing_2 [(h0, oC 13 [.ref h1, .ref h2, .int 0, .ref h3, .ref h4, .int (nI k5), .int (nI k6), .int p7, .int p8, .int p9, .int (nI k10), .int p11, .long q12, .ref h5, .ref h6, .int (nI k15), .int (nI k16)]), (h1, aI Y 3640 f0), (h2, aZ Y 2 f1), (h3, aZ Y 80 f3), (h4, aB Y 1600 f4), (h5, aI Y 200 f13), (h6, aI Y 800 f14)] rfl ?_
    refine V_iload_n 5 B dX12_typing_5 1 rfl ?_
    by_cases kk0 : s0 = 0
    ·
      refine V_eqi _ 0 kk0 ?_
      refine V_tableIn 6 B 40 dX12_typing_6 (by decide +kernel) (by decide +kernel) (off := 34) (by decide +kernel) (by decide) ?_
      refine V_aload_n 40 B dX12_typing_40 0 rfl ?_
      refine V_get 41 B gf_RX12_9 0 rfl rfl dX12_typing_41 ?_
      refine V_bipush 44 B (v := 6) dX12_typing_44 (by decide +kernel) ?_
      refine V_iald 46 B (v := f0 (6)) 1 rfl (vpin _ _ (by decide +kernel)) dX12_typing_46 (by rfl) ?_
      refine V_nmi (fun j1 e2 => ?_)
      have x3 : (-1) ≤ j1.toInt ∧ j1.toInt ≤ 5 := by rw [e2]; exact ⟨INV_lo HI (by omega) (show bd 6 = ((-1), 5) by decide +kernel), INV_hi HI (by omega) (show bd 6 = ((-1), 5) by decide +kernel)⟩
      exact V_iret 47 B dX12_typing_47 (mkW [] [0] [] [] [] []) trivial rfl
    ·
      by_cases kk4 : s0 = 1
      ·
        refine V_eqi _ 1 kk4 ?_
        refine V_tableIn 6 B 48 dX12_typing_6 (by decide +kernel) (by decide +kernel) (off := 42) (by decide +kernel) (by decide) ?_
        refine V_aload_n 48 B dX12_typing_48 0 rfl ?_
        refine V_get 49 B gf_RX12_9 0 rfl rfl dX12_typing_49 ?_
        refine V_bipush 52 B (v := 11) dX12_typing_52 (by decide +kernel) ?_
        refine V_iald 54 B (v := f0 (11)) 1 rfl (vpin _ _ (by decide +kernel)) dX12_typing_54 (by rfl) ?_
        refine V_nmi (fun j5 e6 => ?_)
        exact V_iret 55 B dX12_typing_55 (mkW [] [0] [] [] [] []) trivial rfl
      ·
        by_cases kk7 : s0 = 2
        ·
          refine V_eqi _ 2 kk7 ?_
          refine V_tableIn 6 B 56 dX12_typing_6 (by decide +kernel) (by decide +kernel) (off := 50) (by decide +kernel) (by decide) ?_
          refine V_aload_n 56 B dX12_typing_56 0 rfl ?_
          refine V_get 57 B gf_RX12_9 0 rfl rfl dX12_typing_57 ?_
          refine V_bipush 60 B (v := 12) dX12_typing_60 (by decide +kernel) ?_
          refine V_iald 62 B (v := f0 (12)) 1 rfl (vpin _ _ (by decide +kernel)) dX12_typing_62 (by rfl) ?_
          refine V_nmi (fun j8 e9 => ?_)
          exact V_iret 63 B dX12_typing_63 (mkW [] [0] [] [] [] []) trivial rfl
        ·
          by_cases kk10 : s0 = 3
          ·
            refine V_eqi _ 3 kk10 ?_
            refine V_tableIn 6 B 64 dX12_typing_6 (by decide +kernel) (by decide +kernel) (off := 58) (by decide +kernel) (by decide) ?_
            refine V_aload_n 64 B dX12_typing_64 0 rfl ?_
            refine V_get 65 B gf_RX12_9 0 rfl rfl dX12_typing_65 ?_
            refine V_bipush 68 B (v := 13) dX12_typing_68 (by decide +kernel) ?_
            refine V_iald 70 B (v := f0 (13)) 1 rfl (vpin _ _ (by decide +kernel)) dX12_typing_70 (by rfl) ?_
            refine V_nmi (fun j11 e12 => ?_)
            exact V_iret 71 B dX12_typing_71 (mkW [] [0] [] [] [] []) trivial rfl
          ·
            by_cases kk13 : s0 = 4
            ·
              refine V_eqi _ 4 kk13 ?_
              refine V_tableIn 6 B 72 dX12_typing_6 (by decide +kernel) (by decide +kernel) (off := 66) (by decide +kernel) (by decide) ?_
              refine V_aload_n 72 B dX12_typing_72 0 rfl ?_
              refine V_get 73 B gf_RX12_9 0 rfl rfl dX12_typing_73 ?_
              refine V_bipush 76 B (v := 9) dX12_typing_76 (by decide +kernel) ?_
              refine V_iald 78 B (v := f0 (9)) 1 rfl (vpin _ _ (by decide +kernel)) dX12_typing_78 (by rfl) ?_
              refine V_nmi (fun j14 e15 => ?_)
              refine V_aload_n 79 B dX12_typing_79 0 rfl ?_
              refine V_get 80 B gf_RX12_9 0 rfl rfl dX12_typing_80 ?_
              refine V_bipush 83 B (v := 10) dX12_typing_83 (by decide +kernel) ?_
              refine V_iald 85 B (v := f0 (10)) 1 rfl (vpin _ _ (by decide +kernel)) dX12_typing_85 (by rfl) ?_
              refine V_nmi (fun j16 e17 => ?_)
              refine V_isub 86 B dX12_typing_86 rfl ?_
              refine V_nmi (fun j18 e19 => ?_)
              exact V_iret 87 B dX12_typing_87 (mkW [] [0] [] [] [] []) trivial rfl
            ·
              refine V_tableOut 6 B 88 dX12_typing_6 (sw_out_0_4 kk0 kk4 kk7 kk10 kk13) (by decide) ?_
              refine V_iconst 88 B (v := (-1)) dX12_typing_88 (by decide +kernel) ?_
              exact V_iret 89 B dX12_typing_89 (mkW [] [0] [] [] [] []) trivial rfl)
theorem dX12_pending_0 : decode cX12_pending 0 = .ok (.aload_n 0, 1) := by decide +kernel
theorem dX12_pending_1 : decode cX12_pending 1 = .ok (.iconst 0, 1) := by decide +kernel
theorem dX12_pending_2 : decode cX12_pending 2 = .ok (.putfield 38, 3) := by decide +kernel
theorem dX12_pending_5 : decode cX12_pending 5 = .ok (.iload_n 1, 1) := by decide +kernel
theorem dX12_pending_6 : decode cX12_pending 6 = .ok (.i2l, 1) := by decide +kernel
theorem dX12_pending_7 : decode cX12_pending 7 = .ok (.lconst 0, 1) := by decide +kernel
theorem dX12_pending_8 : decode cX12_pending 8 = .ok (.aload_n 0, 1) := by decide +kernel
theorem dX12_pending_9 : decode cX12_pending 9 = .ok (.getfield 9, 3) := by decide +kernel
theorem dX12_pending_12 : decode cX12_pending 12 = .ok (.bipush 8, 2) := by decide +kernel
theorem dX12_pending_14 : decode cX12_pending 14 = .ok (.iaload, 1) := by decide +kernel
theorem dX12_pending_15 : decode cX12_pending 15 = .ok (.iconst 1, 1) := by decide +kernel
theorem dX12_pending_16 : decode cX12_pending 16 = .ok (.isub, 1) := by decide +kernel
theorem dX12_pending_17 : decode cX12_pending 17 = .ok (.i2l, 1) := by decide +kernel
theorem dX12_pending_18 : decode cX12_pending 18 = .ok (.invokestatic 41, 3) := by decide +kernel
theorem dX12_pending_21 : decode cX12_pending 21 = .ok (.ifCond .eq 15, 3) := by decide +kernel
theorem dX12_pending_36 : decode cX12_pending 36 = .ok (.iconst (-1), 1) := by decide +kernel
theorem dX12_pending_37 : decode cX12_pending 37 = .ok (.ireturn, 1) := by decide +kernel
theorem dX12_pending_24 : decode cX12_pending 24 = .ok (.aload_n 0, 1) := by decide +kernel
theorem dX12_pending_25 : decode cX12_pending 25 = .ok (.getfield 9, 3) := by decide +kernel
theorem dX12_pending_28 : decode cX12_pending 28 = .ok (.bipush 30, 2) := by decide +kernel
theorem dX12_pending_30 : decode cX12_pending 30 = .ok (.iload_n 1, 1) := by decide +kernel
theorem dX12_pending_31 : decode cX12_pending 31 = .ok (.iadd, 1) := by decide +kernel
theorem dX12_pending_32 : decode cX12_pending 32 = .ok (.iaload, 1) := by decide +kernel
theorem dX12_pending_33 : decode cX12_pending 33 = .ok (.goto 4, 3) := by decide +kernel
set_option maxRecDepth 100000 in
set_option maxHeartbeats 4000000 in
theorem rX12_pending (l : Launch) (D : va_G) (Y : Nat → ClassId) (h0 : Nat) (h1 : Nat) (h2 : Nat) (h3 : Nat) (h4 : Nat) (h5 : Nat) (h6 : Nat) (p2 : Int32) (k5 : Nat) (k6 : Nat) (p7 : Int32) (p8 : Int32) (p9 : Int32) (k10 : Nat) (p11 : Int32) (q12 : Int64) (k15 : Nat) (k16 : Nat) (f0 : Nat → Int32) (f1 : Nat → Int32) (f3 : Nat → Int32) (f4 : Nat → Int32) (f13 : Nat → Int32) (f14 : Nat → Int32) (ph : Nat → Int32) (HI : INV ph f0) (HL : k5 ≤ 1600) (HP : PLV f13) (s0 : Int32)  (sz : Nat) : Met l yX12_pending (WSm yX12_pending cX12_pending 2 (some .int)) (mkR 1 0 0 25) (PreC D Y [.ref h0, .int s0] [(h0, oC 13 [.ref h1, .ref h2, .int p2, .ref h3, .ref h4, .int (nI k5), .int (nI k6), .int p7, .int p8, .int p9, .int (nI k10), .int p11, .long q12, .ref h5, .ref h6, .int (nI k15), .int (nI k16)]), (h1, aI Y 3640 f0), (h2, aZ Y 2 f1), (h3, aZ Y 80 f3), (h4, aB Y 1600 f4), (h5, aI Y 200 f13), (h6, aI Y 800 f14)] sz) (QI D (fun (r : Int32) (u : WU) => True) (fun (u : WU) => [(h0, oC 13 [.ref h1, .ref h2, .int (u.2.1 0), .ref h3, .ref h4, .int (nI k5), .int (nI k6), .int p7, .int p8, .int p9, .int (nI k10), .int p11, .long q12, .ref h5, .ref h6, .int (nI k15), .int (nI k16)]), (h1, aI Y 3640 f0), (h2, aZ Y 2 f1), (h3, aZ Y 80 f3), (h4, aB Y 1600 f4), (h5, aI Y 200 f13), (h6, aI Y 800 f14)]) (va_A [(h0, oC 13 [.ref h1, .ref h2, .int p2, .ref h3, .ref h4, .int (nI k5), .int (nI k6), .int p7, .int p8, .int p9, .int (nI k10), .int p11, .long q12, .ref h5, .ref h6, .int (nI k15), .int (nI k16)]), (h1, aI Y 3640 f0), (h2, aZ Y 2 f1), (h3, aZ Y 80 f3), (h4, aB Y 1600 f4), (h5, aI Y 200 f13), (h6, aI Y 800 f14)] sz)) 0 0 (va_A [(h0, oC 13 [.ref h1, .ref h2, .int p2, .ref h3, .ref h4, .int (nI k5), .int (nI k6), .int p7, .int p8, .int p9, .int (nI k10), .int p11, .long q12, .ref h5, .ref h6, .int (nI k15), .int (nI k16)]), (h1, aI Y 3640 f0), (h2, aZ Y 2 f1), (h3, aZ Y 80 f3), (h4, aB Y 1600 f4), (h5, aI Y 200 f13), (h6, aI Y 800 f14)] sz) :=
  met_of  (by decide +kernel) (Nat.le_of_ble_eq_true rfl) (fun p e s m args below meth c B hin hsz => by
    have B : VB p s m args meth c D Y (va_A [(h0, oC 13 [.ref h1, .ref h2, .int p2, .ref h3, .ref h4, .int (nI k5), .int (nI k6), .int p7, .int p8, .int p9, .int (nI k10), .int p11, .long q12, .ref h5, .ref h6, .int (nI k15), .int (nI k16)]), (h1, aI Y 3640 f0), (h2, aZ Y 2 f1), (h3, aZ Y 80 f3), (h4, aB Y 1600 f4), (h5, aI Y 200 f13), (h6, aI Y 800 f14)] sz) cX12_pending 2 RX12 (some .int) := B
    refine V_aload_n 0 B dX12_pending_0 0 rfl ?_
    refine V_iconst 1 B (v := 0) dX12_pending_1 (by decide +kernel) ?_
    refine V_put 2 B gp_RX12_38 0 rfl (Nat.le_of_ble_eq_true rfl) rfl rfl dX12_pending_2 [(h0, oC 13 [.ref h1, .ref h2, .int 0, .ref h3, .ref h4, .int (nI k5), .int (nI k6), .int p7, .int p8, .int p9, .int (nI k10), .int p11, .long q12, .ref h5, .ref h6, .int (nI k15), .int (nI k16)]), (h1, aI Y 3640 f0), (h2, aZ Y 2 f1), (h3, aZ Y 80 f3), (h4, aB Y 1600 f4), (h5, aI Y 200 f13), (h6, aI Y 800 f14)] rfl ?_
    refine V_iload_n 5 B dX12_pending_5 1 rfl ?_
    refine V_i2l 6 B dX12_pending_6 rfl ?_
    refine V_nml (fun o0 e1 => ?_)
    have x2 : o0.toInt = s0.toInt := by rw [e1, Int32.toInt_toInt64]
    refine V_lconst 7 B (v := 0) dX12_pending_7 (by decide +kernel) ?_
    refine V_aload_n 8 B dX12_pending_8 0 rfl ?_
    refine V_get 9 B gf_RX12_9 0 rfl rfl dX12_pending_9 ?_
    refine V_bipush 12 B (v := 8) dX12_pending_12 (by decide +kernel) ?_
    have x3 : (gN f0 8) ≤ 3 := gN_le HI (by omega) (show bd 8 = (0, ((3 : Nat) : Int)) by decide +kernel)
    refine V_iald 14 B (v := (nI (gN f0 8))) 1 rfl (vpin _ _ (by decide +kernel)) dX12_pending_14 (by show f0 8 = _; exact gN_eq HI (by omega) (show bd 8 = (0, ((3 : Nat) : Int)) by decide +kernel)) ?_
    refine V_iconst 15 B (v := 1) dX12_pending_15 (by decide +kernel) ?_
    refine V_isub 16 B dX12_pending_16 rfl ?_
    refine V_nmi (fun j4 e5 => ?_)
    have x6 : j4.toInt = (((gN f0 8) : Nat) : Int) - ((1 : Nat) : Int) := by rw [e5]; exact nI_subT (a := (gN f0 8)) (b := 1) (by omega) (by omega)
    refine V_i2l 17 B dX12_pending_17 rfl ?_
    refine V_nml (fun o7 e8 => ?_)
    have x9 : o7.toInt = j4.toInt := by rw [e8, Int32.toInt_toInt64]
    refine V_csi 18 B (st := []) (As := [.long o0, .long 0, .long o7]) (fun sz => rX12_inRange l D Y o0 0 o7 sz) glS_RX12_41 ⟨rfl, rfl⟩ ⟨(Nat.le_of_ble_eq_true rfl), (Nat.le_of_ble_eq_true rfl)⟩ ⟨(Nat.le_of_ble_eq_true rfl), (Nat.le_of_ble_eq_true rfl)⟩ [] rfl rfl (Nat.le_of_ble_eq_true rfl) rfl (fun _ _ _ => rfl) dX12_pending_18 (fun j10 u11 w12 => ?_)
    refine V_ws [(h0, oC 13 [.ref h1, .ref h2, .int 0, .ref h3, .ref h4, .int (nI k5), .int (nI k6), .int p7, .int p8, .int p9, .int (nI k10), .int p11, .long q12, .ref h5, .ref h6, .int (nI k15), .int (nI k16)]), (h1, aI Y 3640 f0), (h2, aZ Y 2 f1), (h3, aZ Y 80 f3), (h4, aB Y 1600 f4), (h5, aI Y 200 f13), (h6, aI Y 800 f14)] rfl ?_
    rcases w12 with ⟨rfl, x15⟩ | ⟨rfl, x13, x14⟩
    ·
      rw [show (0 : Int64).toInt = 0 by decide +kernel] at x15
      refine V_if_eq_t 21 B 36 dX12_pending_21 (by decide) (by decide +kernel) ?_
      refine V_iconst 36 B (v := (-1)) dX12_pending_36 (by decide +kernel) ?_
      exact V_iret 37 B dX12_pending_37 (mkW [] [0] [] [] [] []) trivial rfl
    ·
      rw [show (0 : Int64).toInt = 0 by decide +kernel] at x13
      refine V_if_eq_f 21 B 36 dX12_pending_21 (by decide) (by decide +kernel) ?_
      refine V_aload_n 24 B dX12_pending_24 0 rfl ?_
      refine V_get 25 B gf_RX12_9 0 rfl rfl dX12_pending_25 ?_
      refine V_bipush 28 B (v := 30) dX12_pending_28 (by decide +kernel) ?_
      refine V_iload_n 30 B dX12_pending_30 1 rfl ?_
      obtain ⟨n16, x17, rfl⟩ := nat_of (x := s0) (n := 2) (by omega) (by omega)
      have e18 := nI_toInt (show n16 < 2 ^ 31 by omega)
      refine V_iadd 31 B (v := (nI (30 + n16))) dX12_pending_31 (nI_addE (a := 30) (b := n16) (by omega)) ?_
      refine V_iald 32 B (v := f0 (30 + n16)) 1 rfl (vp_in_nI (n := 30 + n16) (by omega) (by decide)) dX12_pending_32 (by rw [nI_clamp (show 30 + n16 < 2 ^ 31 by omega)]) ?_
      refine V_nmi (fun j19 e20 => ?_)
      refine V_goto 33 B 37 dX12_pending_33 (by decide) ?_
      exact V_iret 37 B dX12_pending_37 (mkW [] [0] [] [] [] []) trivial rfl)
theorem dX12_backTo_0 : decode cX12_backTo 0 = .ok (.aload_n 0, 1) := by decide +kernel
theorem dX12_backTo_1 : decode cX12_backTo 1 = .ok (.iconst 0, 1) := by decide +kernel
theorem dX12_backTo_2 : decode cX12_backTo 2 = .ok (.putfield 38, 3) := by decide +kernel
theorem dX12_backTo_5 : decode cX12_backTo 5 = .ok (.iload_n 1, 1) := by decide +kernel
theorem dX12_backTo_6 : decode cX12_backTo 6 = .ok (.i2l, 1) := by decide +kernel
theorem dX12_backTo_7 : decode cX12_backTo 7 = .ok (.lconst 0, 1) := by decide +kernel
theorem dX12_backTo_8 : decode cX12_backTo 8 = .ok (.aload_n 0, 1) := by decide +kernel
theorem dX12_backTo_9 : decode cX12_backTo 9 = .ok (.getfield 9, 3) := by decide +kernel
theorem dX12_backTo_12 : decode cX12_backTo 12 = .ok (.bipush 7, 2) := by decide +kernel
theorem dX12_backTo_14 : decode cX12_backTo 14 = .ok (.iaload, 1) := by decide +kernel
theorem dX12_backTo_15 : decode cX12_backTo 15 = .ok (.iconst 1, 1) := by decide +kernel
theorem dX12_backTo_16 : decode cX12_backTo 16 = .ok (.isub, 1) := by decide +kernel
theorem dX12_backTo_17 : decode cX12_backTo 17 = .ok (.i2l, 1) := by decide +kernel
theorem dX12_backTo_18 : decode cX12_backTo 18 = .ok (.invokestatic 41, 3) := by decide +kernel
theorem dX12_backTo_21 : decode cX12_backTo 21 = .ok (.ifCond .eq 25, 3) := by decide +kernel
theorem dX12_backTo_46 : decode cX12_backTo 46 = .ok (.iconst (-1), 1) := by decide +kernel
theorem dX12_backTo_47 : decode cX12_backTo 47 = .ok (.ireturn, 1) := by decide +kernel
theorem dX12_backTo_24 : decode cX12_backTo 24 = .ok (.aload_n 0, 1) := by decide +kernel
theorem dX12_backTo_25 : decode cX12_backTo 25 = .ok (.getfield 9, 3) := by decide +kernel
theorem dX12_backTo_28 : decode cX12_backTo 28 = .ok (.bipush 22, 2) := by decide +kernel
theorem dX12_backTo_30 : decode cX12_backTo 30 = .ok (.aload_n 0, 1) := by decide +kernel
theorem dX12_backTo_31 : decode cX12_backTo 31 = .ok (.getfield 9, 3) := by decide +kernel
theorem dX12_backTo_34 : decode cX12_backTo 34 = .ok (.bipush 7, 2) := by decide +kernel
theorem dX12_backTo_36 : decode cX12_backTo 36 = .ok (.iaload, 1) := by decide +kernel
theorem dX12_backTo_37 : decode cX12_backTo 37 = .ok (.iadd, 1) := by decide +kernel
theorem dX12_backTo_38 : decode cX12_backTo 38 = .ok (.iconst 1, 1) := by decide +kernel
theorem dX12_backTo_39 : decode cX12_backTo 39 = .ok (.isub, 1) := by decide +kernel
theorem dX12_backTo_40 : decode cX12_backTo 40 = .ok (.iload_n 1, 1) := by decide +kernel
theorem dX12_backTo_41 : decode cX12_backTo 41 = .ok (.isub, 1) := by decide +kernel
theorem dX12_backTo_42 : decode cX12_backTo 42 = .ok (.iaload, 1) := by decide +kernel
theorem dX12_backTo_43 : decode cX12_backTo 43 = .ok (.goto 4, 3) := by decide +kernel
set_option maxRecDepth 100000 in
set_option maxHeartbeats 4000000 in
theorem rX12_backTo (l : Launch) (D : va_G) (Y : Nat → ClassId) (h0 : Nat) (h1 : Nat) (h2 : Nat) (h3 : Nat) (h4 : Nat) (h5 : Nat) (h6 : Nat) (p2 : Int32) (k5 : Nat) (k6 : Nat) (p7 : Int32) (p8 : Int32) (p9 : Int32) (k10 : Nat) (p11 : Int32) (q12 : Int64) (k15 : Nat) (k16 : Nat) (f0 : Nat → Int32) (f1 : Nat → Int32) (f3 : Nat → Int32) (f4 : Nat → Int32) (f13 : Nat → Int32) (f14 : Nat → Int32) (ph : Nat → Int32) (HI : INV ph f0) (HL : k5 ≤ 1600) (HP : PLV f13) (s0 : Int32)  (sz : Nat) : Met l yX12_backTo (WSm yX12_backTo cX12_backTo 2 (some .int)) (mkR 1 0 0 25) (PreC D Y [.ref h0, .int s0] [(h0, oC 13 [.ref h1, .ref h2, .int p2, .ref h3, .ref h4, .int (nI k5), .int (nI k6), .int p7, .int p8, .int p9, .int (nI k10), .int p11, .long q12, .ref h5, .ref h6, .int (nI k15), .int (nI k16)]), (h1, aI Y 3640 f0), (h2, aZ Y 2 f1), (h3, aZ Y 80 f3), (h4, aB Y 1600 f4), (h5, aI Y 200 f13), (h6, aI Y 800 f14)] sz) (QI D (fun (r : Int32) (u : WU) => True) (fun (u : WU) => [(h0, oC 13 [.ref h1, .ref h2, .int (u.2.1 0), .ref h3, .ref h4, .int (nI k5), .int (nI k6), .int p7, .int p8, .int p9, .int (nI k10), .int p11, .long q12, .ref h5, .ref h6, .int (nI k15), .int (nI k16)]), (h1, aI Y 3640 f0), (h2, aZ Y 2 f1), (h3, aZ Y 80 f3), (h4, aB Y 1600 f4), (h5, aI Y 200 f13), (h6, aI Y 800 f14)]) (va_A [(h0, oC 13 [.ref h1, .ref h2, .int p2, .ref h3, .ref h4, .int (nI k5), .int (nI k6), .int p7, .int p8, .int p9, .int (nI k10), .int p11, .long q12, .ref h5, .ref h6, .int (nI k15), .int (nI k16)]), (h1, aI Y 3640 f0), (h2, aZ Y 2 f1), (h3, aZ Y 80 f3), (h4, aB Y 1600 f4), (h5, aI Y 200 f13), (h6, aI Y 800 f14)] sz)) 0 0 (va_A [(h0, oC 13 [.ref h1, .ref h2, .int p2, .ref h3, .ref h4, .int (nI k5), .int (nI k6), .int p7, .int p8, .int p9, .int (nI k10), .int p11, .long q12, .ref h5, .ref h6, .int (nI k15), .int (nI k16)]), (h1, aI Y 3640 f0), (h2, aZ Y 2 f1), (h3, aZ Y 80 f3), (h4, aB Y 1600 f4), (h5, aI Y 200 f13), (h6, aI Y 800 f14)] sz) :=
  met_of  (by decide +kernel) (Nat.le_of_ble_eq_true rfl) (fun p e s m args below meth c B hin hsz => by
    have B : VB p s m args meth c D Y (va_A [(h0, oC 13 [.ref h1, .ref h2, .int p2, .ref h3, .ref h4, .int (nI k5), .int (nI k6), .int p7, .int p8, .int p9, .int (nI k10), .int p11, .long q12, .ref h5, .ref h6, .int (nI k15), .int (nI k16)]), (h1, aI Y 3640 f0), (h2, aZ Y 2 f1), (h3, aZ Y 80 f3), (h4, aB Y 1600 f4), (h5, aI Y 200 f13), (h6, aI Y 800 f14)] sz) cX12_backTo 2 RX12 (some .int) := B
    refine V_aload_n 0 B dX12_backTo_0 0 rfl ?_
    refine V_iconst 1 B (v := 0) dX12_backTo_1 (by decide +kernel) ?_
    refine V_put 2 B gp_RX12_38 0 rfl (Nat.le_of_ble_eq_true rfl) rfl rfl dX12_backTo_2 [(h0, oC 13 [.ref h1, .ref h2, .int 0, .ref h3, .ref h4, .int (nI k5), .int (nI k6), .int p7, .int p8, .int p9, .int (nI k10), .int p11, .long q12, .ref h5, .ref h6, .int (nI k15), .int (nI k16)]), (h1, aI Y 3640 f0), (h2, aZ Y 2 f1), (h3, aZ Y 80 f3), (h4, aB Y 1600 f4), (h5, aI Y 200 f13), (h6, aI Y 800 f14)] rfl ?_
    refine V_iload_n 5 B dX12_backTo_5 1 rfl ?_
    refine V_i2l 6 B dX12_backTo_6 rfl ?_
    refine V_nml (fun o0 e1 => ?_)
    have x2 : o0.toInt = s0.toInt := by rw [e1, Int32.toInt_toInt64]
    refine V_lconst 7 B (v := 0) dX12_backTo_7 (by decide +kernel) ?_
    refine V_aload_n 8 B dX12_backTo_8 0 rfl ?_
    refine V_get 9 B gf_RX12_9 0 rfl rfl dX12_backTo_9 ?_
    refine V_bipush 12 B (v := 7) dX12_backTo_12 (by decide +kernel) ?_
    have x3 : (gN f0 7) ≤ 8 := gN_le HI (by omega) (show bd 7 = (0, ((8 : Nat) : Int)) by decide +kernel)
    refine V_iald 14 B (v := (nI (gN f0 7))) 1 rfl (vpin _ _ (by decide +kernel)) dX12_backTo_14 (by show f0 7 = _; exact gN_eq HI (by omega) (show bd 7 = (0, ((8 : Nat) : Int)) by decide +kernel)) ?_
    refine V_iconst 15 B (v := 1) dX12_backTo_15 (by decide +kernel) ?_
    refine V_isub 16 B dX12_backTo_16 rfl ?_
    refine V_nmi (fun j4 e5 => ?_)
    have x6 : j4.toInt = (((gN f0 7) : Nat) : Int) - ((1 : Nat) : Int) := by rw [e5]; exact nI_subT (a := (gN f0 7)) (b := 1) (by omega) (by omega)
    refine V_i2l 17 B dX12_backTo_17 rfl ?_
    refine V_nml (fun o7 e8 => ?_)
    have x9 : o7.toInt = j4.toInt := by rw [e8, Int32.toInt_toInt64]
    refine V_csi 18 B (st := []) (As := [.long o0, .long 0, .long o7]) (fun sz => rX12_inRange l D Y o0 0 o7 sz) glS_RX12_41 ⟨rfl, rfl⟩ ⟨(Nat.le_of_ble_eq_true rfl), (Nat.le_of_ble_eq_true rfl)⟩ ⟨(Nat.le_of_ble_eq_true rfl), (Nat.le_of_ble_eq_true rfl)⟩ [] rfl rfl (Nat.le_of_ble_eq_true rfl) rfl (fun _ _ _ => rfl) dX12_backTo_18 (fun j10 u11 w12 => ?_)
    refine V_ws [(h0, oC 13 [.ref h1, .ref h2, .int 0, .ref h3, .ref h4, .int (nI k5), .int (nI k6), .int p7, .int p8, .int p9, .int (nI k10), .int p11, .long q12, .ref h5, .ref h6, .int (nI k15), .int (nI k16)]), (h1, aI Y 3640 f0), (h2, aZ Y 2 f1), (h3, aZ Y 80 f3), (h4, aB Y 1600 f4), (h5, aI Y 200 f13), (h6, aI Y 800 f14)] rfl ?_
    rcases w12 with ⟨rfl, x15⟩ | ⟨rfl, x13, x14⟩
    ·
      rw [show (0 : Int64).toInt = 0 by decide +kernel] at x15
      refine V_if_eq_t 21 B 46 dX12_backTo_21 (by decide) (by decide +kernel) ?_
      refine V_iconst 46 B (v := (-1)) dX12_backTo_46 (by decide +kernel) ?_
      exact V_iret 47 B dX12_backTo_47 (mkW [] [0] [] [] [] []) trivial rfl
    ·
      rw [show (0 : Int64).toInt = 0 by decide +kernel] at x13
      refine V_if_eq_f 21 B 46 dX12_backTo_21 (by decide) (by decide +kernel) ?_
      refine V_aload_n 24 B dX12_backTo_24 0 rfl ?_
      refine V_get 25 B gf_RX12_9 0 rfl rfl dX12_backTo_25 ?_
      refine V_bipush 28 B (v := 22) dX12_backTo_28 (by decide +kernel) ?_
      refine V_aload_n 30 B dX12_backTo_30 0 rfl ?_
      refine V_get 31 B gf_RX12_9 0 rfl rfl dX12_backTo_31 ?_
      refine V_bipush 34 B (v := 7) dX12_backTo_34 (by decide +kernel) ?_
      have x16 : (gN f0 7) ≤ 8 := gN_le HI (by omega) (show bd 7 = (0, ((8 : Nat) : Int)) by decide +kernel)
      refine V_iald 36 B (v := (nI (gN f0 7))) 1 rfl (vpin _ _ (by decide +kernel)) dX12_backTo_36 (by show f0 7 = _; exact gN_eq HI (by omega) (show bd 7 = (0, ((8 : Nat) : Int)) by decide +kernel)) ?_
      refine V_iadd 37 B (v := (nI (22 + (gN f0 7)))) dX12_backTo_37 (nI_addE (a := 22) (b := (gN f0 7)) (by omega)) ?_
      refine V_iconst 38 B (v := 1) dX12_backTo_38 (by decide +kernel) ?_
      refine V_isub 39 B (v := (nI (21 + (gN f0 7)))) dX12_backTo_39 (nI_subE (a := 22 + (gN f0 7)) (b := 1) (by omega)) ?_
      refine V_iload_n 40 B dX12_backTo_40 1 rfl ?_
      obtain ⟨n17, x18, rfl⟩ := nat_of (x := s0) (n := 7) (by omega) (by omega)
      have e19 := nI_toInt (show n17 < 2 ^ 31 by omega)
      refine V_isub 41 B (v := (nI ((21 + (gN f0 7) - n17)))) dX12_backTo_41 (nI_subE (a := 21 + (gN f0 7)) (b := n17) (by omega)) ?_
      refine V_iald 42 B (v := f0 ((21 + (gN f0 7) - n17))) 1 rfl (vp_in_nI (n := (21 + (gN f0 7) - n17)) (by omega) (by decide)) dX12_backTo_42 (by rw [nI_clamp (show (21 + (gN f0 7) - n17) < 2 ^ 31 by omega)]) ?_
      refine V_nmi (fun j20 e21 => ?_)
      refine V_goto 43 B 47 dX12_backTo_43 (by decide) ?_
      exact V_iret 47 B dX12_backTo_47 (mkW [] [0] [] [] [] []) trivial rfl)
theorem dX12_setTimeout_0 : decode cX12_setTimeout 0 = .ok (.aload_n 0, 1) := by decide +kernel
theorem dX12_setTimeout_1 : decode cX12_setTimeout 1 = .ok (.iconst 0, 1) := by decide +kernel
theorem dX12_setTimeout_2 : decode cX12_setTimeout 2 = .ok (.putfield 38, 3) := by decide +kernel
theorem dX12_setTimeout_5 : decode cX12_setTimeout 5 = .ok (.aload_n 0, 1) := by decide +kernel
theorem dX12_setTimeout_6 : decode cX12_setTimeout 6 = .ok (.iload_n 1, 1) := by decide +kernel
theorem dX12_setTimeout_7 : decode cX12_setTimeout 7 = .ok (.i2l, 1) := by decide +kernel
theorem dX12_setTimeout_8 : decode cX12_setTimeout 8 = .ok (.lconst 0, 1) := by decide +kernel
theorem dX12_setTimeout_9 : decode cX12_setTimeout 9 = .ok (.ldc2_w 229, 3) := by decide +kernel
theorem dX12_setTimeout_12 : decode cX12_setTimeout 12 = .ok (.invokestatic 41, 3) := by decide +kernel
theorem dX12_setTimeout_15 : decode cX12_setTimeout 15 = .ok (.ifCond .ne 7, 3) := by decide +kernel
theorem dX12_setTimeout_18 : decode cX12_setTimeout 18 = .ok (.iconst 1, 1) := by decide +kernel
theorem dX12_setTimeout_19 : decode cX12_setTimeout 19 = .ok (.goto 4, 3) := by decide +kernel
theorem dX12_setTimeout_23 : decode cX12_setTimeout 23 = .ok (.iconst 1, 1) := by decide +kernel
theorem dX12_setTimeout_24 : decode cX12_setTimeout 24 = .ok (.invokevirtual 69, 3) := by decide +kernel
theorem dX12_setTimeout_27 : decode cX12_setTimeout 27 = .ok (.ifCond .eq 5, 3) := by decide +kernel
theorem dX12_setTimeout_30 : decode cX12_setTimeout 30 = .ok (.iconst 0, 1) := by decide +kernel
theorem dX12_setTimeout_31 : decode cX12_setTimeout 31 = .ok (.ireturn, 1) := by decide +kernel
theorem dX12_setTimeout_22 : decode cX12_setTimeout 22 = .ok (.iconst 0, 1) := by decide +kernel
theorem dX12_setTimeout_32 : decode cX12_setTimeout 32 = .ok (.aload_n 0, 1) := by decide +kernel
theorem dX12_setTimeout_33 : decode cX12_setTimeout 33 = .ok (.getfield 9, 3) := by decide +kernel
theorem dX12_setTimeout_36 : decode cX12_setTimeout 36 = .ok (.iconst 5, 1) := by decide +kernel
theorem dX12_setTimeout_37 : decode cX12_setTimeout 37 = .ok (.iaload, 1) := by decide +kernel
theorem dX12_setTimeout_38 : decode cX12_setTimeout 38 = .ok (.istore_n 2, 1) := by decide +kernel
theorem dX12_setTimeout_39 : decode cX12_setTimeout 39 = .ok (.aload_n 0, 1) := by decide +kernel
theorem dX12_setTimeout_40 : decode cX12_setTimeout 40 = .ok (.getfield 9, 3) := by decide +kernel
theorem dX12_setTimeout_43 : decode cX12_setTimeout 43 = .ok (.iconst 5, 1) := by decide +kernel
theorem dX12_setTimeout_44 : decode cX12_setTimeout 44 = .ok (.iload_n 1, 1) := by decide +kernel
theorem dX12_setTimeout_45 : decode cX12_setTimeout 45 = .ok (.iastore, 1) := by decide +kernel
theorem dX12_setTimeout_46 : decode cX12_setTimeout 46 = .ok (.aload_n 0, 1) := by decide +kernel
theorem dX12_setTimeout_47 : decode cX12_setTimeout 47 = .ok (.invokevirtual 226, 3) := by decide +kernel
theorem dX12_setTimeout_50 : decode cX12_setTimeout 50 = .ok (.iload_n 2, 1) := by decide +kernel
theorem dX12_setTimeout_51 : decode cX12_setTimeout 51 = .ok (.ireturn, 1) := by decide +kernel
set_option maxRecDepth 100000 in
set_option maxHeartbeats 4000000 in
theorem rX12_setTimeout (l : Launch) (D : va_G) (Y : Nat → ClassId) (h0 : Nat) (h1 : Nat) (h2 : Nat) (h3 : Nat) (h4 : Nat) (h5 : Nat) (h6 : Nat) (p2 : Int32) (k5 : Nat) (k6 : Nat) (p7 : Int32) (p8 : Int32) (p9 : Int32) (k10 : Nat) (p11 : Int32) (q12 : Int64) (k15 : Nat) (k16 : Nat) (f0 : Nat → Int32) (f1 : Nat → Int32) (f3 : Nat → Int32) (f4 : Nat → Int32) (f13 : Nat → Int32) (f14 : Nat → Int32) (ph : Nat → Int32) (HI : INV ph f0) (HL : k5 ≤ 1600) (HP : PLV f13) (s0 : Int32)  (sz : Nat) : Met l yX12_setTimeout (WSm yX12_setTimeout cX12_setTimeout 3 (some .int)) (mkR 1 0 0 25) (PreC D Y [.ref h0, .int s0] [(h0, oC 13 [.ref h1, .ref h2, .int p2, .ref h3, .ref h4, .int (nI k5), .int (nI k6), .int p7, .int p8, .int p9, .int (nI k10), .int p11, .long q12, .ref h5, .ref h6, .int (nI k15), .int (nI k16)]), (h1, aI Y 3640 f0), (h2, aZ Y 2 f1), (h3, aZ Y 80 f3), (h4, aB Y 1600 f4), (h5, aI Y 200 f13), (h6, aI Y 800 f14)] sz) (QI D (fun (r : Int32) (u : WU) => INV ph (u.2.2.2.1 0)) (fun (u : WU) => [(h0, oC 13 [.ref h1, .ref h2, .int (u.2.1 0), .ref h3, .ref h4, .int (nI k5), .int (nI k6), .int p7, .int p8, .int p9, .int (nI k10), .int p11, .long q12, .ref h5, .ref h6, .int (nI k15), .int (nI k16)]), (h1, aI Y 3640 (u.2.2.2.1 0)), (h2, aZ Y 2 f1), (h3, aZ Y 80 f3), (h4, aB Y 1600 f4), (h5, aI Y 200 f13), (h6, aI Y 800 f14)]) (va_A [(h0, oC 13 [.ref h1, .ref h2, .int p2, .ref h3, .ref h4, .int (nI k5), .int (nI k6), .int p7, .int p8, .int p9, .int (nI k10), .int p11, .long q12, .ref h5, .ref h6, .int (nI k15), .int (nI k16)]), (h1, aI Y 3640 f0), (h2, aZ Y 2 f1), (h3, aZ Y 80 f3), (h4, aB Y 1600 f4), (h5, aI Y 200 f13), (h6, aI Y 800 f14)] sz)) 0 0 (va_A [(h0, oC 13 [.ref h1, .ref h2, .int p2, .ref h3, .ref h4, .int (nI k5), .int (nI k6), .int p7, .int p8, .int p9, .int (nI k10), .int p11, .long q12, .ref h5, .ref h6, .int (nI k15), .int (nI k16)]), (h1, aI Y 3640 f0), (h2, aZ Y 2 f1), (h3, aZ Y 80 f3), (h4, aB Y 1600 f4), (h5, aI Y 200 f13), (h6, aI Y 800 f14)] sz) :=
  met_of  (by decide +kernel) (Nat.le_of_ble_eq_true rfl) (fun p e s m args below meth c B hin hsz => by
    have B : VB p s m args meth c D Y (va_A [(h0, oC 13 [.ref h1, .ref h2, .int p2, .ref h3, .ref h4, .int (nI k5), .int (nI k6), .int p7, .int p8, .int p9, .int (nI k10), .int p11, .long q12, .ref h5, .ref h6, .int (nI k15), .int (nI k16)]), (h1, aI Y 3640 f0), (h2, aZ Y 2 f1), (h3, aZ Y 80 f3), (h4, aB Y 1600 f4), (h5, aI Y 200 f13), (h6, aI Y 800 f14)] sz) cX12_setTimeout 3 RX12 (some .int) := B
    refine V_aload_n 0 B dX12_setTimeout_0 0 rfl ?_
    refine V_iconst 1 B (v := 0) dX12_setTimeout_1 (by decide +kernel) ?_
    refine V_put 2 B gp_RX12_38 0 rfl (Nat.le_of_ble_eq_true rfl) rfl rfl dX12_setTimeout_2 [(h0, oC 13 [.ref h1, .ref h2, .int 0, .ref h3, .ref h4, .int (nI k5), .int (nI k6), .int p7, .int p8, .int p9, .int (nI k10), .int p11, .long q12, .ref h5, .ref h6, .int (nI k15), .int (nI k16)]), (h1, aI Y 3640 f0), (h2, aZ Y 2 f1), (h3, aZ Y 80 f3), (h4, aB Y 1600 f4), (h5, aI Y 200 f13), (h6, aI Y 800 f14)] rfl ?_
    refine V_aload_n 5 B dX12_setTimeout_5 0 rfl ?_
    refine V_iload_n 6 B dX12_setTimeout_6 1 rfl ?_
    refine V_i2l 7 B dX12_setTimeout_7 rfl ?_
    refine V_nml (fun o0 e1 => ?_)
    have x2 : o0.toInt = s0.toInt := by rw [e1, Int32.toInt_toInt64]
    refine V_lconst 8 B (v := 0) dX12_setTimeout_8 (by decide +kernel) ?_
    refine V_ldc2 9 B (v := 999) dX12_setTimeout_9 (mT9 142 rfl rfl) ?_
    refine V_csi 12 B (st := [.ref h0]) (As := [.long o0, .long 0, .long 999]) (fun sz => rX12_inRange l D Y o0 0 999 sz) glS_RX12_41 ⟨rfl, rfl⟩ ⟨(Nat.le_of_ble_eq_true rfl), (Nat.le_of_ble_eq_true rfl)⟩ ⟨(Nat.le_of_ble_eq_true rfl), (Nat.le_of_ble_eq_true rfl)⟩ [] rfl rfl (Nat.le_of_ble_eq_true rfl) rfl (fun _ _ _ => rfl) dX12_setTimeout_12 (fun j3 u4 w5 => ?_)
    refine V_ws [(h0, oC 13 [.ref h1, .ref h2, .int 0, .ref h3, .ref h4, .int (nI k5), .int (nI k6), .int p7, .int p8, .int p9, .int (nI k10), .int p11, .long q12, .ref h5, .ref h6, .int (nI k15), .int (nI k16)]), (h1, aI Y 3640 f0), (h2, aZ Y 2 f1), (h3, aZ Y 80 f3), (h4, aB Y 1600 f4), (h5, aI Y 200 f13), (h6, aI Y 800 f14)] rfl ?_
    rcases w5 with ⟨rfl, x8⟩ | ⟨rfl, x6, x7⟩
    ·
      rw [show (0 : Int64).toInt = 0 by decide +kernel] at x8
      rw [show (999 : Int64).toInt = 999 by decide +kernel] at x8
      refine V_if_ne_f 15 B 22 dX12_setTimeout_15 (by decide) (by decide +kernel) ?_
      refine V_iconst 18 B (v := 1) dX12_setTimeout_18 (by decide +kernel) ?_
      refine V_goto 19 B 23 dX12_setTimeout_19 (by decide) ?_
      refine V_iconst 23 B (v := 1) dX12_setTimeout_23 (by decide +kernel) ?_
      refine V_cvi 24 B (st := []) (As := [.int 1, .int 1]) (fun sz => rX12_throwsIf_1 l D Y h0 h1 h2 h3 h4 h5 h6 0 k5 k6 p7 p8 p9 k10 p11 q12 k15 k16 f0 f1 f3 f4 f13 f14 ph HI (by omega) HP 1 sz) glV_RX12_69 ⟨rfl, rfl⟩ ⟨(Nat.le_of_ble_eq_true rfl), (Nat.le_of_ble_eq_true rfl)⟩ ⟨(Nat.le_of_ble_eq_true rfl), (Nat.le_of_ble_eq_true rfl)⟩ [0, 0, 0, 0, 0, 0, 0] rfl 13 0 rfl rfl rfl rfl (Nat.le_of_ble_eq_true rfl) rfl (fun _ _ _ => rfl) dX12_setTimeout_24 (fun j9 u10 w11 => ?_)
      refine V_ws [(h0, oC 13 [.ref h1, .ref h2, .int (u10.2.1 0), .ref h3, .ref h4, .int (nI k5), .int (nI k6), .int p7, .int p8, .int p9, .int (nI k10), .int p11, .long q12, .ref h5, .ref h6, .int (nI k15), .int (nI k16)]), (h1, aI Y 3640 f0), (h2, aZ Y 2 f1), (h3, aZ Y 80 f3), (h4, aB Y 1600 f4), (h5, aI Y 200 f13), (h6, aI Y 800 f14)] rfl ?_
      have x12 := w11
      clear w11
      obtain rfl := x12
      refine V_if_eq_f 27 B 32 dX12_setTimeout_27 (by decide) (by decide +kernel) ?_
      refine V_iconst 30 B (v := 0) dX12_setTimeout_30 (by decide +kernel) ?_
      exact V_iret 31 B dX12_setTimeout_31 (mkW [] [(u10.2.1 0)] [] [f0] [] []) HI rfl
    ·
      rw [show (0 : Int64).toInt = 0 by decide +kernel] at x6
      rw [show (999 : Int64).toInt = 999 by decide +kernel] at x7
      refine V_if_ne_t 15 B 22 dX12_setTimeout_15 (by decide) (by decide +kernel) ?_
      refine V_iconst 22 B (v := 0) dX12_setTimeout_22 (by decide +kernel) ?_
      refine V_iconst 23 B (v := 1) dX12_setTimeout_23 (by decide +kernel) ?_
      refine V_cvi 24 B (st := []) (As := [.int 0, .int 1]) (fun sz => rX12_throwsIf_0 l D Y h0 h1 h2 h3 h4 h5 h6 0 k5 k6 p7 p8 p9 k10 p11 q12 k15 k16 f0 f1 f3 f4 f13 f14 ph HI (by omega) HP 1 sz) glV_RX12_69 ⟨rfl, rfl⟩ ⟨(Nat.le_of_ble_eq_true rfl), (Nat.le_of_ble_eq_true rfl)⟩ ⟨(Nat.le_of_ble_eq_true rfl), (Nat.le_of_ble_eq_true rfl)⟩ [0, 0, 0, 0, 0, 0, 0] rfl 13 0 rfl rfl rfl rfl (Nat.le_of_ble_eq_true rfl) rfl (fun _ _ _ => rfl) dX12_setTimeout_24 (fun j13 u14 w15 => ?_)
      refine V_ws [(h0, oC 13 [.ref h1, .ref h2, .int (u14.2.1 0), .ref h3, .ref h4, .int (nI k5), .int (nI k6), .int p7, .int p8, .int p9, .int (nI k10), .int p11, .long q12, .ref h5, .ref h6, .int (nI k15), .int (nI k16)]), (h1, aI Y 3640 f0), (h2, aZ Y 2 f1), (h3, aZ Y 80 f3), (h4, aB Y 1600 f4), (h5, aI Y 200 f13), (h6, aI Y 800 f14)] rfl ?_
      have x16 := w15
      clear w15
      obtain rfl := x16
      refine V_if_eq_t 27 B 32 dX12_setTimeout_27 (by decide) (by decide +kernel) ?_
      refine V_aload_n 32 B dX12_setTimeout_32 0 rfl ?_
      refine V_get 33 B gf_RX12_9 0 rfl rfl dX12_setTimeout_33 ?_
      refine V_iconst 36 B (v := 5) dX12_setTimeout_36 (by decide +kernel) ?_
      refine V_iald 37 B (v := f0 (5)) 1 rfl (vpin _ _ (by decide +kernel)) dX12_setTimeout_37 (by rfl) ?_
      refine V_nmi (fun j17 e18 => ?_)
      refine V_istore_n 38 B (lv2 := [(2, .int j17), (0, .ref h0), (1, .int s0)]) dX12_setTimeout_38 (by decide) rfl ?_
      refine V_aload_n 39 B dX12_setTimeout_39 1 rfl ?_
      refine V_get 40 B gf_RX12_9 0 rfl rfl dX12_setTimeout_40 ?_
      refine V_iconst 43 B (v := 5) dX12_setTimeout_43 (by decide +kernel) ?_
      refine V_iload_n 44 B dX12_setTimeout_44 2 rfl ?_
      have hv19 : INV ph (upd f0 5 s0) := INV_free HI (show bd 5 = FREE by decide +kernel)
      refine V_iast 45 B 1 rfl (vpin _ _ (by decide +kernel)) dX12_setTimeout_45 [(h0, oC 13 [.ref h1, .ref h2, .int (u14.2.1 0), .ref h3, .ref h4, .int (nI k5), .int (nI k6), .int p7, .int p8, .int p9, .int (nI k10), .int p11, .long q12, .ref h5, .ref h6, .int (nI k15), .int (nI k16)]), (h1, aI Y 3640 (upd f0 5 s0)), (h2, aZ Y 2 f1), (h3, aZ Y 80 f3), (h4, aB Y 1600 f4), (h5, aI Y 200 f13), (h6, aI Y 800 f14)] rfl ?_
      refine V_aload_n 46 B dX12_setTimeout_46 1 rfl ?_
      refine V_cvv 47 B (st := []) (As := []) (fun sz => rX12_dropLate l D Y h0 h1 h2 h3 h4 h5 h6 (u14.2.1 0) k5 k6 p7 p8 p9 k10 p11 q12 k15 k16 (upd f0 5 s0) f1 f3 f4 f13 f14 ph hv19 (by omega) HP sz) glV_RX12_226 ⟨rfl, rfl⟩ ⟨(Nat.le_of_ble_eq_true rfl), (Nat.le_of_ble_eq_true rfl)⟩ ⟨(Nat.le_of_ble_eq_true rfl), (Nat.le_of_ble_eq_true rfl)⟩ [0, 0, 0, 0, 0, 0, 0] rfl 13 0 rfl rfl rfl rfl (Nat.le_of_ble_eq_true rfl) rfl (fun _ _ => rfl) dX12_setTimeout_47 (fun u21 w22 => ?_)
      refine V_ws [(h0, oC 13 [.ref h1, .ref h2, .int (u14.2.1 0), .ref h3, .ref h4, .int (nI k5), .int (nI k6), .int p7, .int p8, .int p9, .int (nI k10), .int p11, .long q12, .ref h5, .ref h6, .int (nI k15), .int (nI k16)]), (h1, aI Y 3640 (u21.2.2.2.1 0)), (h2, aZ Y 2 f1), (h3, aZ Y 80 f3), (h4, aB Y 1600 f4), (h5, aI Y 200 f13), (h6, aI Y 800 f14)] rfl ?_
      have x23 := w22
      clear w22
      refine V_iload_n 50 B dX12_setTimeout_50 0 rfl ?_
      exact V_iret 51 B dX12_setTimeout_51 (mkW [] [(u14.2.1 0)] [] [(u21.2.2.2.1 0)] [] []) x23 rfl)
theorem dX12_wishAt_0 : decode cX12_wishAt 0 = .ok (.sipush 856, 3) := by decide +kernel
theorem dX12_wishAt_3 : decode cX12_wishAt 3 = .ok (.iconst 5, 1) := by decide +kernel
theorem dX12_wishAt_4 : decode cX12_wishAt 4 = .ok (.iload_n 0, 1) := by decide +kernel
theorem dX12_wishAt_5 : decode cX12_wishAt 5 = .ok (.imul, 1) := by decide +kernel
theorem dX12_wishAt_6 : decode cX12_wishAt 6 = .ok (.iadd, 1) := by decide +kernel
theorem dX12_wishAt_7 : decode cX12_wishAt 7 = .ok (.ireturn, 1) := by decide +kernel
set_option maxRecDepth 100000 in
set_option maxHeartbeats 4000000 in
theorem rX12_wishAt (l : Launch) (D : va_G) (Y : Nat → ClassId)  (s0 : Nat) (hn0 : s0 < 11) (sz : Nat) : Met l yX12_wishAt (WSm yX12_wishAt cX12_wishAt 1 (some .int)) (mkR 0 0 0 0) (PreC D Y [.int (nI s0)] [] sz) (QI D (fun (r : Int32) (u : WU) => r = nI (856 + 5 * s0)) (fun (u : WU) => []) (va_A [] sz)) 0 0 (va_A [] sz) :=
  met_of  (by decide +kernel) (Nat.le_of_ble_eq_true rfl) (fun p e s m args below meth c B hin hsz => by
    have B : VB p s m args meth c D Y (va_A [] sz) cX12_wishAt 1 RX12 (some .int) := B
    refine V_sipush 0 B (v := 856) dX12_wishAt_0 (by decide +kernel) ?_
    refine V_iconst 3 B (v := 5) dX12_wishAt_3 (by decide +kernel) ?_
    refine V_iload_n 4 B dX12_wishAt_4 0 rfl ?_
    refine V_imul 5 B (v := (nI (5 * s0))) dX12_wishAt_5 (nI_mulE (a := 5) (b := s0) (by omega)) ?_
    refine V_iadd 6 B (v := (nI (856 + 5 * s0))) dX12_wishAt_6 (nI_addE (a := 856) (b := 5 * s0) (by omega)) ?_
    exact V_iret 7 B dX12_wishAt_7 (mkW [] [] [] [] [] []) (congrArg nI (by omega)) rfl)
theorem dX12_wish_0 : decode cX12_wish 0 = .ok (.aload_n 0, 1) := by decide +kernel
theorem dX12_wish_1 : decode cX12_wish 1 = .ok (.iconst 0, 1) := by decide +kernel
theorem dX12_wish_2 : decode cX12_wish 2 = .ok (.putfield 38, 3) := by decide +kernel
theorem dX12_wish_5 : decode cX12_wish 5 = .ok (.aload_n 0, 1) := by decide +kernel
theorem dX12_wish_6 : decode cX12_wish 6 = .ok (.invokevirtual 125, 3) := by decide +kernel
theorem dX12_wish_9 : decode cX12_wish 9 = .ok (.ifCond .eq 6, 3) := by decide +kernel
theorem dX12_wish_15 : decode cX12_wish 15 = .ok (.aload_n 0, 1) := by decide +kernel
theorem dX12_wish_16 : decode cX12_wish 16 = .ok (.getfield 9, 3) := by decide +kernel
theorem dX12_wish_19 : decode cX12_wish 19 = .ok (.bipush 15, 2) := by decide +kernel
theorem dX12_wish_21 : decode cX12_wish 21 = .ok (.iaload, 1) := by decide +kernel
theorem dX12_wish_22 : decode cX12_wish 22 = .ok (.bipush 10, 2) := by decide +kernel
theorem dX12_wish_24 : decode cX12_wish 24 = .ok (.if_icmp .ne 6, 3) := by decide +kernel
theorem dX12_wish_30 : decode cX12_wish 30 = .ok (.aload_n 0, 1) := by decide +kernel
theorem dX12_wish_31 : decode cX12_wish 31 = .ok (.sipush 3624, 3) := by decide +kernel
theorem dX12_wish_34 : decode cX12_wish 34 = .ok (.aload_n 0, 1) := by decide +kernel
theorem dX12_wish_35 : decode cX12_wish 35 = .ok (.getfield 9, 3) := by decide +kernel
theorem dX12_wish_38 : decode cX12_wish 38 = .ok (.bipush 15, 2) := by decide +kernel
theorem dX12_wish_40 : decode cX12_wish 40 = .ok (.iaload, 1) := by decide +kernel
theorem dX12_wish_41 : decode cX12_wish 41 = .ok (.invokestatic 231, 3) := by decide +kernel
theorem glS_RX12_231 : GLS RX12 231 yX12_wishAt cX12_wishAt 1 (some .int) 1 := ⟨⟨(mT9 147 rfl rfl), (mT9 148 rfl rfl), (mT1 13 rfl rfl), (mT9 149 rfl rfl)⟩, by decide +kernel⟩
theorem dX12_wish_44 : decode cX12_wish 44 = .ok (.invokevirtual 88, 3) := by decide +kernel
theorem rl24 : ∀ z0, z0 < 10 → SQ (856 + 5 * z0) := by unfold SQ; decide +kernel
theorem dX12_wish_47 : decode cX12_wish 47 = .ok (.aload_n 0, 1) := by decide +kernel
theorem dX12_wish_48 : decode cX12_wish 48 = .ok (.getfield 9, 3) := by decide +kernel
theorem dX12_wish_51 : decode cX12_wish 51 = .ok (.bipush 15, 2) := by decide +kernel
theorem dX12_wish_53 : decode cX12_wish 53 = .ok (.dup2, 1) := by decide +kernel
theorem dX12_wish_54 : decode cX12_wish 54 = .ok (.iaload, 1) := by decide +kernel
theorem dX12_wish_55 : decode cX12_wish 55 = .ok (.iconst 1, 1) := by decide +kernel
theorem dX12_wish_56 : decode cX12_wish 56 = .ok (.iadd, 1) := by decide +kernel
theorem dX12_wish_57 : decode cX12_wish 57 = .ok (.iastore, 1) := by decide +kernel
theorem dX12_wish_58 : decode cX12_wish 58 = .ok (.aload_n 0, 1) := by decide +kernel
theorem dX12_wish_59 : decode cX12_wish 59 = .ok (.getfield 9, 3) := by decide +kernel
theorem dX12_wish_62 : decode cX12_wish 62 = .ok (.bipush 15, 2) := by decide +kernel
theorem dX12_wish_64 : decode cX12_wish 64 = .ok (.iaload, 1) := by decide +kernel
theorem dX12_wish_65 : decode cX12_wish 65 = .ok (.iconst 1, 1) := by decide +kernel
theorem dX12_wish_66 : decode cX12_wish 66 = .ok (.isub, 1) := by decide +kernel
theorem dX12_wish_67 : decode cX12_wish 67 = .ok (.ireturn, 1) := by decide +kernel
theorem dX12_wish_27 : decode cX12_wish 27 = .ok (.bipush (-2), 2) := by decide +kernel
theorem dX12_wish_29 : decode cX12_wish 29 = .ok (.ireturn, 1) := by decide +kernel
theorem dX12_wish_12 : decode cX12_wish 12 = .ok (.bipush (-4), 2) := by decide +kernel
theorem dX12_wish_14 : decode cX12_wish 14 = .ok (.ireturn, 1) := by decide +kernel
set_option maxRecDepth 100000 in
set_option maxHeartbeats 4000000 in
theorem rX12_wish (l : Launch) (D : va_G) (Y : Nat → ClassId) (h0 : Nat) (h1 : Nat) (h2 : Nat) (h3 : Nat) (h4 : Nat) (h5 : Nat) (h6 : Nat) (p2 : Int32) (k5 : Nat) (k6 : Nat) (p7 : Int32) (p8 : Int32) (p9 : Int32) (k10 : Nat) (p11 : Int32) (q12 : Int64) (k15 : Nat) (k16 : Nat) (f0 : Nat → Int32) (f1 : Nat → Int32) (f3 : Nat → Int32) (f4 : Nat → Int32) (f13 : Nat → Int32) (f14 : Nat → Int32) (ph : Nat → Int32) (HI : INV ph f0) (HL : k5 ≤ 1600) (HP : PLV f13)   (sz : Nat) : Met l yX12_wish (WSm yX12_wish cX12_wish 1 (some .int)) (mkR 1 0 0 23) (PreC D Y [.ref h0] [(h0, oC 13 [.ref h1, .ref h2, .int p2, .ref h3, .ref h4, .int (nI k5), .int (nI k6), .int p7, .int p8, .int p9, .int (nI k10), .int p11, .long q12, .ref h5, .ref h6, .int (nI k15), .int (nI k16)]), (h1, aI Y 3640 f0), (h2, aZ Y 2 f1), (h3, aZ Y 80 f3), (h4, aB Y 1600 f4), (h5, aI Y 200 f13), (h6, aI Y 800 f14)] sz) (QI D (fun (r : Int32) (u : WU) => INV ph (u.2.2.2.1 0)) (fun (u : WU) => [(h0, oC 13 [.ref h1, .ref h2, .int (u.2.1 0), .ref h3, .ref h4, .int (nI k5), .int (nI k6), .int p7, .int p8, .int p9, .int (nI k10), .int p11, .long q12, .ref h5, .ref h6, .int (nI k15), .int (nI k16)]), (h1, aI Y 3640 (u.2.2.2.1 0)), (h2, aZ Y 2 f1), (h3, aZ Y 80 f3), (h4, aB Y 1600 f4), (h5, aI Y 200 f13), (h6, aI Y 800 f14)]) (va_A [(h0, oC 13 [.ref h1, .ref h2, .int p2, .ref h3, .ref h4, .int (nI k5), .int (nI k6), .int p7, .int p8, .int p9, .int (nI k10), .int p11, .long q12, .ref h5, .ref h6, .int (nI k15), .int (nI k16)]), (h1, aI Y 3640 f0), (h2, aZ Y 2 f1), (h3, aZ Y 80 f3), (h4, aB Y 1600 f4), (h5, aI Y 200 f13), (h6, aI Y 800 f14)] sz)) 0 0 (va_A [(h0, oC 13 [.ref h1, .ref h2, .int p2, .ref h3, .ref h4, .int (nI k5), .int (nI k6), .int p7, .int p8, .int p9, .int (nI k10), .int p11, .long q12, .ref h5, .ref h6, .int (nI k15), .int (nI k16)]), (h1, aI Y 3640 f0), (h2, aZ Y 2 f1), (h3, aZ Y 80 f3), (h4, aB Y 1600 f4), (h5, aI Y 200 f13), (h6, aI Y 800 f14)] sz) :=
  met_of  (by decide +kernel) (Nat.le_of_ble_eq_true rfl) (fun p e s m args below meth c B hin hsz => by
    have B : VB p s m args meth c D Y (va_A [(h0, oC 13 [.ref h1, .ref h2, .int p2, .ref h3, .ref h4, .int (nI k5), .int (nI k6), .int p7, .int p8, .int p9, .int (nI k10), .int p11, .long q12, .ref h5, .ref h6, .int (nI k15), .int (nI k16)]), (h1, aI Y 3640 f0), (h2, aZ Y 2 f1), (h3, aZ Y 80 f3), (h4, aB Y 1600 f4), (h5, aI Y 200 f13), (h6, aI Y 800 f14)] sz) cX12_wish 1 RX12 (some .int) := B
    refine V_aload_n 0 B dX12_wish_0 0 rfl ?_
    refine V_iconst 1 B (v := 0) dX12_wish_1 (by decide +kernel) ?_
    refine V_put 2 B gp_RX12_38 0 rfl (Nat.le_of_ble_eq_true rfl) rfl rfl dX12_wish_2 [(h0, oC 13 [.ref h1, .ref h2, .int 0, .ref h3, .ref h4, .int (nI k5), .int (nI k6), .int p7, .int p8, .int p9, .int (nI k10), .int p11, .long q12, .ref h5, .ref h6, .int (nI k15), .int (nI k16)]), (h1, aI Y 3640 f0), (h2, aZ Y 2 f1), (h3, aZ Y 80 f3), (h4, aB Y 1600 f4), (h5, aI Y 200 f13), (h6, aI Y 800 f14)] rfl ?_
    refine V_aload_n 5 B dX12_wish_5 0 rfl ?_
    refine V_cvi 6 B (st := []) (As := []) (fun sz => rX12_hasNoDraft l D Y h0 h1 h2 h3 h4 h5 h6 0 k5 k6 p7 p8 p9 k10 p11 q12 k15 k16 f0 f1 f3 f4 f13 f14 ph HI (by omega) HP sz) glV_RX12_125 ⟨rfl, rfl⟩ ⟨(Nat.le_of_ble_eq_true rfl), (Nat.le_of_ble_eq_true rfl)⟩ ⟨(Nat.le_of_ble_eq_true rfl), (Nat.le_of_ble_eq_true rfl)⟩ [0, 0, 0, 0, 0, 0, 0] rfl 13 0 rfl rfl rfl rfl (Nat.le_of_ble_eq_true rfl) rfl (fun _ _ _ => rfl) dX12_wish_6 (fun j0 u1 w2 => ?_)
    refine V_ws [(h0, oC 13 [.ref h1, .ref h2, .int 0, .ref h3, .ref h4, .int (nI k5), .int (nI k6), .int p7, .int p8, .int p9, .int (nI k10), .int p11, .long q12, .ref h5, .ref h6, .int (nI k15), .int (nI k16)]), (h1, aI Y 3640 f0), (h2, aZ Y 2 f1), (h3, aZ Y 80 f3), (h4, aB Y 1600 f4), (h5, aI Y 200 f13), (h6, aI Y 800 f14)] rfl ?_
    have x3 := w2
    clear w2
    rcases x3 with rfl | rfl
    ·
      refine V_if_eq_t 9 B 15 dX12_wish_9 (by decide) (by decide +kernel) ?_
      refine V_aload_n 15 B dX12_wish_15 0 rfl ?_
      refine V_get 16 B gf_RX12_9 0 rfl rfl dX12_wish_16 ?_
      refine V_bipush 19 B (v := 15) dX12_wish_19 (by decide +kernel) ?_
      have x4 : (gN f0 15) ≤ 10 := gN_le HI (by omega) (show bd 15 = (0, ((10 : Nat) : Int)) by decide +kernel)
      refine V_iald 21 B (v := (nI (gN f0 15))) 1 rfl (vpin _ _ (by decide +kernel)) dX12_wish_21 (by show f0 15 = _; exact gN_eq HI (by omega) (show bd 15 = (0, ((10 : Nat) : Int)) by decide +kernel)) ?_
      refine V_bipush 22 B (v := 10) dX12_wish_22 (by decide +kernel) ?_
      refine V_icmp_ne 24 B 30 dX12_wish_24 (by decide) (fun kk5 => ?_) (fun kk5 => ?_)
      ·
        have x6 := n_ne (a := (gN f0 15)) (b := 10) kk5
        refine V_aload_n 30 B dX12_wish_30 0 rfl ?_
        refine V_sipush 31 B (v := 3624) dX12_wish_31 (by decide +kernel) ?_
        refine V_aload_n 34 B dX12_wish_34 0 rfl ?_
        refine V_get 35 B gf_RX12_9 0 rfl rfl dX12_wish_35 ?_
        refine V_bipush 38 B (v := 15) dX12_wish_38 (by decide +kernel) ?_
        have x7 : (gN f0 15) ≤ 10 := gN_le HI (by omega) (show bd 15 = (0, ((10 : Nat) : Int)) by decide +kernel)
        refine V_iald 40 B (v := (nI (gN f0 15))) 1 rfl (vpin _ _ (by decide +kernel)) dX12_wish_40 (by show f0 15 = _; exact gN_eq HI (by omega) (show bd 15 = (0, ((10 : Nat) : Int)) by decide +kernel)) ?_
        refine V_csi 41 B (st := [.int 3624, .ref h0]) (As := [.int (nI (gN f0 15))]) (fun sz => rX12_wishAt l D Y (gN f0 15) (by omega) sz) glS_RX12_231 ⟨rfl, rfl⟩ ⟨(Nat.le_of_ble_eq_true rfl), (Nat.le_of_ble_eq_true rfl)⟩ ⟨(Nat.le_of_ble_eq_true rfl), (Nat.le_of_ble_eq_true rfl)⟩ [] rfl rfl (Nat.le_of_ble_eq_true rfl) rfl (fun _ _ _ => rfl) dX12_wish_41 (fun j8 u9 w10 => ?_)
        refine V_ws [(h0, oC 13 [.ref h1, .ref h2, .int 0, .ref h3, .ref h4, .int (nI k5), .int (nI k6), .int p7, .int p8, .int p9, .int (nI k10), .int p11, .long q12, .ref h5, .ref h6, .int (nI k15), .int (nI k16)]), (h1, aI Y 3640 f0), (h2, aZ Y 2 f1), (h3, aZ Y 80 f3), (h4, aB Y 1600 f4), (h5, aI Y 200 f13), (h6, aI Y 800 f14)] rfl ?_
        have x11 := w10
        clear w10
        obtain rfl := x11
        refine V_cvv 44 B (st := []) (As := [.int 3624, .int (nI (856 + 5 * (gN f0 15)))]) (fun sz => rX12_copySequence l D Y h0 h1 h2 h3 h4 h5 h6 0 k5 k6 p7 p8 p9 k10 p11 q12 k15 k16 f0 f1 f3 f4 f13 f14 ph HI (by omega) HP 3624 (856 + 5 * (gN f0 15)) (show SQ 3624 by unfold SQ; decide +kernel) (rl24 (gN f0 15) (by omega)) sz) glV_RX12_88 ⟨rfl, rfl⟩ ⟨(Nat.le_of_ble_eq_true rfl), (Nat.le_of_ble_eq_true rfl)⟩ ⟨(Nat.le_of_ble_eq_true rfl), (Nat.le_of_ble_eq_true rfl)⟩ [0, 0, 0, 0, 0, 0, 0] rfl 13 0 rfl rfl rfl rfl (Nat.le_of_ble_eq_true rfl) rfl (fun _ _ => rfl) dX12_wish_44 (fun u13 w14 => ?_)
        refine V_ws [(h0, oC 13 [.ref h1, .ref h2, .int 0, .ref h3, .ref h4, .int (nI k5), .int (nI k6), .int p7, .int p8, .int p9, .int (nI k10), .int p11, .long q12, .ref h5, .ref h6, .int (nI k15), .int (nI k16)]), (h1, aI Y 3640 (u13.2.2.2.1 0)), (h2, aZ Y 2 f1), (h3, aZ Y 80 f3), (h4, aB Y 1600 f4), (h5, aI Y 200 f13), (h6, aI Y 800 f14)] rfl ?_
        obtain ⟨x15, x16⟩ := w14
        refine V_aload_n 47 B dX12_wish_47 0 rfl ?_
        refine V_get 48 B gf_RX12_9 0 rfl rfl dX12_wish_48 ?_
        refine V_bipush 51 B (v := 15) dX12_wish_51 (by decide +kernel) ?_
        refine V_dup2_11 53 B dX12_wish_53 rfl rfl ?_
        have x17 : (gN f0 15) ≤ 10 := gN_le HI (by omega) (show bd 15 = (0, ((10 : Nat) : Int)) by decide +kernel)
        refine V_iald 54 B (v := (nI (gN f0 15))) 1 rfl (vpin _ _ (by decide +kernel)) dX12_wish_54 (by show (u13.2.2.2.1 0) 15 = _; rw [x16 _ (by omega)]; exact gN_eq HI (by omega) (show bd 15 = (0, ((10 : Nat) : Int)) by decide +kernel)) ?_
        refine V_iconst 55 B (v := 1) dX12_wish_55 (by decide +kernel) ?_
        refine V_iadd 56 B (v := (nI (1 + (gN f0 15)))) dX12_wish_56 (nI_addE (a := (gN f0 15)) (b := 1) (by omega)) ?_
        have hv18 : INV ph (upd (u13.2.2.2.1 0) 15 (nI (1 + (gN f0 15)))) := INV_nat (v := 1 + (gN f0 15)) x15 (show bd 15 = (0, ((10 : Nat) : Int)) by decide +kernel) (by omega) (by decide)
        refine V_iast 57 B 1 rfl (vpin _ _ (by decide +kernel)) dX12_wish_57 [(h0, oC 13 [.ref h1, .ref h2, .int 0, .ref h3, .ref h4, .int (nI k5), .int (nI k6), .int p7, .int p8, .int p9, .int (nI k10), .int p11, .long q12, .ref h5, .ref h6, .int (nI k15), .int (nI k16)]), (h1, aI Y 3640 (upd (u13.2.2.2.1 0) 15 (nI (1 + (gN f0 15))))), (h2, aZ Y 2 f1), (h3, aZ Y 80 f3), (h4, aB Y 1600 f4), (h5, aI Y 200 f13), (h6, aI Y 800 f14)] rfl ?_
        refine V_aload_n 58 B dX12_wish_58 0 rfl ?_
        refine V_get 59 B gf_RX12_9 0 rfl rfl dX12_wish_59 ?_
        refine V_bipush 62 B (v := 15) dX12_wish_62 (by decide +kernel) ?_
        refine V_iald 64 B (v := (nI (1 + (gN f0 15)))) 1 rfl (vpin _ _ (by decide +kernel)) dX12_wish_64 (by show (upd (u13.2.2.2.1 0) 15 (nI (1 + (gN f0 15)))) 15 = _; exact upd_at) ?_
        refine V_iconst 65 B (v := 1) dX12_wish_65 (by decide +kernel) ?_
        refine V_isub 66 B (v := (nI (gN f0 15))) dX12_wish_66 (nI_subE (a := 1 + (gN f0 15)) (b := 1) (by omega)) ?_
        exact V_iret 67 B dX12_wish_67 (mkW [] [0] [] [(upd (u13.2.2.2.1 0) 15 (nI (1 + (gN f0 15))))] [] []) hv18 rfl
      ·
        have x19 := n_eq (a := (gN f0 15)) (b := 10) kk5 (by omega) (by omega)
        refine V_bipush 27 B (v := (-2)) dX12_wish_27 (by decide +kernel) ?_
        exact V_iret 29 B dX12_wish_29 (mkW [] [0] [] [f0] [] []) HI rfl
    ·
      refine V_if_eq_f 9 B 15 dX12_wish_9 (by decide) (by decide +kernel) ?_
      refine V_bipush 12 B (v := (-4)) dX12_wish_12 (by decide +kernel) ?_
      exact V_iret 14 B dX12_wish_14 (mkW [] [0] [] [f0] [] []) HI rfl)
theorem dX12_clearWishes_0 : decode cX12_clearWishes 0 = .ok (.aload_n 0, 1) := by decide +kernel
theorem dX12_clearWishes_1 : decode cX12_clearWishes 1 = .ok (.iconst 0, 1) := by decide +kernel
theorem dX12_clearWishes_2 : decode cX12_clearWishes 2 = .ok (.putfield 38, 3) := by decide +kernel
theorem dX12_clearWishes_5 : decode cX12_clearWishes 5 = .ok (.aload_n 0, 1) := by decide +kernel
theorem dX12_clearWishes_6 : decode cX12_clearWishes 6 = .ok (.getfield 9, 3) := by decide +kernel
theorem dX12_clearWishes_9 : decode cX12_clearWishes 9 = .ok (.bipush 15, 2) := by decide +kernel
theorem dX12_clearWishes_11 : decode cX12_clearWishes 11 = .ok (.iaload, 1) := by decide +kernel
theorem dX12_clearWishes_12 : decode cX12_clearWishes 12 = .ok (.istore_n 1, 1) := by decide +kernel
theorem dX12_clearWishes_13 : decode cX12_clearWishes 13 = .ok (.aload_n 0, 1) := by decide +kernel
theorem dX12_clearWishes_14 : decode cX12_clearWishes 14 = .ok (.getfield 9, 3) := by decide +kernel
theorem dX12_clearWishes_17 : decode cX12_clearWishes 17 = .ok (.bipush 15, 2) := by decide +kernel
theorem dX12_clearWishes_19 : decode cX12_clearWishes 19 = .ok (.iconst 0, 1) := by decide +kernel
theorem dX12_clearWishes_20 : decode cX12_clearWishes 20 = .ok (.iastore, 1) := by decide +kernel
theorem dX12_clearWishes_21 : decode cX12_clearWishes 21 = .ok (.iload_n 1, 1) := by decide +kernel
theorem dX12_clearWishes_22 : decode cX12_clearWishes 22 = .ok (.ireturn, 1) := by decide +kernel
set_option maxRecDepth 100000 in
set_option maxHeartbeats 4000000 in
theorem rX12_clearWishes (l : Launch) (D : va_G) (Y : Nat → ClassId) (h0 : Nat) (h1 : Nat) (h2 : Nat) (h3 : Nat) (h4 : Nat) (h5 : Nat) (h6 : Nat) (p2 : Int32) (k5 : Nat) (k6 : Nat) (p7 : Int32) (p8 : Int32) (p9 : Int32) (k10 : Nat) (p11 : Int32) (q12 : Int64) (k15 : Nat) (k16 : Nat) (f0 : Nat → Int32) (f1 : Nat → Int32) (f3 : Nat → Int32) (f4 : Nat → Int32) (f13 : Nat → Int32) (f14 : Nat → Int32) (ph : Nat → Int32) (HI : INV ph f0) (HL : k5 ≤ 1600) (HP : PLV f13)   (sz : Nat) : Met l yX12_clearWishes (WSm yX12_clearWishes cX12_clearWishes 2 (some .int)) (mkR 0 0 0 0) (PreC D Y [.ref h0] [(h0, oC 13 [.ref h1, .ref h2, .int p2, .ref h3, .ref h4, .int (nI k5), .int (nI k6), .int p7, .int p8, .int p9, .int (nI k10), .int p11, .long q12, .ref h5, .ref h6, .int (nI k15), .int (nI k16)]), (h1, aI Y 3640 f0), (h2, aZ Y 2 f1), (h3, aZ Y 80 f3), (h4, aB Y 1600 f4), (h5, aI Y 200 f13), (h6, aI Y 800 f14)] sz) (QI D (fun (r : Int32) (u : WU) => INV ph (u.2.2.2.1 0)) (fun (u : WU) => [(h0, oC 13 [.ref h1, .ref h2, .int (u.2.1 0), .ref h3, .ref h4, .int (nI k5), .int (nI k6), .int p7, .int p8, .int p9, .int (nI k10), .int p11, .long q12, .ref h5, .ref h6, .int (nI k15), .int (nI k16)]), (h1, aI Y 3640 (u.2.2.2.1 0)), (h2, aZ Y 2 f1), (h3, aZ Y 80 f3), (h4, aB Y 1600 f4), (h5, aI Y 200 f13), (h6, aI Y 800 f14)]) (va_A [(h0, oC 13 [.ref h1, .ref h2, .int p2, .ref h3, .ref h4, .int (nI k5), .int (nI k6), .int p7, .int p8, .int p9, .int (nI k10), .int p11, .long q12, .ref h5, .ref h6, .int (nI k15), .int (nI k16)]), (h1, aI Y 3640 f0), (h2, aZ Y 2 f1), (h3, aZ Y 80 f3), (h4, aB Y 1600 f4), (h5, aI Y 200 f13), (h6, aI Y 800 f14)] sz)) 0 0 (va_A [(h0, oC 13 [.ref h1, .ref h2, .int p2, .ref h3, .ref h4, .int (nI k5), .int (nI k6), .int p7, .int p8, .int p9, .int (nI k10), .int p11, .long q12, .ref h5, .ref h6, .int (nI k15), .int (nI k16)]), (h1, aI Y 3640 f0), (h2, aZ Y 2 f1), (h3, aZ Y 80 f3), (h4, aB Y 1600 f4), (h5, aI Y 200 f13), (h6, aI Y 800 f14)] sz) :=
  met_of  (by decide +kernel) (Nat.le_of_ble_eq_true rfl) (fun p e s m args below meth c B hin hsz => by
    have B : VB p s m args meth c D Y (va_A [(h0, oC 13 [.ref h1, .ref h2, .int p2, .ref h3, .ref h4, .int (nI k5), .int (nI k6), .int p7, .int p8, .int p9, .int (nI k10), .int p11, .long q12, .ref h5, .ref h6, .int (nI k15), .int (nI k16)]), (h1, aI Y 3640 f0), (h2, aZ Y 2 f1), (h3, aZ Y 80 f3), (h4, aB Y 1600 f4), (h5, aI Y 200 f13), (h6, aI Y 800 f14)] sz) cX12_clearWishes 2 RX12 (some .int) := B
    refine V_aload_n 0 B dX12_clearWishes_0 0 rfl ?_
    refine V_iconst 1 B (v := 0) dX12_clearWishes_1 (by decide +kernel) ?_
    refine V_put 2 B gp_RX12_38 0 rfl (Nat.le_of_ble_eq_true rfl) rfl rfl dX12_clearWishes_2 [(h0, oC 13 [.ref h1, .ref h2, .int 0, .ref h3, .ref h4, .int (nI k5), .int (nI k6), .int p7, .int p8, .int p9, .int (nI k10), .int p11, .long q12, .ref h5, .ref h6, .int (nI k15), .int (nI k16)]), (h1, aI Y 3640 f0), (h2, aZ Y 2 f1), (h3, aZ Y 80 f3), (h4, aB Y 1600 f4), (h5, aI Y 200 f13), (h6, aI Y 800 f14)] rfl ?_
    refine V_aload_n 5 B dX12_clearWishes_5 0 rfl ?_
    refine V_get 6 B gf_RX12_9 0 rfl rfl dX12_clearWishes_6 ?_
    refine V_bipush 9 B (v := 15) dX12_clearWishes_9 (by decide +kernel) ?_
    have x0 : (gN f0 15) ≤ 10 := gN_le HI (by omega) (show bd 15 = (0, ((10 : Nat) : Int)) by decide +kernel)
    refine V_iald 11 B (v := (nI (gN f0 15))) 1 rfl (vpin _ _ (by decide +kernel)) dX12_clearWishes_11 (by show f0 15 = _; exact gN_eq HI (by omega) (show bd 15 = (0, ((10 : Nat) : Int)) by decide +kernel)) ?_
    refine V_istore_n 12 B (lv2 := [(1, .int (nI (gN f0 15))), (0, .ref h0)]) dX12_clearWishes_12 (by decide) rfl ?_
    refine V_aload_n 13 B dX12_clearWishes_13 1 rfl ?_
    refine V_get 14 B gf_RX12_9 0 rfl rfl dX12_clearWishes_14 ?_
    refine V_bipush 17 B (v := 15) dX12_clearWishes_17 (by decide +kernel) ?_
    refine V_iconst 19 B (v := 0) dX12_clearWishes_19 (by decide +kernel) ?_
    have hv1 : INV ph (upd f0 15 0) := INV_nat (v := 0) HI (show bd 15 = (0, ((10 : Nat) : Int)) by decide +kernel) (by omega) (by decide)
    refine V_iast 20 B 1 rfl (vpin _ _ (by decide +kernel)) dX12_clearWishes_20 [(h0, oC 13 [.ref h1, .ref h2, .int 0, .ref h3, .ref h4, .int (nI k5), .int (nI k6), .int p7, .int p8, .int p9, .int (nI k10), .int p11, .long q12, .ref h5, .ref h6, .int (nI k15), .int (nI k16)]), (h1, aI Y 3640 (upd f0 15 0)), (h2, aZ Y 2 f1), (h3, aZ Y 80 f3), (h4, aB Y 1600 f4), (h5, aI Y 200 f13), (h6, aI Y 800 f14)] rfl ?_
    refine V_iload_n 21 B dX12_clearWishes_21 0 rfl ?_
    exact V_iret 22 B dX12_clearWishes_22 (mkW [] [0] [] [(upd f0 15 0)] [] []) hv1 rfl)
