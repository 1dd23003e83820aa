theorem dX12_isVisible_0 : decode cX12_isVisible 0 = .ok (.iload_n 1, 1) := by decide +kernel
theorem dX12_isVisible_1 : decode cX12_isVisible 1 = .ok (.istore_n 3, 1) := by decide +kernel
theorem dX12_isVisible_2 : decode cX12_isVisible 2 = .ok (.iload_n 3, 1) := by decide +kernel
theorem dX12_isVisible_3 : decode cX12_isVisible 3 = .ok (.iconst (-1), 1) := by decide +kernel
theorem dX12_isVisible_4 : decode cX12_isVisible 4 = .ok (.if_icmp .eq 39, 3) := by decide +kernel
theorem dX12_isVisible_43 : decode cX12_isVisible 43 = .ok (.iload_n 3, 1) := by decide +kernel
theorem dX12_isVisible_44 : decode cX12_isVisible 44 = .ok (.aload_n 0, 1) := by decide +kernel
theorem dX12_isVisible_45 : decode cX12_isVisible 45 = .ok (.iload_n 2, 1) := by decide +kernel
theorem dX12_isVisible_46 : decode cX12_isVisible 46 = .ok (.invokevirtual 115, 3) := by decide +kernel
theorem dX12_isVisible_49 : decode cX12_isVisible 49 = .ok (.if_icmp .ne 7, 3) := by decide +kernel
theorem dX12_isVisible_56 : decode cX12_isVisible 56 = .ok (.iconst 0, 1) := by decide +kernel
theorem dX12_isVisible_57 : decode cX12_isVisible 57 = .ok (.ireturn, 1) := by decide +kernel
theorem dX12_isVisible_52 : decode cX12_isVisible 52 = .ok (.iconst 1, 1) := by decide +kernel
theorem dX12_isVisible_53 : decode cX12_isVisible 53 = .ok (.goto 4, 3) := by decide +kernel
theorem dX12_isVisible_7 : decode cX12_isVisible 7 = .ok (.iload_n 3, 1) := by decide +kernel
theorem dX12_isVisible_8 : decode cX12_isVisible 8 = .ok (.aload_n 0, 1) := by decide +kernel
theorem dX12_isVisible_9 : decode cX12_isVisible 9 = .ok (.iload_n 2, 1) := by decide +kernel
theorem dX12_isVisible_10 : decode cX12_isVisible 10 = .ok (.invokevirtual 115, 3) := by decide +kernel
theorem dX12_isVisible_13 : decode cX12_isVisible 13 = .ok (.if_icmp .eq 30, 3) := by decide +kernel
theorem dX12_isVisible_16 : decode cX12_isVisible 16 = .ok (.aload_n 0, 1) := by decide +kernel
theorem dX12_isVisible_17 : decode cX12_isVisible 17 = .ok (.iload_n 3, 1) := by decide +kernel
theorem dX12_isVisible_18 : decode cX12_isVisible 18 = .ok (.iload_n 2, 1) := by decide +kernel
theorem dX12_isVisible_19 : decode cX12_isVisible 19 = .ok (.invokestatic 85, 3) := by decide +kernel
theorem dX12_isVisible_22 : decode cX12_isVisible 22 = .ok (.iconst (-1), 1) := by decide +kernel
theorem dX12_isVisible_23 : decode cX12_isVisible 23 = .ok (.invokevirtual 121, 3) := by decide +kernel
theorem dX12_isVisible_26 : decode cX12_isVisible 26 = .ok (.iconst (-1), 1) := by decide +kernel
theorem dX12_isVisible_27 : decode cX12_isVisible 27 = .ok (.if_icmp .ne 16, 3) := by decide +kernel
theorem dX12_isVisible_30 : decode cX12_isVisible 30 = .ok (.aload_n 0, 1) := by decide +kernel
theorem dX12_isVisible_31 : decode cX12_isVisible 31 = .ok (.getfield 9, 3) := by decide +kernel
theorem dX12_isVisible_34 : decode cX12_isVisible 34 = .ok (.bipush 16, 2) := by decide +kernel
theorem dX12_isVisible_36 : decode cX12_isVisible 36 = .ok (.iload_n 3, 1) := by decide +kernel
theorem dX12_isVisible_37 : decode cX12_isVisible 37 = .ok (.iadd, 1) := by decide +kernel
theorem dX12_isVisible_38 : decode cX12_isVisible 38 = .ok (.iaload, 1) := by decide +kernel
theorem dX12_isVisible_39 : decode cX12_isVisible 39 = .ok (.istore_n 3, 1) := by decide +kernel
theorem dX12_isVisible_40 : decode cX12_isVisible 40 = .ok (.goto (-38), 3) := by decide +kernel
set_option maxRecDepth 100000 in
set_option maxHeartbeats 4000000 in
theorem rX12_isVisible (l : Launch) (D : va_G) (Y : Nat → ClassId) (h0 : Nat) (h1 : Nat) (h2 : Nat) (h3 : Nat) (h4 : Nat) (h5 : Nat) (h6 : Nat) (p2 : Int32) (k5 : Nat) (k6 : Nat) (p7 : Int32) (p8 : Int32) (p9 : Int32) (k10 : Nat) (p11 : Int32) (q12 : Int64) (k15 : Nat) (k16 : Nat) (f0 : Nat → Int32) (f1 : Nat → Int32) (f3 : Nat → Int32) (f4 : Nat → Int32) (f13 : Nat → Int32) (f14 : Nat → Int32) (ph : Nat → Int32) (HI : INV ph f0) (HL : k5 ≤ 1600) (HP : PLV f13) (s0 : Int32) (s1 : Nat) (hm0 : -1 ≤ s0.toInt ∧ s0.toInt ≤ 5) (hn1 : s1 < 80) (sz : Nat) : Met l yX12_isVisible (WSm yX12_isVisible cX12_isVisible 4 (some .boolean)) (mkR 4 0 0 90) (PreC D Y [.ref h0, .int s0, .int (nI s1)] [(h0, oC 13 [.ref h1, .ref h2, .int p2, .ref h3, .ref h4, .int (nI k5), .int (nI k6), .int p7, .int p8, .int p9, .int (nI k10), .int p11, .long q12, .ref h5, .ref h6, .int (nI k15), .int (nI k16)]), (h1, aI Y 3640 f0), (h2, aZ Y 2 f1), (h3, aZ Y 80 f3), (h4, aB Y 1600 f4), (h5, aI Y 200 f13), (h6, aI Y 800 f14)] sz) (QI D (fun (r : Int32) (u : WU) => ((r = 0 ∧ ¬ VIS f0 s0 s1) ∨ (r = 1 ∧ VIS f0 s0 s1))) (fun (u : WU) => [(h0, oC 13 [.ref h1, .ref h2, .int p2, .ref h3, .ref h4, .int (nI k5), .int (nI k6), .int p7, .int p8, .int p9, .int (nI k10), .int p11, .long q12, .ref h5, .ref h6, .int (nI k15), .int (nI k16)]), (h1, aI Y 3640 f0), (h2, aZ Y 2 f1), (h3, aZ Y 80 f3), (h4, aB Y 1600 f4), (h5, aI Y 200 f13), (h6, aI Y 800 f14)]) (va_A [(h0, oC 13 [.ref h1, .ref h2, .int p2, .ref h3, .ref h4, .int (nI k5), .int (nI k6), .int p7, .int p8, .int p9, .int (nI k10), .int p11, .long q12, .ref h5, .ref h6, .int (nI k15), .int (nI k16)]), (h1, aI Y 3640 f0), (h2, aZ Y 2 f1), (h3, aZ Y 80 f3), (h4, aB Y 1600 f4), (h5, aI Y 200 f13), (h6, aI Y 800 f14)] sz)) 0 0 (va_A [(h0, oC 13 [.ref h1, .ref h2, .int p2, .ref h3, .ref h4, .int (nI k5), .int (nI k6), .int p7, .int p8, .int p9, .int (nI k10), .int p11, .long q12, .ref h5, .ref h6, .int (nI k15), .int (nI k16)]), (h1, aI Y 3640 f0), (h2, aZ Y 2 f1), (h3, aZ Y 80 f3), (h4, aB Y 1600 f4), (h5, aI Y 200 f13), (h6, aI Y 800 f14)] sz) :=
  met_of  (by decide +kernel) (Nat.le_of_ble_eq_true rfl) (fun p e s m args below meth c B hin hsz => by
    have B : VB p s m args meth c D Y (va_A [(h0, oC 13 [.ref h1, .ref h2, .int p2, .ref h3, .ref h4, .int (nI k5), .int (nI k6), .int p7, .int p8, .int p9, .int (nI k10), .int p11, .long q12, .ref h5, .ref h6, .int (nI k15), .int (nI k16)]), (h1, aI Y 3640 f0), (h2, aZ Y 2 f1), (h3, aZ Y 80 f3), (h4, aB Y 1600 f4), (h5, aI Y 200 f13), (h6, aI Y 800 f14)] sz) cX12_isVisible 4 RX12 (some .boolean) := B
    refine V_iload_n 0 B dX12_isVisible_0 1 rfl ?_
    refine V_istore_n 1 B (lv2 := [(3, .int s0), (0, .ref h0), (1, .int s0), (2, .int (nI s1))]) dX12_isVisible_1 (by decide) rfl ?_
    refine V_wloop (α := WU) (fun a => (((a.2.1 0)).toInt + 1).toNat) (fun a => ((-1) ≤ (a.2.1 0).toInt ∧ (a.2.1 0).toInt ≤ 5) ∧ (∃ m : Nat, (a.2.1 0).toInt + 1 ≤ m ∧ (VISn f0 s1 m (a.2.1 0) ↔ VIS f0 s0 s1))) (fun a => [(3, .int (a.2.1 0)), (0, .ref h0), (1, .int s0), (2, .int (nI s1))]) (fun a => [(h0, oC 13 [.ref h1, .ref h2, .int p2, .ref h3, .ref h4, .int (nI k5), .int (nI k6), .int p7, .int p8, .int p9, .int (nI k10), .int p11, .long q12, .ref h5, .ref h6, .int (nI k15), .int (nI k16)]), (h1, aI Y 3640 f0), (h2, aZ Y 2 f1), (h3, aZ Y 80 f3), (h4, aB Y 1600 f4), (h5, aI Y 200 f13), (h6, aI Y 800 f14)]) (mkW [] [s0] [] [] [] []) ⟨(show (-1) ≤ (s0 : Int32).toInt ∧ (s0 : Int32).toInt ≤ 5 by omega), ⟨7, (show (s0 : Int32).toInt + 1 ≤ 7 by omega), Iff.rfl⟩⟩ rfl rfl (fun a0 hI2 IH1 => ?_)
    refine V_lv [(3, .int (a0.2.1 0)), (0, .ref h0), (1, .int s0), (2, .int (nI s1))] [0, 1, 2, 3] rfl ?_
    refine V_ws [(h0, oC 13 [.ref h1, .ref h2, .int p2, .ref h3, .ref h4, .int (nI k5), .int (nI k6), .int p7, .int p8, .int p9, .int (nI k10), .int p11, .long q12, .ref h5, .ref h6, .int (nI k15), .int (nI k16)]), (h1, aI Y 3640 f0), (h2, aZ Y 2 f1), (h3, aZ Y 80 f3), (h4, aB Y 1600 f4), (h5, aI Y 200 f13), (h6, aI Y 800 f14)] rfl ?_
    obtain ⟨x3, x4⟩ := hI2
    generalize a0.2.1 0 = j5 at *
    obtain ⟨m6, x7⟩ := x4
    refine V_iload_n 2 B dX12_isVisible_2 0 rfl ?_
    refine V_iconst 3 B (v := (-1)) dX12_isVisible_3 (by decide +kernel) ?_
    refine V_icmp_eq 4 B 43 dX12_isVisible_4 (by decide) (fun kk8 => ?_) (fun kk8 => ?_)
    ·
      obtain rfl : j5 = (-1) := kk8
      have e10 : ((-1) : Int32).toInt = (-1) := by decide +kernel
      refine V_iload_n 43 B dX12_isVisible_43 0 rfl ?_
      refine V_aload_n 44 B dX12_isVisible_44 1 rfl ?_
      refine V_iload_n 45 B dX12_isVisible_45 3 rfl ?_
      refine V_cvi 46 B (st := [.int (-1)]) (As := [.int (nI s1)]) (fun sz => rX12_modeOf l D Y h0 h1 h2 h3 h4 h5 h6 p2 k5 k6 p7 p8 p9 k10 p11 q12 k15 k16 f0 f1 f3 f4 f13 f14 ph HI (by omega) HP s1 (by omega) sz) glV_RX12_115 ⟨rfl, rfl⟩ ⟨(Nat.le_of_ble_eq_true rfl), (Nat.le_of_ble_eq_true rfl)⟩ ⟨(Nat.le_of_ble_eq_true rfl), (Nat.le_of_ble_eq_true rfl)⟩ [0, 0, 0, 0, 0, 0, 0] rfl 13 0 rfl rfl rfl rfl (Nat.le_of_ble_eq_true rfl) rfl (fun _ _ _ => rfl) dX12_isVisible_46 (fun j11 u12 w13 => ?_)
      refine V_ws [(h0, oC 13 [.ref h1, .ref h2, .int p2, .ref h3, .ref h4, .int (nI k5), .int (nI k6), .int p7, .int p8, .int p9, .int (nI k10), .int p11, .long q12, .ref h5, .ref h6, .int (nI k15), .int (nI k16)]), (h1, aI Y 3640 f0), (h2, aZ Y 2 f1), (h3, aZ Y 80 f3), (h4, aB Y 1600 f4), (h5, aI Y 200 f13), (h6, aI Y 800 f14)] rfl ?_
      have x14 := w13
      clear w13
      refine V_icmp_ne 49 B 56 dX12_isVisible_49 (by decide) (fun kk15 => ?_) (fun kk15 => ?_)
      ·
        have x16 := x_ne kk15
        rw [show ((-1) : Int32).toInt = (-1) by decide +kernel] at x16
        refine V_iconst 56 B (v := 0) dX12_isVisible_56 (by decide +kernel) ?_
        exact V_zret 57 B rfl dX12_isVisible_57 (mkW [] [] [] [] [] []) (Or.inl ⟨rfl, fun z7 => vis_m1 (fun z8 => kk15 (by rw [x14]; exact z8)) (x7.2.mpr z7)⟩) rfl
      ·
        have x17 := x_eq kk15
        rw [show ((-1) : Int32).toInt = (-1) by decide +kernel] at x17
        refine V_iconst 52 B (v := 1) dX12_isVisible_52 (by decide +kernel) ?_
        refine V_goto 53 B 57 dX12_isVisible_53 (by decide) ?_
        exact V_zret 57 B rfl dX12_isVisible_57 (mkW [] [] [] [] [] []) (Or.inr ⟨rfl, x7.2.mp (vis_eq (by rw [← x14]; exact kk15))⟩) rfl
    ·
      have x18 := x_ne kk8
      rw [show ((-1) : Int32).toInt = (-1) by decide +kernel] at x18
      refine V_iload_n 7 B dX12_isVisible_7 0 rfl ?_
      refine V_aload_n 8 B dX12_isVisible_8 1 rfl ?_
      refine V_iload_n 9 B dX12_isVisible_9 3 rfl ?_
      refine V_cvi 10 B (st := [.int j5]) (As := [.int (nI s1)]) (fun sz => rX12_modeOf l D Y h0 h1 h2 h3 h4 h5 h6 p2 k5 k6 p7 p8 p9 k10 p11 q12 k15 k16 f0 f1 f3 f4 f13 f14 ph HI (by omega) HP s1 (by omega) sz) glV_RX12_115 ⟨rfl, rfl⟩ ⟨(Nat.le_of_ble_eq_true rfl), (Nat.le_of_ble_eq_true rfl)⟩ ⟨(Nat.le_of_ble_eq_true rfl), (Nat.le_of_ble_eq_true rfl)⟩ [0, 0, 0, 0, 0, 0, 0] rfl 13 0 rfl rfl rfl rfl (Nat.le_of_ble_eq_true rfl) rfl (fun _ _ _ => rfl) dX12_isVisible_10 (fun j19 u20 w21 => ?_)
      refine V_ws [(h0, oC 13 [.ref h1, .ref h2, .int p2, .ref h3, .ref h4, .int (nI k5), .int (nI k6), .int p7, .int p8, .int p9, .int (nI k10), .int p11, .long q12, .ref h5, .ref h6, .int (nI k15), .int (nI k16)]), (h1, aI Y 3640 f0), (h2, aZ Y 2 f1), (h3, aZ Y 80 f3), (h4, aB Y 1600 f4), (h5, aI Y 200 f13), (h6, aI Y 800 f14)] rfl ?_
      have x22 := w21
      clear w21
      refine V_icmp_eq 13 B 43 dX12_isVisible_13 (by decide) (fun kk23 => ?_) (fun kk23 => ?_)
      ·
        have x24 := x_eq kk23
        refine V_iload_n 43 B dX12_isVisible_43 0 rfl ?_
        refine V_aload_n 44 B dX12_isVisible_44 1 rfl ?_
        refine V_iload_n 45 B dX12_isVisible_45 3 rfl ?_
        refine V_cvi 46 B (st := [.int j5]) (As := [.int (nI s1)]) (fun sz => rX12_modeOf l D Y h0 h1 h2 h3 h4 h5 h6 p2 k5 k6 p7 p8 p9 k10 p11 q12 k15 k16 f0 f1 f3 f4 f13 f14 ph HI (by omega) HP s1 (by omega) sz) glV_RX12_115 ⟨rfl, rfl⟩ ⟨(Nat.le_of_ble_eq_true rfl), (Nat.le_of_ble_eq_true rfl)⟩ ⟨(Nat.le_of_ble_eq_true rfl), (Nat.le_of_ble_eq_true rfl)⟩ [0, 0, 0, 0, 0, 0, 0] rfl 13 0 rfl rfl rfl rfl (Nat.le_of_ble_eq_true rfl) rfl (fun _ _ _ => rfl) dX12_isVisible_46 (fun j25 u26 w27 => ?_)
        refine V_ws [(h0, oC 13 [.ref h1, .ref h2, .int p2, .ref h3, .ref h4, .int (nI k5), .int (nI k6), .int p7, .int p8, .int p9, .int (nI k10), .int p11, .long q12, .ref h5, .ref h6, .int (nI k15), .int (nI k16)]), (h1, aI Y 3640 f0), (h2, aZ Y 2 f1), (h3, aZ Y 80 f3), (h4, aB Y 1600 f4), (h5, aI Y 200 f13), (h6, aI Y 800 f14)] rfl ?_
        have x28 := w27
        clear w27
        refine V_icmp_ne 49 B 56 dX12_isVisible_49 (by decide) (fun kk29 => ?_) (fun kk29 => ?_)
        ·
          have x30 := x_ne kk29
          refine V_iconst 56 B (v := 0) dX12_isVisible_56 (by decide +kernel) ?_
          exact V_zret 57 B rfl dX12_isVisible_57 (mkW [] [] [] [] [] []) (Or.inl ⟨rfl, absurd (kk23.trans x22) (fun z8 => kk29 (by rw [x28]; exact z8))⟩) rfl
        ·
          have x31 := x_eq kk29
          refine V_iconst 52 B (v := 1) dX12_isVisible_52 (by decide +kernel) ?_
          refine V_goto 53 B 57 dX12_isVisible_53 (by decide) ?_
          exact V_zret 57 B rfl dX12_isVisible_57 (mkW [] [] [] [] [] []) (Or.inr ⟨rfl, x7.2.mp (vis_eq (by rw [← x28]; exact kk29))⟩) rfl
      ·
        have x32 := x_ne kk23
        refine V_aload_n 16 B dX12_isVisible_16 1 rfl ?_
        refine V_iload_n 17 B dX12_isVisible_17 0 rfl ?_
        refine V_iload_n 18 B dX12_isVisible_18 3 rfl ?_
        refine V_csi 19 B (st := [.int j5, .ref h0]) (As := [.int (nI s1)]) (fun sz => rX12_sequenceOf l D Y s1 (by omega) sz) glS_RX12_85 ⟨rfl, rfl⟩ ⟨(Nat.le_of_ble_eq_true rfl), (Nat.le_of_ble_eq_true rfl)⟩ ⟨(Nat.le_of_ble_eq_true rfl), (Nat.le_of_ble_eq_true rfl)⟩ [] rfl rfl (Nat.le_of_ble_eq_true rfl) rfl (fun _ _ _ => rfl) dX12_isVisible_19 (fun j33 u34 w35 => ?_)
        refine V_ws [(h0, oC 13 [.ref h1, .ref h2, .int p2, .ref h3, .ref h4, .int (nI k5), .int (nI k6), .int p7, .int p8, .int p9, .int (nI k10), .int p11, .long q12, .ref h5, .ref h6, .int (nI k15), .int (nI k16)]), (h1, aI Y 3640 f0), (h2, aZ Y 2 f1), (h3, aZ Y 80 f3), (h4, aB Y 1600 f4), (h5, aI Y 200 f13), (h6, aI Y 800 f14)] rfl ?_
        have x36 := w35
        clear w35
        obtain rfl := x36
        refine V_iconst 22 B (v := (-1)) dX12_isVisible_22 (by decide +kernel) ?_
        refine V_cvi 23 B (st := []) (As := [.int j5, .int (nI (186 + 7 * s1)), .int (-1)]) (fun sz => rX12_clashIn l D Y h0 h1 h2 h3 h4 h5 h6 p2 k5 k6 p7 p8 p9 k10 p11 q12 k15 k16 f0 f1 f3 f4 f13 f14 ph HI (by omega) HP j5 (186 + 7 * s1) (-1) (rl5 s1 (by omega)) sz) glV_RX12_121 ⟨rfl, rfl⟩ ⟨(Nat.le_of_ble_eq_true rfl), (Nat.le_of_ble_eq_true rfl)⟩ ⟨(Nat.le_of_ble_eq_true rfl), (Nat.le_of_ble_eq_true rfl)⟩ [0, 0, 0, 0, 0, 0, 0] rfl 13 0 rfl rfl rfl rfl (Nat.le_of_ble_eq_true rfl) rfl (fun _ _ _ => rfl) dX12_isVisible_23 (fun j37 u38 w39 => ?_)
        refine V_ws [(h0, oC 13 [.ref h1, .ref h2, .int p2, .ref h3, .ref h4, .int (nI k5), .int (nI k6), .int p7, .int p8, .int p9, .int (nI k10), .int p11, .long q12, .ref h5, .ref h6, .int (nI k15), .int (nI k16)]), (h1, aI Y 3640 f0), (h2, aZ Y 2 f1), (h3, aZ Y 80 f3), (h4, aB Y 1600 f4), (h5, aI Y 200 f13), (h6, aI Y 800 f14)] rfl ?_
        have x40 := w39
        clear w39
        have x43 : (gN f0 3) ≤ 80 := gN_le HI (by omega) (show bd 3 = (0, ((80 : Nat) : Int)) by decide +kernel)
        rcases x40 with ⟨rfl, x42⟩ | ⟨n41, rfl, x42, x44⟩
        ·
          refine V_iconst 26 B (v := (-1)) dX12_isVisible_26 (by decide +kernel) ?_
          refine V_icmp_ne_f 27 B 43 dX12_isVisible_27 (by decide) (by decide +kernel) ?_
          refine V_aload_n 30 B dX12_isVisible_30 1 rfl ?_
          refine V_get 31 B gf_RX12_9 0 rfl rfl dX12_isVisible_31 ?_
          refine V_bipush 34 B (v := 16) dX12_isVisible_34 (by decide +kernel) ?_
          refine V_iload_n 36 B dX12_isVisible_36 0 rfl ?_
          obtain ⟨n45, x46, rfl⟩ := nat_of (x := j5) (n := 5) (by omega) (by omega)
          have e47 := nI_toInt (show n45 < 2 ^ 31 by omega)
          refine V_iadd 37 B (v := (nI (16 + n45))) dX12_isVisible_37 (nI_addE (a := 16) (b := n45) (by omega)) ?_
          refine V_iald 38 B (v := f0 (16 + n45)) 1 rfl (vp_in_nI (n := 16 + n45) (by omega) (by decide)) dX12_isVisible_38 (by rw [nI_clamp (show 16 + n45 < 2 ^ 31 by omega)]) ?_
          refine V_nmi (fun j48 e49 => ?_)
          have x50 : (-1) ≤ j48.toInt ∧ j48.toInt ≤ (((n45 : Nat) : Int) - 1) := by rw [e49]; exact ⟨INV_lo HI (by omega) (rl6 n45 (by omega)), INV_hi HI (by omega) (rl6 n45 (by omega))⟩
          refine V_istore_n 39 B (lv2 := [(3, .int j48), (0, .ref h0), (1, .int s0), (2, .int (nI s1))]) dX12_isVisible_39 (by decide) rfl ?_
          refine V_goto 40 B 2 dX12_isVisible_40 (by decide) ?_
          refine V_lv [(3, .int j48), (0, .ref h0), (1, .int s0), (2, .int (nI s1))] [0, 1, 2, 3] rfl ?_
          exact IH1 (mkW [] [j48] [] [] [] []) ⟨(show (-1) ≤ (j48 : Int32).toInt ∧ (j48 : Int32).toInt ≤ 5 by omega), (vis_step (y := j48) x7 (by omega) (fun z8 => kk23 (by rw [x22]; exact z8)) (x42 rfl) e49 (by omega))⟩ (by show ((j48 : Int32).toInt + 1).toNat < _; omega)
        ·
          refine V_iconst 26 B (v := (-1)) dX12_isVisible_26 (by decide +kernel) ?_
          refine V_icmp_ne_t 27 B 43 dX12_isVisible_27 (by decide) (fun z => by have z2 := x_eq z; rw [nI_toInt (show n41 < 2 ^ 31 by omega), show ((-1) : Int32).toInt = (-1) by decide +kernel] at z2; omega) ?_
          refine V_iload_n 43 B dX12_isVisible_43 0 rfl ?_
          refine V_aload_n 44 B dX12_isVisible_44 1 rfl ?_
          refine V_iload_n 45 B dX12_isVisible_45 3 rfl ?_
          refine V_cvi 46 B (st := [.int j5]) (As := [.int (nI s1)]) (fun sz => rX12_modeOf l D Y h0 h1 h2 h3 h4 h5 h6 p2 k5 k6 p7 p8 p9 k10 p11 q12 k15 k16 f0 f1 f3 f4 f13 f14 ph HI (by omega) HP s1 (by omega) sz) glV_RX12_115 ⟨rfl, rfl⟩ ⟨(Nat.le_of_ble_eq_true rfl), (Nat.le_of_ble_eq_true rfl)⟩ ⟨(Nat.le_of_ble_eq_true rfl), (Nat.le_of_ble_eq_true rfl)⟩ [0, 0, 0, 0, 0, 0, 0] rfl 13 0 rfl rfl rfl rfl (Nat.le_of_ble_eq_true rfl) rfl (fun _ _ _ => rfl) dX12_isVisible_46 (fun j52 u53 w54 => ?_)
          refine V_ws [(h0, oC 13 [.ref h1, .ref h2, .int p2, .ref h3, .ref h4, .int (nI k5), .int (nI k6), .int p7, .int p8, .int p9, .int (nI k10), .int p11, .long q12, .ref h5, .ref h6, .int (nI k15), .int (nI k16)]), (h1, aI Y 3640 f0), (h2, aZ Y 2 f1), (h3, aZ Y 80 f3), (h4, aB Y 1600 f4), (h5, aI Y 200 f13), (h6, aI Y 800 f14)] rfl ?_
          have x55 := w54
          clear w54
          refine V_icmp_ne 49 B 56 dX12_isVisible_49 (by decide) (fun kk56 => ?_) (fun kk56 => ?_)
          ·
            have x57 := x_ne kk56
            refine V_iconst 56 B (v := 0) dX12_isVisible_56 (by decide +kernel) ?_
            exact V_zret 57 B rfl dX12_isVisible_57 (mkW [] [] [] [] [] []) (Or.inl ⟨rfl, fun z7 => by first | exact vis_cl (fun z8 => kk56 (by rw [x55]; exact z8)) x44 (by omega) (x7.2.mpr z7) | exact absurd rfl ‹_›⟩) rfl
          ·
            have x58 := x_eq kk56
            refine V_iconst 52 B (v := 1) dX12_isVisible_52 (by decide +kernel) ?_
            refine V_goto 53 B 57 dX12_isVisible_53 (by decide) ?_
            exact V_zret 57 B rfl dX12_isVisible_57 (mkW [] [] [] [] [] []) (Or.inr ⟨rfl, x7.2.mp (vis_eq (by rw [← x55]; exact kk56))⟩) rfl)
theorem dX12_visibleCount_0 : decode cX12_visibleCount 0 = .ok (.iconst 0, 1) := by decide +kernel
theorem dX12_visibleCount_1 : decode cX12_visibleCount 1 = .ok (.istore_n 2, 1) := by decide +kernel
theorem dX12_visibleCount_2 : decode cX12_visibleCount 2 = .ok (.iconst 0, 1) := by decide +kernel
theorem dX12_visibleCount_3 : decode cX12_visibleCount 3 = .ok (.istore_n 3, 1) := by decide +kernel
theorem dX12_visibleCount_4 : decode cX12_visibleCount 4 = .ok (.iload_n 3, 1) := by decide +kernel
theorem dX12_visibleCount_5 : decode cX12_visibleCount 5 = .ok (.aload_n 0, 1) := by decide +kernel
theorem dX12_visibleCount_6 : decode cX12_visibleCount 6 = .ok (.getfield 9, 3) := by decide +kernel
theorem dX12_visibleCount_9 : decode cX12_visibleCount 9 = .ok (.iconst 3, 1) := by decide +kernel
theorem dX12_visibleCount_10 : decode cX12_visibleCount 10 = .ok (.iaload, 1) := by decide +kernel
theorem dX12_visibleCount_11 : decode cX12_visibleCount 11 = .ok (.if_icmp .ge 26, 3) := by decide +kernel
theorem dX12_visibleCount_37 : decode cX12_visibleCount 37 = .ok (.iload_n 2, 1) := by decide +kernel
theorem dX12_visibleCount_38 : decode cX12_visibleCount 38 = .ok (.ireturn, 1) := by decide +kernel
theorem dX12_visibleCount_14 : decode cX12_visibleCount 14 = .ok (.iload_n 2, 1) := by decide +kernel
theorem dX12_visibleCount_15 : decode cX12_visibleCount 15 = .ok (.aload_n 0, 1) := by decide +kernel
theorem dX12_visibleCount_16 : decode cX12_visibleCount 16 = .ok (.iload_n 1, 1) := by decide +kernel
theorem dX12_visibleCount_17 : decode cX12_visibleCount 17 = .ok (.iload_n 3, 1) := by decide +kernel
theorem dX12_visibleCount_18 : decode cX12_visibleCount 18 = .ok (.invokevirtual 154, 3) := by decide +kernel
theorem glV_RX12_154 : GLV RX12 154 yX12_isVisible RX12 cX12_isVisible 4 (some .boolean) 2 := ⟨⟨(mT8 176 rfl rfl), (mT8 178 rfl rfl), (mTs 54 rfl rfl), (mT1 13 rfl rfl), (mT8 179 rfl rfl)⟩, by decide +kernel⟩
theorem dX12_visibleCount_21 : decode cX12_visibleCount 21 = .ok (.ifCond .eq 7, 3) := by decide +kernel
theorem dX12_visibleCount_28 : decode cX12_visibleCount 28 = .ok (.iconst 0, 1) := by decide +kernel
theorem dX12_visibleCount_29 : decode cX12_visibleCount 29 = .ok (.iadd, 1) := by decide +kernel
theorem dX12_visibleCount_30 : decode cX12_visibleCount 30 = .ok (.istore_n 2, 1) := by decide +kernel
theorem dX12_visibleCount_31 : decode cX12_visibleCount 31 = .ok (.iinc 3 1, 3) := by decide +kernel
theorem dX12_visibleCount_34 : decode cX12_visibleCount 34 = .ok (.goto (-30), 3) := by decide +kernel
theorem dX12_visibleCount_24 : decode cX12_visibleCount 24 = .ok (.iconst 1, 1) := by decide +kernel
theorem dX12_visibleCount_25 : decode cX12_visibleCount 25 = .ok (.goto 4, 3) := by decide +kernel
set_option maxRecDepth 100000 in
set_option maxHeartbeats 4000000 in
theorem rX12_visibleCount (l : Launch) (D : va_G) (Y : Nat → ClassId) (h0 : Nat) (h1 : Nat) (h2 : Nat) (h3 : Nat) (h4 : Nat) (h5 : Nat) (h6 : Nat) (p2 : Int32) (k5 : Nat) (k6 : Nat) (p7 : Int32) (p8 : Int32) (p9 : Int32) (k10 : Nat) (p11 : Int32) (q12 : Int64) (k15 : Nat) (k16 : Nat) (f0 : Nat → Int32) (f1 : Nat → Int32) (f3 : Nat → Int32) (f4 : Nat → Int32) (f13 : Nat → Int32) (f14 : Nat → Int32) (ph : Nat → Int32) (HI : INV ph f0) (HL : k5 ≤ 1600) (HP : PLV f13) (s0 : Int32) (hm0 : -1 ≤ s0.toInt ∧ s0.toInt ≤ 5) (sz : Nat) : Met l yX12_visibleCount (WSm yX12_visibleCount cX12_visibleCount 4 (some .int)) (mkR 5 0 0 113) (PreC D Y [.ref h0, .int s0] [(h0, oC 13 [.ref h1, .ref h2, .int p2, .ref h3, .ref h4, .int (nI k5), .int (nI k6), .int p7, .int p8, .int p9, .int (nI k10), .int p11, .long q12, .ref h5, .ref h6, .int (nI k15), .int (nI k16)]), (h1, aI Y 3640 f0), (h2, aZ Y 2 f1), (h3, aZ Y 80 f3), (h4, aB Y 1600 f4), (h5, aI Y 200 f13), (h6, aI Y 800 f14)] sz) (QI D (fun (r : Int32) (u : WU) => (∃ c : Nat, r = nI c ∧ c ≤ 80 ∧ (0 < c ↔ ∃ b : Nat, b < gN f0 3 ∧ VIS f0 s0 b))) (fun (u : WU) => [(h0, oC 13 [.ref h1, .ref h2, .int p2, .ref h3, .ref h4, .int (nI k5), .int (nI k6), .int p7, .int p8, .int p9, .int (nI k10), .int p11, .long q12, .ref h5, .ref h6, .int (nI k15), .int (nI k16)]), (h1, aI Y 3640 f0), (h2, aZ Y 2 f1), (h3, aZ Y 80 f3), (h4, aB Y 1600 f4), (h5, aI Y 200 f13), (h6, aI Y 800 f14)]) (va_A [(h0, oC 13 [.ref h1, .ref h2, .int p2, .ref h3, .ref h4, .int (nI k5), .int (nI k6), .int p7, .int p8, .int p9, .int (nI k10), .int p11, .long q12, .ref h5, .ref h6, .int (nI k15), .int (nI k16)]), (h1, aI Y 3640 f0), (h2, aZ Y 2 f1), (h3, aZ Y 80 f3), (h4, aB Y 1600 f4), (h5, aI Y 200 f13), (h6, aI Y 800 f14)] sz)) 0 0 (va_A [(h0, oC 13 [.ref h1, .ref h2, .int p2, .ref h3, .ref h4, .int (nI k5), .int (nI k6), .int p7, .int p8, .int p9, .int (nI k10), .int p11, .long q12, .ref h5, .ref h6, .int (nI k15), .int (nI k16)]), (h1, aI Y 3640 f0), (h2, aZ Y 2 f1), (h3, aZ Y 80 f3), (h4, aB Y 1600 f4), (h5, aI Y 200 f13), (h6, aI Y 800 f14)] sz) :=
  met_of  (by decide +kernel) (Nat.le_of_ble_eq_true rfl) (fun p e s m args below meth c B hin hsz => by
    have B : VB p s m args meth c D Y (va_A [(h0, oC 13 [.ref h1, .ref h2, .int p2, .ref h3, .ref h4, .int (nI k5), .int (nI k6), .int p7, .int p8, .int p9, .int (nI k10), .int p11, .long q12, .ref h5, .ref h6, .int (nI k15), .int (nI k16)]), (h1, aI Y 3640 f0), (h2, aZ Y 2 f1), (h3, aZ Y 80 f3), (h4, aB Y 1600 f4), (h5, aI Y 200 f13), (h6, aI Y 800 f14)] sz) cX12_visibleCount 4 RX12 (some .int) := B
    refine V_iconst 0 B (v := 0) dX12_visibleCount_0 (by decide +kernel) ?_
    refine V_istore_n 1 B (lv2 := [(2, .int 0), (0, .ref h0), (1, .int s0)]) dX12_visibleCount_1 (by decide) rfl ?_
    refine V_iconst 2 B (v := 0) dX12_visibleCount_2 (by decide +kernel) ?_
    refine V_istore_n 3 B (lv2 := [(3, .int 0), (2, .int 0), (0, .ref h0), (1, .int s0)]) dX12_visibleCount_3 (by decide) rfl ?_
    refine V_wloop (α := WU) (fun a => 100000 - (a.1 0)) (fun a => (a.1 0) ≤ 80 ∧ (a.1 1) ≤ 80 ∧ ((a.1 1) ≤ (a.1 0) ∧ (0 < (a.1 1) ↔ ∃ b : Nat, b < (a.1 0) ∧ VIS f0 s0 b)) ∧ (a.1 0) ≤ gN f0 3) (fun a => [(3, .int (nI (a.1 0))), (2, .int (nI (a.1 1))), (0, .ref h0), (1, .int s0)]) (fun a => [(h0, oC 13 [.ref h1, .ref h2, .int p2, .ref h3, .ref h4, .int (nI k5), .int (nI k6), .int p7, .int p8, .int p9, .int (nI k10), .int p11, .long q12, .ref h5, .ref h6, .int (nI k15), .int (nI k16)]), (h1, aI Y 3640 f0), (h2, aZ Y 2 f1), (h3, aZ Y 80 f3), (h4, aB Y 1600 f4), (h5, aI Y 200 f13), (h6, aI Y 800 f14)]) (mkW [0, 0] [] [] [] [] []) ⟨(show 0 ≤ 80 by omega), (show 0 ≤ 80 by omega), ⟨Nat.le_refl _, ⟨fun h => absurd h (Nat.lt_irrefl _), fun ⟨b, h, _⟩ => absurd h (Nat.not_lt_zero _)⟩⟩, (Nat.zero_le _)⟩ rfl rfl (fun a0 hI2 IH1 => ?_)
    refine V_lv [(3, .int (nI (a0.1 0))), (2, .int (nI (a0.1 1))), (0, .ref h0), (1, .int s0)] [0, 1, 2, 3] rfl ?_
    refine V_ws [(h0, oC 13 [.ref h1, .ref h2, .int p2, .ref h3, .ref h4, .int (nI k5), .int (nI k6), .int p7, .int p8, .int p9, .int (nI k10), .int p11, .long q12, .ref h5, .ref h6, .int (nI k15), .int (nI k16)]), (h1, aI Y 3640 f0), (h2, aZ Y 2 f1), (h3, aZ Y 80 f3), (h4, aB Y 1600 f4), (h5, aI Y 200 f13), (h6, aI Y 800 f14)] rfl ?_
    obtain ⟨x3, x4, x5, x6⟩ := hI2
    refine V_iload_n 4 B dX12_visibleCount_4 0 rfl ?_
    refine V_aload_n 5 B dX12_visibleCount_5 2 rfl ?_
    refine V_get 6 B gf_RX12_9 0 rfl rfl dX12_visibleCount_6 ?_
    refine V_iconst 9 B (v := 3) dX12_visibleCount_9 (by decide +kernel) ?_
    have x7 : (gN f0 3) ≤ 80 := gN_le HI (by omega) (show bd 3 = (0, ((80 : Nat) : Int)) by decide +kernel)
    refine V_iald 10 B (v := (nI (gN f0 3))) 1 rfl (vpin _ _ (by decide +kernel)) dX12_visibleCount_10 (by show f0 3 = _; exact gN_eq HI (by omega) (show bd 3 = (0, ((80 : Nat) : Int)) by decide +kernel)) ?_
    refine V_icmp_ge 11 B 37 dX12_visibleCount_11 (by decide) (fun kk8 => ?_) (fun kk8 => ?_)
    ·
      have x9 := n_le (a := (gN f0 3)) (b := (a0.1 0)) kk8 (by omega) (by omega)
      refine V_iload_n 37 B dX12_visibleCount_37 1 rfl ?_
      exact V_iret 38 B dX12_visibleCount_38 (mkW [] [] [] [] [] []) ⟨(a0.1 1), rfl, by omega, vc_end (n := gN f0 3) x5.2 (by omega) (by omega)⟩ rfl
    ·
      have x10 := n_nle (a := (gN f0 3)) (b := (a0.1 0)) kk8 (by omega) (by omega)
      refine V_iload_n 14 B dX12_visibleCount_14 1 rfl ?_
      refine V_aload_n 15 B dX12_visibleCount_15 2 rfl ?_
      refine V_iload_n 16 B dX12_visibleCount_16 3 rfl ?_
      refine V_iload_n 17 B dX12_visibleCount_17 0 rfl ?_
      refine V_cvi 18 B (st := [.int (nI (a0.1 1))]) (As := [.int s0, .int (nI (a0.1 0))]) (fun sz => rX12_isVisible l D Y h0 h1 h2 h3 h4 h5 h6 p2 k5 k6 p7 p8 p9 k10 p11 q12 k15 k16 f0 f1 f3 f4 f13 f14 ph HI (by omega) HP s0 (a0.1 0) (by omega) (by omega) sz) glV_RX12_154 ⟨rfl, rfl⟩ ⟨(Nat.le_of_ble_eq_true rfl), (Nat.le_of_ble_eq_true rfl)⟩ ⟨(Nat.le_of_ble_eq_true rfl), (Nat.le_of_ble_eq_true rfl)⟩ [0, 0, 0, 0, 0, 0, 0] rfl 13 0 rfl rfl rfl rfl (Nat.le_of_ble_eq_true rfl) rfl (fun _ _ _ => rfl) dX12_visibleCount_18 (fun j11 u12 w13 => ?_)
      refine V_ws [(h0, oC 13 [.ref h1, .ref h2, .int p2, .ref h3, .ref h4, .int (nI k5), .int (nI k6), .int p7, .int p8, .int p9, .int (nI k10), .int p11, .long q12, .ref h5, .ref h6, .int (nI k15), .int (nI k16)]), (h1, aI Y 3640 f0), (h2, aZ Y 2 f1), (h3, aZ Y 80 f3), (h4, aB Y 1600 f4), (h5, aI Y 200 f13), (h6, aI Y 800 f14)] rfl ?_
      have x14 := w13
      clear w13
      rcases x14 with ⟨rfl, x15⟩ | ⟨rfl, x15⟩
      ·
        refine V_if_eq_t 21 B 28 dX12_visibleCount_21 (by decide) (by decide +kernel) ?_
        refine V_iconst 28 B (v := 0) dX12_visibleCount_28 (by decide +kernel) ?_
        refine V_iadd 29 B (v := (nI (a0.1 1))) dX12_visibleCount_29 (nI_addE (a := (a0.1 1)) (b := 0) (by omega)) ?_
        refine V_istore_n 30 B (lv2 := [(2, .int (nI (a0.1 1))), (3, .int (nI (a0.1 0))), (0, .ref h0), (1, .int s0)]) dX12_visibleCount_30 (by decide) rfl ?_
        refine V_iinc 31 B (v := (nI (1 + (a0.1 0)))) (lv2 := [(3, .int (nI (1 + (a0.1 0)))), (2, .int (nI (a0.1 1))), (0, .ref h0), (1, .int s0)]) dX12_visibleCount_31 1 rfl (nI_addE (a := (a0.1 0)) (b := 1) (by omega)) (by decide) rfl ?_
        refine V_goto 34 B 4 dX12_visibleCount_34 (by decide) ?_
        refine V_lv [(3, .int (nI (1 + (a0.1 0)))), (2, .int (nI (a0.1 1))), (0, .ref h0), (1, .int s0)] [0, 1, 2, 3] rfl ?_
        exact IH1 (mkW [1 + (a0.1 0), (a0.1 1)] [] [] [] [] []) ⟨(show 1 + (a0.1 0) ≤ 80 by omega), (show (a0.1 1) ≤ 80 by omega), (vc_n x5 x15), (show 1 + (a0.1 0) ≤ gN f0 3 by omega)⟩ (by show 100000 - (1 + (a0.1 0)) < 100000 - (a0.1 0); omega)
      ·
        refine V_if_eq_f 21 B 28 dX12_visibleCount_21 (by decide) (by decide +kernel) ?_
        refine V_iconst 24 B (v := 1) dX12_visibleCount_24 (by decide +kernel) ?_
        refine V_goto 25 B 29 dX12_visibleCount_25 (by decide) ?_
        refine V_iadd 29 B (v := (nI (1 + (a0.1 1)))) dX12_visibleCount_29 (nI_addE (a := (a0.1 1)) (b := 1) (by omega)) ?_
        refine V_istore_n 30 B (lv2 := [(2, .int (nI (1 + (a0.1 1)))), (3, .int (nI (a0.1 0))), (0, .ref h0), (1, .int s0)]) dX12_visibleCount_30 (by decide) rfl ?_
        refine V_iinc 31 B (v := (nI (1 + (a0.1 0)))) (lv2 := [(3, .int (nI (1 + (a0.1 0)))), (2, .int (nI (1 + (a0.1 1)))), (0, .ref h0), (1, .int s0)]) dX12_visibleCount_31 1 rfl (nI_addE (a := (a0.1 0)) (b := 1) (by omega)) (by decide) rfl ?_
        refine V_goto 34 B 4 dX12_visibleCount_34 (by decide) ?_
        refine V_lv [(3, .int (nI (1 + (a0.1 0)))), (2, .int (nI (1 + (a0.1 1)))), (0, .ref h0), (1, .int s0)] [0, 1, 2, 3] rfl ?_
        exact IH1 (mkW [1 + (a0.1 0), 1 + (a0.1 1)] [] [] [] [] []) ⟨(show 1 + (a0.1 0) ≤ 80 by omega), (show 1 + (a0.1 1) ≤ 80 by omega), (vc_y x5 x15), (show 1 + (a0.1 0) ≤ gN f0 3 by omega)⟩ (by show 100000 - (1 + (a0.1 0)) < 100000 - (a0.1 0); omega))
theorem dX12_visibleWith_0 : decode cX12_visibleWith 0 = .ok (.iconst 0, 1) := by decide +kernel
theorem dX12_visibleWith_1 : decode cX12_visibleWith 1 = .ok (.istore_n 3, 1) := by decide +kernel
theorem dX12_visibleWith_2 : decode cX12_visibleWith 2 = .ok (.iload_n 3, 1) := by decide +kernel
theorem dX12_visibleWith_3 : decode cX12_visibleWith 3 = .ok (.aload_n 0, 1) := by decide +kernel
theorem dX12_visibleWith_4 : decode cX12_visibleWith 4 = .ok (.getfield 9, 3) := by decide +kernel
theorem dX12_visibleWith_7 : decode cX12_visibleWith 7 = .ok (.iconst 3, 1) := by decide +kernel
theorem dX12_visibleWith_8 : decode cX12_visibleWith 8 = .ok (.iaload, 1) := by decide +kernel
theorem dX12_visibleWith_9 : decode cX12_visibleWith 9 = .ok (.if_icmp .ge 32, 3) := by decide +kernel
theorem dX12_visibleWith_41 : decode cX12_visibleWith 41 = .ok (.iconst (-1), 1) := by decide +kernel
theorem dX12_visibleWith_42 : decode cX12_visibleWith 42 = .ok (.ireturn, 1) := by decide +kernel
theorem dX12_visibleWith_12 : decode cX12_visibleWith 12 = .ok (.aload_n 0, 1) := by decide +kernel
theorem dX12_visibleWith_13 : decode cX12_visibleWith 13 = .ok (.iload_n 2, 1) := by decide +kernel
theorem dX12_visibleWith_14 : decode cX12_visibleWith 14 = .ok (.iload_n 3, 1) := by decide +kernel
theorem dX12_visibleWith_15 : decode cX12_visibleWith 15 = .ok (.invokestatic 85, 3) := by decide +kernel
theorem dX12_visibleWith_18 : decode cX12_visibleWith 18 = .ok (.invokevirtual 148, 3) := by decide +kernel
theorem dX12_visibleWith_21 : decode cX12_visibleWith 21 = .ok (.ifCond .eq 14, 3) := by decide +kernel
theorem dX12_visibleWith_35 : decode cX12_visibleWith 35 = .ok (.iinc 3 1, 3) := by decide +kernel
theorem dX12_visibleWith_38 : decode cX12_visibleWith 38 = .ok (.goto (-36), 3) := by decide +kernel
theorem dX12_visibleWith_24 : decode cX12_visibleWith 24 = .ok (.aload_n 0, 1) := by decide +kernel
theorem dX12_visibleWith_25 : decode cX12_visibleWith 25 = .ok (.iload_n 1, 1) := by decide +kernel
theorem dX12_visibleWith_26 : decode cX12_visibleWith 26 = .ok (.iload_n 3, 1) := by decide +kernel
theorem dX12_visibleWith_27 : decode cX12_visibleWith 27 = .ok (.invokevirtual 154, 3) := by decide +kernel
theorem dX12_visibleWith_30 : decode cX12_visibleWith 30 = .ok (.ifCond .eq 5, 3) := by decide +kernel
theorem dX12_visibleWith_33 : decode cX12_visibleWith 33 = .ok (.iload_n 3, 1) := by decide +kernel
theorem dX12_visibleWith_34 : decode cX12_visibleWith 34 = .ok (.ireturn, 1) := by decide +kernel
set_option maxRecDepth 100000 in
set_option maxHeartbeats 4000000 in
theorem rX12_visibleWith (l : Launch) (D : va_G) (Y : Nat → ClassId) (h0 : Nat) (h1 : Nat) (h2 : Nat) (h3 : Nat) (h4 : Nat) (h5 : Nat) (h6 : Nat) (p2 : Int32) (k5 : Nat) (k6 : Nat) (p7 : Int32) (p8 : Int32) (p9 : Int32) (k10 : Nat) (p11 : Int32) (q12 : Int64) (k15 : Nat) (k16 : Nat) (f0 : Nat → Int32) (f1 : Nat → Int32) (f3 : Nat → Int32) (f4 : Nat → Int32) (f13 : Nat → Int32) (f14 : Nat → Int32) (ph : Nat → Int32) (HI : INV ph f0) (HL : k5 ≤ 1600) (HP : PLV f13) (s0 : Int32) (s1 : Nat) (hm0 : -1 ≤ s0.toInt ∧ s0.toInt ≤ 5) (hs1 : SQ s1) (sz : Nat) : Met l yX12_visibleWith (WSm yX12_visibleWith cX12_visibleWith 4 (some .int)) (mkR 5 0 0 113) (PreC D Y [.ref h0, .int s0, .int (nI s1)] [(h0, oC 13 [.ref h1, .ref h2, .int p2, .ref h3, .ref h4, .int (nI k5), .int (nI k6), .int p7, .int p8, .int p9, .int (nI k10), .int p11, .long q12, .ref h5, .ref h6, .int (nI k15), .int (nI k16)]), (h1, aI Y 3640 f0), (h2, aZ Y 2 f1), (h3, aZ Y 80 f3), (h4, aB Y 1600 f4), (h5, aI Y 200 f13), (h6, aI Y 800 f14)] sz) (QI D (fun (r : Int32) (u : WU) => (r = -1 ∨ ∃ b : Nat, r = nI b ∧ b < gN f0 3)) (fun (u : WU) => [(h0, oC 13 [.ref h1, .ref h2, .int p2, .ref h3, .ref h4, .int (nI k5), .int (nI k6), .int p7, .int p8, .int p9, .int (nI k10), .int p11, .long q12, .ref h5, .ref h6, .int (nI k15), .int (nI k16)]), (h1, aI Y 3640 f0), (h2, aZ Y 2 f1), (h3, aZ Y 80 f3), (h4, aB Y 1600 f4), (h5, aI Y 200 f13), (h6, aI Y 800 f14)]) (va_A [(h0, oC 13 [.ref h1, .ref h2, .int p2, .ref h3, .ref h4, .int (nI k5), .int (nI k6), .int p7, .int p8, .int p9, .int (nI k10), .int p11, .long q12, .ref h5, .ref h6, .int (nI k15), .int (nI k16)]), (h1, aI Y 3640 f0), (h2, aZ Y 2 f1), (h3, aZ Y 80 f3), (h4, aB Y 1600 f4), (h5, aI Y 200 f13), (h6, aI Y 800 f14)] sz)) 0 0 (va_A [(h0, oC 13 [.ref h1, .ref h2, .int p2, .ref h3, .ref h4, .int (nI k5), .int (nI k6), .int p7, .int p8, .int p9, .int (nI k10), .int p11, .long q12, .ref h5, .ref h6, .int (nI k15), .int (nI k16)]), (h1, aI Y 3640 f0), (h2, aZ Y 2 f1), (h3, aZ Y 80 f3), (h4, aB Y 1600 f4), (h5, aI Y 200 f13), (h6, aI Y 800 f14)] sz) :=
  met_of  (by decide +kernel) (Nat.le_of_ble_eq_true rfl) (fun p e s m args below meth c B hin hsz => by
    have B : VB p s m args meth c D Y (va_A [(h0, oC 13 [.ref h1, .ref h2, .int p2, .ref h3, .ref h4, .int (nI k5), .int (nI k6), .int p7, .int p8, .int p9, .int (nI k10), .int p11, .long q12, .ref h5, .ref h6, .int (nI k15), .int (nI k16)]), (h1, aI Y 3640 f0), (h2, aZ Y 2 f1), (h3, aZ Y 80 f3), (h4, aB Y 1600 f4), (h5, aI Y 200 f13), (h6, aI Y 800 f14)] sz) cX12_visibleWith 4 RX12 (some .int) := B
    have hq_s1 := hs1.1
    refine V_iconst 0 B (v := 0) dX12_visibleWith_0 (by decide +kernel) ?_
    refine V_istore_n 1 B (lv2 := [(3, .int 0), (0, .ref h0), (1, .int s0), (2, .int (nI s1))]) dX12_visibleWith_1 (by decide) rfl ?_
    refine V_wloop (α := WU) (fun a => 100000 - (a.1 0)) (fun a => (a.1 0) ≤ 4000) (fun a => [(3, .int (nI (a.1 0))), (0, .ref h0), (1, .int s0), (2, .int (nI s1))]) (fun a => [(h0, oC 13 [.ref h1, .ref h2, .int p2, .ref h3, .ref h4, .int (nI k5), .int (nI k6), .int p7, .int p8, .int p9, .int (nI k10), .int p11, .long q12, .ref h5, .ref h6, .int (nI k15), .int (nI k16)]), (h1, aI Y 3640 f0), (h2, aZ Y 2 f1), (h3, aZ Y 80 f3), (h4, aB Y 1600 f4), (h5, aI Y 200 f13), (h6, aI Y 800 f14)]) (mkW [0] [] [] [] [] []) (show 0 ≤ 4000 by omega) rfl rfl (fun a0 hI2 IH1 => ?_)
    refine V_lv [(3, .int (nI (a0.1 0))), (0, .ref h0), (1, .int s0), (2, .int (nI s1))] [0, 1, 2, 3] rfl ?_
    refine V_ws [(h0, oC 13 [.ref h1, .ref h2, .int p2, .ref h3, .ref h4, .int (nI k5), .int (nI k6), .int p7, .int p8, .int p9, .int (nI k10), .int p11, .long q12, .ref h5, .ref h6, .int (nI k15), .int (nI k16)]), (h1, aI Y 3640 f0), (h2, aZ Y 2 f1), (h3, aZ Y 80 f3), (h4, aB Y 1600 f4), (h5, aI Y 200 f13), (h6, aI Y 800 f14)] rfl ?_
    have x3 := hI2
    refine V_iload_n 2 B dX12_visibleWith_2 0 rfl ?_
    refine V_aload_n 3 B dX12_visibleWith_3 1 rfl ?_
    refine V_get 4 B gf_RX12_9 0 rfl rfl dX12_visibleWith_4 ?_
    refine V_iconst 7 B (v := 3) dX12_visibleWith_7 (by decide +kernel) ?_
    have x4 : (gN f0 3) ≤ 80 := gN_le HI (by omega) (show bd 3 = (0, ((80 : Nat) : Int)) by decide +kernel)
    refine V_iald 8 B (v := (nI (gN f0 3))) 1 rfl (vpin _ _ (by decide +kernel)) dX12_visibleWith_8 (by show f0 3 = _; exact gN_eq HI (by omega) (show bd 3 = (0, ((80 : Nat) : Int)) by decide +kernel)) ?_
    refine V_icmp_ge 9 B 41 dX12_visibleWith_9 (by decide) (fun kk5 => ?_) (fun kk5 => ?_)
    ·
      have x6 := n_le (a := (gN f0 3)) (b := (a0.1 0)) kk5 (by omega) (by omega)
      refine V_iconst 41 B (v := (-1)) dX12_visibleWith_41 (by decide +kernel) ?_
      exact V_iret 42 B dX12_visibleWith_42 (mkW [] [] [] [] [] []) (Or.inl rfl) rfl
    ·
      have x7 := n_nle (a := (gN f0 3)) (b := (a0.1 0)) kk5 (by omega) (by omega)
      refine V_aload_n 12 B dX12_visibleWith_12 1 rfl ?_
      refine V_iload_n 13 B dX12_visibleWith_13 3 rfl ?_
      refine V_iload_n 14 B dX12_visibleWith_14 0 rfl ?_
      refine V_csi 15 B (st := [.int (nI s1), .ref h0]) (As := [.int (nI (a0.1 0))]) (fun sz => rX12_sequenceOf l D Y (a0.1 0) (by omega) sz) glS_RX12_85 ⟨rfl, rfl⟩ ⟨(Nat.le_of_ble_eq_true rfl), (Nat.le_of_ble_eq_true rfl)⟩ ⟨(Nat.le_of_ble_eq_true rfl), (Nat.le_of_ble_eq_true rfl)⟩ [] rfl rfl (Nat.le_of_ble_eq_true rfl) rfl (fun _ _ _ => rfl) dX12_visibleWith_15 (fun j8 u9 w10 => ?_)
      refine V_ws [(h0, oC 13 [.ref h1, .ref h2, .int p2, .ref h3, .ref h4, .int (nI k5), .int (nI k6), .int p7, .int p8, .int p9, .int (nI k10), .int p11, .long q12, .ref h5, .ref h6, .int (nI k15), .int (nI k16)]), (h1, aI Y 3640 f0), (h2, aZ Y 2 f1), (h3, aZ Y 80 f3), (h4, aB Y 1600 f4), (h5, aI Y 200 f13), (h6, aI Y 800 f14)] rfl ?_
      have x11 := w10
      clear w10
      obtain rfl := x11
      refine V_cvi 18 B (st := []) (As := [.int (nI s1), .int (nI (186 + 7 * (a0.1 0)))]) (fun sz => rX12_areEqual l D Y h0 h1 h2 h3 h4 h5 h6 p2 k5 k6 p7 p8 p9 k10 p11 q12 k15 k16 f0 f1 f3 f4 f13 f14 ph HI (by omega) HP s1 (186 + 7 * (a0.1 0)) hs1 (rl5 (a0.1 0) (by omega)) sz) glV_RX12_148 ⟨rfl, rfl⟩ ⟨(Nat.le_of_ble_eq_true rfl), (Nat.le_of_ble_eq_true rfl)⟩ ⟨(Nat.le_of_ble_eq_true rfl), (Nat.le_of_ble_eq_true rfl)⟩ [0, 0, 0, 0, 0, 0, 0] rfl 13 0 rfl rfl rfl rfl (Nat.le_of_ble_eq_true rfl) rfl (fun _ _ _ => rfl) dX12_visibleWith_18 (fun j12 u13 w14 => ?_)
      refine V_ws [(h0, oC 13 [.ref h1, .ref h2, .int p2, .ref h3, .ref h4, .int (nI k5), .int (nI k6), .int p7, .int p8, .int p9, .int (nI k10), .int p11, .long q12, .ref h5, .ref h6, .int (nI k15), .int (nI k16)]), (h1, aI Y 3640 f0), (h2, aZ Y 2 f1), (h3, aZ Y 80 f3), (h4, aB Y 1600 f4), (h5, aI Y 200 f13), (h6, aI Y 800 f14)] rfl ?_
      have x15 := w14
      clear w14
      rcases x15 with rfl | rfl
      ·
        refine V_if_eq_t 21 B 35 dX12_visibleWith_21 (by decide) (by decide +kernel) ?_
        refine V_iinc 35 B (v := (nI (1 + (a0.1 0)))) (lv2 := [(3, .int (nI (1 + (a0.1 0)))), (0, .ref h0), (1, .int s0), (2, .int (nI s1))]) dX12_visibleWith_35 0 rfl (nI_addE (a := (a0.1 0)) (b := 1) (by omega)) (by decide) rfl ?_
        refine V_goto 38 B 2 dX12_visibleWith_38 (by decide) ?_
        refine V_lv [(3, .int (nI (1 + (a0.1 0)))), (0, .ref h0), (1, .int s0), (2, .int (nI s1))] [0, 1, 2, 3] rfl ?_
        exact IH1 (mkW [1 + (a0.1 0)] [] [] [] [] []) (show 1 + (a0.1 0) ≤ 4000 by omega) (by show 100000 - (1 + (a0.1 0)) < 100000 - (a0.1 0); omega)
      ·
        refine V_if_eq_f 21 B 35 dX12_visibleWith_21 (by decide) (by decide +kernel) ?_
        refine V_aload_n 24 B dX12_visibleWith_24 1 rfl ?_
        refine V_iload_n 25 B dX12_visibleWith_25 2 rfl ?_
        refine V_iload_n 26 B dX12_visibleWith_26 0 rfl ?_
        refine V_cvi 27 B (st := []) (As := [.int s0, .int (nI (a0.1 0))]) (fun sz => rX12_isVisible l D Y h0 h1 h2 h3 h4 h5 h6 p2 k5 k6 p7 p8 p9 k10 p11 q12 k15 k16 f0 f1 f3 f4 f13 f14 ph HI (by omega) HP s0 (a0.1 0) (by omega) (by omega) sz) glV_RX12_154 ⟨rfl, rfl⟩ ⟨(Nat.le_of_ble_eq_true rfl), (Nat.le_of_ble_eq_true rfl)⟩ ⟨(Nat.le_of_ble_eq_true rfl), (Nat.le_of_ble_eq_true rfl)⟩ [0, 0, 0, 0, 0, 0, 0] rfl 13 0 rfl rfl rfl rfl (Nat.le_of_ble_eq_true rfl) rfl (fun _ _ _ => rfl) dX12_visibleWith_27 (fun j16 u17 w18 => ?_)
        refine V_ws [(h0, oC 13 [.ref h1, .ref h2, .int p2, .ref h3, .ref h4, .int (nI k5), .int (nI k6), .int p7, .int p8, .int p9, .int (nI k10), .int p11, .long q12, .ref h5, .ref h6, .int (nI k15), .int (nI k16)]), (h1, aI Y 3640 f0), (h2, aZ Y 2 f1), (h3, aZ Y 80 f3), (h4, aB Y 1600 f4), (h5, aI Y 200 f13), (h6, aI Y 800 f14)] rfl ?_
        have x19 := w18
        clear w18
        rcases x19 with ⟨rfl, x20⟩ | ⟨rfl, x20⟩
        ·
          refine V_if_eq_t 30 B 35 dX12_visibleWith_30 (by decide) (by decide +kernel) ?_
          refine V_iinc 35 B (v := (nI (1 + (a0.1 0)))) (lv2 := [(3, .int (nI (1 + (a0.1 0)))), (0, .ref h0), (1, .int s0), (2, .int (nI s1))]) dX12_visibleWith_35 0 rfl (nI_addE (a := (a0.1 0)) (b := 1) (by omega)) (by decide) rfl ?_
          refine V_goto 38 B 2 dX12_visibleWith_38 (by decide) ?_
          refine V_lv [(3, .int (nI (1 + (a0.1 0)))), (0, .ref h0), (1, .int s0), (2, .int (nI s1))] [0, 1, 2, 3] rfl ?_
          exact IH1 (mkW [1 + (a0.1 0)] [] [] [] [] []) (show 1 + (a0.1 0) ≤ 4000 by omega) (by show 100000 - (1 + (a0.1 0)) < 100000 - (a0.1 0); omega)
        ·
          refine V_if_eq_f 30 B 35 dX12_visibleWith_30 (by decide) (by decide +kernel) ?_
          refine V_iload_n 33 B dX12_visibleWith_33 0 rfl ?_
          exact V_iret 34 B dX12_visibleWith_34 (mkW [] [] [] [] [] []) (Or.inr ⟨(a0.1 0), rfl, by omega⟩) rfl)
theorem dX12_continued_0 : decode cX12_continued 0 = .ok (.iconst 0, 1) := by decide +kernel
theorem dX12_continued_1 : decode cX12_continued 1 = .ok (.istore_n 3, 1) := by decide +kernel
theorem dX12_continued_2 : decode cX12_continued 2 = .ok (.iconst 0, 1) := by decide +kernel
theorem dX12_continued_3 : decode cX12_continued 3 = .ok (.istore 4, 2) := by decide +kernel
theorem dX12_continued_5 : decode cX12_continued 5 = .ok (.iload 4, 2) := by decide +kernel
theorem dX12_continued_7 : decode cX12_continued 7 = .ok (.aload_n 0, 1) := by decide +kernel
theorem dX12_continued_8 : decode cX12_continued 8 = .ok (.getfield 9, 3) := by decide +kernel
theorem dX12_continued_11 : decode cX12_continued 11 = .ok (.iconst 3, 1) := by decide +kernel
theorem dX12_continued_12 : decode cX12_continued 12 = .ok (.iaload, 1) := by decide +kernel
theorem dX12_continued_13 : decode cX12_continued 13 = .ok (.if_icmp .ge 40, 3) := by decide +kernel
theorem dX12_continued_53 : decode cX12_continued 53 = .ok (.iload_n 3, 1) := by decide +kernel
theorem dX12_continued_54 : decode cX12_continued 54 = .ok (.ireturn, 1) := by decide +kernel
theorem dX12_continued_16 : decode cX12_continued 16 = .ok (.iload_n 3, 1) := by decide +kernel
theorem dX12_continued_17 : decode cX12_continued 17 = .ok (.aload_n 0, 1) := by decide +kernel
theorem dX12_continued_18 : decode cX12_continued 18 = .ok (.iload_n 2, 1) := by decide +kernel
theorem dX12_continued_19 : decode cX12_continued 19 = .ok (.iload 4, 2) := by decide +kernel
theorem dX12_continued_21 : decode cX12_continued 21 = .ok (.invokestatic 85, 3) := by decide +kernel
theorem dX12_continued_24 : decode cX12_continued 24 = .ok (.invokevirtual 151, 3) := by decide +kernel
theorem dX12_continued_27 : decode cX12_continued 27 = .ok (.ifCond .eq 17, 3) := by decide +kernel
theorem dX12_continued_44 : decode cX12_continued 44 = .ok (.iconst 0, 1) := by decide +kernel
theorem dX12_continued_45 : decode cX12_continued 45 = .ok (.iadd, 1) := by decide +kernel
theorem dX12_continued_46 : decode cX12_continued 46 = .ok (.istore_n 3, 1) := by decide +kernel
theorem dX12_continued_47 : decode cX12_continued 47 = .ok (.iinc 4 1, 3) := by decide +kernel
theorem dX12_continued_50 : decode cX12_continued 50 = .ok (.goto (-45), 3) := by decide +kernel
theorem dX12_continued_30 : decode cX12_continued 30 = .ok (.aload_n 0, 1) := by decide +kernel
theorem dX12_continued_31 : decode cX12_continued 31 = .ok (.iload_n 1, 1) := by decide +kernel
theorem dX12_continued_32 : decode cX12_continued 32 = .ok (.iload 4, 2) := by decide +kernel
theorem dX12_continued_34 : decode cX12_continued 34 = .ok (.invokevirtual 154, 3) := by decide +kernel
theorem dX12_continued_37 : decode cX12_continued 37 = .ok (.ifCond .eq 7, 3) := by decide +kernel
theorem dX12_continued_40 : decode cX12_continued 40 = .ok (.iconst 1, 1) := by decide +kernel
theorem dX12_continued_41 : decode cX12_continued 41 = .ok (.goto 4, 3) := by decide +kernel
set_option maxRecDepth 100000 in
set_option maxHeartbeats 4000000 in
theorem rX12_continued (l : Launch) (D : va_G) (Y : Nat → ClassId) (h0 : Nat) (h1 : Nat) (h2 : Nat) (h3 : Nat) (h4 : Nat) (h5 : Nat) (h6 : Nat) (p2 : Int32) (k5 : Nat) (k6 : Nat) (p7 : Int32) (p8 : Int32) (p9 : Int32) (k10 : Nat) (p11 : Int32) (q12 : Int64) (k15 : Nat) (k16 : Nat) (f0 : Nat → Int32) (f1 : Nat → Int32) (f3 : Nat → Int32) (f4 : Nat → Int32) (f13 : Nat → Int32) (f14 : Nat → Int32) (ph : Nat → Int32) (HI : INV ph f0) (HL : k5 ≤ 1600) (HP : PLV f13) (s0 : Int32) (s1 : Nat) (hm0 : -1 ≤ s0.toInt ∧ s0.toInt ≤ 5) (hs1 : SQ s1) (sz : Nat) : Met l yX12_continued (WSm yX12_continued cX12_continued 5 (some .int)) (mkR 5 0 0 113) (PreC D Y [.ref h0, .int s0, .int (nI s1)] [(h0, oC 13 [.ref h1, .ref h2, .int p2, .ref h3, .ref h4, .int (nI k5), .int (nI k6), .int p7, .int p8, .int p9, .int (nI k10), .int p11, .long q12, .ref h5, .ref h6, .int (nI k15), .int (nI k16)]), (h1, aI Y 3640 f0), (h2, aZ Y 2 f1), (h3, aZ Y 80 f3), (h4, aB Y 1600 f4), (h5, aI Y 200 f13), (h6, aI Y 800 f14)] sz) (QI D (fun (r : Int32) (u : WU) => (r = 0 ∨ gN f0 s1 < 4)) (fun (u : WU) => [(h0, oC 13 [.ref h1, .ref h2, .int p2, .ref h3, .ref h4, .int (nI k5), .int (nI k6), .int p7, .int p8, .int p9, .int (nI k10), .int p11, .long q12, .ref h5, .ref h6, .int (nI k15), .int (nI k16)]), (h1, aI Y 3640 f0), (h2, aZ Y 2 f1), (h3, aZ Y 80 f3), (h4, aB Y 1600 f4), (h5, aI Y 200 f13), (h6, aI Y 800 f14)]) (va_A [(h0, oC 13 [.ref h1, .ref h2, .int p2, .ref h3, .ref h4, .int (nI k5), .int (nI k6), .int p7, .int p8, .int p9, .int (nI k10), .int p11, .long q12, .ref h5, .ref h6, .int (nI k15), .int (nI k16)]), (h1, aI Y 3640 f0), (h2, aZ Y 2 f1), (h3, aZ Y 80 f3), (h4, aB Y 1600 f4), (h5, aI Y 200 f13), (h6, aI Y 800 f14)] sz)) 0 0 (va_A [(h0, oC 13 [.ref h1, .ref h2, .int p2, .ref h3, .ref h4, .int (nI k5), .int (nI k6), .int p7, .int p8, .int p9, .int (nI k10), .int p11, .long q12, .ref h5, .ref h6, .int (nI k15), .int (nI k16)]), (h1, aI Y 3640 f0), (h2, aZ Y 2 f1), (h3, aZ Y 80 f3), (h4, aB Y 1600 f4), (h5, aI Y 200 f13), (h6, aI Y 800 f14)] sz) :=
  met_of  (by decide +kernel) (Nat.le_of_ble_eq_true rfl) (fun p e s m args below meth c B hin hsz => by
    have B : VB p s m args meth c D Y (va_A [(h0, oC 13 [.ref h1, .ref h2, .int p2, .ref h3, .ref h4, .int (nI k5), .int (nI k6), .int p7, .int p8, .int p9, .int (nI k10), .int p11, .long q12, .ref h5, .ref h6, .int (nI k15), .int (nI k16)]), (h1, aI Y 3640 f0), (h2, aZ Y 2 f1), (h3, aZ Y 80 f3), (h4, aB Y 1600 f4), (h5, aI Y 200 f13), (h6, aI Y 800 f14)] sz) cX12_continued 5 RX12 (some .int) := B
    have hq_s1 := hs1.1
    refine V_iconst 0 B (v := 0) dX12_continued_0 (by decide +kernel) ?_
    refine V_istore_n 1 B (lv2 := [(3, .int 0), (0, .ref h0), (1, .int s0), (2, .int (nI s1))]) dX12_continued_1 (by decide) rfl ?_
    refine V_iconst 2 B (v := 0) dX12_continued_2 (by decide +kernel) ?_
    refine V_istore 3 B (lv2 := [(4, .int 0), (3, .int 0), (0, .ref h0), (1, .int s0), (2, .int (nI s1))]) dX12_continued_3 (by decide) rfl ?_
    refine V_wloop (α := WU) (fun a => 100000 - (a.1 0)) (fun a => (a.1 0) ≤ 4000 ∧ ((a.2.1 0) = 0 ∨ gN f0 s1 < 4)) (fun a => [(4, .int (nI (a.1 0))), (3, .int (a.2.1 0)), (0, .ref h0), (1, .int s0), (2, .int (nI s1))]) (fun a => [(h0, oC 13 [.ref h1, .ref h2, .int p2, .ref h3, .ref h4, .int (nI k5), .int (nI k6), .int p7, .int p8, .int p9, .int (nI k10), .int p11, .long q12, .ref h5, .ref h6, .int (nI k15), .int (nI k16)]), (h1, aI Y 3640 f0), (h2, aZ Y 2 f1), (h3, aZ Y 80 f3), (h4, aB Y 1600 f4), (h5, aI Y 200 f13), (h6, aI Y 800 f14)]) (mkW [0] [0] [] [] [] []) ⟨(show 0 ≤ 4000 by omega), (Or.inl rfl)⟩ rfl rfl (fun a0 hI2 IH1 => ?_)
    refine V_lv [(4, .int (nI (a0.1 0))), (3, .int (a0.2.1 0)), (0, .ref h0), (1, .int s0), (2, .int (nI s1))] [0, 1, 2, 3, 4] rfl ?_
    refine V_ws [(h0, oC 13 [.ref h1, .ref h2, .int p2, .ref h3, .ref h4, .int (nI k5), .int (nI k6), .int p7, .int p8, .int p9, .int (nI k10), .int p11, .long q12, .ref h5, .ref h6, .int (nI k15), .int (nI k16)]), (h1, aI Y 3640 f0), (h2, aZ Y 2 f1), (h3, aZ Y 80 f3), (h4, aB Y 1600 f4), (h5, aI Y 200 f13), (h6, aI Y 800 f14)] rfl ?_
    obtain ⟨x3, x4⟩ := hI2
    refine V_iload 5 B dX12_continued_5 0 rfl ?_
    refine V_aload_n 7 B dX12_continued_7 2 rfl ?_
    refine V_get 8 B gf_RX12_9 0 rfl rfl dX12_continued_8 ?_
    refine V_iconst 11 B (v := 3) dX12_continued_11 (by decide +kernel) ?_
    have x5 : (gN f0 3) ≤ 80 := gN_le HI (by omega) (show bd 3 = (0, ((80 : Nat) : Int)) by decide +kernel)
    refine V_iald 12 B (v := (nI (gN f0 3))) 1 rfl (vpin _ _ (by decide +kernel)) dX12_continued_12 (by show f0 3 = _; exact gN_eq HI (by omega) (show bd 3 = (0, ((80 : Nat) : Int)) by decide +kernel)) ?_
    refine V_icmp_ge 13 B 53 dX12_continued_13 (by decide) (fun kk6 => ?_) (fun kk6 => ?_)
    ·
      have x7 := n_le (a := (gN f0 3)) (b := (a0.1 0)) kk6 (by omega) (by omega)
      refine V_iload_n 53 B dX12_continued_53 1 rfl ?_
      exact V_iret 54 B dX12_continued_54 (mkW [] [] [] [] [] []) x4 rfl
    ·
      have x8 := n_nle (a := (gN f0 3)) (b := (a0.1 0)) kk6 (by omega) (by omega)
      refine V_iload_n 16 B dX12_continued_16 1 rfl ?_
      refine V_aload_n 17 B dX12_continued_17 2 rfl ?_
      refine V_iload_n 18 B dX12_continued_18 4 rfl ?_
      refine V_iload 19 B dX12_continued_19 0 rfl ?_
      refine V_csi 21 B (st := [.int (nI s1), .ref h0, .int (a0.2.1 0)]) (As := [.int (nI (a0.1 0))]) (fun sz => rX12_sequenceOf l D Y (a0.1 0) (by omega) sz) glS_RX12_85 ⟨rfl, rfl⟩ ⟨(Nat.le_of_ble_eq_true rfl), (Nat.le_of_ble_eq_true rfl)⟩ ⟨(Nat.le_of_ble_eq_true rfl), (Nat.le_of_ble_eq_true rfl)⟩ [] rfl rfl (Nat.le_of_ble_eq_true rfl) rfl (fun _ _ _ => rfl) dX12_continued_21 (fun j9 u10 w11 => ?_)
      refine V_ws [(h0, oC 13 [.ref h1, .ref h2, .int p2, .ref h3, .ref h4, .int (nI k5), .int (nI k6), .int p7, .int p8, .int p9, .int (nI k10), .int p11, .long q12, .ref h5, .ref h6, .int (nI k15), .int (nI k16)]), (h1, aI Y 3640 f0), (h2, aZ Y 2 f1), (h3, aZ Y 80 f3), (h4, aB Y 1600 f4), (h5, aI Y 200 f13), (h6, aI Y 800 f14)] rfl ?_
      have x12 := w11
      clear w11
      obtain rfl := x12
      refine V_cvi 24 B (st := [.int (a0.2.1 0)]) (As := [.int (nI s1), .int (nI (186 + 7 * (a0.1 0)))]) (fun sz => rX12_isProperPrefix l D Y h0 h1 h2 h3 h4 h5 h6 p2 k5 k6 p7 p8 p9 k10 p11 q12 k15 k16 f0 f1 f3 f4 f13 f14 ph HI (by omega) HP s1 (186 + 7 * (a0.1 0)) hs1 (rl5 (a0.1 0) (by omega)) sz) glV_RX12_151 ⟨rfl, rfl⟩ ⟨(Nat.le_of_ble_eq_true rfl), (Nat.le_of_ble_eq_true rfl)⟩ ⟨(Nat.le_of_ble_eq_true rfl), (Nat.le_of_ble_eq_true rfl)⟩ [0, 0, 0, 0, 0, 0, 0] rfl 13 0 rfl rfl rfl rfl (Nat.le_of_ble_eq_true rfl) rfl (fun _ _ _ => rfl) dX12_continued_24 (fun j13 u14 w15 => ?_)
      refine V_ws [(h0, oC 13 [.ref h1, .ref h2, .int p2, .ref h3, .ref h4, .int (nI k5), .int (nI k6), .int p7, .int p8, .int p9, .int (nI k10), .int p11, .long q12, .ref h5, .ref h6, .int (nI k15), .int (nI k16)]), (h1, aI Y 3640 f0), (h2, aZ Y 2 f1), (h3, aZ Y 80 f3), (h4, aB Y 1600 f4), (h5, aI Y 200 f13), (h6, aI Y 800 f14)] rfl ?_
      have x16 := w15
      clear w15
      rcases x16 with rfl | ⟨rfl, x17⟩
      ·
        refine V_if_eq_t 27 B 44 dX12_continued_27 (by decide) (by decide +kernel) ?_
        refine V_iconst 44 B (v := 0) dX12_continued_44 (by decide +kernel) ?_
        refine V_iadd 45 B (v := (a0.2.1 0)) dX12_continued_45 (Int32.add_zero _) ?_
        refine V_istore_n 46 B (lv2 := [(3, .int (a0.2.1 0)), (4, .int (nI (a0.1 0))), (0, .ref h0), (1, .int s0), (2, .int (nI s1))]) dX12_continued_46 (by decide) rfl ?_
        refine V_iinc 47 B (v := (nI (1 + (a0.1 0)))) (lv2 := [(4, .int (nI (1 + (a0.1 0)))), (3, .int (a0.2.1 0)), (0, .ref h0), (1, .int s0), (2, .int (nI s1))]) dX12_continued_47 1 rfl (nI_addE (a := (a0.1 0)) (b := 1) (by omega)) (by decide) rfl ?_
        refine V_goto 50 B 5 dX12_continued_50 (by decide) ?_
        refine V_lv [(4, .int (nI (1 + (a0.1 0)))), (3, .int (a0.2.1 0)), (0, .ref h0), (1, .int s0), (2, .int (nI s1))] [0, 1, 2, 3, 4] rfl ?_
        exact IH1 (mkW [1 + (a0.1 0)] [(a0.2.1 0)] [] [] [] []) ⟨(show 1 + (a0.1 0) ≤ 4000 by omega), x4⟩ (by show 100000 - (1 + (a0.1 0)) < 100000 - (a0.1 0); omega)
      ·
        refine V_if_eq_f 27 B 44 dX12_continued_27 (by decide) (by decide +kernel) ?_
        refine V_aload_n 30 B dX12_continued_30 2 rfl ?_
        refine V_iload_n 31 B dX12_continued_31 3 rfl ?_
        refine V_iload 32 B dX12_continued_32 0 rfl ?_
        refine V_cvi 34 B (st := [.int (a0.2.1 0)]) (As := [.int s0, .int (nI (a0.1 0))]) (fun sz => rX12_isVisible l D Y h0 h1 h2 h3 h4 h5 h6 p2 k5 k6 p7 p8 p9 k10 p11 q12 k15 k16 f0 f1 f3 f4 f13 f14 ph HI (by omega) HP s0 (a0.1 0) (by omega) (by omega) sz) glV_RX12_154 ⟨rfl, rfl⟩ ⟨(Nat.le_of_ble_eq_true rfl), (Nat.le_of_ble_eq_true rfl)⟩ ⟨(Nat.le_of_ble_eq_true rfl), (Nat.le_of_ble_eq_true rfl)⟩ [0, 0, 0, 0, 0, 0, 0] rfl 13 0 rfl rfl rfl rfl (Nat.le_of_ble_eq_true rfl) rfl (fun _ _ _ => rfl) dX12_continued_34 (fun j18 u19 w20 => ?_)
        refine V_ws [(h0, oC 13 [.ref h1, .ref h2, .int p2, .ref h3, .ref h4, .int (nI k5), .int (nI k6), .int p7, .int p8, .int p9, .int (nI k10), .int p11, .long q12, .ref h5, .ref h6, .int (nI k15), .int (nI k16)]), (h1, aI Y 3640 f0), (h2, aZ Y 2 f1), (h3, aZ Y 80 f3), (h4, aB Y 1600 f4), (h5, aI Y 200 f13), (h6, aI Y 800 f14)] rfl ?_
        have x21 := w20
        clear w20
        rcases x21 with ⟨rfl, x22⟩ | ⟨rfl, x22⟩
        ·
          refine V_if_eq_t 37 B 44 dX12_continued_37 (by decide) (by decide +kernel) ?_
          refine V_iconst 44 B (v := 0) dX12_continued_44 (by decide +kernel) ?_
          refine V_iadd 45 B (v := (a0.2.1 0)) dX12_continued_45 (Int32.add_zero _) ?_
          refine V_istore_n 46 B (lv2 := [(3, .int (a0.2.1 0)), (4, .int (nI (a0.1 0))), (0, .ref h0), (1, .int s0), (2, .int (nI s1))]) dX12_continued_46 (by decide) rfl ?_
          refine V_iinc 47 B (v := (nI (1 + (a0.1 0)))) (lv2 := [(4, .int (nI (1 + (a0.1 0)))), (3, .int (a0.2.1 0)), (0, .ref h0), (1, .int s0), (2, .int (nI s1))]) dX12_continued_47 1 rfl (nI_addE (a := (a0.1 0)) (b := 1) (by omega)) (by decide) rfl ?_
          refine V_goto 50 B 5 dX12_continued_50 (by decide) ?_
          refine V_lv [(4, .int (nI (1 + (a0.1 0)))), (3, .int (a0.2.1 0)), (0, .ref h0), (1, .int s0), (2, .int (nI s1))] [0, 1, 2, 3, 4] rfl ?_
          exact IH1 (mkW [1 + (a0.1 0)] [(a0.2.1 0)] [] [] [] []) ⟨(show 1 + (a0.1 0) ≤ 4000 by omega), x4⟩ (by show 100000 - (1 + (a0.1 0)) < 100000 - (a0.1 0); omega)
        ·
          refine V_if_eq_f 37 B 44 dX12_continued_37 (by decide) (by decide +kernel) ?_
          refine V_iconst 40 B (v := 1) dX12_continued_40 (by decide +kernel) ?_
          refine V_goto 41 B 45 dX12_continued_41 (by decide) ?_
          refine V_iadd 45 B dX12_continued_45 rfl ?_
          refine V_nmi (fun j23 e24 => ?_)
          refine V_istore_n 46 B (lv2 := [(3, .int j23), (4, .int (nI (a0.1 0))), (0, .ref h0), (1, .int s0), (2, .int (nI s1))]) dX12_continued_46 (by decide) rfl ?_
          refine V_iinc 47 B (v := (nI (1 + (a0.1 0)))) (lv2 := [(4, .int (nI (1 + (a0.1 0)))), (3, .int j23), (0, .ref h0), (1, .int s0), (2, .int (nI s1))]) dX12_continued_47 1 rfl (nI_addE (a := (a0.1 0)) (b := 1) (by omega)) (by decide) rfl ?_
          refine V_goto 50 B 5 dX12_continued_50 (by decide) ?_
          refine V_lv [(4, .int (nI (1 + (a0.1 0)))), (3, .int j23), (0, .ref h0), (1, .int s0), (2, .int (nI s1))] [0, 1, 2, 3, 4] rfl ?_
          exact IH1 (mkW [1 + (a0.1 0)] [j23] [] [] [] []) ⟨(show 1 + (a0.1 0) ≤ 4000 by omega), (Or.inr (by omega))⟩ (by show 100000 - (1 + (a0.1 0)) < 100000 - (a0.1 0); omega))
theorem dX12_look_0 : decode cX12_look 0 = .ok (.aload_n 0, 1) := by decide +kernel
theorem dX12_look_1 : decode cX12_look 1 = .ok (.iconst 0, 1) := by decide +kernel
theorem dX12_look_2 : decode cX12_look 2 = .ok (.putfield 38, 3) := by decide +kernel
theorem dX12_look_5 : decode cX12_look 5 = .ok (.aload_n 0, 1) := by decide +kernel
theorem dX12_look_6 : decode cX12_look 6 = .ok (.aload_n 0, 1) := by decide +kernel
theorem dX12_look_7 : decode cX12_look 7 = .ok (.iload_n 1, 1) := by decide +kernel
theorem dX12_look_8 : decode cX12_look 8 = .ok (.invokevirtual 91, 3) := by decide +kernel
theorem dX12_look_11 : decode cX12_look 11 = .ok (.ifCond .ne 7, 3) := by decide +kernel
theorem dX12_look_14 : decode cX12_look 14 = .ok (.iconst 1, 1) := by decide +kernel
theorem dX12_look_15 : decode cX12_look 15 = .ok (.goto 4, 3) := by decide +kernel
theorem dX12_look_19 : decode cX12_look 19 = .ok (.iconst 1, 1) := by decide +kernel
theorem dX12_look_20 : decode cX12_look 20 = .ok (.invokevirtual 69, 3) := by decide +kernel
theorem dX12_look_23 : decode cX12_look 23 = .ok (.ifCond .eq 7, 3) := by decide +kernel
theorem dX12_look_26 : decode cX12_look 26 = .ok (.iconst 0, 1) := by decide +kernel
theorem dX12_look_27 : decode cX12_look 27 = .ok (.goto 23, 3) := by decide +kernel
theorem dX12_look_50 : decode cX12_look 50 = .ok (.ireturn, 1) := by decide +kernel
theorem dX12_look_18 : decode cX12_look 18 = .ok (.iconst 0, 1) := by decide +kernel
theorem dX12_look_30 : decode cX12_look 30 = .ok (.aload_n 0, 1) := by decide +kernel
theorem dX12_look_31 : decode cX12_look 31 = .ok (.invokevirtual 125, 3) := by decide +kernel
theorem dX12_look_34 : decode cX12_look 34 = .ok (.ifCond .eq 8, 3) := by decide +kernel
theorem dX12_look_42 : decode cX12_look 42 = .ok (.aload_n 0, 1) := by decide +kernel
theorem dX12_look_43 : decode cX12_look 43 = .ok (.iload_n 1, 1) := by decide +kernel
theorem dX12_look_44 : decode cX12_look 44 = .ok (.sipush 3624, 3) := by decide +kernel
theorem dX12_look_47 : decode cX12_look 47 = .ok (.invokevirtual 157, 3) := by decide +kernel
theorem glV_RX12_157 : GLV RX12 157 yX12_visibleWith RX12 cX12_visibleWith 4 (some .int) 2 := ⟨⟨(mT8 172 rfl rfl), (mT8 174 rfl rfl), (mTs 53 rfl rfl), (mT1 13 rfl rfl), (mT8 175 rfl rfl)⟩, by decide +kernel⟩
theorem dX12_look_37 : decode cX12_look 37 = .ok (.bipush (-4), 2) := by decide +kernel
theorem dX12_look_39 : decode cX12_look 39 = .ok (.goto 11, 3) := by decide +kernel
set_option maxRecDepth 100000 in
set_option maxHeartbeats 4000000 in
theorem rX12_look (l : Launch) (D : va_G) (Y : Nat → ClassId) (h0 : Nat) (h1 : Nat) (h2 : Nat) (h3 : Nat) (h4 : Nat) (h5 : Nat) (h6 : Nat) (p2 : Int32) (k5 : Nat) (k6 : Nat) (p7 : Int32) (p8 : Int32) (p9 : Int32) (k10 : Nat) (p11 : Int32) (q12 : Int64) (k15 : Nat) (k16 : Nat) (f0 : Nat → Int32) (f1 : Nat → Int32) (f3 : Nat → Int32) (f4 : Nat → Int32) (f13 : Nat → Int32) (f14 : Nat → Int32) (ph : Nat → Int32) (HI : INV ph f0) (HL : k5 ≤ 1600) (HP : PLV f13) (s0 : Int32)  (sz : Nat) : Met l yX12_look (WSm yX12_look cX12_look 2 (some .int)) (mkR 6 0 0 136) (PreC D Y [.ref h0, .int s0] [(h0, oC 13 [.ref h1, .ref h2, .int p2, .ref h3, .ref h4, .int (nI k5), .int (nI k6), .int p7, .int p8, .int p9, .int (nI k10), .int p11, .long q12, .ref h5, .ref h6, .int (nI k15), .int (nI k16)]), (h1, aI Y 3640 f0), (h2, aZ Y 2 f1), (h3, aZ Y 80 f3), (h4, aB Y 1600 f4), (h5, aI Y 200 f13), (h6, aI Y 800 f14)] sz) (QI D (fun (r : Int32) (u : WU) => True) (fun (u : WU) => [(h0, oC 13 [.ref h1, .ref h2, .int (u.2.1 0), .ref h3, .ref h4, .int (nI k5), .int (nI k6), .int p7, .int p8, .int p9, .int (nI k10), .int p11, .long q12, .ref h5, .ref h6, .int (nI k15), .int (nI k16)]), (h1, aI Y 3640 f0), (h2, aZ Y 2 f1), (h3, aZ Y 80 f3), (h4, aB Y 1600 f4), (h5, aI Y 200 f13), (h6, aI Y 800 f14)]) (va_A [(h0, oC 13 [.ref h1, .ref h2, .int p2, .ref h3, .ref h4, .int (nI k5), .int (nI k6), .int p7, .int p8, .int p9, .int (nI k10), .int p11, .long q12, .ref h5, .ref h6, .int (nI k15), .int (nI k16)]), (h1, aI Y 3640 f0), (h2, aZ Y 2 f1), (h3, aZ Y 80 f3), (h4, aB Y 1600 f4), (h5, aI Y 200 f13), (h6, aI Y 800 f14)] sz)) 0 0 (va_A [(h0, oC 13 [.ref h1, .ref h2, .int p2, .ref h3, .ref h4, .int (nI k5), .int (nI k6), .int p7, .int p8, .int p9, .int (nI k10), .int p11, .long q12, .ref h5, .ref h6, .int (nI k15), .int (nI k16)]), (h1, aI Y 3640 f0), (h2, aZ Y 2 f1), (h3, aZ Y 80 f3), (h4, aB Y 1600 f4), (h5, aI Y 200 f13), (h6, aI Y 800 f14)] sz) :=
  met_of  (by decide +kernel) (Nat.le_of_ble_eq_true rfl) (fun p e s m args below meth c B hin hsz => by
    have B : VB p s m args meth c D Y (va_A [(h0, oC 13 [.ref h1, .ref h2, .int p2, .ref h3, .ref h4, .int (nI k5), .int (nI k6), .int p7, .int p8, .int p9, .int (nI k10), .int p11, .long q12, .ref h5, .ref h6, .int (nI k15), .int (nI k16)]), (h1, aI Y 3640 f0), (h2, aZ Y 2 f1), (h3, aZ Y 80 f3), (h4, aB Y 1600 f4), (h5, aI Y 200 f13), (h6, aI Y 800 f14)] sz) cX12_look 2 RX12 (some .int) := B
    refine V_aload_n 0 B dX12_look_0 0 rfl ?_
    refine V_iconst 1 B (v := 0) dX12_look_1 (by decide +kernel) ?_
    refine V_put 2 B gp_RX12_38 0 rfl (Nat.le_of_ble_eq_true rfl) rfl rfl dX12_look_2 [(h0, oC 13 [.ref h1, .ref h2, .int 0, .ref h3, .ref h4, .int (nI k5), .int (nI k6), .int p7, .int p8, .int p9, .int (nI k10), .int p11, .long q12, .ref h5, .ref h6, .int (nI k15), .int (nI k16)]), (h1, aI Y 3640 f0), (h2, aZ Y 2 f1), (h3, aZ Y 80 f3), (h4, aB Y 1600 f4), (h5, aI Y 200 f13), (h6, aI Y 800 f14)] rfl ?_
    refine V_aload_n 5 B dX12_look_5 0 rfl ?_
    refine V_aload_n 6 B dX12_look_6 0 rfl ?_
    refine V_iload_n 7 B dX12_look_7 1 rfl ?_
    refine V_cvi 8 B (st := [.ref h0]) (As := [.int s0]) (fun sz => rX12_isMode l D Y h0 h1 h2 h3 h4 h5 h6 0 k5 k6 p7 p8 p9 k10 p11 q12 k15 k16 f0 f1 f3 f4 f13 f14 ph HI (by omega) HP s0 sz) glV_RX12_91 ⟨rfl, rfl⟩ ⟨(Nat.le_of_ble_eq_true rfl), (Nat.le_of_ble_eq_true rfl)⟩ ⟨(Nat.le_of_ble_eq_true rfl), (Nat.le_of_ble_eq_true rfl)⟩ [0, 0, 0, 0, 0, 0, 0] rfl 13 0 rfl rfl rfl rfl (Nat.le_of_ble_eq_true rfl) rfl (fun _ _ _ => rfl) dX12_look_8 (fun j0 u1 w2 => ?_)
    refine V_ws [(h0, oC 13 [.ref h1, .ref h2, .int 0, .ref h3, .ref h4, .int (nI k5), .int (nI k6), .int p7, .int p8, .int p9, .int (nI k10), .int p11, .long q12, .ref h5, .ref h6, .int (nI k15), .int (nI k16)]), (h1, aI Y 3640 f0), (h2, aZ Y 2 f1), (h3, aZ Y 80 f3), (h4, aB Y 1600 f4), (h5, aI Y 200 f13), (h6, aI Y 800 f14)] rfl ?_
    have x3 := w2
    clear w2
    have x7 : (gN f0 0) ≤ 6 := gN_le HI (by omega) (show bd 0 = (0, ((6 : Nat) : Int)) by decide +kernel)
    rcases x3 with rfl | ⟨rfl, n4, rfl, x6⟩
    ·
      refine V_if_ne_f 11 B 18 dX12_look_11 (by decide) (by decide +kernel) ?_
      refine V_iconst 14 B (v := 1) dX12_look_14 (by decide +kernel) ?_
      refine V_goto 15 B 19 dX12_look_15 (by decide) ?_
      refine V_iconst 19 B (v := 1) dX12_look_19 (by decide +kernel) ?_
      refine V_cvi 20 B (st := []) (As := [.int 1, .int 1]) (fun sz => rX12_throwsIf_1 l D Y h0 h1 h2 h3 h4 h5 h6 0 k5 k6 p7 p8 p9 k10 p11 q12 k15 k16 f0 f1 f3 f4 f13 f14 ph HI (by omega) HP 1 sz) glV_RX12_69 ⟨rfl, rfl⟩ ⟨(Nat.le_of_ble_eq_true rfl), (Nat.le_of_ble_eq_true rfl)⟩ ⟨(Nat.le_of_ble_eq_true rfl), (Nat.le_of_ble_eq_true rfl)⟩ [0, 0, 0, 0, 0, 0, 0] rfl 13 0 rfl rfl rfl rfl (Nat.le_of_ble_eq_true rfl) rfl (fun _ _ _ => rfl) dX12_look_20 (fun j8 u9 w10 => ?_)
      refine V_ws [(h0, oC 13 [.ref h1, .ref h2, .int (u9.2.1 0), .ref h3, .ref h4, .int (nI k5), .int (nI k6), .int p7, .int p8, .int p9, .int (nI k10), .int p11, .long q12, .ref h5, .ref h6, .int (nI k15), .int (nI k16)]), (h1, aI Y 3640 f0), (h2, aZ Y 2 f1), (h3, aZ Y 80 f3), (h4, aB Y 1600 f4), (h5, aI Y 200 f13), (h6, aI Y 800 f14)] rfl ?_
      have x11 := w10
      clear w10
      obtain rfl := x11
      refine V_if_eq_f 23 B 30 dX12_look_23 (by decide) (by decide +kernel) ?_
      refine V_iconst 26 B (v := 0) dX12_look_26 (by decide +kernel) ?_
      refine V_goto 27 B 50 dX12_look_27 (by decide) ?_
      exact V_iret 50 B dX12_look_50 (mkW [] [(u9.2.1 0)] [] [] [] []) trivial rfl
    ·
      have e12 := nI_toInt (show n4 < 2 ^ 31 by omega)
      have x13 : (gN f0 0) ≤ 6 := gN_le HI (by omega) (show bd 0 = (0, ((6 : Nat) : Int)) by decide +kernel)
      refine V_if_ne_t 11 B 18 dX12_look_11 (by decide) (by decide +kernel) ?_
      refine V_iconst 18 B (v := 0) dX12_look_18 (by decide +kernel) ?_
      refine V_iconst 19 B (v := 1) dX12_look_19 (by decide +kernel) ?_
      refine V_cvi 20 B (st := []) (As := [.int 0, .int 1]) (fun sz => rX12_throwsIf_0 l D Y h0 h1 h2 h3 h4 h5 h6 0 k5 k6 p7 p8 p9 k10 p11 q12 k15 k16 f0 f1 f3 f4 f13 f14 ph HI (by omega) HP 1 sz) glV_RX12_69 ⟨rfl, rfl⟩ ⟨(Nat.le_of_ble_eq_true rfl), (Nat.le_of_ble_eq_true rfl)⟩ ⟨(Nat.le_of_ble_eq_true rfl), (Nat.le_of_ble_eq_true rfl)⟩ [0, 0, 0, 0, 0, 0, 0] rfl 13 0 rfl rfl rfl rfl (Nat.le_of_ble_eq_true rfl) rfl (fun _ _ _ => rfl) dX12_look_20 (fun j14 u15 w16 => ?_)
      refine V_ws [(h0, oC 13 [.ref h1, .ref h2, .int (u15.2.1 0), .ref h3, .ref h4, .int (nI k5), .int (nI k6), .int p7, .int p8, .int p9, .int (nI k10), .int p11, .long q12, .ref h5, .ref h6, .int (nI k15), .int (nI k16)]), (h1, aI Y 3640 f0), (h2, aZ Y 2 f1), (h3, aZ Y 80 f3), (h4, aB Y 1600 f4), (h5, aI Y 200 f13), (h6, aI Y 800 f14)] rfl ?_
      have x17 := w16
      clear w16
      obtain rfl := x17
      refine V_if_eq_t 23 B 30 dX12_look_23 (by decide) (by decide +kernel) ?_
      refine V_aload_n 30 B dX12_look_30 0 rfl ?_
      refine V_cvi 31 B (st := []) (As := []) (fun sz => rX12_hasNoDraft l D Y h0 h1 h2 h3 h4 h5 h6 (u15.2.1 0) k5 k6 p7 p8 p9 k10 p11 q12 k15 k16 f0 f1 f3 f4 f13 f14 ph HI (by omega) HP sz) glV_RX12_125 ⟨rfl, rfl⟩ ⟨(Nat.le_of_ble_eq_true rfl), (Nat.le_of_ble_eq_true rfl)⟩ ⟨(Nat.le_of_ble_eq_true rfl), (Nat.le_of_ble_eq_true rfl)⟩ [0, 0, 0, 0, 0, 0, 0] rfl 13 0 rfl rfl rfl rfl (Nat.le_of_ble_eq_true rfl) rfl (fun _ _ _ => rfl) dX12_look_31 (fun j18 u19 w20 => ?_)
      refine V_ws [(h0, oC 13 [.ref h1, .ref h2, .int (u15.2.1 0), .ref h3, .ref h4, .int (nI k5), .int (nI k6), .int p7, .int p8, .int p9, .int (nI k10), .int p11, .long q12, .ref h5, .ref h6, .int (nI k15), .int (nI k16)]), (h1, aI Y 3640 f0), (h2, aZ Y 2 f1), (h3, aZ Y 80 f3), (h4, aB Y 1600 f4), (h5, aI Y 200 f13), (h6, aI Y 800 f14)] rfl ?_
      have x21 := w20
      clear w20
      rcases x21 with rfl | rfl
      ·
        refine V_if_eq_t 34 B 42 dX12_look_34 (by decide) (by decide +kernel) ?_
        refine V_aload_n 42 B dX12_look_42 0 rfl ?_
        refine V_iload_n 43 B dX12_look_43 1 rfl ?_
        refine V_sipush 44 B (v := 3624) dX12_look_44 (by decide +kernel) ?_
        refine V_cvi 47 B (st := []) (As := [.int (nI n4), .int 3624]) (fun sz => rX12_visibleWith l D Y h0 h1 h2 h3 h4 h5 h6 (u15.2.1 0) k5 k6 p7 p8 p9 k10 p11 q12 k15 k16 f0 f1 f3 f4 f13 f14 ph HI (by omega) HP (nI n4) 3624 (by rw [nI_toInt (show n4 < 2 ^ 31 by omega)]; omega) (show SQ 3624 by unfold SQ; decide +kernel) sz) glV_RX12_157 ⟨rfl, rfl⟩ ⟨(Nat.le_of_ble_eq_true rfl), (Nat.le_of_ble_eq_true rfl)⟩ ⟨(Nat.le_of_ble_eq_true rfl), (Nat.le_of_ble_eq_true rfl)⟩ [0, 0, 0, 0, 0, 0, 0] rfl 13 0 rfl rfl rfl rfl (Nat.le_of_ble_eq_true rfl) rfl (fun _ _ _ => rfl) dX12_look_47 (fun j22 u23 w24 => ?_)
        refine V_ws [(h0, oC 13 [.ref h1, .ref h2, .int (u15.2.1 0), .ref h3, .ref h4, .int (nI k5), .int (nI k6), .int p7, .int p8, .int p9, .int (nI k10), .int p11, .long q12, .ref h5, .ref h6, .int (nI k15), .int (nI k16)]), (h1, aI Y 3640 f0), (h2, aZ Y 2 f1), (h3, aZ Y 80 f3), (h4, aB Y 1600 f4), (h5, aI Y 200 f13), (h6, aI Y 800 f14)] rfl ?_
        have x25 := w24
        clear w24
        have x28 : (gN f0 3) ≤ 80 := gN_le HI (by omega) (show bd 3 = (0, ((80 : Nat) : Int)) by decide +kernel)
        rcases x25 with rfl | ⟨n26, rfl, x27⟩
        ·
          exact V_iret 50 B dX12_look_50 (mkW [] [(u15.2.1 0)] [] [] [] []) trivial rfl
        ·
          exact V_iret 50 B dX12_look_50 (mkW [] [(u15.2.1 0)] [] [] [] []) trivial rfl
      ·
        refine V_if_eq_f 34 B 42 dX12_look_34 (by decide) (by decide +kernel) ?_
        refine V_bipush 37 B (v := (-4)) dX12_look_37 (by decide +kernel) ?_
        refine V_goto 39 B 50 dX12_look_39 (by decide) ?_
        exact V_iret 50 B dX12_look_50 (mkW [] [(u15.2.1 0)] [] [] [] []) trivial rfl)
theorem dX12_continuations_0 : decode cX12_continuations 0 = .ok (.aload_n 0, 1) := by decide +kernel
theorem dX12_continuations_1 : decode cX12_continuations 1 = .ok (.iconst 0, 1) := by decide +kernel
theorem dX12_continuations_2 : decode cX12_continuations 2 = .ok (.putfield 38, 3) := by decide +kernel
theorem dX12_continuations_5 : decode cX12_continuations 5 = .ok (.aload_n 0, 1) := by decide +kernel
theorem dX12_continuations_6 : decode cX12_continuations 6 = .ok (.aload_n 0, 1) := by decide +kernel
theorem dX12_continuations_7 : decode cX12_continuations 7 = .ok (.iload_n 1, 1) := by decide +kernel
theorem dX12_continuations_8 : decode cX12_continuations 8 = .ok (.invokevirtual 91, 3) := by decide +kernel
theorem dX12_continuations_11 : decode cX12_continuations 11 = .ok (.ifCond .ne 7, 3) := by decide +kernel
theorem dX12_continuations_14 : decode cX12_continuations 14 = .ok (.iconst 1, 1) := by decide +kernel
theorem dX12_continuations_15 : decode cX12_continuations 15 = .ok (.goto 4, 3) := by decide +kernel
theorem dX12_continuations_19 : decode cX12_continuations 19 = .ok (.iconst 1, 1) := by decide +kernel
theorem dX12_continuations_20 : decode cX12_continuations 20 = .ok (.invokevirtual 69, 3) := by decide +kernel
theorem dX12_continuations_23 : decode cX12_continuations 23 = .ok (.ifCond .eq 7, 3) := by decide +kernel
theorem dX12_continuations_26 : decode cX12_continuations 26 = .ok (.iconst 0, 1) := by decide +kernel
theorem dX12_continuations_27 : decode cX12_continuations 27 = .ok (.goto 11, 3) := by decide +kernel
theorem dX12_continuations_38 : decode cX12_continuations 38 = .ok (.ireturn, 1) := by decide +kernel
theorem dX12_continuations_18 : decode cX12_continuations 18 = .ok (.iconst 0, 1) := by decide +kernel
theorem dX12_continuations_30 : decode cX12_continuations 30 = .ok (.aload_n 0, 1) := by decide +kernel
theorem dX12_continuations_31 : decode cX12_continuations 31 = .ok (.iload_n 1, 1) := by decide +kernel
theorem dX12_continuations_32 : decode cX12_continuations 32 = .ok (.sipush 3624, 3) := by decide +kernel
theorem dX12_continuations_35 : decode cX12_continuations 35 = .ok (.invokevirtual 160, 3) := by decide +kernel
theorem glV_RX12_160 : GLV RX12 160 yX12_continued RX12 cX12_continued 5 (some .int) 2 := ⟨⟨(mT8 184 rfl rfl), (mT8 186 rfl rfl), (mTs 55 rfl rfl), (mT1 13 rfl rfl), (mT8 187 rfl rfl)⟩, by decide +kernel⟩
set_option maxRecDepth 100000 in
set_option maxHeartbeats 4000000 in
theorem rX12_continuations (l : Launch) (D : va_G) (Y : Nat → ClassId) (h0 : Nat) (h1 : Nat) (h2 : Nat) (h3 : Nat) (h4 : Nat) (h5 : Nat) (h6 : Nat) (p2 : Int32) (k5 : Nat) (k6 : Nat) (p7 : Int32) (p8 : Int32) (p9 : Int32) (k10 : Nat) (p11 : Int32) (q12 : Int64) (k15 : Nat) (k16 : Nat) (f0 : Nat → Int32) (f1 : Nat → Int32) (f3 : Nat → Int32) (f4 : Nat → Int32) (f13 : Nat → Int32) (f14 : Nat → Int32) (ph : Nat → Int32) (HI : INV ph f0) (HL : k5 ≤ 1600) (HP : PLV f13) (s0 : Int32)  (sz : Nat) : Met l yX12_continuations (WSm yX12_continuations cX12_continuations 2 (some .int)) (mkR 6 0 0 137) (PreC D Y [.ref h0, .int s0] [(h0, oC 13 [.ref h1, .ref h2, .int p2, .ref h3, .ref h4, .int (nI k5), .int (nI k6), .int p7, .int p8, .int p9, .int (nI k10), .int p11, .long q12, .ref h5, .ref h6, .int (nI k15), .int (nI k16)]), (h1, aI Y 3640 f0), (h2, aZ Y 2 f1), (h3, aZ Y 80 f3), (h4, aB Y 1600 f4), (h5, aI Y 200 f13), (h6, aI Y 800 f14)] sz) (QI D (fun (r : Int32) (u : WU) => True) (fun (u : WU) => [(h0, oC 13 [.ref h1, .ref h2, .int (u.2.1 0), .ref h3, .ref h4, .int (nI k5), .int (nI k6), .int p7, .int p8, .int p9, .int (nI k10), .int p11, .long q12, .ref h5, .ref h6, .int (nI k15), .int (nI k16)]), (h1, aI Y 3640 f0), (h2, aZ Y 2 f1), (h3, aZ Y 80 f3), (h4, aB Y 1600 f4), (h5, aI Y 200 f13), (h6, aI Y 800 f14)]) (va_A [(h0, oC 13 [.ref h1, .ref h2, .int p2, .ref h3, .ref h4, .int (nI k5), .int (nI k6), .int p7, .int p8, .int p9, .int (nI k10), .int p11, .long q12, .ref h5, .ref h6, .int (nI k15), .int (nI k16)]), (h1, aI Y 3640 f0), (h2, aZ Y 2 f1), (h3, aZ Y 80 f3), (h4, aB Y 1600 f4), (h5, aI Y 200 f13), (h6, aI Y 800 f14)] sz)) 0 0 (va_A [(h0, oC 13 [.ref h1, .ref h2, .int p2, .ref h3, .ref h4, .int (nI k5), .int (nI k6), .int p7, .int p8, .int p9, .int (nI k10), .int p11, .long q12, .ref h5, .ref h6, .int (nI k15), .int (nI k16)]), (h1, aI Y 3640 f0), (h2, aZ Y 2 f1), (h3, aZ Y 80 f3), (h4, aB Y 1600 f4), (h5, aI Y 200 f13), (h6, aI Y 800 f14)] sz) :=
  met_of  (by decide +kernel) (Nat.le_of_ble_eq_true rfl) (fun p e s m args below meth c B hin hsz => by
    have B : VB p s m args meth c D Y (va_A [(h0, oC 13 [.ref h1, .ref h2, .int p2, .ref h3, .ref h4, .int (nI k5), .int (nI k6), .int p7, .int p8, .int p9, .int (nI k10), .int p11, .long q12, .ref h5, .ref h6, .int (nI k15), .int (nI k16)]), (h1, aI Y 3640 f0), (h2, aZ Y 2 f1), (h3, aZ Y 80 f3), (h4, aB Y 1600 f4), (h5, aI Y 200 f13), (h6, aI Y 800 f14)] sz) cX12_continuations 2 RX12 (some .int) := B
    refine V_aload_n 0 B dX12_continuations_0 0 rfl ?_
    refine V_iconst 1 B (v := 0) dX12_continuations_1 (by decide +kernel) ?_
    refine V_put 2 B gp_RX12_38 0 rfl (Nat.le_of_ble_eq_true rfl) rfl rfl dX12_continuations_2 [(h0, oC 13 [.ref h1, .ref h2, .int 0, .ref h3, .ref h4, .int (nI k5), .int (nI k6), .int p7, .int p8, .int p9, .int (nI k10), .int p11, .long q12, .ref h5, .ref h6, .int (nI k15), .int (nI k16)]), (h1, aI Y 3640 f0), (h2, aZ Y 2 f1), (h3, aZ Y 80 f3), (h4, aB Y 1600 f4), (h5, aI Y 200 f13), (h6, aI Y 800 f14)] rfl ?_
    refine V_aload_n 5 B dX12_continuations_5 0 rfl ?_
    refine V_aload_n 6 B dX12_continuations_6 0 rfl ?_
    refine V_iload_n 7 B dX12_continuations_7 1 rfl ?_
    refine V_cvi 8 B (st := [.ref h0]) (As := [.int s0]) (fun sz => rX12_isMode l D Y h0 h1 h2 h3 h4 h5 h6 0 k5 k6 p7 p8 p9 k10 p11 q12 k15 k16 f0 f1 f3 f4 f13 f14 ph HI (by omega) HP s0 sz) glV_RX12_91 ⟨rfl, rfl⟩ ⟨(Nat.le_of_ble_eq_true rfl), (Nat.le_of_ble_eq_true rfl)⟩ ⟨(Nat.le_of_ble_eq_true rfl), (Nat.le_of_ble_eq_true rfl)⟩ [0, 0, 0, 0, 0, 0, 0] rfl 13 0 rfl rfl rfl rfl (Nat.le_of_ble_eq_true rfl) rfl (fun _ _ _ => rfl) dX12_continuations_8 (fun j0 u1 w2 => ?_)
    refine V_ws [(h0, oC 13 [.ref h1, .ref h2, .int 0, .ref h3, .ref h4, .int (nI k5), .int (nI k6), .int p7, .int p8, .int p9, .int (nI k10), .int p11, .long q12, .ref h5, .ref h6, .int (nI k15), .int (nI k16)]), (h1, aI Y 3640 f0), (h2, aZ Y 2 f1), (h3, aZ Y 80 f3), (h4, aB Y 1600 f4), (h5, aI Y 200 f13), (h6, aI Y 800 f14)] rfl ?_
    have x3 := w2
    clear w2
    have x7 : (gN f0 0) ≤ 6 := gN_le HI (by omega) (show bd 0 = (0, ((6 : Nat) : Int)) by decide +kernel)
    rcases x3 with rfl | ⟨rfl, n4, rfl, x6⟩
    ·
      refine V_if_ne_f 11 B 18 dX12_continuations_11 (by decide) (by decide +kernel) ?_
      refine V_iconst 14 B (v := 1) dX12_continuations_14 (by decide +kernel) ?_
      refine V_goto 15 B 19 dX12_continuations_15 (by decide) ?_
      refine V_iconst 19 B (v := 1) dX12_continuations_19 (by decide +kernel) ?_
      refine V_cvi 20 B (st := []) (As := [.int 1, .int 1]) (fun sz => rX12_throwsIf_1 l D Y h0 h1 h2 h3 h4 h5 h6 0 k5 k6 p7 p8 p9 k10 p11 q12 k15 k16 f0 f1 f3 f4 f13 f14 ph HI (by omega) HP 1 sz) glV_RX12_69 ⟨rfl, rfl⟩ ⟨(Nat.le_of_ble_eq_true rfl), (Nat.le_of_ble_eq_true rfl)⟩ ⟨(Nat.le_of_ble_eq_true rfl), (Nat.le_of_ble_eq_true rfl)⟩ [0, 0, 0, 0, 0, 0, 0] rfl 13 0 rfl rfl rfl rfl (Nat.le_of_ble_eq_true rfl) rfl (fun _ _ _ => rfl) dX12_continuations_20 (fun j8 u9 w10 => ?_)
      refine V_ws [(h0, oC 13 [.ref h1, .ref h2, .int (u9.2.1 0), .ref h3, .ref h4, .int (nI k5), .int (nI k6), .int p7, .int p8, .int p9, .int (nI k10), .int p11, .long q12, .ref h5, .ref h6, .int (nI k15), .int (nI k16)]), (h1, aI Y 3640 f0), (h2, aZ Y 2 f1), (h3, aZ Y 80 f3), (h4, aB Y 1600 f4), (h5, aI Y 200 f13), (h6, aI Y 800 f14)] rfl ?_
      have x11 := w10
      clear w10
      obtain rfl := x11
      refine V_if_eq_f 23 B 30 dX12_continuations_23 (by decide) (by decide +kernel) ?_
      refine V_iconst 26 B (v := 0) dX12_continuations_26 (by decide +kernel) ?_
      refine V_goto 27 B 38 dX12_continuations_27 (by decide) ?_
      exact V_iret 38 B dX12_continuations_38 (mkW [] [(u9.2.1 0)] [] [] [] []) trivial rfl
    ·
      have e12 := nI_toInt (show n4 < 2 ^ 31 by omega)
      have x13 : (gN f0 0) ≤ 6 := gN_le HI (by omega) (show bd 0 = (0, ((6 : Nat) : Int)) by decide +kernel)
      refine V_if_ne_t 11 B 18 dX12_continuations_11 (by decide) (by decide +kernel) ?_
      refine V_iconst 18 B (v := 0) dX12_continuations_18 (by decide +kernel) ?_
      refine V_iconst 19 B (v := 1) dX12_continuations_19 (by decide +kernel) ?_
      refine V_cvi 20 B (st := []) (As := [.int 0, .int 1]) (fun sz => rX12_throwsIf_0 l D Y h0 h1 h2 h3 h4 h5 h6 0 k5 k6 p7 p8 p9 k10 p11 q12 k15 k16 f0 f1 f3 f4 f13 f14 ph HI (by omega) HP 1 sz) glV_RX12_69 ⟨rfl, rfl⟩ ⟨(Nat.le_of_ble_eq_true rfl), (Nat.le_of_ble_eq_true rfl)⟩ ⟨(Nat.le_of_ble_eq_true rfl), (Nat.le_of_ble_eq_true rfl)⟩ [0, 0, 0, 0, 0, 0, 0] rfl 13 0 rfl rfl rfl rfl (Nat.le_of_ble_eq_true rfl) rfl (fun _ _ _ => rfl) dX12_continuations_20 (fun j14 u15 w16 => ?_)
      refine V_ws [(h0, oC 13 [.ref h1, .ref h2, .int (u15.2.1 0), .ref h3, .ref h4, .int (nI k5), .int (nI k6), .int p7, .int p8, .int p9, .int (nI k10), .int p11, .long q12, .ref h5, .ref h6, .int (nI k15), .int (nI k16)]), (h1, aI Y 3640 f0), (h2, aZ Y 2 f1), (h3, aZ Y 80 f3), (h4, aB Y 1600 f4), (h5, aI Y 200 f13), (h6, aI Y 800 f14)] rfl ?_
      have x17 := w16
      clear w16
      obtain rfl := x17
      refine V_if_eq_t 23 B 30 dX12_continuations_23 (by decide) (by decide +kernel) ?_
      refine V_aload_n 30 B dX12_continuations_30 0 rfl ?_
      refine V_iload_n 31 B dX12_continuations_31 1 rfl ?_
      refine V_sipush 32 B (v := 3624) dX12_continuations_32 (by decide +kernel) ?_
      refine V_cvi 35 B (st := []) (As := [.int (nI n4), .int 3624]) (fun sz => rX12_continued l D Y h0 h1 h2 h3 h4 h5 h6 (u15.2.1 0) k5 k6 p7 p8 p9 k10 p11 q12 k15 k16 f0 f1 f3 f4 f13 f14 ph HI (by omega) HP (nI n4) 3624 (by rw [nI_toInt (show n4 < 2 ^ 31 by omega)]; omega) (show SQ 3624 by unfold SQ; decide +kernel) sz) glV_RX12_160 ⟨rfl, rfl⟩ ⟨(Nat.le_of_ble_eq_true rfl), (Nat.le_of_ble_eq_true rfl)⟩ ⟨(Nat.le_of_ble_eq_true rfl), (Nat.le_of_ble_eq_true rfl)⟩ [0, 0, 0, 0, 0, 0, 0] rfl 13 0 rfl rfl rfl rfl (Nat.le_of_ble_eq_true rfl) rfl (fun _ _ _ => rfl) dX12_continuations_35 (fun j18 u19 w20 => ?_)
      refine V_ws [(h0, oC 13 [.ref h1, .ref h2, .int (u15.2.1 0), .ref h3, .ref h4, .int (nI k5), .int (nI k6), .int p7, .int p8, .int p9, .int (nI k10), .int p11, .long q12, .ref h5, .ref h6, .int (nI k15), .int (nI k16)]), (h1, aI Y 3640 f0), (h2, aZ Y 2 f1), (h3, aZ Y 80 f3), (h4, aB Y 1600 f4), (h5, aI Y 200 f13), (h6, aI Y 800 f14)] rfl ?_
      have x21 := w20
      clear w20
      exact V_iret 38 B dX12_continuations_38 (mkW [] [(u15.2.1 0)] [] [] [] []) trivial rfl)
theorem dX12_visible_0 : decode cX12_visible 0 = .ok (.aload_n 0, 1) := by decide +kernel
theorem dX12_visible_1 : decode cX12_visible 1 = .ok (.iconst 0, 1) := by decide +kernel
theorem dX12_visible_2 : decode cX12_visible 2 = .ok (.putfield 38, 3) := by decide +kernel
theorem dX12_visible_5 : decode cX12_visible 5 = .ok (.aload_n 0, 1) := by decide +kernel
theorem dX12_visible_6 : decode cX12_visible 6 = .ok (.aload_n 0, 1) := by decide +kernel
theorem dX12_visible_7 : decode cX12_visible 7 = .ok (.iload_n 1, 1) := by decide +kernel
theorem dX12_visible_8 : decode cX12_visible 8 = .ok (.invokevirtual 91, 3) := by decide +kernel
theorem dX12_visible_11 : decode cX12_visible 11 = .ok (.ifCond .ne 7, 3) := by decide +kernel
theorem dX12_visible_14 : decode cX12_visible 14 = .ok (.iconst 1, 1) := by decide +kernel
theorem dX12_visible_15 : decode cX12_visible 15 = .ok (.goto 4, 3) := by decide +kernel
theorem dX12_visible_19 : decode cX12_visible 19 = .ok (.iconst 1, 1) := by decide +kernel
theorem dX12_visible_20 : decode cX12_visible 20 = .ok (.invokevirtual 69, 3) := by decide +kernel
theorem dX12_visible_23 : decode cX12_visible 23 = .ok (.ifCond .eq 7, 3) := by decide +kernel
theorem dX12_visible_26 : decode cX12_visible 26 = .ok (.iconst 0, 1) := by decide +kernel
theorem dX12_visible_27 : decode cX12_visible 27 = .ok (.goto 8, 3) := by decide +kernel
theorem dX12_visible_35 : decode cX12_visible 35 = .ok (.ireturn, 1) := by decide +kernel
theorem dX12_visible_18 : decode cX12_visible 18 = .ok (.iconst 0, 1) := by decide +kernel
theorem dX12_visible_30 : decode cX12_visible 30 = .ok (.aload_n 0, 1) := by decide +kernel
theorem dX12_visible_31 : decode cX12_visible 31 = .ok (.iload_n 1, 1) := by decide +kernel
theorem dX12_visible_32 : decode cX12_visible 32 = .ok (.invokevirtual 163, 3) := by decide +kernel
theorem glV_RX12_163 : GLV RX12 163 yX12_visibleCount RX12 cX12_visibleCount 4 (some .int) 1 := ⟨⟨(mT8 192 rfl rfl), (mT8 194 rfl rfl), (mTs 56 rfl rfl), (mT1 13 rfl rfl), (mT8 195 rfl rfl)⟩, by decide +kernel⟩
set_option maxRecDepth 100000 in
set_option maxHeartbeats 4000000 in
theorem rX12_visible (l : Launch) (D : va_G) (Y : Nat → ClassId) (h0 : Nat) (h1 : Nat) (h2 : Nat) (h3 : Nat) (h4 : Nat) (h5 : Nat) (h6 : Nat) (p2 : Int32) (k5 : Nat) (k6 : Nat) (p7 : Int32) (p8 : Int32) (p9 : Int32) (k10 : Nat) (p11 : Int32) (q12 : Int64) (k15 : Nat) (k16 : Nat) (f0 : Nat → Int32) (f1 : Nat → Int32) (f3 : Nat → Int32) (f4 : Nat → Int32) (f13 : Nat → Int32) (f14 : Nat → Int32) (ph : Nat → Int32) (HI : INV ph f0) (HL : k5 ≤ 1600) (HP : PLV f13) (s0 : Int32)  (sz : Nat) : Met l yX12_visible (WSm yX12_visible cX12_visible 2 (some .int)) (mkR 6 0 0 136) (PreC D Y [.ref h0, .int s0] [(h0, oC 13 [.ref h1, .ref h2, .int p2, .ref h3, .ref h4, .int (nI k5), .int (nI k6), .int p7, .int p8, .int p9, .int (nI k10), .int p11, .long q12, .ref h5, .ref h6, .int (nI k15), .int (nI k16)]), (h1, aI Y 3640 f0), (h2, aZ Y 2 f1), (h3, aZ Y 80 f3), (h4, aB Y 1600 f4), (h5, aI Y 200 f13), (h6, aI Y 800 f14)] sz) (QI D (fun (r : Int32) (u : WU) => True) (fun (u : WU) => [(h0, oC 13 [.ref h1, .ref h2, .int (u.2.1 0), .ref h3, .ref h4, .int (nI k5), .int (nI k6), .int p7, .int p8, .int p9, .int (nI k10), .int p11, .long q12, .ref h5, .ref h6, .int (nI k15), .int (nI k16)]), (h1, aI Y 3640 f0), (h2, aZ Y 2 f1), (h3, aZ Y 80 f3), (h4, aB Y 1600 f4), (h5, aI Y 200 f13), (h6, aI Y 800 f14)]) (va_A [(h0, oC 13 [.ref h1, .ref h2, .int p2, .ref h3, .ref h4, .int (nI k5), .int (nI k6), .int p7, .int p8, .int p9, .int (nI k10), .int p11, .long q12, .ref h5, .ref h6, .int (nI k15), .int (nI k16)]), (h1, aI Y 3640 f0), (h2, aZ Y 2 f1), (h3, aZ Y 80 f3), (h4, aB Y 1600 f4), (h5, aI Y 200 f13), (h6, aI Y 800 f14)] sz)) 0 0 (va_A [(h0, oC 13 [.ref h1, .ref h2, .int p2, .ref h3, .ref h4, .int (nI k5), .int (nI k6), .int p7, .int p8, .int p9, .int (nI k10), .int p11, .long q12, .ref h5, .ref h6, .int (nI k15), .int (nI k16)]), (h1, aI Y 3640 f0), (h2, aZ Y 2 f1), (h3, aZ Y 80 f3), (h4, aB Y 1600 f4), (h5, aI Y 200 f13), (h6, aI Y 800 f14)] sz) :=
  met_of  (by decide +kernel) (Nat.le_of_ble_eq_true rfl) (fun p e s m args below meth c B hin hsz => by
    have B : VB p s m args meth c D Y (va_A [(h0, oC 13 [.ref h1, .ref h2, .int p2, .ref h3, .ref h4, .int (nI k5), .int (nI k6), .int p7, .int p8, .int p9, .int (nI k10), .int p11, .long q12, .ref h5, .ref h6, .int (nI k15), .int (nI k16)]), (h1, aI Y 3640 f0), (h2, aZ Y 2 f1), (h3, aZ Y 80 f3), (h4, aB Y 1600 f4), (h5, aI Y 200 f13), (h6, aI Y 800 f14)] sz) cX12_visible 2 RX12 (some .int) := B
    refine V_aload_n 0 B dX12_visible_0 0 rfl ?_
    refine V_iconst 1 B (v := 0) dX12_visible_1 (by decide +kernel) ?_
    refine V_put 2 B gp_RX12_38 0 rfl (Nat.le_of_ble_eq_true rfl) rfl rfl dX12_visible_2 [(h0, oC 13 [.ref h1, .ref h2, .int 0, .ref h3, .ref h4, .int (nI k5), .int (nI k6), .int p7, .int p8, .int p9, .int (nI k10), .int p11, .long q12, .ref h5, .ref h6, .int (nI k15), .int (nI k16)]), (h1, aI Y 3640 f0), (h2, aZ Y 2 f1), (h3, aZ Y 80 f3), (h4, aB Y 1600 f4), (h5, aI Y 200 f13), (h6, aI Y 800 f14)] rfl ?_
    refine V_aload_n 5 B dX12_visible_5 0 rfl ?_
    refine V_aload_n 6 B dX12_visible_6 0 rfl ?_
    refine V_iload_n 7 B dX12_visible_7 1 rfl ?_
    refine V_cvi 8 B (st := [.ref h0]) (As := [.int s0]) (fun sz => rX12_isMode l D Y h0 h1 h2 h3 h4 h5 h6 0 k5 k6 p7 p8 p9 k10 p11 q12 k15 k16 f0 f1 f3 f4 f13 f14 ph HI (by omega) HP s0 sz) glV_RX12_91 ⟨rfl, rfl⟩ ⟨(Nat.le_of_ble_eq_true rfl), (Nat.le_of_ble_eq_true rfl)⟩ ⟨(Nat.le_of_ble_eq_true rfl), (Nat.le_of_ble_eq_true rfl)⟩ [0, 0, 0, 0, 0, 0, 0] rfl 13 0 rfl rfl rfl rfl (Nat.le_of_ble_eq_true rfl) rfl (fun _ _ _ => rfl) dX12_visible_8 (fun j0 u1 w2 => ?_)
    refine V_ws [(h0, oC 13 [.ref h1, .ref h2, .int 0, .ref h3, .ref h4, .int (nI k5), .int (nI k6), .int p7, .int p8, .int p9, .int (nI k10), .int p11, .long q12, .ref h5, .ref h6, .int (nI k15), .int (nI k16)]), (h1, aI Y 3640 f0), (h2, aZ Y 2 f1), (h3, aZ Y 80 f3), (h4, aB Y 1600 f4), (h5, aI Y 200 f13), (h6, aI Y 800 f14)] rfl ?_
    have x3 := w2
    clear w2
    have x7 : (gN f0 0) ≤ 6 := gN_le HI (by omega) (show bd 0 = (0, ((6 : Nat) : Int)) by decide +kernel)
    rcases x3 with rfl | ⟨rfl, n4, rfl, x6⟩
    ·
      refine V_if_ne_f 11 B 18 dX12_visible_11 (by decide) (by decide +kernel) ?_
      refine V_iconst 14 B (v := 1) dX12_visible_14 (by decide +kernel) ?_
      refine V_goto 15 B 19 dX12_visible_15 (by decide) ?_
      refine V_iconst 19 B (v := 1) dX12_visible_19 (by decide +kernel) ?_
      refine V_cvi 20 B (st := []) (As := [.int 1, .int 1]) (fun sz => rX12_throwsIf_1 l D Y h0 h1 h2 h3 h4 h5 h6 0 k5 k6 p7 p8 p9 k10 p11 q12 k15 k16 f0 f1 f3 f4 f13 f14 ph HI (by omega) HP 1 sz) glV_RX12_69 ⟨rfl, rfl⟩ ⟨(Nat.le_of_ble_eq_true rfl), (Nat.le_of_ble_eq_true rfl)⟩ ⟨(Nat.le_of_ble_eq_true rfl), (Nat.le_of_ble_eq_true rfl)⟩ [0, 0, 0, 0, 0, 0, 0] rfl 13 0 rfl rfl rfl rfl (Nat.le_of_ble_eq_true rfl) rfl (fun _ _ _ => rfl) dX12_visible_20 (fun j8 u9 w10 => ?_)
      refine V_ws [(h0, oC 13 [.ref h1, .ref h2, .int (u9.2.1 0), .ref h3, .ref h4, .int (nI k5), .int (nI k6), .int p7, .int p8, .int p9, .int (nI k10), .int p11, .long q12, .ref h5, .ref h6, .int (nI k15), .int (nI k16)]), (h1, aI Y 3640 f0), (h2, aZ Y 2 f1), (h3, aZ Y 80 f3), (h4, aB Y 1600 f4), (h5, aI Y 200 f13), (h6, aI Y 800 f14)] rfl ?_
      have x11 := w10
      clear w10
      obtain rfl := x11
      refine V_if_eq_f 23 B 30 dX12_visible_23 (by decide) (by decide +kernel) ?_
      refine V_iconst 26 B (v := 0) dX12_visible_26 (by decide +kernel) ?_
      refine V_goto 27 B 35 dX12_visible_27 (by decide) ?_
      exact V_iret 35 B dX12_visible_35 (mkW [] [(u9.2.1 0)] [] [] [] []) trivial rfl
    ·
      have e12 := nI_toInt (show n4 < 2 ^ 31 by omega)
      have x13 : (gN f0 0) ≤ 6 := gN_le HI (by omega) (show bd 0 = (0, ((6 : Nat) : Int)) by decide +kernel)
      refine V_if_ne_t 11 B 18 dX12_visible_11 (by decide) (by decide +kernel) ?_
      refine V_iconst 18 B (v := 0) dX12_visible_18 (by decide +kernel) ?_
      refine V_iconst 19 B (v := 1) dX12_visible_19 (by decide +kernel) ?_
      refine V_cvi 20 B (st := []) (As := [.int 0, .int 1]) (fun sz => rX12_throwsIf_0 l D Y h0 h1 h2 h3 h4 h5 h6 0 k5 k6 p7 p8 p9 k10 p11 q12 k15 k16 f0 f1 f3 f4 f13 f14 ph HI (by omega) HP 1 sz) glV_RX12_69 ⟨rfl, rfl⟩ ⟨(Nat.le_of_ble_eq_true rfl), (Nat.le_of_ble_eq_true rfl)⟩ ⟨(Nat.le_of_ble_eq_true rfl), (Nat.le_of_ble_eq_true rfl)⟩ [0, 0, 0, 0, 0, 0, 0] rfl 13 0 rfl rfl rfl rfl (Nat.le_of_ble_eq_true rfl) rfl (fun _ _ _ => rfl) dX12_visible_20 (fun j14 u15 w16 => ?_)
      refine V_ws [(h0, oC 13 [.ref h1, .ref h2, .int (u15.2.1 0), .ref h3, .ref h4, .int (nI k5), .int (nI k6), .int p7, .int p8, .int p9, .int (nI k10), .int p11, .long q12, .ref h5, .ref h6, .int (nI k15), .int (nI k16)]), (h1, aI Y 3640 f0), (h2, aZ Y 2 f1), (h3, aZ Y 80 f3), (h4, aB Y 1600 f4), (h5, aI Y 200 f13), (h6, aI Y 800 f14)] rfl ?_
      have x17 := w16
      clear w16
      obtain rfl := x17
      refine V_if_eq_t 23 B 30 dX12_visible_23 (by decide) (by decide +kernel) ?_
      refine V_aload_n 30 B dX12_visible_30 0 rfl ?_
      refine V_iload_n 31 B dX12_visible_31 1 rfl ?_
      refine V_cvi 32 B (st := []) (As := [.int (nI n4)]) (fun sz => rX12_visibleCount l D Y h0 h1 h2 h3 h4 h5 h6 (u15.2.1 0) k5 k6 p7 p8 p9 k10 p11 q12 k15 k16 f0 f1 f3 f4 f13 f14 ph HI (by omega) HP (nI n4) (by rw [nI_toInt (show n4 < 2 ^ 31 by omega)]; omega) sz) glV_RX12_163 ⟨rfl, rfl⟩ ⟨(Nat.le_of_ble_eq_true rfl), (Nat.le_of_ble_eq_true rfl)⟩ ⟨(Nat.le_of_ble_eq_true rfl), (Nat.le_of_ble_eq_true rfl)⟩ [0, 0, 0, 0, 0, 0, 0] rfl 13 0 rfl rfl rfl rfl (Nat.le_of_ble_eq_true rfl) rfl (fun _ _ _ => rfl) dX12_visible_32 (fun j18 u19 w20 => ?_)
      refine V_ws [(h0, oC 13 [.ref h1, .ref h2, .int (u15.2.1 0), .ref h3, .ref h4, .int (nI k5), .int (nI k6), .int p7, .int p8, .int p9, .int (nI k10), .int p11, .long q12, .ref h5, .ref h6, .int (nI k15), .int (nI k16)]), (h1, aI Y 3640 f0), (h2, aZ Y 2 f1), (h3, aZ Y 80 f3), (h4, aB Y 1600 f4), (h5, aI Y 200 f13), (h6, aI Y 800 f14)] rfl ?_
      have x21 := w20
      clear w20
      obtain ⟨n22, rfl, x23, x24⟩ := x21
      exact V_iret 35 B dX12_visible_35 (mkW [] [(u15.2.1 0)] [] [] [] []) trivial rfl)
theorem dX12_visibleAt_0 : decode cX12_visibleAt 0 = .ok (.aload_n 0, 1) := by decide +kernel
theorem dX12_visibleAt_1 : decode cX12_visibleAt 1 = .ok (.iconst 0, 1) := by decide +kernel
theorem dX12_visibleAt_2 : decode cX12_visibleAt 2 = .ok (.putfield 38, 3) := by decide +kernel
theorem dX12_visibleAt_5 : decode cX12_visibleAt 5 = .ok (.aload_n 0, 1) := by decide +kernel
theorem dX12_visibleAt_6 : decode cX12_visibleAt 6 = .ok (.aload_n 0, 1) := by decide +kernel
theorem dX12_visibleAt_7 : decode cX12_visibleAt 7 = .ok (.iload_n 1, 1) := by decide +kernel
theorem dX12_visibleAt_8 : decode cX12_visibleAt 8 = .ok (.invokevirtual 91, 3) := by decide +kernel
theorem dX12_visibleAt_11 : decode cX12_visibleAt 11 = .ok (.ifCond .ne 7, 3) := by decide +kernel
theorem dX12_visibleAt_14 : decode cX12_visibleAt 14 = .ok (.iconst 1, 1) := by decide +kernel
theorem dX12_visibleAt_15 : decode cX12_visibleAt 15 = .ok (.goto 4, 3) := by decide +kernel
theorem dX12_visibleAt_19 : decode cX12_visibleAt 19 = .ok (.iconst 1, 1) := by decide +kernel
theorem dX12_visibleAt_20 : decode cX12_visibleAt 20 = .ok (.invokevirtual 69, 3) := by decide +kernel
theorem dX12_visibleAt_23 : decode cX12_visibleAt 23 = .ok (.ifCond .eq 5, 3) := by decide +kernel
theorem dX12_visibleAt_26 : decode cX12_visibleAt 26 = .ok (.iconst 0, 1) := by decide +kernel
theorem dX12_visibleAt_27 : decode cX12_visibleAt 27 = .ok (.ireturn, 1) := by decide +kernel
theorem dX12_visibleAt_18 : decode cX12_visibleAt 18 = .ok (.iconst 0, 1) := by decide +kernel
theorem dX12_visibleAt_28 : decode cX12_visibleAt 28 = .ok (.iconst 0, 1) := by decide +kernel
theorem dX12_visibleAt_29 : decode cX12_visibleAt 29 = .ok (.istore_n 3, 1) := by decide +kernel
theorem dX12_visibleAt_30 : decode cX12_visibleAt 30 = .ok (.iload_n 3, 1) := by decide +kernel
theorem dX12_visibleAt_31 : decode cX12_visibleAt 31 = .ok (.aload_n 0, 1) := by decide +kernel
theorem dX12_visibleAt_32 : decode cX12_visibleAt 32 = .ok (.getfield 9, 3) := by decide +kernel
theorem dX12_visibleAt_35 : decode cX12_visibleAt 35 = .ok (.iconst 3, 1) := by decide +kernel
theorem dX12_visibleAt_36 : decode cX12_visibleAt 36 = .ok (.iaload, 1) := by decide +kernel
theorem dX12_visibleAt_37 : decode cX12_visibleAt 37 = .ok (.if_icmp .ge 88, 3) := by decide +kernel
theorem dX12_visibleAt_125 : decode cX12_visibleAt 125 = .ok (.iconst (-1), 1) := by decide +kernel
theorem dX12_visibleAt_126 : decode cX12_visibleAt 126 = .ok (.ireturn, 1) := by decide +kernel
theorem dX12_visibleAt_40 : decode cX12_visibleAt 40 = .ok (.aload_n 0, 1) := by decide +kernel
theorem dX12_visibleAt_41 : decode cX12_visibleAt 41 = .ok (.iload_n 1, 1) := by decide +kernel
theorem dX12_visibleAt_42 : decode cX12_visibleAt 42 = .ok (.iload_n 3, 1) := by decide +kernel
theorem dX12_visibleAt_43 : decode cX12_visibleAt 43 = .ok (.invokevirtual 154, 3) := by decide +kernel
theorem dX12_visibleAt_46 : decode cX12_visibleAt 46 = .ok (.ifCond .ne 6, 3) := by decide +kernel
theorem dX12_visibleAt_49 : decode cX12_visibleAt 49 = .ok (.goto 70, 3) := by decide +kernel
theorem dX12_visibleAt_119 : decode cX12_visibleAt 119 = .ok (.iinc 3 1, 3) := by decide +kernel
theorem dX12_visibleAt_122 : decode cX12_visibleAt 122 = .ok (.goto (-92), 3) := by decide +kernel
theorem dX12_visibleAt_52 : decode cX12_visibleAt 52 = .ok (.iconst 0, 1) := by decide +kernel
theorem dX12_visibleAt_53 : decode cX12_visibleAt 53 = .ok (.istore 4, 2) := by decide +kernel
theorem dX12_visibleAt_55 : decode cX12_visibleAt 55 = .ok (.iconst 0, 1) := by decide +kernel
theorem dX12_visibleAt_56 : decode cX12_visibleAt 56 = .ok (.istore 5, 2) := by decide +kernel
theorem dX12_visibleAt_58 : decode cX12_visibleAt 58 = .ok (.iload 5, 2) := by decide +kernel
theorem dX12_visibleAt_60 : decode cX12_visibleAt 60 = .ok (.aload_n 0, 1) := by decide +kernel
theorem dX12_visibleAt_61 : decode cX12_visibleAt 61 = .ok (.getfield 9, 3) := by decide +kernel
theorem dX12_visibleAt_64 : decode cX12_visibleAt 64 = .ok (.iconst 3, 1) := by decide +kernel
theorem dX12_visibleAt_65 : decode cX12_visibleAt 65 = .ok (.iaload, 1) := by decide +kernel
theorem dX12_visibleAt_66 : decode cX12_visibleAt 66 = .ok (.if_icmp .ge 45, 3) := by decide +kernel
theorem dX12_visibleAt_111 : decode cX12_visibleAt 111 = .ok (.iload 4, 2) := by decide +kernel
theorem dX12_visibleAt_113 : decode cX12_visibleAt 113 = .ok (.iload_n 2, 1) := by decide +kernel
theorem dX12_visibleAt_114 : decode cX12_visibleAt 114 = .ok (.if_icmp .ne 5, 3) := by decide +kernel
theorem dX12_visibleAt_117 : decode cX12_visibleAt 117 = .ok (.iload_n 3, 1) := by decide +kernel
theorem dX12_visibleAt_118 : decode cX12_visibleAt 118 = .ok (.ireturn, 1) := by decide +kernel
theorem dX12_visibleAt_69 : decode cX12_visibleAt 69 = .ok (.iload 4, 2) := by decide +kernel
theorem dX12_visibleAt_71 : decode cX12_visibleAt 71 = .ok (.aload_n 0, 1) := by decide +kernel
theorem dX12_visibleAt_72 : decode cX12_visibleAt 72 = .ok (.iload 5, 2) := by decide +kernel
theorem dX12_visibleAt_74 : decode cX12_visibleAt 74 = .ok (.invokestatic 85, 3) := by decide +kernel
theorem dX12_visibleAt_77 : decode cX12_visibleAt 77 = .ok (.iload_n 3, 1) := by decide +kernel
theorem dX12_visibleAt_78 : decode cX12_visibleAt 78 = .ok (.invokestatic 85, 3) := by decide +kernel
theorem dX12_visibleAt_81 : decode cX12_visibleAt 81 = .ok (.invokevirtual 166, 3) := by decide +kernel
theorem glV_RX12_166 : GLV RX12 166 yX12_isLess RX12 cX12_isLess 4 (some .boolean) 2 := ⟨⟨(mT8 200 rfl rfl), (mT8 202 rfl rfl), (mTs 57 rfl rfl), (mT1 13 rfl rfl), (mT8 203 rfl rfl)⟩, by decide +kernel⟩
theorem dX12_visibleAt_84 : decode cX12_visibleAt 84 = .ok (.ifCond .eq 17, 3) := by decide +kernel
theorem dX12_visibleAt_101 : decode cX12_visibleAt 101 = .ok (.iconst 0, 1) := by decide +kernel
theorem dX12_visibleAt_102 : decode cX12_visibleAt 102 = .ok (.iadd, 1) := by decide +kernel
theorem dX12_visibleAt_103 : decode cX12_visibleAt 103 = .ok (.istore 4, 2) := by decide +kernel
theorem dX12_visibleAt_105 : decode cX12_visibleAt 105 = .ok (.iinc 5 1, 3) := by decide +kernel
theorem dX12_visibleAt_108 : decode cX12_visibleAt 108 = .ok (.goto (-50), 3) := by decide +kernel
theorem dX12_visibleAt_87 : decode cX12_visibleAt 87 = .ok (.aload_n 0, 1) := by decide +kernel
theorem dX12_visibleAt_88 : decode cX12_visibleAt 88 = .ok (.iload_n 1, 1) := by decide +kernel
theorem dX12_visibleAt_89 : decode cX12_visibleAt 89 = .ok (.iload 5, 2) := by decide +kernel
theorem dX12_visibleAt_91 : decode cX12_visibleAt 91 = .ok (.invokevirtual 154, 3) := by decide +kernel
theorem dX12_visibleAt_94 : decode cX12_visibleAt 94 = .ok (.ifCond .eq 7, 3) := by decide +kernel
theorem dX12_visibleAt_97 : decode cX12_visibleAt 97 = .ok (.iconst 1, 1) := by decide +kernel
theorem dX12_visibleAt_98 : decode cX12_visibleAt 98 = .ok (.goto 4, 3) := by decide +kernel
set_option maxRecDepth 100000 in
set_option maxHeartbeats 4000000 in
theorem rX12_visibleAt (l : Launch) (D : va_G) (Y : Nat → ClassId) (h0 : Nat) (h1 : Nat) (h2 : Nat) (h3 : Nat) (h4 : Nat) (h5 : Nat) (h6 : Nat) (p2 : Int32) (k5 : Nat) (k6 : Nat) (p7 : Int32) (p8 : Int32) (p9 : Int32) (k10 : Nat) (p11 : Int32) (q12 : Int64) (k15 : Nat) (k16 : Nat) (f0 : Nat → Int32) (f1 : Nat → Int32) (f3 : Nat → Int32) (f4 : Nat → Int32) (f13 : Nat → Int32) (f14 : Nat → Int32) (ph : Nat → Int32) (HI : INV ph f0) (HL : k5 ≤ 1600) (HP : PLV f13) (s0 : Int32) (s1 : Int32)  (sz : Nat) : Met l yX12_visibleAt (WSm yX12_visibleAt cX12_visibleAt 6 (some .int)) (mkR 5 0 0 113) (PreC D Y [.ref h0, .int s0, .int s1] [(h0, oC 13 [.ref h1, .ref h2, .int p2, .ref h3, .ref h4, .int (nI k5), .int (nI k6), .int p7, .int p8, .int p9, .int (nI k10), .int p11, .long q12, .ref h5, .ref h6, .int (nI k15), .int (nI k16)]), (h1, aI Y 3640 f0), (h2, aZ Y 2 f1), (h3, aZ Y 80 f3), (h4, aB Y 1600 f4), (h5, aI Y 200 f13), (h6, aI Y 800 f14)] sz) (QI D (fun (r : Int32) (u : WU) => True) (fun (u : WU) => [(h0, oC 13 [.ref h1, .ref h2, .int (u.2.1 0), .ref h3, .ref h4, .int (nI k5), .int (nI k6), .int p7, .int p8, .int p9, .int (nI k10), .int p11, .long q12, .ref h5, .ref h6, .int (nI k15), .int (nI k16)]), (h1, aI Y 3640 f0), (h2, aZ Y 2 f1), (h3, aZ Y 80 f3), (h4, aB Y 1600 f4), (h5, aI Y 200 f13), (h6, aI Y 800 f14)]) (va_A [(h0, oC 13 [.ref h1, .ref h2, .int p2, .ref h3, .ref h4, .int (nI k5), .int (nI k6), .int p7, .int p8, .int p9, .int (nI k10), .int p11, .long q12, .ref h5, .ref h6, .int (nI k15), .int (nI k16)]), (h1, aI Y 3640 f0), (h2, aZ Y 2 f1), (h3, aZ Y 80 f3), (h4, aB Y 1600 f4), (h5, aI Y 200 f13), (h6, aI Y 800 f14)] sz)) 0 0 (va_A [(h0, oC 13 [.ref h1, .ref h2, .int p2, .ref h3, .ref h4, .int (nI k5), .int (nI k6), .int p7, .int p8, .int p9, .int (nI k10), .int p11, .long q12, .ref h5, .ref h6, .int (nI k15), .int (nI k16)]), (h1, aI Y 3640 f0), (h2, aZ Y 2 f1), (h3, aZ Y 80 f3), (h4, aB Y 1600 f4), (h5, aI Y 200 f13), (h6, aI Y 800 f14)] sz) :=
  met_of  (by decide +kernel) (Nat.le_of_ble_eq_true rfl) (fun p e s m args below meth c B hin hsz => by
    have B : VB p s m args meth c D Y (va_A [(h0, oC 13 [.ref h1, .ref h2, .int p2, .ref h3, .ref h4, .int (nI k5), .int (nI k6), .int p7, .int p8, .int p9, .int (nI k10), .int p11, .long q12, .ref h5, .ref h6, .int (nI k15), .int (nI k16)]), (h1, aI Y 3640 f0), (h2, aZ Y 2 f1), (h3, aZ Y 80 f3), (h4, aB Y 1600 f4), (h5, aI Y 200 f13), (h6, aI Y 800 f14)] sz) cX12_visibleAt 6 RX12 (some .int) := B
    refine V_aload_n 0 B dX12_visibleAt_0 0 rfl ?_
    refine V_iconst 1 B (v := 0) dX12_visibleAt_1 (by decide +kernel) ?_
    refine V_put 2 B gp_RX12_38 0 rfl (Nat.le_of_ble_eq_true rfl) rfl rfl dX12_visibleAt_2 [(h0, oC 13 [.ref h1, .ref h2, .int 0, .ref h3, .ref h4, .int (nI k5), .int (nI k6), .int p7, .int p8, .int p9, .int (nI k10), .int p11, .long q12, .ref h5, .ref h6, .int (nI k15), .int (nI k16)]), (h1, aI Y 3640 f0), (h2, aZ Y 2 f1), (h3, aZ Y 80 f3), (h4, aB Y 1600 f4), (h5, aI Y 200 f13), (h6, aI Y 800 f14)] rfl ?_
    refine V_aload_n 5 B dX12_visibleAt_5 0 rfl ?_
    refine V_aload_n 6 B dX12_visibleAt_6 0 rfl ?_
    refine V_iload_n 7 B dX12_visibleAt_7 1 rfl ?_
    refine V_cvi 8 B (st := [.ref h0]) (As := [.int s0]) (fun sz => rX12_isMode l D Y h0 h1 h2 h3 h4 h5 h6 0 k5 k6 p7 p8 p9 k10 p11 q12 k15 k16 f0 f1 f3 f4 f13 f14 ph HI (by omega) HP s0 sz) glV_RX12_91 ⟨rfl, rfl⟩ ⟨(Nat.le_of_ble_eq_true rfl), (Nat.le_of_ble_eq_true rfl)⟩ ⟨(Nat.le_of_ble_eq_true rfl), (Nat.le_of_ble_eq_true rfl)⟩ [0, 0, 0, 0, 0, 0, 0] rfl 13 0 rfl rfl rfl rfl (Nat.le_of_ble_eq_true rfl) rfl (fun _ _ _ => rfl) dX12_visibleAt_8 (fun j0 u1 w2 => ?_)
    refine V_ws [(h0, oC 13 [.ref h1, .ref h2, .int 0, .ref h3, .ref h4, .int (nI k5), .int (nI k6), .int p7, .int p8, .int p9, .int (nI k10), .int p11, .long q12, .ref h5, .ref h6, .int (nI k15), .int (nI k16)]), (h1, aI Y 3640 f0), (h2, aZ Y 2 f1), (h3, aZ Y 80 f3), (h4, aB Y 1600 f4), (h5, aI Y 200 f13), (h6, aI Y 800 f14)] rfl ?_
    have x3 := w2
    clear w2
    have x7 : (gN f0 0) ≤ 6 := gN_le HI (by omega) (show bd 0 = (0, ((6 : Nat) : Int)) by decide +kernel)
    rcases x3 with rfl | ⟨rfl, n4, rfl, x6⟩
    ·
      refine V_if_ne_f 11 B 18 dX12_visibleAt_11 (by decide) (by decide +kernel) ?_
      refine V_iconst 14 B (v := 1) dX12_visibleAt_14 (by decide +kernel) ?_
      refine V_goto 15 B 19 dX12_visibleAt_15 (by decide) ?_
      refine V_iconst 19 B (v := 1) dX12_visibleAt_19 (by decide +kernel) ?_
      refine V_cvi 20 B (st := []) (As := [.int 1, .int 1]) (fun sz => rX12_throwsIf_1 l D Y h0 h1 h2 h3 h4 h5 h6 0 k5 k6 p7 p8 p9 k10 p11 q12 k15 k16 f0 f1 f3 f4 f13 f14 ph HI (by omega) HP 1 sz) glV_RX12_69 ⟨rfl, rfl⟩ ⟨(Nat.le_of_ble_eq_true rfl), (Nat.le_of_ble_eq_true rfl)⟩ ⟨(Nat.le_of_ble_eq_true rfl), (Nat.le_of_ble_eq_true rfl)⟩ [0, 0, 0, 0, 0, 0, 0] rfl 13 0 rfl rfl rfl rfl (Nat.le_of_ble_eq_true rfl) rfl (fun _ _ _ => rfl) dX12_visibleAt_20 (fun j8 u9 w10 => ?_)
      refine V_ws [(h0, oC 13 [.ref h1, .ref h2, .int (u9.2.1 0), .ref h3, .ref h4, .int (nI k5), .int (nI k6), .int p7, .int p8, .int p9, .int (nI k10), .int p11, .long q12, .ref h5, .ref h6, .int (nI k15), .int (nI k16)]), (h1, aI Y 3640 f0), (h2, aZ Y 2 f1), (h3, aZ Y 80 f3), (h4, aB Y 1600 f4), (h5, aI Y 200 f13), (h6, aI Y 800 f14)] rfl ?_
      have x11 := w10
      clear w10
      obtain rfl := x11
      refine V_if_eq_f 23 B 28 dX12_visibleAt_23 (by decide) (by decide +kernel) ?_
      refine V_iconst 26 B (v := 0) dX12_visibleAt_26 (by decide +kernel) ?_
      exact V_iret 27 B dX12_visibleAt_27 (mkW [] [(u9.2.1 0)] [] [] [] []) trivial rfl
    ·
      have e12 := nI_toInt (show n4 < 2 ^ 31 by omega)
      have x13 : (gN f0 0) ≤ 6 := gN_le HI (by omega) (show bd 0 = (0, ((6 : Nat) : Int)) by decide +kernel)
      refine V_if_ne_t 11 B 18 dX12_visibleAt_11 (by decide) (by decide +kernel) ?_
      refine V_iconst 18 B (v := 0) dX12_visibleAt_18 (by decide +kernel) ?_
      refine V_iconst 19 B (v := 1) dX12_visibleAt_19 (by decide +kernel) ?_
      refine V_cvi 20 B (st := []) (As := [.int 0, .int 1]) (fun sz => rX12_throwsIf_0 l D Y h0 h1 h2 h3 h4 h5 h6 0 k5 k6 p7 p8 p9 k10 p11 q12 k15 k16 f0 f1 f3 f4 f13 f14 ph HI (by omega) HP 1 sz) glV_RX12_69 ⟨rfl, rfl⟩ ⟨(Nat.le_of_ble_eq_true rfl), (Nat.le_of_ble_eq_true rfl)⟩ ⟨(Nat.le_of_ble_eq_true rfl), (Nat.le_of_ble_eq_true rfl)⟩ [0, 0, 0, 0, 0, 0, 0] rfl 13 0 rfl rfl rfl rfl (Nat.le_of_ble_eq_true rfl) rfl (fun _ _ _ => rfl) dX12_visibleAt_20 (fun j14 u15 w16 => ?_)
      refine V_ws [(h0, oC 13 [.ref h1, .ref h2, .int (u15.2.1 0), .ref h3, .ref h4, .int (nI k5), .int (nI k6), .int p7, .int p8, .int p9, .int (nI k10), .int p11, .long q12, .ref h5, .ref h6, .int (nI k15), .int (nI k16)]), (h1, aI Y 3640 f0), (h2, aZ Y 2 f1), (h3, aZ Y 80 f3), (h4, aB Y 1600 f4), (h5, aI Y 200 f13), (h6, aI Y 800 f14)] rfl ?_
      have x17 := w16
      clear w16
      obtain rfl := x17
      refine V_if_eq_t 23 B 28 dX12_visibleAt_23 (by decide) (by decide +kernel) ?_
      refine V_iconst 28 B (v := 0) dX12_visibleAt_28 (by decide +kernel) ?_
      refine V_istore_n 29 B (lv2 := [(3, .int 0), (0, .ref h0), (1, .int (nI n4)), (2, .int s1)]) dX12_visibleAt_29 (by decide) rfl ?_
      refine V_wloop (α := WU) (fun a => 100000 - (a.1 0)) (fun a => (a.1 0) ≤ 4000) (fun a => [(3, .int (nI (a.1 0))), (0, .ref h0), (1, .int (nI n4)), (2, .int s1)]) (fun a => [(h0, oC 13 [.ref h1, .ref h2, .int (u15.2.1 0), .ref h3, .ref h4, .int (nI k5), .int (nI k6), .int p7, .int p8, .int p9, .int (nI k10), .int p11, .long q12, .ref h5, .ref h6, .int (nI k15), .int (nI k16)]), (h1, aI Y 3640 f0), (h2, aZ Y 2 f1), (h3, aZ Y 80 f3), (h4, aB Y 1600 f4), (h5, aI Y 200 f13), (h6, aI Y 800 f14)]) (mkW [0] [] [] [] [] []) (show 0 ≤ 4000 by omega) rfl rfl (fun a18 hI20 IH19 => ?_)
      refine V_lv [(3, .int (nI (a18.1 0))), (0, .ref h0), (1, .int (nI n4)), (2, .int s1)] [0, 1, 2, 3] rfl ?_
      refine V_ws [(h0, oC 13 [.ref h1, .ref h2, .int (u15.2.1 0), .ref h3, .ref h4, .int (nI k5), .int (nI k6), .int p7, .int p8, .int p9, .int (nI k10), .int p11, .long q12, .ref h5, .ref h6, .int (nI k15), .int (nI k16)]), (h1, aI Y 3640 f0), (h2, aZ Y 2 f1), (h3, aZ Y 80 f3), (h4, aB Y 1600 f4), (h5, aI Y 200 f13), (h6, aI Y 800 f14)] rfl ?_
      have x21 := hI20
      refine V_iload_n 30 B dX12_visibleAt_30 0 rfl ?_
      refine V_aload_n 31 B dX12_visibleAt_31 1 rfl ?_
      refine V_get 32 B gf_RX12_9 0 rfl rfl dX12_visibleAt_32 ?_
      refine V_iconst 35 B (v := 3) dX12_visibleAt_35 (by decide +kernel) ?_
      have x22 : (gN f0 3) ≤ 80 := gN_le HI (by omega) (show bd 3 = (0, ((80 : Nat) : Int)) by decide +kernel)
      refine V_iald 36 B (v := (nI (gN f0 3))) 1 rfl (vpin _ _ (by decide +kernel)) dX12_visibleAt_36 (by show f0 3 = _; exact gN_eq HI (by omega) (show bd 3 = (0, ((80 : Nat) : Int)) by decide +kernel)) ?_
      refine V_icmp_ge 37 B 125 dX12_visibleAt_37 (by decide) (fun kk23 => ?_) (fun kk23 => ?_)
      ·
        have x24 := n_le (a := (gN f0 3)) (b := (a18.1 0)) kk23 (by omega) (by omega)
        refine V_iconst 125 B (v := (-1)) dX12_visibleAt_125 (by decide +kernel) ?_
        exact V_iret 126 B dX12_visibleAt_126 (mkW [] [(u15.2.1 0)] [] [] [] []) trivial rfl
      ·
        have x25 := n_nle (a := (gN f0 3)) (b := (a18.1 0)) kk23 (by omega) (by omega)
        refine V_aload_n 40 B dX12_visibleAt_40 1 rfl ?_
        refine V_iload_n 41 B dX12_visibleAt_41 2 rfl ?_
        refine V_iload_n 42 B dX12_visibleAt_42 0 rfl ?_
        refine V_cvi 43 B (st := []) (As := [.int (nI n4), .int (nI (a18.1 0))]) (fun sz => rX12_isVisible l D Y h0 h1 h2 h3 h4 h5 h6 (u15.2.1 0) k5 k6 p7 p8 p9 k10 p11 q12 k15 k16 f0 f1 f3 f4 f13 f14 ph HI (by omega) HP (nI n4) (a18.1 0) (by rw [nI_toInt (show n4 < 2 ^ 31 by omega)]; omega) (by omega) sz) glV_RX12_154 ⟨rfl, rfl⟩ ⟨(Nat.le_of_ble_eq_true rfl), (Nat.le_of_ble_eq_true rfl)⟩ ⟨(Nat.le_of_ble_eq_true rfl), (Nat.le_of_ble_eq_true rfl)⟩ [0, 0, 0, 0, 0, 0, 0] rfl 13 0 rfl rfl rfl rfl (Nat.le_of_ble_eq_true rfl) rfl (fun _ _ _ => rfl) dX12_visibleAt_43 (fun j26 u27 w28 => ?_)
        refine V_ws [(h0, oC 13 [.ref h1, .ref h2, .int (u15.2.1 0), .ref h3, .ref h4, .int (nI k5), .int (nI k6), .int p7, .int p8, .int p9, .int (nI k10), .int p11, .long q12, .ref h5, .ref h6, .int (nI k15), .int (nI k16)]), (h1, aI Y 3640 f0), (h2, aZ Y 2 f1), (h3, aZ Y 80 f3), (h4, aB Y 1600 f4), (h5, aI Y 200 f13), (h6, aI Y 800 f14)] rfl ?_
        have x29 := w28
        clear w28
        rcases x29 with ⟨rfl, x30⟩ | ⟨rfl, x30⟩
        ·
          refine V_if_ne_f 46 B 52 dX12_visibleAt_46 (by decide) (by decide +kernel) ?_
          refine V_goto 49 B 119 dX12_visibleAt_49 (by decide) ?_
          refine V_iinc 119 B (v := (nI (1 + (a18.1 0)))) (lv2 := [(3, .int (nI (1 + (a18.1 0)))), (0, .ref h0), (1, .int (nI n4)), (2, .int s1)]) dX12_visibleAt_119 0 rfl (nI_addE (a := (a18.1 0)) (b := 1) (by omega)) (by decide) rfl ?_
          refine V_goto 122 B 30 dX12_visibleAt_122 (by decide) ?_
          refine V_lv [(3, .int (nI (1 + (a18.1 0)))), (0, .ref h0), (1, .int (nI n4)), (2, .int s1)] [0, 1, 2, 3] rfl ?_
          exact IH19 (mkW [1 + (a18.1 0)] [] [] [] [] []) (show 1 + (a18.1 0) ≤ 4000 by omega) (by show 100000 - (1 + (a18.1 0)) < 100000 - (a18.1 0); omega)
        ·
          refine V_if_ne_t 46 B 52 dX12_visibleAt_46 (by decide) (by decide +kernel) ?_
          refine V_iconst 52 B (v := 0) dX12_visibleAt_52 (by decide +kernel) ?_
          refine V_istore 53 B (lv2 := [(4, .int 0), (3, .int (nI (a18.1 0))), (0, .ref h0), (1, .int (nI n4)), (2, .int s1)]) dX12_visibleAt_53 (by decide) rfl ?_
          refine V_iconst 55 B (v := 0) dX12_visibleAt_55 (by decide +kernel) ?_
          refine V_istore 56 B (lv2 := [(5, .int 0), (4, .int 0), (3, .int (nI (a18.1 0))), (0, .ref h0), (1, .int (nI n4)), (2, .int s1)]) dX12_visibleAt_56 (by decide) rfl ?_
          refine V_wloop (α := WU) (fun a => 100000 - (a.1 0)) (fun a => (a.1 0) ≤ 4000) (fun a => [(5, .int (nI (a.1 0))), (4, .int (a.2.1 0)), (3, .int (nI (a18.1 0))), (0, .ref h0), (1, .int (nI n4)), (2, .int s1)]) (fun a => [(h0, oC 13 [.ref h1, .ref h2, .int (u15.2.1 0), .ref h3, .ref h4, .int (nI k5), .int (nI k6), .int p7, .int p8, .int p9, .int (nI k10), .int p11, .long q12, .ref h5, .ref h6, .int (nI k15), .int (nI k16)]), (h1, aI Y 3640 f0), (h2, aZ Y 2 f1), (h3, aZ Y 80 f3), (h4, aB Y 1600 f4), (h5, aI Y 200 f13), (h6, aI Y 800 f14)]) (mkW [0] [0] [] [] [] []) (show 0 ≤ 4000 by omega) rfl rfl (fun a31 hI33 IH32 => ?_)
          refine V_lv [(5, .int (nI (a31.1 0))), (4, .int (a31.2.1 0)), (3, .int (nI (a18.1 0))), (0, .ref h0), (1, .int (nI n4)), (2, .int s1)] [0, 1, 2, 3, 4, 5] rfl ?_
          refine V_ws [(h0, oC 13 [.ref h1, .ref h2, .int (u15.2.1 0), .ref h3, .ref h4, .int (nI k5), .int (nI k6), .int p7, .int p8, .int p9, .int (nI k10), .int p11, .long q12, .ref h5, .ref h6, .int (nI k15), .int (nI k16)]), (h1, aI Y 3640 f0), (h2, aZ Y 2 f1), (h3, aZ Y 80 f3), (h4, aB Y 1600 f4), (h5, aI Y 200 f13), (h6, aI Y 800 f14)] rfl ?_
          have x34 := hI33
          refine V_iload 58 B dX12_visibleAt_58 0 rfl ?_
          refine V_aload_n 60 B dX12_visibleAt_60 3 rfl ?_
          refine V_get 61 B gf_RX12_9 0 rfl rfl dX12_visibleAt_61 ?_
          refine V_iconst 64 B (v := 3) dX12_visibleAt_64 (by decide +kernel) ?_
          have x35 : (gN f0 3) ≤ 80 := gN_le HI (by omega) (show bd 3 = (0, ((80 : Nat) : Int)) by decide +kernel)
          refine V_iald 65 B (v := (nI (gN f0 3))) 1 rfl (vpin _ _ (by decide +kernel)) dX12_visibleAt_65 (by show f0 3 = _; exact gN_eq HI (by omega) (show bd 3 = (0, ((80 : Nat) : Int)) by decide +kernel)) ?_
          refine V_icmp_ge 66 B 111 dX12_visibleAt_66 (by decide) (fun kk36 => ?_) (fun kk36 => ?_)
          ·
            have x37 := n_le (a := (gN f0 3)) (b := (a31.1 0)) kk36 (by omega) (by omega)
            refine V_iload 111 B dX12_visibleAt_111 1 rfl ?_
            refine V_iload_n 113 B dX12_visibleAt_113 5 rfl ?_
            refine V_icmp_ne 114 B 119 dX12_visibleAt_114 (by decide) (fun kk38 => ?_) (fun kk38 => ?_)
            ·
              have x39 := x_ne kk38
              refine V_iinc 119 B (v := (nI (1 + (a18.1 0)))) (lv2 := [(3, .int (nI (1 + (a18.1 0)))), (5, .int (nI (a31.1 0))), (4, .int (a31.2.1 0)), (0, .ref h0), (1, .int (nI n4)), (2, .int s1)]) dX12_visibleAt_119 2 rfl (nI_addE (a := (a18.1 0)) (b := 1) (by omega)) (by decide) rfl ?_
              refine V_goto 122 B 30 dX12_visibleAt_122 (by decide) ?_
              refine V_lv [(3, .int (nI (1 + (a18.1 0)))), (0, .ref h0), (1, .int (nI n4)), (2, .int s1)] [0, 3, 4, 5] rfl ?_
              exact IH19 (mkW [1 + (a18.1 0)] [] [] [] [] []) (show 1 + (a18.1 0) ≤ 4000 by omega) (by show 100000 - (1 + (a18.1 0)) < 100000 - (a18.1 0); omega)
            ·
              have x40 := x_eq kk38
              refine V_iload_n 117 B dX12_visibleAt_117 2 rfl ?_
              exact V_iret 118 B dX12_visibleAt_118 (mkW [] [(u15.2.1 0)] [] [] [] []) trivial rfl
          ·
            have x41 := n_nle (a := (gN f0 3)) (b := (a31.1 0)) kk36 (by omega) (by omega)
            refine V_iload 69 B dX12_visibleAt_69 1 rfl ?_
            refine V_aload_n 71 B dX12_visibleAt_71 3 rfl ?_
            refine V_iload 72 B dX12_visibleAt_72 0 rfl ?_
            refine V_csi 74 B (st := [.ref h0, .int (a31.2.1 0)]) (As := [.int (nI (a31.1 0))]) (fun sz => rX12_sequenceOf l D Y (a31.1 0) (by omega) sz) glS_RX12_85 ⟨rfl, rfl⟩ ⟨(Nat.le_of_ble_eq_true rfl), (Nat.le_of_ble_eq_true rfl)⟩ ⟨(Nat.le_of_ble_eq_true rfl), (Nat.le_of_ble_eq_true rfl)⟩ [] rfl rfl (Nat.le_of_ble_eq_true rfl) rfl (fun _ _ _ => rfl) dX12_visibleAt_74 (fun j42 u43 w44 => ?_)
            refine V_ws [(h0, oC 13 [.ref h1, .ref h2, .int (u15.2.1 0), .ref h3, .ref h4, .int (nI k5), .int (nI k6), .int p7, .int p8, .int p9, .int (nI k10), .int p11, .long q12, .ref h5, .ref h6, .int (nI k15), .int (nI k16)]), (h1, aI Y 3640 f0), (h2, aZ Y 2 f1), (h3, aZ Y 80 f3), (h4, aB Y 1600 f4), (h5, aI Y 200 f13), (h6, aI Y 800 f14)] rfl ?_
            have x45 := w44
            clear w44
            obtain rfl := x45
            refine V_iload_n 77 B dX12_visibleAt_77 2 rfl ?_
            refine V_csi 78 B (st := [.int (nI (186 + 7 * (a31.1 0))), .ref h0, .int (a31.2.1 0)]) (As := [.int (nI (a18.1 0))]) (fun sz => rX12_sequenceOf l D Y (a18.1 0) (by omega) sz) glS_RX12_85 ⟨rfl, rfl⟩ ⟨(Nat.le_of_ble_eq_true rfl), (Nat.le_of_ble_eq_true rfl)⟩ ⟨(Nat.le_of_ble_eq_true rfl), (Nat.le_of_ble_eq_true rfl)⟩ [] rfl rfl (Nat.le_of_ble_eq_true rfl) rfl (fun _ _ _ => rfl) dX12_visibleAt_78 (fun j46 u47 w48 => ?_)
            refine V_ws [(h0, oC 13 [.ref h1, .ref h2, .int (u15.2.1 0), .ref h3, .ref h4, .int (nI k5), .int (nI k6), .int p7, .int p8, .int p9, .int (nI k10), .int p11, .long q12, .ref h5, .ref h6, .int (nI k15), .int (nI k16)]), (h1, aI Y 3640 f0), (h2, aZ Y 2 f1), (h3, aZ Y 80 f3), (h4, aB Y 1600 f4), (h5, aI Y 200 f13), (h6, aI Y 800 f14)] rfl ?_
            have x49 := w48
            clear w48
            obtain rfl := x49
            refine V_cvi 81 B (st := [.int (a31.2.1 0)]) (As := [.int (nI (186 + 7 * (a31.1 0))), .int (nI (186 + 7 * (a18.1 0)))]) (fun sz => rX12_isLess l D Y h0 h1 h2 h3 h4 h5 h6 (u15.2.1 0) k5 k6 p7 p8 p9 k10 p11 q12 k15 k16 f0 f1 f3 f4 f13 f14 ph HI (by omega) HP (186 + 7 * (a31.1 0)) (186 + 7 * (a18.1 0)) (rl5 (a31.1 0) (by omega)) (rl5 (a18.1 0) (by omega)) sz) glV_RX12_166 ⟨rfl, rfl⟩ ⟨(Nat.le_of_ble_eq_true rfl), (Nat.le_of_ble_eq_true rfl)⟩ ⟨(Nat.le_of_ble_eq_true rfl), (Nat.le_of_ble_eq_true rfl)⟩ [0, 0, 0, 0, 0, 0, 0] rfl 13 0 rfl rfl rfl rfl (Nat.le_of_ble_eq_true rfl) rfl (fun _ _ _ => rfl) dX12_visibleAt_81 (fun j50 u51 w52 => ?_)
            refine V_ws [(h0, oC 13 [.ref h1, .ref h2, .int (u15.2.1 0), .ref h3, .ref h4, .int (nI k5), .int (nI k6), .int p7, .int p8, .int p9, .int (nI k10), .int p11, .long q12, .ref h5, .ref h6, .int (nI k15), .int (nI k16)]), (h1, aI Y 3640 f0), (h2, aZ Y 2 f1), (h3, aZ Y 80 f3), (h4, aB Y 1600 f4), (h5, aI Y 200 f13), (h6, aI Y 800 f14)] rfl ?_
            have x53 := w52
            clear w52
            rcases x53 with rfl | rfl
            ·
              refine V_if_eq_t 84 B 101 dX12_visibleAt_84 (by decide) (by decide +kernel) ?_
              refine V_iconst 101 B (v := 0) dX12_visibleAt_101 (by decide +kernel) ?_
              refine V_iadd 102 B (v := (a31.2.1 0)) dX12_visibleAt_102 (Int32.add_zero _) ?_
              refine V_istore 103 B (lv2 := [(4, .int (a31.2.1 0)), (5, .int (nI (a31.1 0))), (3, .int (nI (a18.1 0))), (0, .ref h0), (1, .int (nI n4)), (2, .int s1)]) dX12_visibleAt_103 (by decide) rfl ?_
              refine V_iinc 105 B (v := (nI (1 + (a31.1 0)))) (lv2 := [(5, .int (nI (1 + (a31.1 0)))), (4, .int (a31.2.1 0)), (3, .int (nI (a18.1 0))), (0, .ref h0), (1, .int (nI n4)), (2, .int s1)]) dX12_visibleAt_105 1 rfl (nI_addE (a := (a31.1 0)) (b := 1) (by omega)) (by decide) rfl ?_
              refine V_goto 108 B 58 dX12_visibleAt_108 (by decide) ?_
              refine V_lv [(5, .int (nI (1 + (a31.1 0)))), (4, .int (a31.2.1 0)), (3, .int (nI (a18.1 0))), (0, .ref h0), (1, .int (nI n4)), (2, .int s1)] [0, 1, 2, 3, 4, 5] rfl ?_
              exact IH32 (mkW [1 + (a31.1 0)] [(a31.2.1 0)] [] [] [] []) (show 1 + (a31.1 0) ≤ 4000 by omega) (by show 100000 - (1 + (a31.1 0)) < 100000 - (a31.1 0); omega)
            ·
              refine V_if_eq_f 84 B 101 dX12_visibleAt_84 (by decide) (by decide +kernel) ?_
              refine V_aload_n 87 B dX12_visibleAt_87 3 rfl ?_
              refine V_iload_n 88 B dX12_visibleAt_88 4 rfl ?_
              refine V_iload 89 B dX12_visibleAt_89 0 rfl ?_
              refine V_cvi 91 B (st := [.int (a31.2.1 0)]) (As := [.int (nI n4), .int (nI (a31.1 0))]) (fun sz => rX12_isVisible l D Y h0 h1 h2 h3 h4 h5 h6 (u15.2.1 0) k5 k6 p7 p8 p9 k10 p11 q12 k15 k16 f0 f1 f3 f4 f13 f14 ph HI (by omega) HP (nI n4) (a31.1 0) (by rw [nI_toInt (show n4 < 2 ^ 31 by omega)]; omega) (by omega) sz) glV_RX12_154 ⟨rfl, rfl⟩ ⟨(Nat.le_of_ble_eq_true rfl), (Nat.le_of_ble_eq_true rfl)⟩ ⟨(Nat.le_of_ble_eq_true rfl), (Nat.le_of_ble_eq_true rfl)⟩ [0, 0, 0, 0, 0, 0, 0] rfl 13 0 rfl rfl rfl rfl (Nat.le_of_ble_eq_true rfl) rfl (fun _ _ _ => rfl) dX12_visibleAt_91 (fun j54 u55 w56 => ?_)
              refine V_ws [(h0, oC 13 [.ref h1, .ref h2, .int (u15.2.1 0), .ref h3, .ref h4, .int (nI k5), .int (nI k6), .int p7, .int p8, .int p9, .int (nI k10), .int p11, .long q12, .ref h5, .ref h6, .int (nI k15), .int (nI k16)]), (h1, aI Y 3640 f0), (h2, aZ Y 2 f1), (h3, aZ Y 80 f3), (h4, aB Y 1600 f4), (h5, aI Y 200 f13), (h6, aI Y 800 f14)] rfl ?_
              have x57 := w56
              clear w56
              rcases x57 with ⟨rfl, x58⟩ | ⟨rfl, x58⟩
              ·
                refine V_if_eq_t 94 B 101 dX12_visibleAt_94 (by decide) (by decide +kernel) ?_
                refine V_iconst 101 B (v := 0) dX12_visibleAt_101 (by decide +kernel) ?_
                refine V_iadd 102 B (v := (a31.2.1 0)) dX12_visibleAt_102 (Int32.add_zero _) ?_
                refine V_istore 103 B (lv2 := [(4, .int (a31.2.1 0)), (5, .int (nI (a31.1 0))), (3, .int (nI (a18.1 0))), (0, .ref h0), (1, .int (nI n4)), (2, .int s1)]) dX12_visibleAt_103 (by decide) rfl ?_
                refine V_iinc 105 B (v := (nI (1 + (a31.1 0)))) (lv2 := [(5, .int (nI (1 + (a31.1 0)))), (4, .int (a31.2.1 0)), (3, .int (nI (a18.1 0))), (0, .ref h0), (1, .int (nI n4)), (2, .int s1)]) dX12_visibleAt_105 1 rfl (nI_addE (a := (a31.1 0)) (b := 1) (by omega)) (by decide) rfl ?_
                refine V_goto 108 B 58 dX12_visibleAt_108 (by decide) ?_
                refine V_lv [(5, .int (nI (1 + (a31.1 0)))), (4, .int (a31.2.1 0)), (3, .int (nI (a18.1 0))), (0, .ref h0), (1, .int (nI n4)), (2, .int s1)] [0, 1, 2, 3, 4, 5] rfl ?_
                exact IH32 (mkW [1 + (a31.1 0)] [(a31.2.1 0)] [] [] [] []) (show 1 + (a31.1 0) ≤ 4000 by omega) (by show 100000 - (1 + (a31.1 0)) < 100000 - (a31.1 0); omega)
              ·
                refine V_if_eq_f 94 B 101 dX12_visibleAt_94 (by decide) (by decide +kernel) ?_
                refine V_iconst 97 B (v := 1) dX12_visibleAt_97 (by decide +kernel) ?_
                refine V_goto 98 B 102 dX12_visibleAt_98 (by decide) ?_
                refine V_iadd 102 B dX12_visibleAt_102 rfl ?_
                refine V_nmi (fun j59 e60 => ?_)
                refine V_istore 103 B (lv2 := [(4, .int j59), (5, .int (nI (a31.1 0))), (3, .int (nI (a18.1 0))), (0, .ref h0), (1, .int (nI n4)), (2, .int s1)]) dX12_visibleAt_103 (by decide) rfl ?_
                refine V_iinc 105 B (v := (nI (1 + (a31.1 0)))) (lv2 := [(5, .int (nI (1 + (a31.1 0)))), (4, .int j59), (3, .int (nI (a18.1 0))), (0, .ref h0), (1, .int (nI n4)), (2, .int s1)]) dX12_visibleAt_105 1 rfl (nI_addE (a := (a31.1 0)) (b := 1) (by omega)) (by decide) rfl ?_
                refine V_goto 108 B 58 dX12_visibleAt_108 (by decide) ?_
                refine V_lv [(5, .int (nI (1 + (a31.1 0)))), (4, .int j59), (3, .int (nI (a18.1 0))), (0, .ref h0), (1, .int (nI n4)), (2, .int s1)] [0, 1, 2, 3, 4, 5] rfl ?_
                exact IH32 (mkW [1 + (a31.1 0)] [j59] [] [] [] []) (show 1 + (a31.1 0) ≤ 4000 by omega) (by show 100000 - (1 + (a31.1 0)) < 100000 - (a31.1 0); omega))
theorem dX12_shadowOf_0 : decode cX12_shadowOf 0 = .ok (.aload_n 0, 1) := by decide +kernel
theorem dX12_shadowOf_1 : decode cX12_shadowOf 1 = .ok (.iconst 0, 1) := by decide +kernel
theorem dX12_shadowOf_2 : decode cX12_shadowOf 2 = .ok (.putfield 38, 3) := by decide +kernel
theorem dX12_shadowOf_5 : decode cX12_shadowOf 5 = .ok (.aload_n 0, 1) := by decide +kernel
theorem dX12_shadowOf_6 : decode cX12_shadowOf 6 = .ok (.aload_n 0, 1) := by decide +kernel
theorem dX12_shadowOf_7 : decode cX12_shadowOf 7 = .ok (.iload_n 1, 1) := by decide +kernel
theorem dX12_shadowOf_8 : decode cX12_shadowOf 8 = .ok (.invokevirtual 91, 3) := by decide +kernel
theorem dX12_shadowOf_11 : decode cX12_shadowOf 11 = .ok (.ifCond .eq 11, 3) := by decide +kernel
theorem dX12_shadowOf_22 : decode cX12_shadowOf 22 = .ok (.iconst 1, 1) := by decide +kernel
theorem dX12_shadowOf_23 : decode cX12_shadowOf 23 = .ok (.goto 4, 3) := by decide +kernel
theorem dX12_shadowOf_27 : decode cX12_shadowOf 27 = .ok (.iconst 1, 1) := by decide +kernel
theorem dX12_shadowOf_28 : decode cX12_shadowOf 28 = .ok (.invokevirtual 69, 3) := by decide +kernel
theorem dX12_shadowOf_31 : decode cX12_shadowOf 31 = .ok (.ifCond .eq 5, 3) := by decide +kernel
theorem dX12_shadowOf_34 : decode cX12_shadowOf 34 = .ok (.iconst 0, 1) := by decide +kernel
theorem dX12_shadowOf_35 : decode cX12_shadowOf 35 = .ok (.ireturn, 1) := by decide +kernel
theorem dX12_shadowOf_14 : decode cX12_shadowOf 14 = .ok (.aload_n 0, 1) := by decide +kernel
theorem dX12_shadowOf_15 : decode cX12_shadowOf 15 = .ok (.iload_n 2, 1) := by decide +kernel
theorem dX12_shadowOf_16 : decode cX12_shadowOf 16 = .ok (.invokevirtual 82, 3) := by decide +kernel
theorem dX12_shadowOf_19 : decode cX12_shadowOf 19 = .ok (.ifCond .ne 7, 3) := by decide +kernel
theorem dX12_shadowOf_26 : decode cX12_shadowOf 26 = .ok (.iconst 0, 1) := by decide +kernel
theorem dX12_shadowOf_36 : decode cX12_shadowOf 36 = .ok (.iconst (-1), 1) := by decide +kernel
theorem dX12_shadowOf_37 : decode cX12_shadowOf 37 = .ok (.istore_n 3, 1) := by decide +kernel
theorem dX12_shadowOf_38 : decode cX12_shadowOf 38 = .ok (.iload_n 1, 1) := by decide +kernel
theorem dX12_shadowOf_39 : decode cX12_shadowOf 39 = .ok (.istore 4, 2) := by decide +kernel
theorem dX12_shadowOf_41 : decode cX12_shadowOf 41 = .ok (.iload 4, 2) := by decide +kernel
theorem dX12_shadowOf_43 : decode cX12_shadowOf 43 = .ok (.iconst (-1), 1) := by decide +kernel
theorem dX12_shadowOf_44 : decode cX12_shadowOf 44 = .ok (.if_icmp .eq 54, 3) := by decide +kernel
theorem dX12_shadowOf_98 : decode cX12_shadowOf 98 = .ok (.iload 4, 2) := by decide +kernel
theorem dX12_shadowOf_100 : decode cX12_shadowOf 100 = .ok (.iconst (-1), 1) := by decide +kernel
theorem dX12_shadowOf_101 : decode cX12_shadowOf 101 = .ok (.if_icmp .ne 7, 3) := by decide +kernel
theorem dX12_shadowOf_104 : decode cX12_shadowOf 104 = .ok (.iconst (-1), 1) := by decide +kernel
theorem dX12_shadowOf_105 : decode cX12_shadowOf 105 = .ok (.goto 4, 3) := by decide +kernel
theorem dX12_shadowOf_109 : decode cX12_shadowOf 109 = .ok (.ireturn, 1) := by decide +kernel
theorem dX12_shadowOf_47 : decode cX12_shadowOf 47 = .ok (.iload 4, 2) := by decide +kernel
theorem dX12_shadowOf_49 : decode cX12_shadowOf 49 = .ok (.aload_n 0, 1) := by decide +kernel
theorem dX12_shadowOf_50 : decode cX12_shadowOf 50 = .ok (.iload_n 2, 1) := by decide +kernel
theorem dX12_shadowOf_51 : decode cX12_shadowOf 51 = .ok (.invokevirtual 115, 3) := by decide +kernel
theorem dX12_shadowOf_54 : decode cX12_shadowOf 54 = .ok (.if_icmp .eq 44, 3) := by decide +kernel
theorem dX12_shadowOf_108 : decode cX12_shadowOf 108 = .ok (.iload_n 3, 1) := by decide +kernel
theorem dX12_shadowOf_57 : decode cX12_shadowOf 57 = .ok (.aload_n 0, 1) := by decide +kernel
theorem dX12_shadowOf_58 : decode cX12_shadowOf 58 = .ok (.iload 4, 2) := by decide +kernel
theorem dX12_shadowOf_60 : decode cX12_shadowOf 60 = .ok (.iload_n 2, 1) := by decide +kernel
theorem dX12_shadowOf_61 : decode cX12_shadowOf 61 = .ok (.invokestatic 85, 3) := by decide +kernel
theorem dX12_shadowOf_64 : decode cX12_shadowOf 64 = .ok (.iconst (-1), 1) := by decide +kernel
theorem dX12_shadowOf_65 : decode cX12_shadowOf 65 = .ok (.invokevirtual 121, 3) := by decide +kernel
theorem dX12_shadowOf_68 : decode cX12_shadowOf 68 = .ok (.istore 5, 2) := by decide +kernel
theorem dX12_shadowOf_70 : decode cX12_shadowOf 70 = .ok (.iload 5, 2) := by decide +kernel
theorem dX12_shadowOf_72 : decode cX12_shadowOf 72 = .ok (.iconst (-1), 1) := by decide +kernel
theorem dX12_shadowOf_73 : decode cX12_shadowOf 73 = .ok (.if_icmp .ne 7, 3) := by decide +kernel
theorem dX12_shadowOf_76 : decode cX12_shadowOf 76 = .ok (.iload_n 3, 1) := by decide +kernel
theorem dX12_shadowOf_77 : decode cX12_shadowOf 77 = .ok (.goto 5, 3) := by decide +kernel
theorem dX12_shadowOf_82 : decode cX12_shadowOf 82 = .ok (.istore_n 3, 1) := by decide +kernel
theorem dX12_shadowOf_83 : decode cX12_shadowOf 83 = .ok (.aload_n 0, 1) := by decide +kernel
theorem dX12_shadowOf_84 : decode cX12_shadowOf 84 = .ok (.getfield 9, 3) := by decide +kernel
theorem dX12_shadowOf_87 : decode cX12_shadowOf 87 = .ok (.bipush 16, 2) := by decide +kernel
theorem dX12_shadowOf_89 : decode cX12_shadowOf 89 = .ok (.iload 4, 2) := by decide +kernel
theorem dX12_shadowOf_91 : decode cX12_shadowOf 91 = .ok (.iadd, 1) := by decide +kernel
theorem dX12_shadowOf_92 : decode cX12_shadowOf 92 = .ok (.iaload, 1) := by decide +kernel
theorem dX12_shadowOf_93 : decode cX12_shadowOf 93 = .ok (.istore 4, 2) := by decide +kernel
theorem dX12_shadowOf_95 : decode cX12_shadowOf 95 = .ok (.goto (-54), 3) := by decide +kernel
theorem dX12_shadowOf_80 : decode cX12_shadowOf 80 = .ok (.iload 5, 2) := by decide +kernel
set_option maxRecDepth 100000 in
set_option maxHeartbeats 4000000 in
theorem rX12_shadowOf (l : Launch) (D : va_G) (Y : Nat → ClassId) (h0 : Nat) (h1 : Nat) (h2 : Nat) (h3 : Nat) (h4 : Nat) (h5 : Nat) (h6 : Nat) (p2 : Int32) (k5 : Nat) (k6 : Nat) (p7 : Int32) (p8 : Int32) (p9 : Int32) (k10 : Nat) (p11 : Int32) (q12 : Int64) (k15 : Nat) (k16 : Nat) (f0 : Nat → Int32) (f1 : Nat → Int32) (f3 : Nat → Int32) (f4 : Nat → Int32) (f13 : Nat → Int32) (f14 : Nat → Int32) (ph : Nat → Int32) (HI : INV ph f0) (HL : k5 ≤ 1600) (HP : PLV f13) (s0 : Int32) (s1 : Int32)  (sz : Nat) : Met l yX12_shadowOf (WSm yX12_shadowOf cX12_shadowOf 6 (some .int)) (mkR 4 0 0 90) (PreC D Y [.ref h0, .int s0, .int s1] [(h0, oC 13 [.ref h1, .ref h2, .int p2, .ref h3, .ref h4, .int (nI k5), .int (nI k6), .int p7, .int p8, .int p9, .int (nI k10), .int p11, .long q12, .ref h5, .ref h6, .int (nI k15), .int (nI k16)]), (h1, aI Y 3640 f0), (h2, aZ Y 2 f1), (h3, aZ Y 80 f3), (h4, aB Y 1600 f4), (h5, aI Y 200 f13), (h6, aI Y 800 f14)] sz) (QI D (fun (r : Int32) (u : WU) => True) (fun (u : WU) => [(h0, oC 13 [.ref h1, .ref h2, .int (u.2.1 0), .ref h3, .ref h4, .int (nI k5), .int (nI k6), .int p7, .int p8, .int p9, .int (nI k10), .int p11, .long q12, .ref h5, .ref h6, .int (nI k15), .int (nI k16)]), (h1, aI Y 3640 f0), (h2, aZ Y 2 f1), (h3, aZ Y 80 f3), (h4, aB Y 1600 f4), (h5, aI Y 200 f13), (h6, aI Y 800 f14)]) (va_A [(h0, oC 13 [.ref h1, .ref h2, .int p2, .ref h3, .ref h4, .int (nI k5), .int (nI k6), .int p7, .int p8, .int p9, .int (nI k10), .int p11, .long q12, .ref h5, .ref h6, .int (nI k15), .int (nI k16)]), (h1, aI Y 3640 f0), (h2, aZ Y 2 f1), (h3, aZ Y 80 f3), (h4, aB Y 1600 f4), (h5, aI Y 200 f13), (h6, aI Y 800 f14)] sz)) 0 0 (va_A [(h0, oC 13 [.ref h1, .ref h2, .int p2, .ref h3, .ref h4, .int (nI k5), .int (nI k6), .int p7, .int p8, .int p9, .int (nI k10), .int p11, .long q12, .ref h5, .ref h6, .int (nI k15), .int (nI k16)]), (h1, aI Y 3640 f0), (h2, aZ Y 2 f1), (h3, aZ Y 80 f3), (h4, aB Y 1600 f4), (h5, aI Y 200 f13), (h6, aI Y 800 f14)] sz) :=
  met_of  (by decide +kernel) (Nat.le_of_ble_eq_true rfl) (fun p e s m args below meth c B hin hsz => by
    have B : VB p s m args meth c D Y (va_A [(h0, oC 13 [.ref h1, .ref h2, .int p2, .ref h3, .ref h4, .int (nI k5), .int (nI k6), .int p7, .int p8, .int p9, .int (nI k10), .int p11, .long q12, .ref h5, .ref h6, .int (nI k15), .int (nI k16)]), (h1, aI Y 3640 f0), (h2, aZ Y 2 f1), (h3, aZ Y 80 f3), (h4, aB Y 1600 f4), (h5, aI Y 200 f13), (h6, aI Y 800 f14)] sz) cX12_shadowOf 6 RX12 (some .int) := B
    refine V_aload_n 0 B dX12_shadowOf_0 0 rfl ?_
    refine V_iconst 1 B (v := 0) dX12_shadowOf_1 (by decide +kernel) ?_
    refine V_put 2 B gp_RX12_38 0 rfl (Nat.le_of_ble_eq_true rfl) rfl rfl dX12_shadowOf_2 [(h0, oC 13 [.ref h1, .ref h2, .int 0, .ref h3, .ref h4, .int (nI k5), .int (nI k6), .int p7, .int p8, .int p9, .int (nI k10), .int p11, .long q12, .ref h5, .ref h6, .int (nI k15), .int (nI k16)]), (h1, aI Y 3640 f0), (h2, aZ Y 2 f1), (h3, aZ Y 80 f3), (h4, aB Y 1600 f4), (h5, aI Y 200 f13), (h6, aI Y 800 f14)] rfl ?_
    refine V_aload_n 5 B dX12_shadowOf_5 0 rfl ?_
    refine V_aload_n 6 B dX12_shadowOf_6 0 rfl ?_
    refine V_iload_n 7 B dX12_shadowOf_7 1 rfl ?_
    refine V_cvi 8 B (st := [.ref h0]) (As := [.int s0]) (fun sz => rX12_isMode l D Y h0 h1 h2 h3 h4 h5 h6 0 k5 k6 p7 p8 p9 k10 p11 q12 k15 k16 f0 f1 f3 f4 f13 f14 ph HI (by omega) HP s0 sz) glV_RX12_91 ⟨rfl, rfl⟩ ⟨(Nat.le_of_ble_eq_true rfl), (Nat.le_of_ble_eq_true rfl)⟩ ⟨(Nat.le_of_ble_eq_true rfl), (Nat.le_of_ble_eq_true rfl)⟩ [0, 0, 0, 0, 0, 0, 0] rfl 13 0 rfl rfl rfl rfl (Nat.le_of_ble_eq_true rfl) rfl (fun _ _ _ => rfl) dX12_shadowOf_8 (fun j0 u1 w2 => ?_)
    refine V_ws [(h0, oC 13 [.ref h1, .ref h2, .int 0, .ref h3, .ref h4, .int (nI k5), .int (nI k6), .int p7, .int p8, .int p9, .int (nI k10), .int p11, .long q12, .ref h5, .ref h6, .int (nI k15), .int (nI k16)]), (h1, aI Y 3640 f0), (h2, aZ Y 2 f1), (h3, aZ Y 80 f3), (h4, aB Y 1600 f4), (h5, aI Y 200 f13), (h6, aI Y 800 f14)] rfl ?_
    have x3 := w2
    clear w2
    have x7 : (gN f0 0) ≤ 6 := gN_le HI (by omega) (show bd 0 = (0, ((6 : Nat) : Int)) by decide +kernel)
    rcases x3 with rfl | ⟨rfl, n4, rfl, x6⟩
    ·
      refine V_if_eq_t 11 B 22 dX12_shadowOf_11 (by decide) (by decide +kernel) ?_
      refine V_iconst 22 B (v := 1) dX12_shadowOf_22 (by decide +kernel) ?_
      refine V_goto 23 B 27 dX12_shadowOf_23 (by decide) ?_
      refine V_iconst 27 B (v := 1) dX12_shadowOf_27 (by decide +kernel) ?_
      refine V_cvi 28 B (st := []) (As := [.int 1, .int 1]) (fun sz => rX12_throwsIf_1 l D Y h0 h1 h2 h3 h4 h5 h6 0 k5 k6 p7 p8 p9 k10 p11 q12 k15 k16 f0 f1 f3 f4 f13 f14 ph HI (by omega) HP 1 sz) glV_RX12_69 ⟨rfl, rfl⟩ ⟨(Nat.le_of_ble_eq_true rfl), (Nat.le_of_ble_eq_true rfl)⟩ ⟨(Nat.le_of_ble_eq_true rfl), (Nat.le_of_ble_eq_true rfl)⟩ [0, 0, 0, 0, 0, 0, 0] rfl 13 0 rfl rfl rfl rfl (Nat.le_of_ble_eq_true rfl) rfl (fun _ _ _ => rfl) dX12_shadowOf_28 (fun j8 u9 w10 => ?_)
      refine V_ws [(h0, oC 13 [.ref h1, .ref h2, .int (u9.2.1 0), .ref h3, .ref h4, .int (nI k5), .int (nI k6), .int p7, .int p8, .int p9, .int (nI k10), .int p11, .long q12, .ref h5, .ref h6, .int (nI k15), .int (nI k16)]), (h1, aI Y 3640 f0), (h2, aZ Y 2 f1), (h3, aZ Y 80 f3), (h4, aB Y 1600 f4), (h5, aI Y 200 f13), (h6, aI Y 800 f14)] rfl ?_
      have x11 := w10
      clear w10
      obtain rfl := x11
      refine V_if_eq_f 31 B 36 dX12_shadowOf_31 (by decide) (by decide +kernel) ?_
      refine V_iconst 34 B (v := 0) dX12_shadowOf_34 (by decide +kernel) ?_
      exact V_iret 35 B dX12_shadowOf_35 (mkW [] [(u9.2.1 0)] [] [] [] []) trivial rfl
    ·
      have e12 := nI_toInt (show n4 < 2 ^ 31 by omega)
      have x13 : (gN f0 0) ≤ 6 := gN_le HI (by omega) (show bd 0 = (0, ((6 : Nat) : Int)) by decide +kernel)
      refine V_if_eq_f 11 B 22 dX12_shadowOf_11 (by decide) (by decide +kernel) ?_
      refine V_aload_n 14 B dX12_shadowOf_14 0 rfl ?_
      refine V_iload_n 15 B dX12_shadowOf_15 2 rfl ?_
      refine V_cvi 16 B (st := [.ref h0]) (As := [.int s1]) (fun sz => rX12_isBinding l D Y h0 h1 h2 h3 h4 h5 h6 0 k5 k6 p7 p8 p9 k10 p11 q12 k15 k16 f0 f1 f3 f4 f13 f14 ph HI (by omega) HP s1 sz) glV_RX12_82 ⟨rfl, rfl⟩ ⟨(Nat.le_of_ble_eq_true rfl), (Nat.le_of_ble_eq_true rfl)⟩ ⟨(Nat.le_of_ble_eq_true rfl), (Nat.le_of_ble_eq_true rfl)⟩ [0, 0, 0, 0, 0, 0, 0] rfl 13 0 rfl rfl rfl rfl (Nat.le_of_ble_eq_true rfl) rfl (fun _ _ _ => rfl) dX12_shadowOf_16 (fun j14 u15 w16 => ?_)
      refine V_ws [(h0, oC 13 [.ref h1, .ref h2, .int 0, .ref h3, .ref h4, .int (nI k5), .int (nI k6), .int p7, .int p8, .int p9, .int (nI k10), .int p11, .long q12, .ref h5, .ref h6, .int (nI k15), .int (nI k16)]), (h1, aI Y 3640 f0), (h2, aZ Y 2 f1), (h3, aZ Y 80 f3), (h4, aB Y 1600 f4), (h5, aI Y 200 f13), (h6, aI Y 800 f14)] rfl ?_
      have x17 := w16
      clear w16
      have x21 : (gN f0 3) ≤ 80 := gN_le HI (by omega) (show bd 3 = (0, ((80 : Nat) : Int)) by decide +kernel)
      rcases x17 with rfl | ⟨rfl, n18, rfl, x20⟩
      ·
        refine V_if_ne_f 19 B 26 dX12_shadowOf_19 (by decide) (by decide +kernel) ?_
        refine V_iconst 22 B (v := 1) dX12_shadowOf_22 (by decide +kernel) ?_
        refine V_goto 23 B 27 dX12_shadowOf_23 (by decide) ?_
        refine V_iconst 27 B (v := 1) dX12_shadowOf_27 (by decide +kernel) ?_
        refine V_cvi 28 B (st := []) (As := [.int 1, .int 1]) (fun sz => rX12_throwsIf_1 l D Y h0 h1 h2 h3 h4 h5 h6 0 k5 k6 p7 p8 p9 k10 p11 q12 k15 k16 f0 f1 f3 f4 f13 f14 ph HI (by omega) HP 1 sz) glV_RX12_69 ⟨rfl, rfl⟩ ⟨(Nat.le_of_ble_eq_true rfl), (Nat.le_of_ble_eq_true rfl)⟩ ⟨(Nat.le_of_ble_eq_true rfl), (Nat.le_of_ble_eq_true rfl)⟩ [0, 0, 0, 0, 0, 0, 0] rfl 13 0 rfl rfl rfl rfl (Nat.le_of_ble_eq_true rfl) rfl (fun _ _ _ => rfl) dX12_shadowOf_28 (fun j22 u23 w24 => ?_)
        refine V_ws [(h0, oC 13 [.ref h1, .ref h2, .int (u23.2.1 0), .ref h3, .ref h4, .int (nI k5), .int (nI k6), .int p7, .int p8, .int p9, .int (nI k10), .int p11, .long q12, .ref h5, .ref h6, .int (nI k15), .int (nI k16)]), (h1, aI Y 3640 f0), (h2, aZ Y 2 f1), (h3, aZ Y 80 f3), (h4, aB Y 1600 f4), (h5, aI Y 200 f13), (h6, aI Y 800 f14)] rfl ?_
        have x25 := w24
        clear w24
        obtain rfl := x25
        refine V_if_eq_f 31 B 36 dX12_shadowOf_31 (by decide) (by decide +kernel) ?_
        refine V_iconst 34 B (v := 0) dX12_shadowOf_34 (by decide +kernel) ?_
        exact V_iret 35 B dX12_shadowOf_35 (mkW [] [(u23.2.1 0)] [] [] [] []) trivial rfl
      ·
        have e26 := nI_toInt (show n18 < 2 ^ 31 by omega)
        have x27 : (gN f0 3) ≤ 80 := gN_le HI (by omega) (show bd 3 = (0, ((80 : Nat) : Int)) by decide +kernel)
        refine V_if_ne_t 19 B 26 dX12_shadowOf_19 (by decide) (by decide +kernel) ?_
        refine V_iconst 26 B (v := 0) dX12_shadowOf_26 (by decide +kernel) ?_
        refine V_iconst 27 B (v := 1) dX12_shadowOf_27 (by decide +kernel) ?_
        refine V_cvi 28 B (st := []) (As := [.int 0, .int 1]) (fun sz => rX12_throwsIf_0 l D Y h0 h1 h2 h3 h4 h5 h6 0 k5 k6 p7 p8 p9 k10 p11 q12 k15 k16 f0 f1 f3 f4 f13 f14 ph HI (by omega) HP 1 sz) glV_RX12_69 ⟨rfl, rfl⟩ ⟨(Nat.le_of_ble_eq_true rfl), (Nat.le_of_ble_eq_true rfl)⟩ ⟨(Nat.le_of_ble_eq_true rfl), (Nat.le_of_ble_eq_true rfl)⟩ [0, 0, 0, 0, 0, 0, 0] rfl 13 0 rfl rfl rfl rfl (Nat.le_of_ble_eq_true rfl) rfl (fun _ _ _ => rfl) dX12_shadowOf_28 (fun j28 u29 w30 => ?_)
        refine V_ws [(h0, oC 13 [.ref h1, .ref h2, .int (u29.2.1 0), .ref h3, .ref h4, .int (nI k5), .int (nI k6), .int p7, .int p8, .int p9, .int (nI k10), .int p11, .long q12, .ref h5, .ref h6, .int (nI k15), .int (nI k16)]), (h1, aI Y 3640 f0), (h2, aZ Y 2 f1), (h3, aZ Y 80 f3), (h4, aB Y 1600 f4), (h5, aI Y 200 f13), (h6, aI Y 800 f14)] rfl ?_
        have x31 := w30
        clear w30
        obtain rfl := x31
        refine V_if_eq_t 31 B 36 dX12_shadowOf_31 (by decide) (by decide +kernel) ?_
        refine V_iconst 36 B (v := (-1)) dX12_shadowOf_36 (by decide +kernel) ?_
        refine V_istore_n 37 B (lv2 := [(3, .int (-1)), (0, .ref h0), (1, .int (nI n4)), (2, .int (nI n18))]) dX12_shadowOf_37 (by decide) rfl ?_
        refine V_iload_n 38 B dX12_shadowOf_38 2 rfl ?_
        refine V_istore 39 B (lv2 := [(4, .int (nI n4)), (3, .int (-1)), (0, .ref h0), (1, .int (nI n4)), (2, .int (nI n18))]) dX12_shadowOf_39 (by decide) rfl ?_
        refine V_wloop (α := WU) (fun a => (((a.2.1 0)).toInt + 1).toNat) (fun a => ((-1) ≤ (a.2.1 0).toInt ∧ (a.2.1 0).toInt ≤ 5)) (fun a => [(4, .int (a.2.1 0)), (3, .int (a.2.1 1)), (0, .ref h0), (1, .int (nI n4)), (2, .int (nI n18))]) (fun a => [(h0, oC 13 [.ref h1, .ref h2, .int (u29.2.1 0), .ref h3, .ref h4, .int (nI k5), .int (nI k6), .int p7, .int p8, .int p9, .int (nI k10), .int p11, .long q12, .ref h5, .ref h6, .int (nI k15), .int (nI k16)]), (h1, aI Y 3640 f0), (h2, aZ Y 2 f1), (h3, aZ Y 80 f3), (h4, aB Y 1600 f4), (h5, aI Y 200 f13), (h6, aI Y 800 f14)]) (mkW [] [(nI n4), (-1)] [] [] [] []) (show (-1) ≤ ((nI n4) : Int32).toInt ∧ ((nI n4) : Int32).toInt ≤ 5 by have e9 := nI_toInt (show n4 < 2 ^ 31 by omega); omega) rfl rfl (fun a32 hI34 IH33 => ?_)
        refine V_lv [(4, .int (a32.2.1 0)), (3, .int (a32.2.1 1)), (0, .ref h0), (1, .int (nI n4)), (2, .int (nI n18))] [0, 1, 2, 3, 4] rfl ?_
        refine V_ws [(h0, oC 13 [.ref h1, .ref h2, .int (u29.2.1 0), .ref h3, .ref h4, .int (nI k5), .int (nI k6), .int p7, .int p8, .int p9, .int (nI k10), .int p11, .long q12, .ref h5, .ref h6, .int (nI k15), .int (nI k16)]), (h1, aI Y 3640 f0), (h2, aZ Y 2 f1), (h3, aZ Y 80 f3), (h4, aB Y 1600 f4), (h5, aI Y 200 f13), (h6, aI Y 800 f14)] rfl ?_
        have x35 := hI34
        generalize a32.2.1 0 = j36 at *
        refine V_iload 41 B dX12_shadowOf_41 0 rfl ?_
        refine V_iconst 43 B (v := (-1)) dX12_shadowOf_43 (by decide +kernel) ?_
        refine V_icmp_eq 44 B 98 dX12_shadowOf_44 (by decide) (fun kk37 => ?_) (fun kk37 => ?_)
        ·
          obtain rfl : j36 = (-1) := kk37
          have e39 : ((-1) : Int32).toInt = (-1) := by decide +kernel
          refine V_iload 98 B dX12_shadowOf_98 0 rfl ?_
          refine V_iconst 100 B (v := (-1)) dX12_shadowOf_100 (by decide +kernel) ?_
          refine V_icmp_ne_f 101 B 108 dX12_shadowOf_101 (by decide) (by decide +kernel) ?_
          refine V_iconst 104 B (v := (-1)) dX12_shadowOf_104 (by decide +kernel) ?_
          refine V_goto 105 B 109 dX12_shadowOf_105 (by decide) ?_
          exact V_iret 109 B dX12_shadowOf_109 (mkW [] [(u29.2.1 0)] [] [] [] []) trivial rfl
        ·
          have x40 := x_ne kk37
          rw [show ((-1) : Int32).toInt = (-1) by decide +kernel] at x40
          refine V_iload 47 B dX12_shadowOf_47 0 rfl ?_
          refine V_aload_n 49 B dX12_shadowOf_49 2 rfl ?_
          refine V_iload_n 50 B dX12_shadowOf_50 4 rfl ?_
          refine V_cvi 51 B (st := [.int j36]) (As := [.int (nI n18)]) (fun sz => rX12_modeOf l D Y h0 h1 h2 h3 h4 h5 h6 (u29.2.1 0) k5 k6 p7 p8 p9 k10 p11 q12 k15 k16 f0 f1 f3 f4 f13 f14 ph HI (by omega) HP n18 (by omega) sz) glV_RX12_115 ⟨rfl, rfl⟩ ⟨(Nat.le_of_ble_eq_true rfl), (Nat.le_of_ble_eq_true rfl)⟩ ⟨(Nat.le_of_ble_eq_true rfl), (Nat.le_of_ble_eq_true rfl)⟩ [0, 0, 0, 0, 0, 0, 0] rfl 13 0 rfl rfl rfl rfl (Nat.le_of_ble_eq_true rfl) rfl (fun _ _ _ => rfl) dX12_shadowOf_51 (fun j41 u42 w43 => ?_)
          refine V_ws [(h0, oC 13 [.ref h1, .ref h2, .int (u29.2.1 0), .ref h3, .ref h4, .int (nI k5), .int (nI k6), .int p7, .int p8, .int p9, .int (nI k10), .int p11, .long q12, .ref h5, .ref h6, .int (nI k15), .int (nI k16)]), (h1, aI Y 3640 f0), (h2, aZ Y 2 f1), (h3, aZ Y 80 f3), (h4, aB Y 1600 f4), (h5, aI Y 200 f13), (h6, aI Y 800 f14)] rfl ?_
          have x44 := w43
          clear w43
          refine V_icmp_eq 54 B 98 dX12_shadowOf_54 (by decide) (fun kk45 => ?_) (fun kk45 => ?_)
          ·
            have x46 := x_eq kk45
            refine V_iload 98 B dX12_shadowOf_98 0 rfl ?_
            refine V_iconst 100 B (v := (-1)) dX12_shadowOf_100 (by decide +kernel) ?_
            refine V_icmp_ne_t 101 B 108 dX12_shadowOf_101 (by decide) (fun z => by have z2 := x_eq z; rw [(show ((-1) : Int32).toInt = (-1) by decide +kernel)] at z2; omega) ?_
            refine V_iload_n 108 B dX12_shadowOf_108 1 rfl ?_
            exact V_iret 109 B dX12_shadowOf_109 (mkW [] [(u29.2.1 0)] [] [] [] []) trivial rfl
          ·
            have x48 := x_ne kk45
            refine V_aload_n 57 B dX12_shadowOf_57 2 rfl ?_
            refine V_iload 58 B dX12_shadowOf_58 0 rfl ?_
            refine V_iload_n 60 B dX12_shadowOf_60 4 rfl ?_
            refine V_csi 61 B (st := [.int j36, .ref h0]) (As := [.int (nI n18)]) (fun sz => rX12_sequenceOf l D Y n18 (by omega) sz) glS_RX12_85 ⟨rfl, rfl⟩ ⟨(Nat.le_of_ble_eq_true rfl), (Nat.le_of_ble_eq_true rfl)⟩ ⟨(Nat.le_of_ble_eq_true rfl), (Nat.le_of_ble_eq_true rfl)⟩ [] rfl rfl (Nat.le_of_ble_eq_true rfl) rfl (fun _ _ _ => rfl) dX12_shadowOf_61 (fun j49 u50 w51 => ?_)
            refine V_ws [(h0, oC 13 [.ref h1, .ref h2, .int (u29.2.1 0), .ref h3, .ref h4, .int (nI k5), .int (nI k6), .int p7, .int p8, .int p9, .int (nI k10), .int p11, .long q12, .ref h5, .ref h6, .int (nI k15), .int (nI k16)]), (h1, aI Y 3640 f0), (h2, aZ Y 2 f1), (h3, aZ Y 80 f3), (h4, aB Y 1600 f4), (h5, aI Y 200 f13), (h6, aI Y 800 f14)] rfl ?_
            have x52 := w51
            clear w51
            obtain rfl := x52
            refine V_iconst 64 B (v := (-1)) dX12_shadowOf_64 (by decide +kernel) ?_
            refine V_cvi 65 B (st := []) (As := [.int j36, .int (nI (186 + 7 * n18)), .int (-1)]) (fun sz => rX12_clashIn l D Y h0 h1 h2 h3 h4 h5 h6 (u29.2.1 0) k5 k6 p7 p8 p9 k10 p11 q12 k15 k16 f0 f1 f3 f4 f13 f14 ph HI (by omega) HP j36 (186 + 7 * n18) (-1) (rl5 n18 (by omega)) sz) glV_RX12_121 ⟨rfl, rfl⟩ ⟨(Nat.le_of_ble_eq_true rfl), (Nat.le_of_ble_eq_true rfl)⟩ ⟨(Nat.le_of_ble_eq_true rfl), (Nat.le_of_ble_eq_true rfl)⟩ [0, 0, 0, 0, 0, 0, 0] rfl 13 0 rfl rfl rfl rfl (Nat.le_of_ble_eq_true rfl) rfl (fun _ _ _ => rfl) dX12_shadowOf_65 (fun j53 u54 w55 => ?_)
            refine V_ws [(h0, oC 13 [.ref h1, .ref h2, .int (u29.2.1 0), .ref h3, .ref h4, .int (nI k5), .int (nI k6), .int p7, .int p8, .int p9, .int (nI k10), .int p11, .long q12, .ref h5, .ref h6, .int (nI k15), .int (nI k16)]), (h1, aI Y 3640 f0), (h2, aZ Y 2 f1), (h3, aZ Y 80 f3), (h4, aB Y 1600 f4), (h5, aI Y 200 f13), (h6, aI Y 800 f14)] rfl ?_
            have x56 := w55
            clear w55
            have x59 : (gN f0 3) ≤ 80 := gN_le HI (by omega) (show bd 3 = (0, ((80 : Nat) : Int)) by decide +kernel)
            rcases x56 with ⟨rfl, x58⟩ | ⟨n57, rfl, x58, x60⟩
            ·
              refine V_istore 68 B (lv2 := [(5, .int (-1)), (4, .int j36), (3, .int (a32.2.1 1)), (0, .ref h0), (1, .int (nI n4)), (2, .int (nI n18))]) dX12_shadowOf_68 (by decide) rfl ?_
              refine V_iload 70 B dX12_shadowOf_70 0 rfl ?_
              refine V_iconst 72 B (v := (-1)) dX12_shadowOf_72 (by decide +kernel) ?_
              refine V_icmp_ne_f 73 B 80 dX12_shadowOf_73 (by decide) (by decide +kernel) ?_
              refine V_iload_n 76 B dX12_shadowOf_76 2 rfl ?_
              refine V_goto 77 B 82 dX12_shadowOf_77 (by decide) ?_
              refine V_istore_n 82 B (lv2 := [(3, .int (a32.2.1 1)), (5, .int (-1)), (4, .int j36), (0, .ref h0), (1, .int (nI n4)), (2, .int (nI n18))]) dX12_shadowOf_82 (by decide) rfl ?_
              refine V_aload_n 83 B dX12_shadowOf_83 3 rfl ?_
              refine V_get 84 B gf_RX12_9 0 rfl rfl dX12_shadowOf_84 ?_
              refine V_bipush 87 B (v := 16) dX12_shadowOf_87 (by decide +kernel) ?_
              refine V_iload 89 B dX12_shadowOf_89 2 rfl ?_
              obtain ⟨n61, x62, rfl⟩ := nat_of (x := j36) (n := 5) (by omega) (by omega)
              have e63 := nI_toInt (show n61 < 2 ^ 31 by omega)
              refine V_iadd 91 B (v := (nI (16 + n61))) dX12_shadowOf_91 (nI_addE (a := 16) (b := n61) (by omega)) ?_
              refine V_iald 92 B (v := f0 (16 + n61)) 1 rfl (vp_in_nI (n := 16 + n61) (by omega) (by decide)) dX12_shadowOf_92 (by rw [nI_clamp (show 16 + n61 < 2 ^ 31 by omega)]) ?_
              refine V_nmi (fun j64 e65 => ?_)
              have x66 : (-1) ≤ j64.toInt ∧ j64.toInt ≤ (((n61 : Nat) : Int) - 1) := by rw [e65]; exact ⟨INV_lo HI (by omega) (rl6 n61 (by omega)), INV_hi HI (by omega) (rl6 n61 (by omega))⟩
              refine V_istore 93 B (lv2 := [(4, .int j64), (3, .int (a32.2.1 1)), (5, .int (-1)), (0, .ref h0), (1, .int (nI n4)), (2, .int (nI n18))]) dX12_shadowOf_93 (by decide) rfl ?_
              refine V_goto 95 B 41 dX12_shadowOf_95 (by decide) ?_
              refine V_lv [(4, .int j64), (3, .int (a32.2.1 1)), (0, .ref h0), (1, .int (nI n4)), (2, .int (nI n18))] [0, 1, 3, 4, 5] rfl ?_
              exact IH33 (mkW [] [j64, (a32.2.1 1)] [] [] [] []) (show (-1) ≤ (j64 : Int32).toInt ∧ (j64 : Int32).toInt ≤ 5 by omega) (by show ((j64 : Int32).toInt + 1).toNat < _; omega)
            ·
              refine V_istore 68 B (lv2 := [(5, .int (nI n57)), (4, .int j36), (3, .int (a32.2.1 1)), (0, .ref h0), (1, .int (nI n4)), (2, .int (nI n18))]) dX12_shadowOf_68 (by decide) rfl ?_
              refine V_iload 70 B dX12_shadowOf_70 0 rfl ?_
              refine V_iconst 72 B (v := (-1)) dX12_shadowOf_72 (by decide +kernel) ?_
              refine V_icmp_ne_t 73 B 80 dX12_shadowOf_73 (by decide) (fun z => by have z2 := x_eq z; rw [nI_toInt (show n57 < 2 ^ 31 by omega), show ((-1) : Int32).toInt = (-1) by decide +kernel] at z2; omega) ?_
              refine V_iload 80 B dX12_shadowOf_80 0 rfl ?_
              refine V_istore_n 82 B (lv2 := [(3, .int (nI n57)), (5, .int (nI n57)), (4, .int j36), (0, .ref h0), (1, .int (nI n4)), (2, .int (nI n18))]) dX12_shadowOf_82 (by decide) rfl ?_
              refine V_aload_n 83 B dX12_shadowOf_83 3 rfl ?_
              refine V_get 84 B gf_RX12_9 0 rfl rfl dX12_shadowOf_84 ?_
              refine V_bipush 87 B (v := 16) dX12_shadowOf_87 (by decide +kernel) ?_
              refine V_iload 89 B dX12_shadowOf_89 2 rfl ?_
              obtain ⟨n68, x69, rfl⟩ := nat_of (x := j36) (n := 5) (by omega) (by omega)
              have e70 := nI_toInt (show n68 < 2 ^ 31 by omega)
              refine V_iadd 91 B (v := (nI (16 + n68))) dX12_shadowOf_91 (nI_addE (a := 16) (b := n68) (by omega)) ?_
              refine V_iald 92 B (v := f0 (16 + n68)) 1 rfl (vp_in_nI (n := 16 + n68) (by omega) (by decide)) dX12_shadowOf_92 (by rw [nI_clamp (show 16 + n68 < 2 ^ 31 by omega)]) ?_
              refine V_nmi (fun j71 e72 => ?_)
              have x73 : (-1) ≤ j71.toInt ∧ j71.toInt ≤ (((n68 : Nat) : Int) - 1) := by rw [e72]; exact ⟨INV_lo HI (by omega) (rl6 n68 (by omega)), INV_hi HI (by omega) (rl6 n68 (by omega))⟩
              refine V_istore 93 B (lv2 := [(4, .int j71), (3, .int (nI n57)), (5, .int (nI n57)), (0, .ref h0), (1, .int (nI n4)), (2, .int (nI n18))]) dX12_shadowOf_93 (by decide) rfl ?_
              refine V_goto 95 B 41 dX12_shadowOf_95 (by decide) ?_
              refine V_lv [(4, .int j71), (3, .int (nI n57)), (0, .ref h0), (1, .int (nI n4)), (2, .int (nI n18))] [0, 1, 3, 4, 5] rfl ?_
              exact IH33 (mkW [] [j71, (nI n57)] [] [] [] []) (show (-1) ≤ (j71 : Int32).toInt ∧ (j71 : Int32).toInt ≤ 5 by omega) (by show ((j71 : Int32).toInt + 1).toNat < _; omega))
