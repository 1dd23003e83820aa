theorem dX12_madeBy_0 : decode cX12_madeBy 0 = .ok (.iload_n 1, 1) := by decide +kernel
theorem dX12_madeBy_1 : decode cX12_madeBy 1 = .ok (.istore_n 2, 1) := by decide +kernel
theorem dX12_madeBy_2 : decode cX12_madeBy 2 = .ok (.iconst 0, 1) := by decide +kernel
theorem dX12_madeBy_3 : decode cX12_madeBy 3 = .ok (.istore_n 3, 1) := by decide +kernel
theorem dX12_madeBy_4 : decode cX12_madeBy 4 = .ok (.iload_n 3, 1) := by decide +kernel
theorem dX12_madeBy_5 : decode cX12_madeBy 5 = .ok (.aload_n 0, 1) := by decide +kernel
theorem dX12_madeBy_6 : decode cX12_madeBy 6 = .ok (.getfield 9, 3) := by decide +kernel
theorem dX12_madeBy_9 : decode cX12_madeBy 9 = .ok (.iconst 4, 1) := by decide +kernel
theorem dX12_madeBy_10 : decode cX12_madeBy 10 = .ok (.iaload, 1) := by decide +kernel
theorem dX12_madeBy_11 : decode cX12_madeBy 11 = .ok (.if_icmp .ge 41, 3) := by decide +kernel
theorem dX12_madeBy_52 : decode cX12_madeBy 52 = .ok (.bipush 32, 2) := by decide +kernel
theorem dX12_madeBy_54 : decode cX12_madeBy 54 = .ok (.aload_n 0, 1) := by decide +kernel
theorem dX12_madeBy_55 : decode cX12_madeBy 55 = .ok (.getfield 9, 3) := by decide +kernel
theorem dX12_madeBy_58 : decode cX12_madeBy 58 = .ok (.bipush 14, 2) := by decide +kernel
theorem dX12_madeBy_60 : decode cX12_madeBy 60 = .ok (.iaload, 1) := by decide +kernel
theorem dX12_madeBy_61 : decode cX12_madeBy 61 = .ok (.imul, 1) := by decide +kernel
theorem dX12_madeBy_62 : decode cX12_madeBy 62 = .ok (.iload_n 2, 1) := by decide +kernel
theorem dX12_madeBy_63 : decode cX12_madeBy 63 = .ok (.iadd, 1) := by decide +kernel
theorem dX12_madeBy_64 : decode cX12_madeBy 64 = .ok (.ireturn, 1) := by decide +kernel
theorem dX12_madeBy_14 : decode cX12_madeBy 14 = .ok (.aload_n 0, 1) := by decide +kernel
theorem dX12_madeBy_15 : decode cX12_madeBy 15 = .ok (.iload_n 3, 1) := by decide +kernel
theorem dX12_madeBy_16 : decode cX12_madeBy 16 = .ok (.iconst 1, 1) := by decide +kernel
theorem dX12_madeBy_17 : decode cX12_madeBy 17 = .ok (.invokevirtual 193, 3) := by decide +kernel
theorem dX12_madeBy_20 : decode cX12_madeBy 20 = .ok (.iconst 1, 1) := by decide +kernel
theorem dX12_madeBy_21 : decode cX12_madeBy 21 = .ok (.if_icmp .ne 25, 3) := by decide +kernel
theorem dX12_madeBy_46 : decode cX12_madeBy 46 = .ok (.iinc 3 1, 3) := by decide +kernel
theorem dX12_madeBy_49 : decode cX12_madeBy 49 = .ok (.goto (-45), 3) := by decide +kernel
theorem dX12_madeBy_24 : decode cX12_madeBy 24 = .ok (.aload_n 0, 1) := by decide +kernel
theorem dX12_madeBy_25 : decode cX12_madeBy 25 = .ok (.iload_n 3, 1) := by decide +kernel
theorem dX12_madeBy_26 : decode cX12_madeBy 26 = .ok (.iconst 2, 1) := by decide +kernel
theorem dX12_madeBy_27 : decode cX12_madeBy 27 = .ok (.iload_n 1, 1) := by decide +kernel
theorem dX12_madeBy_28 : decode cX12_madeBy 28 = .ok (.iadd, 1) := by decide +kernel
theorem dX12_madeBy_29 : decode cX12_madeBy 29 = .ok (.invokevirtual 193, 3) := by decide +kernel
theorem dX12_madeBy_32 : decode cX12_madeBy 32 = .ok (.ifCond .le 14, 3) := by decide +kernel
theorem dX12_madeBy_35 : decode cX12_madeBy 35 = .ok (.aload_n 0, 1) := by decide +kernel
theorem dX12_madeBy_36 : decode cX12_madeBy 36 = .ok (.iload_n 3, 1) := by decide +kernel
theorem dX12_madeBy_37 : decode cX12_madeBy 37 = .ok (.iconst 2, 1) := by decide +kernel
theorem dX12_madeBy_38 : decode cX12_madeBy 38 = .ok (.iload_n 1, 1) := by decide +kernel
theorem dX12_madeBy_39 : decode cX12_madeBy 39 = .ok (.iadd, 1) := by decide +kernel
theorem dX12_madeBy_40 : decode cX12_madeBy 40 = .ok (.invokevirtual 193, 3) := by decide +kernel
theorem dX12_madeBy_43 : decode cX12_madeBy 43 = .ok (.iconst 1, 1) := by decide +kernel
theorem dX12_madeBy_44 : decode cX12_madeBy 44 = .ok (.isub, 1) := by decide +kernel
theorem dX12_madeBy_45 : decode cX12_madeBy 45 = .ok (.istore_n 2, 1) := by decide +kernel
set_option maxRecDepth 100000 in
set_option maxHeartbeats 4000000 in
theorem rX12_madeBy (l : Launch) (D : va_G) (Y : Nat → ClassId) (h0 : Nat) (h1 : Nat) (h2 : Nat) (h3 : Nat) (h4 : Nat) (h5 : Nat) (h6 : Nat) (p2 : Int32) (k5 : Nat) (k6 : Nat) (p7 : Int32) (p8 : Int32) (p9 : Int32) (k10 : Nat) (p11 : Int32) (q12 : Int64) (k15 : Nat) (k16 : Nat) (f0 : Nat → Int32) (f1 : Nat → Int32) (f3 : Nat → Int32) (f4 : Nat → Int32) (f13 : Nat → Int32) (f14 : Nat → Int32) (ph : Nat → Int32) (HI : INV ph f0) (HL : k5 ≤ 1600) (HP : PLV f13) (s0 : Nat) (hn0 : s0 < 26) (sz : Nat) : Met l yX12_madeBy (WSm yX12_madeBy cX12_madeBy 4 (some .int)) (mkR 1 0 0 22) (PreC D Y [.ref h0, .int (nI s0)] [(h0, oC 13 [.ref h1, .ref h2, .int p2, .ref h3, .ref h4, .int (nI k5), .int (nI k6), .int p7, .int p8, .int p9, .int (nI k10), .int p11, .long q12, .ref h5, .ref h6, .int (nI k15), .int (nI k16)]), (h1, aI Y 3640 f0), (h2, aZ Y 2 f1), (h3, aZ Y 80 f3), (h4, aB Y 1600 f4), (h5, aI Y 200 f13), (h6, aI Y 800 f14)] sz) (QI D (fun (r : Int32) (u : WU) => True) (fun (u : WU) => [(h0, oC 13 [.ref h1, .ref h2, .int p2, .ref h3, .ref h4, .int (nI k5), .int (nI k6), .int p7, .int p8, .int p9, .int (nI k10), .int p11, .long q12, .ref h5, .ref h6, .int (nI k15), .int (nI k16)]), (h1, aI Y 3640 f0), (h2, aZ Y 2 f1), (h3, aZ Y 80 f3), (h4, aB Y 1600 f4), (h5, aI Y 200 f13), (h6, aI Y 800 f14)]) (va_A [(h0, oC 13 [.ref h1, .ref h2, .int p2, .ref h3, .ref h4, .int (nI k5), .int (nI k6), .int p7, .int p8, .int p9, .int (nI k10), .int p11, .long q12, .ref h5, .ref h6, .int (nI k15), .int (nI k16)]), (h1, aI Y 3640 f0), (h2, aZ Y 2 f1), (h3, aZ Y 80 f3), (h4, aB Y 1600 f4), (h5, aI Y 200 f13), (h6, aI Y 800 f14)] sz)) 0 0 (va_A [(h0, oC 13 [.ref h1, .ref h2, .int p2, .ref h3, .ref h4, .int (nI k5), .int (nI k6), .int p7, .int p8, .int p9, .int (nI k10), .int p11, .long q12, .ref h5, .ref h6, .int (nI k15), .int (nI k16)]), (h1, aI Y 3640 f0), (h2, aZ Y 2 f1), (h3, aZ Y 80 f3), (h4, aB Y 1600 f4), (h5, aI Y 200 f13), (h6, aI Y 800 f14)] sz) :=
  met_of  (by decide +kernel) (Nat.le_of_ble_eq_true rfl) (fun p e s m args below meth c B hin hsz => by
    have B : VB p s m args meth c D Y (va_A [(h0, oC 13 [.ref h1, .ref h2, .int p2, .ref h3, .ref h4, .int (nI k5), .int (nI k6), .int p7, .int p8, .int p9, .int (nI k10), .int p11, .long q12, .ref h5, .ref h6, .int (nI k15), .int (nI k16)]), (h1, aI Y 3640 f0), (h2, aZ Y 2 f1), (h3, aZ Y 80 f3), (h4, aB Y 1600 f4), (h5, aI Y 200 f13), (h6, aI Y 800 f14)] sz) cX12_madeBy 4 RX12 (some .int) := B
    refine V_iload_n 0 B dX12_madeBy_0 1 rfl ?_
    refine V_istore_n 1 B (lv2 := [(2, .int (nI s0)), (0, .ref h0), (1, .int (nI s0))]) dX12_madeBy_1 (by decide) rfl ?_
    refine V_iconst 2 B (v := 0) dX12_madeBy_2 (by decide +kernel) ?_
    refine V_istore_n 3 B (lv2 := [(3, .int 0), (2, .int (nI s0)), (0, .ref h0), (1, .int (nI s0))]) dX12_madeBy_3 (by decide) rfl ?_
    refine V_wloop (α := WU) (fun a => 100000 - (a.1 0)) (fun a => (a.1 0) ≤ 4000) (fun a => [(3, .int (nI (a.1 0))), (2, .int (a.2.1 0)), (0, .ref h0), (1, .int (nI s0))]) (fun a => [(h0, oC 13 [.ref h1, .ref h2, .int p2, .ref h3, .ref h4, .int (nI k5), .int (nI k6), .int p7, .int p8, .int p9, .int (nI k10), .int p11, .long q12, .ref h5, .ref h6, .int (nI k15), .int (nI k16)]), (h1, aI Y 3640 f0), (h2, aZ Y 2 f1), (h3, aZ Y 80 f3), (h4, aB Y 1600 f4), (h5, aI Y 200 f13), (h6, aI Y 800 f14)]) (mkW [0] [(nI s0)] [] [] [] []) (show 0 ≤ 4000 by omega) rfl rfl (fun a0 hI2 IH1 => ?_)
    refine V_lv [(3, .int (nI (a0.1 0))), (2, .int (a0.2.1 0)), (0, .ref h0), (1, .int (nI s0))] [0, 1, 2, 3] rfl ?_
    refine V_ws [(h0, oC 13 [.ref h1, .ref h2, .int p2, .ref h3, .ref h4, .int (nI k5), .int (nI k6), .int p7, .int p8, .int p9, .int (nI k10), .int p11, .long q12, .ref h5, .ref h6, .int (nI k15), .int (nI k16)]), (h1, aI Y 3640 f0), (h2, aZ Y 2 f1), (h3, aZ Y 80 f3), (h4, aB Y 1600 f4), (h5, aI Y 200 f13), (h6, aI Y 800 f14)] rfl ?_
    have x3 := hI2
    refine V_iload_n 4 B dX12_madeBy_4 0 rfl ?_
    refine V_aload_n 5 B dX12_madeBy_5 2 rfl ?_
    refine V_get 6 B gf_RX12_9 0 rfl rfl dX12_madeBy_6 ?_
    refine V_iconst 9 B (v := 4) dX12_madeBy_9 (by decide +kernel) ?_
    have x4 : (gN f0 4) ≤ 4 := gN_le HI (by omega) (show bd 4 = (0, ((4 : Nat) : Int)) by decide +kernel)
    refine V_iald 10 B (v := (nI (gN f0 4))) 1 rfl (vpin _ _ (by decide +kernel)) dX12_madeBy_10 (by show f0 4 = _; exact gN_eq HI (by omega) (show bd 4 = (0, ((4 : Nat) : Int)) by decide +kernel)) ?_
    refine V_icmp_ge 11 B 52 dX12_madeBy_11 (by decide) (fun kk5 => ?_) (fun kk5 => ?_)
    ·
      have x6 := n_le (a := (gN f0 4)) (b := (a0.1 0)) kk5 (by omega) (by omega)
      refine V_bipush 52 B (v := 32) dX12_madeBy_52 (by decide +kernel) ?_
      refine V_aload_n 54 B dX12_madeBy_54 2 rfl ?_
      refine V_get 55 B gf_RX12_9 0 rfl rfl dX12_madeBy_55 ?_
      refine V_bipush 58 B (v := 14) dX12_madeBy_58 (by decide +kernel) ?_
      refine V_iald 60 B (v := f0 (14)) 1 rfl (vpin _ _ (by decide +kernel)) dX12_madeBy_60 (by rfl) ?_
      refine V_nmi (fun j7 e8 => ?_)
      refine V_imul 61 B dX12_madeBy_61 rfl ?_
      refine V_nmi (fun j9 e10 => ?_)
      refine V_iload_n 62 B dX12_madeBy_62 1 rfl ?_
      refine V_iadd 63 B dX12_madeBy_63 rfl ?_
      refine V_nmi (fun j11 e12 => ?_)
      exact V_iret 64 B dX12_madeBy_64 (mkW [] [] [] [] [] []) trivial rfl
    ·
      have x13 := n_nle (a := (gN f0 4)) (b := (a0.1 0)) kk5 (by omega) (by omega)
      refine V_aload_n 14 B dX12_madeBy_14 2 rfl ?_
      refine V_iload_n 15 B dX12_madeBy_15 0 rfl ?_
      refine V_iconst 16 B (v := 1) dX12_madeBy_16 (by decide +kernel) ?_
      refine V_cvi 17 B (st := []) (As := [.int (nI (a0.1 0)), .int 1]) (fun sz => rX12_ofLayer l D Y h0 h1 h2 h3 h4 h5 h6 p2 k5 k6 p7 p8 p9 k10 p11 q12 k15 k16 f0 f1 f3 f4 f13 f14 ph HI (by omega) HP (a0.1 0) 1 (by omega) (by omega) sz) glV_RX12_193 ⟨rfl, rfl⟩ ⟨(Nat.le_of_ble_eq_true rfl), (Nat.le_of_ble_eq_true rfl)⟩ ⟨(Nat.le_of_ble_eq_true rfl), (Nat.le_of_ble_eq_true rfl)⟩ [0, 0, 0, 0, 0, 0, 0] rfl 13 0 rfl rfl rfl rfl (Nat.le_of_ble_eq_true rfl) rfl (fun _ _ _ => rfl) dX12_madeBy_17 (fun j14 u15 w16 => ?_)
      refine V_ws [(h0, oC 13 [.ref h1, .ref h2, .int p2, .ref h3, .ref h4, .int (nI k5), .int (nI k6), .int p7, .int p8, .int p9, .int (nI k10), .int p11, .long q12, .ref h5, .ref h6, .int (nI k15), .int (nI k16)]), (h1, aI Y 3640 f0), (h2, aZ Y 2 f1), (h3, aZ Y 80 f3), (h4, aB Y 1600 f4), (h5, aI Y 200 f13), (h6, aI Y 800 f14)] rfl ?_
      refine V_iconst 20 B (v := 1) dX12_madeBy_20 (by decide +kernel) ?_
      refine V_icmp_ne 21 B 46 dX12_madeBy_21 (by decide) (fun kk17 => ?_) (fun kk17 => ?_)
      ·
        have x18 := x_ne kk17
        rw [show (1 : Int32).toInt = 1 by decide +kernel] at x18
        refine V_iinc 46 B (v := (nI (1 + (a0.1 0)))) (lv2 := [(3, .int (nI (1 + (a0.1 0)))), (2, .int (a0.2.1 0)), (0, .ref h0), (1, .int (nI s0))]) dX12_madeBy_46 0 rfl (nI_addE (a := (a0.1 0)) (b := 1) (by omega)) (by decide) rfl ?_
        refine V_goto 49 B 4 dX12_madeBy_49 (by decide) ?_
        refine V_lv [(3, .int (nI (1 + (a0.1 0)))), (2, .int (a0.2.1 0)), (0, .ref h0), (1, .int (nI s0))] [0, 1, 2, 3] rfl ?_
        exact IH1 (mkW [1 + (a0.1 0)] [(a0.2.1 0)] [] [] [] []) (show 1 + (a0.1 0) ≤ 4000 by omega) (by show 100000 - (1 + (a0.1 0)) < 100000 - (a0.1 0); omega)
      ·
        obtain rfl : j14 = 1 := kk17
        have e20 : (1 : Int32).toInt = 1 := by decide +kernel
        refine V_aload_n 24 B dX12_madeBy_24 2 rfl ?_
        refine V_iload_n 25 B dX12_madeBy_25 0 rfl ?_
        refine V_iconst 26 B (v := 2) dX12_madeBy_26 (by decide +kernel) ?_
        refine V_iload_n 27 B dX12_madeBy_27 3 rfl ?_
        refine V_iadd 28 B (v := (nI (2 + s0))) dX12_madeBy_28 (nI_addE (a := 2) (b := s0) (by omega)) ?_
        refine V_cvi 29 B (st := []) (As := [.int (nI (a0.1 0)), .int (nI (2 + s0))]) (fun sz => rX12_ofLayer l D Y h0 h1 h2 h3 h4 h5 h6 p2 k5 k6 p7 p8 p9 k10 p11 q12 k15 k16 f0 f1 f3 f4 f13 f14 ph HI (by omega) HP (a0.1 0) (2 + s0) (by omega) (by omega) sz) glV_RX12_193 ⟨rfl, rfl⟩ ⟨(Nat.le_of_ble_eq_true rfl), (Nat.le_of_ble_eq_true rfl)⟩ ⟨(Nat.le_of_ble_eq_true rfl), (Nat.le_of_ble_eq_true rfl)⟩ [0, 0, 0, 0, 0, 0, 0] rfl 13 0 rfl rfl rfl rfl (Nat.le_of_ble_eq_true rfl) rfl (fun _ _ _ => rfl) dX12_madeBy_29 (fun j21 u22 w23 => ?_)
        refine V_ws [(h0, oC 13 [.ref h1, .ref h2, .int p2, .ref h3, .ref h4, .int (nI k5), .int (nI k6), .int p7, .int p8, .int p9, .int (nI k10), .int p11, .long q12, .ref h5, .ref h6, .int (nI k15), .int (nI k16)]), (h1, aI Y 3640 f0), (h2, aZ Y 2 f1), (h3, aZ Y 80 f3), (h4, aB Y 1600 f4), (h5, aI Y 200 f13), (h6, aI Y 800 f14)] rfl ?_
        refine V_if_le 32 B 46 dX12_madeBy_32 (by decide) (fun kk24 => ?_) (fun kk24 => ?_)
        ·
          have x25 := x_le kk24
          rw [show (0 : Int32).toInt = 0 by decide +kernel] at x25
          refine V_iinc 46 B (v := (nI (1 + (a0.1 0)))) (lv2 := [(3, .int (nI (1 + (a0.1 0)))), (2, .int (a0.2.1 0)), (0, .ref h0), (1, .int (nI s0))]) dX12_madeBy_46 0 rfl (nI_addE (a := (a0.1 0)) (b := 1) (by omega)) (by decide) rfl ?_
          refine V_goto 49 B 4 dX12_madeBy_49 (by decide) ?_
          refine V_lv [(3, .int (nI (1 + (a0.1 0)))), (2, .int (a0.2.1 0)), (0, .ref h0), (1, .int (nI s0))] [0, 1, 2, 3] rfl ?_
          exact IH1 (mkW [1 + (a0.1 0)] [(a0.2.1 0)] [] [] [] []) (show 1 + (a0.1 0) ≤ 4000 by omega) (by show 100000 - (1 + (a0.1 0)) < 100000 - (a0.1 0); omega)
        ·
          have x26 := x_nle kk24
          rw [show (0 : Int32).toInt = 0 by decide +kernel] at x26
          refine V_aload_n 35 B dX12_madeBy_35 2 rfl ?_
          refine V_iload_n 36 B dX12_madeBy_36 0 rfl ?_
          refine V_iconst 37 B (v := 2) dX12_madeBy_37 (by decide +kernel) ?_
          refine V_iload_n 38 B dX12_madeBy_38 3 rfl ?_
          refine V_iadd 39 B (v := (nI (2 + s0))) dX12_madeBy_39 (nI_addE (a := 2) (b := s0) (by omega)) ?_
          refine V_cvi 40 B (st := []) (As := [.int (nI (a0.1 0)), .int (nI (2 + s0))]) (fun sz => rX12_ofLayer l D Y h0 h1 h2 h3 h4 h5 h6 p2 k5 k6 p7 p8 p9 k10 p11 q12 k15 k16 f0 f1 f3 f4 f13 f14 ph HI (by omega) HP (a0.1 0) (2 + s0) (by omega) (by omega) sz) glV_RX12_193 ⟨rfl, rfl⟩ ⟨(Nat.le_of_ble_eq_true rfl), (Nat.le_of_ble_eq_true rfl)⟩ ⟨(Nat.le_of_ble_eq_true rfl), (Nat.le_of_ble_eq_true rfl)⟩ [0, 0, 0, 0, 0, 0, 0] rfl 13 0 rfl rfl rfl rfl (Nat.le_of_ble_eq_true rfl) rfl (fun _ _ _ => rfl) dX12_madeBy_40 (fun j27 u28 w29 => ?_)
          refine V_ws [(h0, oC 13 [.ref h1, .ref h2, .int p2, .ref h3, .ref h4, .int (nI k5), .int (nI k6), .int p7, .int p8, .int p9, .int (nI k10), .int p11, .long q12, .ref h5, .ref h6, .int (nI k15), .int (nI k16)]), (h1, aI Y 3640 f0), (h2, aZ Y 2 f1), (h3, aZ Y 80 f3), (h4, aB Y 1600 f4), (h5, aI Y 200 f13), (h6, aI Y 800 f14)] rfl ?_
          refine V_iconst 43 B (v := 1) dX12_madeBy_43 (by decide +kernel) ?_
          refine V_isub 44 B dX12_madeBy_44 rfl ?_
          refine V_nmi (fun j30 e31 => ?_)
          refine V_istore_n 45 B (lv2 := [(2, .int j30), (3, .int (nI (a0.1 0))), (0, .ref h0), (1, .int (nI s0))]) dX12_madeBy_45 (by decide) rfl ?_
          refine V_iinc 46 B (v := (nI (1 + (a0.1 0)))) (lv2 := [(3, .int (nI (1 + (a0.1 0)))), (2, .int j30), (0, .ref h0), (1, .int (nI s0))]) dX12_madeBy_46 1 rfl (nI_addE (a := (a0.1 0)) (b := 1) (by omega)) (by decide) rfl ?_
          refine V_goto 49 B 4 dX12_madeBy_49 (by decide) ?_
          refine V_lv [(3, .int (nI (1 + (a0.1 0)))), (2, .int j30), (0, .ref h0), (1, .int (nI s0))] [0, 1, 2, 3] rfl ?_
          exact IH1 (mkW [1 + (a0.1 0)] [j30] [] [] [] []) (show 1 + (a0.1 0) ≤ 4000 by omega) (by show 100000 - (1 + (a0.1 0)) < 100000 - (a0.1 0); omega))
theorem dX12_strokeOf_0 : decode cX12_strokeOf 0 = .ok (.aload_n 0, 1) := by decide +kernel
theorem dX12_strokeOf_1 : decode cX12_strokeOf 1 = .ok (.iconst 0, 1) := by decide +kernel
theorem dX12_strokeOf_2 : decode cX12_strokeOf 2 = .ok (.putfield 38, 3) := by decide +kernel
theorem dX12_strokeOf_5 : decode cX12_strokeOf 5 = .ok (.aload_n 0, 1) := by decide +kernel
theorem dX12_strokeOf_6 : decode cX12_strokeOf 6 = .ok (.iload_n 1, 1) := by decide +kernel
theorem dX12_strokeOf_7 : decode cX12_strokeOf 7 = .ok (.invokestatic 204, 3) := by decide +kernel
theorem dX12_strokeOf_10 : decode cX12_strokeOf 10 = .ok (.ifCond .ne 7, 3) := by decide +kernel
theorem dX12_strokeOf_13 : decode cX12_strokeOf 13 = .ok (.iconst 1, 1) := by decide +kernel
theorem dX12_strokeOf_14 : decode cX12_strokeOf 14 = .ok (.goto 4, 3) := by decide +kernel
theorem dX12_strokeOf_18 : decode cX12_strokeOf 18 = .ok (.iconst 1, 1) := by decide +kernel
theorem dX12_strokeOf_19 : decode cX12_strokeOf 19 = .ok (.invokevirtual 69, 3) := by decide +kernel
theorem dX12_strokeOf_22 : decode cX12_strokeOf 22 = .ok (.ifCond .eq 7, 3) := by decide +kernel
theorem dX12_strokeOf_25 : decode cX12_strokeOf 25 = .ok (.iconst 0, 1) := by decide +kernel
theorem dX12_strokeOf_26 : decode cX12_strokeOf 26 = .ok (.goto 21, 3) := by decide +kernel
theorem dX12_strokeOf_47 : decode cX12_strokeOf 47 = .ok (.ireturn, 1) := by decide +kernel
theorem dX12_strokeOf_17 : decode cX12_strokeOf 17 = .ok (.iconst 0, 1) := by decide +kernel
theorem dX12_strokeOf_29 : decode cX12_strokeOf 29 = .ok (.aload_n 0, 1) := by decide +kernel
theorem dX12_strokeOf_30 : decode cX12_strokeOf 30 = .ok (.iload_n 1, 1) := by decide +kernel
theorem dX12_strokeOf_31 : decode cX12_strokeOf 31 = .ok (.invokevirtual 209, 3) := by decide +kernel
theorem glV_RX12_209 : GLV RX12 209 yX12_layerOf RX12 cX12_layerOf 3 (some .int) 1 := ⟨⟨(mT9 81 rfl rfl), (mT9 83 rfl rfl), (mTs 64 rfl rfl), (mT1 13 rfl rfl), (mT9 84 rfl rfl)⟩, by decide +kernel⟩
theorem dX12_strokeOf_34 : decode cX12_strokeOf 34 = .ok (.iconst (-1), 1) := by decide +kernel
theorem dX12_strokeOf_35 : decode cX12_strokeOf 35 = .ok (.if_icmp .ne 11, 3) := by decide +kernel
theorem dX12_strokeOf_38 : decode cX12_strokeOf 38 = .ok (.aload_n 0, 1) := by decide +kernel
theorem dX12_strokeOf_39 : decode cX12_strokeOf 39 = .ok (.iload_n 1, 1) := by decide +kernel
theorem dX12_strokeOf_40 : decode cX12_strokeOf 40 = .ok (.invokevirtual 212, 3) := by decide +kernel
theorem glV_RX12_212 : GLV RX12 212 yX12_madeBy RX12 cX12_madeBy 4 (some .int) 1 := ⟨⟨(mT9 85 rfl rfl), (mT9 87 rfl rfl), (mTs 65 rfl rfl), (mT1 13 rfl rfl), (mT9 88 rfl rfl)⟩, by decide +kernel⟩
theorem dX12_strokeOf_43 : decode cX12_strokeOf 43 = .ok (.goto 4, 3) := by decide +kernel
theorem dX12_strokeOf_46 : decode cX12_strokeOf 46 = .ok (.iconst (-1), 1) := by decide +kernel
set_option maxRecDepth 100000 in
set_option maxHeartbeats 4000000 in
theorem rX12_strokeOf (l : Launch) (D : va_G) (Y : Nat → ClassId) (h0 : Nat) (h1 : Nat) (h2 : Nat) (h3 : Nat) (h4 : Nat) (h5 : Nat) (h6 : Nat) (p2 : Int32) (k5 : Nat) (k6 : Nat) (p7 : Int32) (p8 : Int32) (p9 : Int32) (k10 : Nat) (p11 : Int32) (q12 : Int64) (k15 : Nat) (k16 : Nat) (f0 : Nat → Int32) (f1 : Nat → Int32) (f3 : Nat → Int32) (f4 : Nat → Int32) (f13 : Nat → Int32) (f14 : Nat → Int32) (ph : Nat → Int32) (HI : INV ph f0) (HL : k5 ≤ 1600) (HP : PLV f13) (s0 : Int32)  (sz : Nat) : Met l yX12_strokeOf (WSm yX12_strokeOf cX12_strokeOf 2 (some .int)) (mkR 2 0 0 45) (PreC D Y [.ref h0, .int s0] [(h0, oC 13 [.ref h1, .ref h2, .int p2, .ref h3, .ref h4, .int (nI k5), .int (nI k6), .int p7, .int p8, .int p9, .int (nI k10), .int p11, .long q12, .ref h5, .ref h6, .int (nI k15), .int (nI k16)]), (h1, aI Y 3640 f0), (h2, aZ Y 2 f1), (h3, aZ Y 80 f3), (h4, aB Y 1600 f4), (h5, aI Y 200 f13), (h6, aI Y 800 f14)] sz) (QI D (fun (r : Int32) (u : WU) => True) (fun (u : WU) => [(h0, oC 13 [.ref h1, .ref h2, .int (u.2.1 0), .ref h3, .ref h4, .int (nI k5), .int (nI k6), .int p7, .int p8, .int p9, .int (nI k10), .int p11, .long q12, .ref h5, .ref h6, .int (nI k15), .int (nI k16)]), (h1, aI Y 3640 f0), (h2, aZ Y 2 f1), (h3, aZ Y 80 f3), (h4, aB Y 1600 f4), (h5, aI Y 200 f13), (h6, aI Y 800 f14)]) (va_A [(h0, oC 13 [.ref h1, .ref h2, .int p2, .ref h3, .ref h4, .int (nI k5), .int (nI k6), .int p7, .int p8, .int p9, .int (nI k10), .int p11, .long q12, .ref h5, .ref h6, .int (nI k15), .int (nI k16)]), (h1, aI Y 3640 f0), (h2, aZ Y 2 f1), (h3, aZ Y 80 f3), (h4, aB Y 1600 f4), (h5, aI Y 200 f13), (h6, aI Y 800 f14)] sz)) 0 0 (va_A [(h0, oC 13 [.ref h1, .ref h2, .int p2, .ref h3, .ref h4, .int (nI k5), .int (nI k6), .int p7, .int p8, .int p9, .int (nI k10), .int p11, .long q12, .ref h5, .ref h6, .int (nI k15), .int (nI k16)]), (h1, aI Y 3640 f0), (h2, aZ Y 2 f1), (h3, aZ Y 80 f3), (h4, aB Y 1600 f4), (h5, aI Y 200 f13), (h6, aI Y 800 f14)] sz) :=
  met_of  (by decide +kernel) (Nat.le_of_ble_eq_true rfl) (fun p e s m args below meth c B hin hsz => by
    have B : VB p s m args meth c D Y (va_A [(h0, oC 13 [.ref h1, .ref h2, .int p2, .ref h3, .ref h4, .int (nI k5), .int (nI k6), .int p7, .int p8, .int p9, .int (nI k10), .int p11, .long q12, .ref h5, .ref h6, .int (nI k15), .int (nI k16)]), (h1, aI Y 3640 f0), (h2, aZ Y 2 f1), (h3, aZ Y 80 f3), (h4, aB Y 1600 f4), (h5, aI Y 200 f13), (h6, aI Y 800 f14)] sz) cX12_strokeOf 2 RX12 (some .int) := B
    refine V_aload_n 0 B dX12_strokeOf_0 0 rfl ?_
    refine V_iconst 1 B (v := 0) dX12_strokeOf_1 (by decide +kernel) ?_
    refine V_put 2 B gp_RX12_38 0 rfl (Nat.le_of_ble_eq_true rfl) rfl rfl dX12_strokeOf_2 [(h0, oC 13 [.ref h1, .ref h2, .int 0, .ref h3, .ref h4, .int (nI k5), .int (nI k6), .int p7, .int p8, .int p9, .int (nI k10), .int p11, .long q12, .ref h5, .ref h6, .int (nI k15), .int (nI k16)]), (h1, aI Y 3640 f0), (h2, aZ Y 2 f1), (h3, aZ Y 80 f3), (h4, aB Y 1600 f4), (h5, aI Y 200 f13), (h6, aI Y 800 f14)] rfl ?_
    refine V_aload_n 5 B dX12_strokeOf_5 0 rfl ?_
    refine V_iload_n 6 B dX12_strokeOf_6 1 rfl ?_
    refine V_csi 7 B (st := [.ref h0]) (As := [.int s0]) (fun sz => rX12_isKey l D Y s0 sz) glS_RX12_204 ⟨rfl, rfl⟩ ⟨(Nat.le_of_ble_eq_true rfl), (Nat.le_of_ble_eq_true rfl)⟩ ⟨(Nat.le_of_ble_eq_true rfl), (Nat.le_of_ble_eq_true rfl)⟩ [] rfl rfl (Nat.le_of_ble_eq_true rfl) rfl (fun _ _ _ => rfl) dX12_strokeOf_7 (fun j0 u1 w2 => ?_)
    refine V_ws [(h0, oC 13 [.ref h1, .ref h2, .int 0, .ref h3, .ref h4, .int (nI k5), .int (nI k6), .int p7, .int p8, .int p9, .int (nI k10), .int p11, .long q12, .ref h5, .ref h6, .int (nI k15), .int (nI k16)]), (h1, aI Y 3640 f0), (h2, aZ Y 2 f1), (h3, aZ Y 80 f3), (h4, aB Y 1600 f4), (h5, aI Y 200 f13), (h6, aI Y 800 f14)] rfl ?_
    have x3 := w2
    clear w2
    rcases x3 with rfl | ⟨rfl, n4, rfl, x5⟩
    ·
      refine V_if_ne_f 10 B 17 dX12_strokeOf_10 (by decide) (by decide +kernel) ?_
      refine V_iconst 13 B (v := 1) dX12_strokeOf_13 (by decide +kernel) ?_
      refine V_goto 14 B 18 dX12_strokeOf_14 (by decide) ?_
      refine V_iconst 18 B (v := 1) dX12_strokeOf_18 (by decide +kernel) ?_
      refine V_cvi 19 B (st := []) (As := [.int 1, .int 1]) (fun sz => rX12_throwsIf_1 l D Y h0 h1 h2 h3 h4 h5 h6 0 k5 k6 p7 p8 p9 k10 p11 q12 k15 k16 f0 f1 f3 f4 f13 f14 ph HI (by omega) HP 1 sz) glV_RX12_69 ⟨rfl, rfl⟩ ⟨(Nat.le_of_ble_eq_true rfl), (Nat.le_of_ble_eq_true rfl)⟩ ⟨(Nat.le_of_ble_eq_true rfl), (Nat.le_of_ble_eq_true rfl)⟩ [0, 0, 0, 0, 0, 0, 0] rfl 13 0 rfl rfl rfl rfl (Nat.le_of_ble_eq_true rfl) rfl (fun _ _ _ => rfl) dX12_strokeOf_19 (fun j7 u8 w9 => ?_)
      refine V_ws [(h0, oC 13 [.ref h1, .ref h2, .int (u8.2.1 0), .ref h3, .ref h4, .int (nI k5), .int (nI k6), .int p7, .int p8, .int p9, .int (nI k10), .int p11, .long q12, .ref h5, .ref h6, .int (nI k15), .int (nI k16)]), (h1, aI Y 3640 f0), (h2, aZ Y 2 f1), (h3, aZ Y 80 f3), (h4, aB Y 1600 f4), (h5, aI Y 200 f13), (h6, aI Y 800 f14)] rfl ?_
      have x10 := w9
      clear w9
      obtain rfl := x10
      refine V_if_eq_f 22 B 29 dX12_strokeOf_22 (by decide) (by decide +kernel) ?_
      refine V_iconst 25 B (v := 0) dX12_strokeOf_25 (by decide +kernel) ?_
      refine V_goto 26 B 47 dX12_strokeOf_26 (by decide) ?_
      exact V_iret 47 B dX12_strokeOf_47 (mkW [] [(u8.2.1 0)] [] [] [] []) trivial rfl
    ·
      have e11 := nI_toInt (show n4 < 2 ^ 31 by omega)
      refine V_if_ne_t 10 B 17 dX12_strokeOf_10 (by decide) (by decide +kernel) ?_
      refine V_iconst 17 B (v := 0) dX12_strokeOf_17 (by decide +kernel) ?_
      refine V_iconst 18 B (v := 1) dX12_strokeOf_18 (by decide +kernel) ?_
      refine V_cvi 19 B (st := []) (As := [.int 0, .int 1]) (fun sz => rX12_throwsIf_0 l D Y h0 h1 h2 h3 h4 h5 h6 0 k5 k6 p7 p8 p9 k10 p11 q12 k15 k16 f0 f1 f3 f4 f13 f14 ph HI (by omega) HP 1 sz) glV_RX12_69 ⟨rfl, rfl⟩ ⟨(Nat.le_of_ble_eq_true rfl), (Nat.le_of_ble_eq_true rfl)⟩ ⟨(Nat.le_of_ble_eq_true rfl), (Nat.le_of_ble_eq_true rfl)⟩ [0, 0, 0, 0, 0, 0, 0] rfl 13 0 rfl rfl rfl rfl (Nat.le_of_ble_eq_true rfl) rfl (fun _ _ _ => rfl) dX12_strokeOf_19 (fun j12 u13 w14 => ?_)
      refine V_ws [(h0, oC 13 [.ref h1, .ref h2, .int (u13.2.1 0), .ref h3, .ref h4, .int (nI k5), .int (nI k6), .int p7, .int p8, .int p9, .int (nI k10), .int p11, .long q12, .ref h5, .ref h6, .int (nI k15), .int (nI k16)]), (h1, aI Y 3640 f0), (h2, aZ Y 2 f1), (h3, aZ Y 80 f3), (h4, aB Y 1600 f4), (h5, aI Y 200 f13), (h6, aI Y 800 f14)] rfl ?_
      have x15 := w14
      clear w14
      obtain rfl := x15
      refine V_if_eq_t 22 B 29 dX12_strokeOf_22 (by decide) (by decide +kernel) ?_
      refine V_aload_n 29 B dX12_strokeOf_29 0 rfl ?_
      refine V_iload_n 30 B dX12_strokeOf_30 1 rfl ?_
      refine V_cvi 31 B (st := []) (As := [.int (nI n4)]) (fun sz => rX12_layerOf l D Y h0 h1 h2 h3 h4 h5 h6 (u13.2.1 0) k5 k6 p7 p8 p9 k10 p11 q12 k15 k16 f0 f1 f3 f4 f13 f14 ph HI (by omega) HP (nI n4) sz) glV_RX12_209 ⟨rfl, rfl⟩ ⟨(Nat.le_of_ble_eq_true rfl), (Nat.le_of_ble_eq_true rfl)⟩ ⟨(Nat.le_of_ble_eq_true rfl), (Nat.le_of_ble_eq_true rfl)⟩ [0, 0, 0, 0, 0, 0, 0] rfl 13 0 rfl rfl rfl rfl (Nat.le_of_ble_eq_true rfl) rfl (fun _ _ _ => rfl) dX12_strokeOf_31 (fun j16 u17 w18 => ?_)
      refine V_ws [(h0, oC 13 [.ref h1, .ref h2, .int (u13.2.1 0), .ref h3, .ref h4, .int (nI k5), .int (nI k6), .int p7, .int p8, .int p9, .int (nI k10), .int p11, .long q12, .ref h5, .ref h6, .int (nI k15), .int (nI k16)]), (h1, aI Y 3640 f0), (h2, aZ Y 2 f1), (h3, aZ Y 80 f3), (h4, aB Y 1600 f4), (h5, aI Y 200 f13), (h6, aI Y 800 f14)] rfl ?_
      have x19 := w18
      clear w18
      have x22 : (gN f0 4) ≤ 4 := gN_le HI (by omega) (show bd 4 = (0, ((4 : Nat) : Int)) by decide +kernel)
      rcases x19 with rfl | ⟨n20, rfl, x21⟩
      ·
        refine V_iconst 34 B (v := (-1)) dX12_strokeOf_34 (by decide +kernel) ?_
        refine V_icmp_ne_f 35 B 46 dX12_strokeOf_35 (by decide) (by decide +kernel) ?_
        refine V_aload_n 38 B dX12_strokeOf_38 0 rfl ?_
        refine V_iload_n 39 B dX12_strokeOf_39 1 rfl ?_
        refine V_cvi 40 B (st := []) (As := [.int (nI n4)]) (fun sz => rX12_madeBy l D Y h0 h1 h2 h3 h4 h5 h6 (u13.2.1 0) k5 k6 p7 p8 p9 k10 p11 q12 k15 k16 f0 f1 f3 f4 f13 f14 ph HI (by omega) HP n4 (by omega) sz) glV_RX12_212 ⟨rfl, rfl⟩ ⟨(Nat.le_of_ble_eq_true rfl), (Nat.le_of_ble_eq_true rfl)⟩ ⟨(Nat.le_of_ble_eq_true rfl), (Nat.le_of_ble_eq_true rfl)⟩ [0, 0, 0, 0, 0, 0, 0] rfl 13 0 rfl rfl rfl rfl (Nat.le_of_ble_eq_true rfl) rfl (fun _ _ _ => rfl) dX12_strokeOf_40 (fun j23 u24 w25 => ?_)
        refine V_ws [(h0, oC 13 [.ref h1, .ref h2, .int (u13.2.1 0), .ref h3, .ref h4, .int (nI k5), .int (nI k6), .int p7, .int p8, .int p9, .int (nI k10), .int p11, .long q12, .ref h5, .ref h6, .int (nI k15), .int (nI k16)]), (h1, aI Y 3640 f0), (h2, aZ Y 2 f1), (h3, aZ Y 80 f3), (h4, aB Y 1600 f4), (h5, aI Y 200 f13), (h6, aI Y 800 f14)] rfl ?_
        refine V_goto 43 B 47 dX12_strokeOf_43 (by decide) ?_
        exact V_iret 47 B dX12_strokeOf_47 (mkW [] [(u13.2.1 0)] [] [] [] []) trivial rfl
      ·
        refine V_iconst 34 B (v := (-1)) dX12_strokeOf_34 (by decide +kernel) ?_
        refine V_icmp_ne_t 35 B 46 dX12_strokeOf_35 (by decide) (fun z => by have z2 := x_eq z; rw [nI_toInt (show n20 < 2 ^ 31 by omega), show ((-1) : Int32).toInt = (-1) by decide +kernel] at z2; omega) ?_
        refine V_iconst 46 B (v := (-1)) dX12_strokeOf_46 (by decide +kernel) ?_
        exact V_iret 47 B dX12_strokeOf_47 (mkW [] [(u13.2.1 0)] [] [] [] []) trivial rfl)
theorem dX12_does_0 : decode cX12_does 0 = .ok (.aload_n 0, 1) := by decide +kernel
theorem dX12_does_1 : decode cX12_does 1 = .ok (.getfield 9, 3) := by decide +kernel
theorem dX12_does_4 : decode cX12_does 4 = .ok (.bipush 34, 2) := by decide +kernel
theorem dX12_does_6 : decode cX12_does 6 = .ok (.iconst 3, 1) := by decide +kernel
theorem dX12_does_7 : decode cX12_does 7 = .ok (.iload_n 1, 1) := by decide +kernel
theorem dX12_does_8 : decode cX12_does 8 = .ok (.imul, 1) := by decide +kernel
theorem dX12_does_9 : decode cX12_does 9 = .ok (.iadd, 1) := by decide +kernel
theorem dX12_does_10 : decode cX12_does 10 = .ok (.iconst 2, 1) := by decide +kernel
theorem dX12_does_11 : decode cX12_does 11 = .ok (.iadd, 1) := by decide +kernel
theorem dX12_does_12 : decode cX12_does 12 = .ok (.dup2, 1) := by decide +kernel
theorem dX12_does_13 : decode cX12_does 13 = .ok (.iaload, 1) := by decide +kernel
theorem dX12_does_14 : decode cX12_does 14 = .ok (.iconst 1, 1) := by decide +kernel
theorem dX12_does_15 : decode cX12_does 15 = .ok (.iadd, 1) := by decide +kernel
theorem dX12_does_16 : decode cX12_does 16 = .ok (.iastore, 1) := by decide +kernel
theorem dX12_does_17 : decode cX12_does 17 = .ok (.aload_n 0, 1) := by decide +kernel
theorem dX12_does_18 : decode cX12_does 18 = .ok (.getfield 9, 3) := by decide +kernel
theorem dX12_does_21 : decode cX12_does 21 = .ok (.bipush 11, 2) := by decide +kernel
theorem dX12_does_23 : decode cX12_does 23 = .ok (.iload_n 1, 1) := by decide +kernel
theorem dX12_does_24 : decode cX12_does 24 = .ok (.iastore, 1) := by decide +kernel
theorem dX12_does_25 : decode cX12_does 25 = .ok (.aload_n 0, 1) := by decide +kernel
theorem dX12_does_26 : decode cX12_does 26 = .ok (.iload_n 1, 1) := by decide +kernel
theorem dX12_does_27 : decode cX12_does 27 = .ok (.iconst 0, 1) := by decide +kernel
theorem dX12_does_28 : decode cX12_does 28 = .ok (.invokevirtual 102, 3) := by decide +kernel
theorem dX12_does_31 : decode cX12_does 31 = .ok (.istore_n 2, 1) := by decide +kernel
theorem dX12_does_32 : decode cX12_does 32 = .ok (.iload_n 2, 1) := by decide +kernel
theorem dX12_does_33 : decode cX12_does 33 = .ok (.iconst 1, 1) := by decide +kernel
theorem dX12_does_34 : decode cX12_does 34 = .ok (.if_icmp .ne 109, 3) := by decide +kernel
theorem dX12_does_143 : decode cX12_does 143 = .ok (.iload_n 2, 1) := by decide +kernel
theorem dX12_does_144 : decode cX12_does 144 = .ok (.iconst 2, 1) := by decide +kernel
theorem dX12_does_145 : decode cX12_does 145 = .ok (.if_icmp .ne 46, 3) := by decide +kernel
theorem dX12_does_191 : decode cX12_does 191 = .ok (.return_, 1) := by decide +kernel
theorem dX12_does_148 : decode cX12_does 148 = .ok (.aload_n 0, 1) := by decide +kernel
theorem dX12_does_149 : decode cX12_does 149 = .ok (.getfield 9, 3) := by decide +kernel
theorem dX12_does_152 : decode cX12_does 152 = .ok (.bipush 7, 2) := by decide +kernel
theorem dX12_does_154 : decode cX12_does 154 = .ok (.iaload, 1) := by decide +kernel
theorem dX12_does_155 : decode cX12_does 155 = .ok (.ifCond .le 36, 3) := by decide +kernel
theorem dX12_does_158 : decode cX12_does 158 = .ok (.aload_n 0, 1) := by decide +kernel
theorem dX12_does_159 : decode cX12_does 159 = .ok (.getfield 9, 3) := by decide +kernel
theorem dX12_does_162 : decode cX12_does 162 = .ok (.bipush 7, 2) := by decide +kernel
theorem dX12_does_164 : decode cX12_does 164 = .ok (.dup2, 1) := by decide +kernel
theorem dX12_does_165 : decode cX12_does 165 = .ok (.iaload, 1) := by decide +kernel
theorem dX12_does_166 : decode cX12_does 166 = .ok (.iconst 1, 1) := by decide +kernel
theorem dX12_does_167 : decode cX12_does 167 = .ok (.isub, 1) := by decide +kernel
theorem dX12_does_168 : decode cX12_does 168 = .ok (.iastore, 1) := by decide +kernel
theorem dX12_does_169 : decode cX12_does 169 = .ok (.aload_n 0, 1) := by decide +kernel
theorem dX12_does_170 : decode cX12_does 170 = .ok (.getfield 9, 3) := by decide +kernel
theorem dX12_does_173 : decode cX12_does 173 = .ok (.bipush 6, 2) := by decide +kernel
theorem dX12_does_175 : decode cX12_does 175 = .ok (.aload_n 0, 1) := by decide +kernel
theorem dX12_does_176 : decode cX12_does 176 = .ok (.getfield 9, 3) := by decide +kernel
theorem dX12_does_179 : decode cX12_does 179 = .ok (.bipush 22, 2) := by decide +kernel
theorem dX12_does_181 : decode cX12_does 181 = .ok (.aload_n 0, 1) := by decide +kernel
theorem dX12_does_182 : decode cX12_does 182 = .ok (.getfield 9, 3) := by decide +kernel
theorem dX12_does_185 : decode cX12_does 185 = .ok (.bipush 7, 2) := by decide +kernel
theorem dX12_does_187 : decode cX12_does 187 = .ok (.iaload, 1) := by decide +kernel
theorem dX12_does_188 : decode cX12_does 188 = .ok (.iadd, 1) := by decide +kernel
theorem dX12_does_189 : decode cX12_does 189 = .ok (.iaload, 1) := by decide +kernel
theorem rl16 : ∀ z0, z0 < 8 → bd (22 + z0) = ((-1), 5) := by decide +kernel
theorem dX12_does_190 : decode cX12_does 190 = .ok (.iastore, 1) := by decide +kernel
theorem dX12_does_37 : decode cX12_does 37 = .ok (.aload_n 0, 1) := by decide +kernel
theorem dX12_does_38 : decode cX12_does 38 = .ok (.getfield 9, 3) := by decide +kernel
theorem dX12_does_41 : decode cX12_does 41 = .ok (.bipush 7, 2) := by decide +kernel
theorem dX12_does_43 : decode cX12_does 43 = .ok (.iaload, 1) := by decide +kernel
theorem dX12_does_44 : decode cX12_does 44 = .ok (.bipush 8, 2) := by decide +kernel
theorem dX12_does_46 : decode cX12_does 46 = .ok (.if_icmp .ne 48, 3) := by decide +kernel
theorem dX12_does_94 : decode cX12_does 94 = .ok (.aload_n 0, 1) := by decide +kernel
theorem dX12_does_95 : decode cX12_does 95 = .ok (.getfield 9, 3) := by decide +kernel
theorem dX12_does_98 : decode cX12_does 98 = .ok (.bipush 22, 2) := by decide +kernel
theorem dX12_does_100 : decode cX12_does 100 = .ok (.aload_n 0, 1) := by decide +kernel
theorem dX12_does_101 : decode cX12_does 101 = .ok (.getfield 9, 3) := by decide +kernel
theorem dX12_does_104 : decode cX12_does 104 = .ok (.bipush 7, 2) := by decide +kernel
theorem dX12_does_106 : decode cX12_does 106 = .ok (.iaload, 1) := by decide +kernel
theorem dX12_does_107 : decode cX12_does 107 = .ok (.iadd, 1) := by decide +kernel
theorem dX12_does_108 : decode cX12_does 108 = .ok (.aload_n 0, 1) := by decide +kernel
theorem dX12_does_109 : decode cX12_does 109 = .ok (.getfield 9, 3) := by decide +kernel
theorem dX12_does_112 : decode cX12_does 112 = .ok (.bipush 6, 2) := by decide +kernel
theorem dX12_does_114 : decode cX12_does 114 = .ok (.iaload, 1) := by decide +kernel
theorem dX12_does_115 : decode cX12_does 115 = .ok (.iastore, 1) := by decide +kernel
theorem dX12_does_116 : decode cX12_does 116 = .ok (.aload_n 0, 1) := by decide +kernel
theorem dX12_does_117 : decode cX12_does 117 = .ok (.getfield 9, 3) := by decide +kernel
theorem dX12_does_120 : decode cX12_does 120 = .ok (.bipush 7, 2) := by decide +kernel
theorem dX12_does_122 : decode cX12_does 122 = .ok (.dup2, 1) := by decide +kernel
theorem dX12_does_123 : decode cX12_does 123 = .ok (.iaload, 1) := by decide +kernel
theorem dX12_does_124 : decode cX12_does 124 = .ok (.iconst 1, 1) := by decide +kernel
theorem dX12_does_125 : decode cX12_does 125 = .ok (.iadd, 1) := by decide +kernel
theorem dX12_does_126 : decode cX12_does 126 = .ok (.iastore, 1) := by decide +kernel
theorem dX12_does_127 : decode cX12_does 127 = .ok (.aload_n 0, 1) := by decide +kernel
theorem dX12_does_128 : decode cX12_does 128 = .ok (.getfield 9, 3) := by decide +kernel
theorem dX12_does_131 : decode cX12_does 131 = .ok (.bipush 6, 2) := by decide +kernel
theorem dX12_does_133 : decode cX12_does 133 = .ok (.aload_n 0, 1) := by decide +kernel
theorem dX12_does_134 : decode cX12_does 134 = .ok (.iload_n 1, 1) := by decide +kernel
theorem dX12_does_135 : decode cX12_does 135 = .ok (.iconst 1, 1) := by decide +kernel
theorem dX12_does_136 : decode cX12_does 136 = .ok (.invokevirtual 102, 3) := by decide +kernel
theorem dX12_does_139 : decode cX12_does 139 = .ok (.iastore, 1) := by decide +kernel
theorem dX12_does_140 : decode cX12_does 140 = .ok (.goto 51, 3) := by decide +kernel
theorem dX12_does_49 : decode cX12_does 49 = .ok (.iconst 1, 1) := by decide +kernel
theorem dX12_does_50 : decode cX12_does 50 = .ok (.istore_n 3, 1) := by decide +kernel
theorem dX12_does_51 : decode cX12_does 51 = .ok (.iload_n 3, 1) := by decide +kernel
theorem dX12_does_52 : decode cX12_does 52 = .ok (.bipush 8, 2) := by decide +kernel
theorem dX12_does_54 : decode cX12_does 54 = .ok (.if_icmp .ge 29, 3) := by decide +kernel
theorem dX12_does_83 : decode cX12_does 83 = .ok (.aload_n 0, 1) := by decide +kernel
theorem dX12_does_84 : decode cX12_does 84 = .ok (.getfield 9, 3) := by decide +kernel
theorem dX12_does_87 : decode cX12_does 87 = .ok (.bipush 7, 2) := by decide +kernel
theorem dX12_does_89 : decode cX12_does 89 = .ok (.dup2, 1) := by decide +kernel
theorem dX12_does_90 : decode cX12_does 90 = .ok (.iaload, 1) := by decide +kernel
theorem dX12_does_91 : decode cX12_does 91 = .ok (.iconst 1, 1) := by decide +kernel
theorem dX12_does_92 : decode cX12_does 92 = .ok (.isub, 1) := by decide +kernel
theorem dX12_does_93 : decode cX12_does 93 = .ok (.iastore, 1) := by decide +kernel
theorem dX12_does_57 : decode cX12_does 57 = .ok (.aload_n 0, 1) := by decide +kernel
theorem dX12_does_58 : decode cX12_does 58 = .ok (.getfield 9, 3) := by decide +kernel
theorem dX12_does_61 : decode cX12_does 61 = .ok (.bipush 22, 2) := by decide +kernel
theorem dX12_does_63 : decode cX12_does 63 = .ok (.iload_n 3, 1) := by decide +kernel
theorem dX12_does_64 : decode cX12_does 64 = .ok (.iadd, 1) := by decide +kernel
theorem dX12_does_65 : decode cX12_does 65 = .ok (.iconst 1, 1) := by decide +kernel
theorem dX12_does_66 : decode cX12_does 66 = .ok (.isub, 1) := by decide +kernel
theorem dX12_does_67 : decode cX12_does 67 = .ok (.aload_n 0, 1) := by decide +kernel
theorem dX12_does_68 : decode cX12_does 68 = .ok (.getfield 9, 3) := by decide +kernel
theorem dX12_does_71 : decode cX12_does 71 = .ok (.bipush 22, 2) := by decide +kernel
theorem dX12_does_73 : decode cX12_does 73 = .ok (.iload_n 3, 1) := by decide +kernel
theorem dX12_does_74 : decode cX12_does 74 = .ok (.iadd, 1) := by decide +kernel
theorem dX12_does_75 : decode cX12_does 75 = .ok (.iaload, 1) := by decide +kernel
theorem rl17 : ∀ z0, z0 < 8 → 1 ≤ z0 → bd (22 + z0) = ((-1), 5) := by decide +kernel
theorem dX12_does_76 : decode cX12_does 76 = .ok (.iastore, 1) := by decide +kernel
theorem rl18 : ∀ z0, z0 < 8 → 1 ≤ z0 → bd (21 + z0) = ((-1), 5) := by decide +kernel
theorem dX12_does_77 : decode cX12_does 77 = .ok (.iinc 3 1, 3) := by decide +kernel
theorem dX12_does_80 : decode cX12_does 80 = .ok (.goto (-29), 3) := by decide +kernel
set_option maxRecDepth 100000 in
set_option maxHeartbeats 4000000 in
theorem rX12_does (l : Launch) (D : va_G) (Y : Nat → ClassId) (h0 : Nat) (h1 : Nat) (h2 : Nat) (h3 : Nat) (h4 : Nat) (h5 : Nat) (h6 : Nat) (p2 : Int32) (k5 : Nat) (k6 : Nat) (p7 : Int32) (p8 : Int32) (p9 : Int32) (k10 : Nat) (p11 : Int32) (q12 : Int64) (k15 : Nat) (k16 : Nat) (f0 : Nat → Int32) (f1 : Nat → Int32) (f3 : Nat → Int32) (f4 : Nat → Int32) (f13 : Nat → Int32) (f14 : Nat → Int32) (ph : Nat → Int32) (HI : INV ph f0) (HL : k5 ≤ 1600) (HP : PLV f13) (s0 : Nat) (hn0 : s0 < 40) (sz : Nat) : Met l yX12_does (WSm yX12_does cX12_does 4 none) (mkR 1 0 0 22) (PreC D Y [.ref h0, .int (nI s0)] [(h0, oC 13 [.ref h1, .ref h2, .int p2, .ref h3, .ref h4, .int (nI k5), .int (nI k6), .int p7, .int p8, .int p9, .int (nI k10), .int p11, .long q12, .ref h5, .ref h6, .int (nI k15), .int (nI k16)]), (h1, aI Y 3640 f0), (h2, aZ Y 2 f1), (h3, aZ Y 80 f3), (h4, aB Y 1600 f4), (h5, aI Y 200 f13), (h6, aI Y 800 f14)] sz) (QV D (fun (u : WU) => INV ph (u.2.2.2.1 0)) (fun (u : WU) => [(h0, oC 13 [.ref h1, .ref h2, .int p2, .ref h3, .ref h4, .int (nI k5), .int (nI k6), .int p7, .int p8, .int p9, .int (nI k10), .int p11, .long q12, .ref h5, .ref h6, .int (nI k15), .int (nI k16)]), (h1, aI Y 3640 (u.2.2.2.1 0)), (h2, aZ Y 2 f1), (h3, aZ Y 80 f3), (h4, aB Y 1600 f4), (h5, aI Y 200 f13), (h6, aI Y 800 f14)]) (va_A [(h0, oC 13 [.ref h1, .ref h2, .int p2, .ref h3, .ref h4, .int (nI k5), .int (nI k6), .int p7, .int p8, .int p9, .int (nI k10), .int p11, .long q12, .ref h5, .ref h6, .int (nI k15), .int (nI k16)]), (h1, aI Y 3640 f0), (h2, aZ Y 2 f1), (h3, aZ Y 80 f3), (h4, aB Y 1600 f4), (h5, aI Y 200 f13), (h6, aI Y 800 f14)] sz)) 0 0 (va_A [(h0, oC 13 [.ref h1, .ref h2, .int p2, .ref h3, .ref h4, .int (nI k5), .int (nI k6), .int p7, .int p8, .int p9, .int (nI k10), .int p11, .long q12, .ref h5, .ref h6, .int (nI k15), .int (nI k16)]), (h1, aI Y 3640 f0), (h2, aZ Y 2 f1), (h3, aZ Y 80 f3), (h4, aB Y 1600 f4), (h5, aI Y 200 f13), (h6, aI Y 800 f14)] sz) :=
  met_of  (by decide +kernel) (Nat.le_of_ble_eq_true rfl) (fun p e s m args below meth c B hin hsz => by
    have B : VB p s m args meth c D Y (va_A [(h0, oC 13 [.ref h1, .ref h2, .int p2, .ref h3, .ref h4, .int (nI k5), .int (nI k6), .int p7, .int p8, .int p9, .int (nI k10), .int p11, .long q12, .ref h5, .ref h6, .int (nI k15), .int (nI k16)]), (h1, aI Y 3640 f0), (h2, aZ Y 2 f1), (h3, aZ Y 80 f3), (h4, aB Y 1600 f4), (h5, aI Y 200 f13), (h6, aI Y 800 f14)] sz) cX12_does 4 RX12 none := B
    refine V_aload_n 0 B dX12_does_0 0 rfl ?_
    refine V_get 1 B gf_RX12_9 0 rfl rfl dX12_does_1 ?_
    refine V_bipush 4 B (v := 34) dX12_does_4 (by decide +kernel) ?_
    refine V_iconst 6 B (v := 3) dX12_does_6 (by decide +kernel) ?_
    refine V_iload_n 7 B dX12_does_7 1 rfl ?_
    refine V_imul 8 B (v := (nI (3 * s0))) dX12_does_8 (nI_mulE (a := 3) (b := s0) (by omega)) ?_
    refine V_iadd 9 B (v := (nI (34 + 3 * s0))) dX12_does_9 (nI_addE (a := 34) (b := 3 * s0) (by omega)) ?_
    refine V_iconst 10 B (v := 2) dX12_does_10 (by decide +kernel) ?_
    refine V_iadd 11 B (v := (nI (36 + 3 * s0))) dX12_does_11 (nI_addE (a := 34 + 3 * s0) (b := 2) (by omega)) ?_
    refine V_dup2_11 12 B dX12_does_12 rfl rfl ?_
    refine V_iald 13 B (v := f0 (36 + 3 * s0)) 1 rfl (vp_in_nI (n := 36 + 3 * s0) (by omega) (by decide)) dX12_does_13 (by rw [nI_clamp (show 36 + 3 * s0 < 2 ^ 31 by omega)]) ?_
    refine V_nmi (fun j0 e1 => ?_)
    refine V_iconst 14 B (v := 1) dX12_does_14 (by decide +kernel) ?_
    refine V_iadd 15 B dX12_does_15 rfl ?_
    refine V_nmi (fun j2 e3 => ?_)
    have hv4 : INV ph (upd f0 (36 + 3 * s0) j2) := INV_free HI (rl9 s0 (by omega))
    refine V_iast 16 B 1 rfl (vp_in_nI (n := 36 + 3 * s0) (by omega) (by decide)) dX12_does_16 [(h0, oC 13 [.ref h1, .ref h2, .int p2, .ref h3, .ref h4, .int (nI k5), .int (nI k6), .int p7, .int p8, .int p9, .int (nI k10), .int p11, .long q12, .ref h5, .ref h6, .int (nI k15), .int (nI k16)]), (h1, aI Y 3640 (upd f0 (36 + 3 * s0) j2)), (h2, aZ Y 2 f1), (h3, aZ Y 80 f3), (h4, aB Y 1600 f4), (h5, aI Y 200 f13), (h6, aI Y 800 f14)] (by rw [nI_clamp (show 36 + 3 * s0 < 2 ^ 31 by omega)]; rfl) ?_
    refine V_aload_n 17 B dX12_does_17 0 rfl ?_
    refine V_get 18 B gf_RX12_9 0 rfl rfl dX12_does_18 ?_
    refine V_bipush 21 B (v := 11) dX12_does_21 (by decide +kernel) ?_
    refine V_iload_n 23 B dX12_does_23 1 rfl ?_
    have hv5 : INV ph (upd (upd f0 (36 + 3 * s0) j2) 11 (nI s0)) := INV_free hv4 (show bd 11 = FREE by decide +kernel)
    refine V_iast 24 B 1 rfl (vpin _ _ (by decide +kernel)) dX12_does_24 [(h0, oC 13 [.ref h1, .ref h2, .int p2, .ref h3, .ref h4, .int (nI k5), .int (nI k6), .int p7, .int p8, .int p9, .int (nI k10), .int p11, .long q12, .ref h5, .ref h6, .int (nI k15), .int (nI k16)]), (h1, aI Y 3640 (upd (upd f0 (36 + 3 * s0) j2) 11 (nI s0))), (h2, aZ Y 2 f1), (h3, aZ Y 80 f3), (h4, aB Y 1600 f4), (h5, aI Y 200 f13), (h6, aI Y 800 f14)] rfl ?_
    refine V_aload_n 25 B dX12_does_25 0 rfl ?_
    refine V_iload_n 26 B dX12_does_26 1 rfl ?_
    refine V_iconst 27 B (v := 0) dX12_does_27 (by decide +kernel) ?_
    refine V_cvi 28 B (st := []) (As := [.int (nI s0), .int 0]) (fun sz => rX12_ofCommand l D Y h0 h1 h2 h3 h4 h5 h6 p2 k5 k6 p7 p8 p9 k10 p11 q12 k15 k16 (upd (upd f0 (36 + 3 * s0) j2) 11 (nI s0)) f1 f3 f4 f13 f14 ph hv5 (by omega) HP s0 0 (by omega) (by omega) sz) glV_RX12_102 ⟨rfl, rfl⟩ ⟨(Nat.le_of_ble_eq_true rfl), (Nat.le_of_ble_eq_true rfl)⟩ ⟨(Nat.le_of_ble_eq_true rfl), (Nat.le_of_ble_eq_true rfl)⟩ [0, 0, 0, 0, 0, 0, 0] rfl 13 0 rfl rfl rfl rfl (Nat.le_of_ble_eq_true rfl) rfl (fun _ _ _ => rfl) dX12_does_28 (fun j6 u7 w8 => ?_)
    refine V_ws [(h0, oC 13 [.ref h1, .ref h2, .int p2, .ref h3, .ref h4, .int (nI k5), .int (nI k6), .int p7, .int p8, .int p9, .int (nI k10), .int p11, .long q12, .ref h5, .ref h6, .int (nI k15), .int (nI k16)]), (h1, aI Y 3640 (upd (upd f0 (36 + 3 * s0) j2) 11 (nI s0))), (h2, aZ Y 2 f1), (h3, aZ Y 80 f3), (h4, aB Y 1600 f4), (h5, aI Y 200 f13), (h6, aI Y 800 f14)] rfl ?_
    have x9 := w8
    clear w8
    refine V_istore_n 31 B (lv2 := [(2, .int j6), (0, .ref h0), (1, .int (nI s0))]) dX12_does_31 (by decide) rfl ?_
    refine V_iload_n 32 B dX12_does_32 0 rfl ?_
    refine V_iconst 33 B (v := 1) dX12_does_33 (by decide +kernel) ?_
    refine V_icmp_ne 34 B 143 dX12_does_34 (by decide) (fun kk10 => ?_) (fun kk10 => ?_)
    ·
      have x11 := x_ne kk10
      rw [show (1 : Int32).toInt = 1 by decide +kernel] at x11
      refine V_iload_n 143 B dX12_does_143 0 rfl ?_
      refine V_iconst 144 B (v := 2) dX12_does_144 (by decide +kernel) ?_
      refine V_icmp_ne 145 B 191 dX12_does_145 (by decide) (fun kk12 => ?_) (fun kk12 => ?_)
      ·
        have x13 := x_ne kk12
        rw [show (2 : Int32).toInt = 2 by decide +kernel] at x13
        exact V_vret 191 B dX12_does_191 (mkW [] [] [] [(upd (upd f0 (36 + 3 * s0) j2) 11 (nI s0))] [] []) hv5 rfl
      ·
        obtain rfl : j6 = 2 := kk12
        have e15 : (2 : Int32).toInt = 2 := by decide +kernel
        refine V_aload_n 148 B dX12_does_148 1 rfl ?_
        refine V_get 149 B gf_RX12_9 0 rfl rfl dX12_does_149 ?_
        refine V_bipush 152 B (v := 7) dX12_does_152 (by decide +kernel) ?_
        have x16 : (gN f0 7) ≤ 8 := gN_le HI (by omega) (show bd 7 = (0, ((8 : Nat) : Int)) by decide +kernel)
        refine V_iald 154 B (v := (nI (gN f0 7))) 1 rfl (vpin _ _ (by decide +kernel)) dX12_does_154 (by show (upd (upd f0 (36 + 3 * s0) j2) 11 (nI s0)) 7 = _; rw [upd_ne (by omega)]; rw [upd_ne (by omega)]; exact gN_eq HI (by omega) (show bd 7 = (0, ((8 : Nat) : Int)) by decide +kernel)) ?_
        refine V_if_le 155 B 191 dX12_does_155 (by decide) (fun kk17 => ?_) (fun kk17 => ?_)
        ·
          have x18 := n_le (a := (gN f0 7)) (b := 0) kk17 (by omega) (by omega)
          exact V_vret 191 B dX12_does_191 (mkW [] [] [] [(upd (upd f0 (36 + 3 * s0) j2) 11 (nI s0))] [] []) hv5 rfl
        ·
          have x19 := n_nle (a := (gN f0 7)) (b := 0) kk17 (by omega) (by omega)
          refine V_aload_n 158 B dX12_does_158 1 rfl ?_
          refine V_get 159 B gf_RX12_9 0 rfl rfl dX12_does_159 ?_
          refine V_bipush 162 B (v := 7) dX12_does_162 (by decide +kernel) ?_
          refine V_dup2_11 164 B dX12_does_164 rfl rfl ?_
          have x20 : (gN f0 7) ≤ 8 := gN_le HI (by omega) (show bd 7 = (0, ((8 : Nat) : Int)) by decide +kernel)
          refine V_iald 165 B (v := (nI (gN f0 7))) 1 rfl (vpin _ _ (by decide +kernel)) dX12_does_165 (by show (upd (upd f0 (36 + 3 * s0) j2) 11 (nI s0)) 7 = _; rw [upd_ne (by omega)]; rw [upd_ne (by omega)]; exact gN_eq HI (by omega) (show bd 7 = (0, ((8 : Nat) : Int)) by decide +kernel)) ?_
          refine V_iconst 166 B (v := 1) dX12_does_166 (by decide +kernel) ?_
          refine V_isub 167 B (v := (nI (((gN f0 7) - 1)))) dX12_does_167 (nI_subE (a := (gN f0 7)) (b := 1) (by omega)) ?_
          have hv21 : INV ph (upd (upd (upd f0 (36 + 3 * s0) j2) 11 (nI s0)) 7 (nI (((gN f0 7) - 1)))) := INV_nat (v := ((gN f0 7) - 1)) hv5 (show bd 7 = (0, ((8 : Nat) : Int)) by decide +kernel) (by omega) (by decide)
          refine V_iast 168 B 1 rfl (vpin _ _ (by decide +kernel)) dX12_does_168 [(h0, oC 13 [.ref h1, .ref h2, .int p2, .ref h3, .ref h4, .int (nI k5), .int (nI k6), .int p7, .int p8, .int p9, .int (nI k10), .int p11, .long q12, .ref h5, .ref h6, .int (nI k15), .int (nI k16)]), (h1, aI Y 3640 (upd (upd (upd f0 (36 + 3 * s0) j2) 11 (nI s0)) 7 (nI (((gN f0 7) - 1))))), (h2, aZ Y 2 f1), (h3, aZ Y 80 f3), (h4, aB Y 1600 f4), (h5, aI Y 200 f13), (h6, aI Y 800 f14)] rfl ?_
          refine V_aload_n 169 B dX12_does_169 1 rfl ?_
          refine V_get 170 B gf_RX12_9 0 rfl rfl dX12_does_170 ?_
          refine V_bipush 173 B (v := 6) dX12_does_173 (by decide +kernel) ?_
          refine V_aload_n 175 B dX12_does_175 1 rfl ?_
          refine V_get 176 B gf_RX12_9 0 rfl rfl dX12_does_176 ?_
          refine V_bipush 179 B (v := 22) dX12_does_179 (by decide +kernel) ?_
          refine V_aload_n 181 B dX12_does_181 1 rfl ?_
          refine V_get 182 B gf_RX12_9 0 rfl rfl dX12_does_182 ?_
          refine V_bipush 185 B (v := 7) dX12_does_185 (by decide +kernel) ?_
          refine V_iald 187 B (v := (nI (((gN f0 7) - 1)))) 1 rfl (vpin _ _ (by decide +kernel)) dX12_does_187 (by show (upd (upd (upd f0 (36 + 3 * s0) j2) 11 (nI s0)) 7 (nI (((gN f0 7) - 1)))) 7 = _; exact upd_at) ?_
          refine V_iadd 188 B (v := (nI (22 + ((gN f0 7) - 1)))) dX12_does_188 (nI_addE (a := 22) (b := ((gN f0 7) - 1)) (by omega)) ?_
          refine V_iald 189 B (v := f0 (22 + ((gN f0 7) - 1))) 1 rfl (vp_in_nI (n := 22 + ((gN f0 7) - 1)) (by omega) (by decide)) dX12_does_189 (by rw [nI_clamp (show 22 + ((gN f0 7) - 1) < 2 ^ 31 by omega)]; rw [upd_ne (by omega)]; rw [upd_ne (by omega)]; rw [upd_ne (by omega)]) ?_
          refine V_nmi (fun j22 e23 => ?_)
          have x24 : (-1) ≤ j22.toInt ∧ j22.toInt ≤ 5 := by rw [e23]; exact ⟨INV_lo HI (by omega) (rl16 ((gN f0 7) - 1) (by omega)), INV_hi HI (by omega) (rl16 ((gN f0 7) - 1) (by omega))⟩
          have hv25 : INV ph (upd (upd (upd (upd f0 (36 + 3 * s0) j2) 11 (nI s0)) 7 (nI (((gN f0 7) - 1)))) 6 j22) := INV_upd hv21 (show bd 6 = ((-1), 5) by decide +kernel) (by omega) (by omega)
          refine V_iast 190 B 1 rfl (vpin _ _ (by decide +kernel)) dX12_does_190 [(h0, oC 13 [.ref h1, .ref h2, .int p2, .ref h3, .ref h4, .int (nI k5), .int (nI k6), .int p7, .int p8, .int p9, .int (nI k10), .int p11, .long q12, .ref h5, .ref h6, .int (nI k15), .int (nI k16)]), (h1, aI Y 3640 (upd (upd (upd (upd f0 (36 + 3 * s0) j2) 11 (nI s0)) 7 (nI (((gN f0 7) - 1)))) 6 j22)), (h2, aZ Y 2 f1), (h3, aZ Y 80 f3), (h4, aB Y 1600 f4), (h5, aI Y 200 f13), (h6, aI Y 800 f14)] rfl ?_
          exact V_vret 191 B dX12_does_191 (mkW [] [] [] [(upd (upd (upd (upd f0 (36 + 3 * s0) j2) 11 (nI s0)) 7 (nI (((gN f0 7) - 1)))) 6 j22)] [] []) hv25 rfl
    ·
      obtain rfl : j6 = 1 := kk10
      have e27 : (1 : Int32).toInt = 1 := by decide +kernel
      refine V_aload_n 37 B dX12_does_37 1 rfl ?_
      refine V_get 38 B gf_RX12_9 0 rfl rfl dX12_does_38 ?_
      refine V_bipush 41 B (v := 7) dX12_does_41 (by decide +kernel) ?_
      have x28 : (gN f0 7) ≤ 8 := gN_le HI (by omega) (show bd 7 = (0, ((8 : Nat) : Int)) by decide +kernel)
      refine V_iald 43 B (v := (nI (gN f0 7))) 1 rfl (vpin _ _ (by decide +kernel)) dX12_does_43 (by show (upd (upd f0 (36 + 3 * s0) j2) 11 (nI s0)) 7 = _; rw [upd_ne (by omega)]; rw [upd_ne (by omega)]; exact gN_eq HI (by omega) (show bd 7 = (0, ((8 : Nat) : Int)) by decide +kernel)) ?_
      refine V_bipush 44 B (v := 8) dX12_does_44 (by decide +kernel) ?_
      refine V_icmp_ne 46 B 94 dX12_does_46 (by decide) (fun kk29 => ?_) (fun kk29 => ?_)
      ·
        have x30 := n_ne (a := (gN f0 7)) (b := 8) kk29
        refine V_aload_n 94 B dX12_does_94 1 rfl ?_
        refine V_get 95 B gf_RX12_9 0 rfl rfl dX12_does_95 ?_
        refine V_bipush 98 B (v := 22) dX12_does_98 (by decide +kernel) ?_
        refine V_aload_n 100 B dX12_does_100 1 rfl ?_
        refine V_get 101 B gf_RX12_9 0 rfl rfl dX12_does_101 ?_
        refine V_bipush 104 B (v := 7) dX12_does_104 (by decide +kernel) ?_
        have x31 : (gN f0 7) ≤ 8 := gN_le HI (by omega) (show bd 7 = (0, ((8 : Nat) : Int)) by decide +kernel)
        refine V_iald 106 B (v := (nI (gN f0 7))) 1 rfl (vpin _ _ (by decide +kernel)) dX12_does_106 (by show (upd (upd f0 (36 + 3 * s0) j2) 11 (nI s0)) 7 = _; rw [upd_ne (by omega)]; rw [upd_ne (by omega)]; exact gN_eq HI (by omega) (show bd 7 = (0, ((8 : Nat) : Int)) by decide +kernel)) ?_
        refine V_iadd 107 B (v := (nI (22 + (gN f0 7)))) dX12_does_107 (nI_addE (a := 22) (b := (gN f0 7)) (by omega)) ?_
        refine V_aload_n 108 B dX12_does_108 1 rfl ?_
        refine V_get 109 B gf_RX12_9 0 rfl rfl dX12_does_109 ?_
        refine V_bipush 112 B (v := 6) dX12_does_112 (by decide +kernel) ?_
        refine V_iald 114 B (v := f0 (6)) 1 rfl (vpin _ _ (by decide +kernel)) dX12_does_114 (by show (upd (upd f0 (36 + 3 * s0) j2) 11 (nI s0)) 6 = _; rw [upd_ne (by omega)]; rw [upd_ne (by omega)]) ?_
        refine V_nmi (fun j32 e33 => ?_)
        have x34 : (-1) ≤ j32.toInt ∧ j32.toInt ≤ 5 := by rw [e33]; exact ⟨INV_lo HI (by omega) (show bd 6 = ((-1), 5) by decide +kernel), INV_hi HI (by omega) (show bd 6 = ((-1), 5) by decide +kernel)⟩
        have hv35 : INV ph (upd (upd (upd f0 (36 + 3 * s0) j2) 11 (nI s0)) (22 + (gN f0 7)) j32) := INV_upd hv5 (rl16 (gN f0 7) (by omega)) (by omega) (by omega)
        refine V_iast 115 B 1 rfl (vp_in_nI (n := 22 + (gN f0 7)) (by omega) (by decide)) dX12_does_115 [(h0, oC 13 [.ref h1, .ref h2, .int p2, .ref h3, .ref h4, .int (nI k5), .int (nI k6), .int p7, .int p8, .int p9, .int (nI k10), .int p11, .long q12, .ref h5, .ref h6, .int (nI k15), .int (nI k16)]), (h1, aI Y 3640 (upd (upd (upd f0 (36 + 3 * s0) j2) 11 (nI s0)) (22 + (gN f0 7)) j32)), (h2, aZ Y 2 f1), (h3, aZ Y 80 f3), (h4, aB Y 1600 f4), (h5, aI Y 200 f13), (h6, aI Y 800 f14)] (by rw [nI_clamp (show 22 + (gN f0 7) < 2 ^ 31 by omega)]; rfl) ?_
        refine V_aload_n 116 B dX12_does_116 1 rfl ?_
        refine V_get 117 B gf_RX12_9 0 rfl rfl dX12_does_117 ?_
        refine V_bipush 120 B (v := 7) dX12_does_120 (by decide +kernel) ?_
        refine V_dup2_11 122 B dX12_does_122 rfl rfl ?_
        have x36 : (gN f0 7) ≤ 8 := gN_le HI (by omega) (show bd 7 = (0, ((8 : Nat) : Int)) by decide +kernel)
        refine V_iald 123 B (v := (nI (gN f0 7))) 1 rfl (vpin _ _ (by decide +kernel)) dX12_does_123 (by show (upd (upd (upd f0 (36 + 3 * s0) j2) 11 (nI s0)) (22 + (gN f0 7)) j32) 7 = _; rw [upd_ne (by omega)]; rw [upd_ne (by omega)]; rw [upd_ne (by omega)]; exact gN_eq HI (by omega) (show bd 7 = (0, ((8 : Nat) : Int)) by decide +kernel)) ?_
        refine V_iconst 124 B (v := 1) dX12_does_124 (by decide +kernel) ?_
        refine V_iadd 125 B (v := (nI (1 + (gN f0 7)))) dX12_does_125 (nI_addE (a := (gN f0 7)) (b := 1) (by omega)) ?_
        have hv37 : INV ph (upd (upd (upd (upd f0 (36 + 3 * s0) j2) 11 (nI s0)) (22 + (gN f0 7)) j32) 7 (nI (1 + (gN f0 7)))) := INV_nat (v := 1 + (gN f0 7)) hv35 (show bd 7 = (0, ((8 : Nat) : Int)) by decide +kernel) (by omega) (by decide)
        refine V_iast 126 B 1 rfl (vpin _ _ (by decide +kernel)) dX12_does_126 [(h0, oC 13 [.ref h1, .ref h2, .int p2, .ref h3, .ref h4, .int (nI k5), .int (nI k6), .int p7, .int p8, .int p9, .int (nI k10), .int p11, .long q12, .ref h5, .ref h6, .int (nI k15), .int (nI k16)]), (h1, aI Y 3640 (upd (upd (upd (upd f0 (36 + 3 * s0) j2) 11 (nI s0)) (22 + (gN f0 7)) j32) 7 (nI (1 + (gN f0 7))))), (h2, aZ Y 2 f1), (h3, aZ Y 80 f3), (h4, aB Y 1600 f4), (h5, aI Y 200 f13), (h6, aI Y 800 f14)] rfl ?_
        refine V_aload_n 127 B dX12_does_127 1 rfl ?_
        refine V_get 128 B gf_RX12_9 0 rfl rfl dX12_does_128 ?_
        refine V_bipush 131 B (v := 6) dX12_does_131 (by decide +kernel) ?_
        refine V_aload_n 133 B dX12_does_133 1 rfl ?_
        refine V_iload_n 134 B dX12_does_134 2 rfl ?_
        refine V_iconst 135 B (v := 1) dX12_does_135 (by decide +kernel) ?_
        refine V_cvi 136 B (st := [.int 6, .ref h1]) (As := [.int (nI s0), .int 1]) (fun sz => rX12_ofCommand l D Y h0 h1 h2 h3 h4 h5 h6 p2 k5 k6 p7 p8 p9 k10 p11 q12 k15 k16 (upd (upd (upd (upd f0 (36 + 3 * s0) j2) 11 (nI s0)) (22 + (gN f0 7)) j32) 7 (nI (1 + (gN f0 7)))) f1 f3 f4 f13 f14 ph hv37 (by omega) HP s0 1 (by omega) (by omega) sz) glV_RX12_102 ⟨rfl, rfl⟩ ⟨(Nat.le_of_ble_eq_true rfl), (Nat.le_of_ble_eq_true rfl)⟩ ⟨(Nat.le_of_ble_eq_true rfl), (Nat.le_of_ble_eq_true rfl)⟩ [0, 0, 0, 0, 0, 0, 0] rfl 13 0 rfl rfl rfl rfl (Nat.le_of_ble_eq_true rfl) rfl (fun _ _ _ => rfl) dX12_does_136 (fun j38 u39 w40 => ?_)
        refine V_ws [(h0, oC 13 [.ref h1, .ref h2, .int p2, .ref h3, .ref h4, .int (nI k5), .int (nI k6), .int p7, .int p8, .int p9, .int (nI k10), .int p11, .long q12, .ref h5, .ref h6, .int (nI k15), .int (nI k16)]), (h1, aI Y 3640 (upd (upd (upd (upd f0 (36 + 3 * s0) j2) 11 (nI s0)) (22 + (gN f0 7)) j32) 7 (nI (1 + (gN f0 7))))), (h2, aZ Y 2 f1), (h3, aZ Y 80 f3), (h4, aB Y 1600 f4), (h5, aI Y 200 f13), (h6, aI Y 800 f14)] rfl ?_
        have x41 := w40
        clear w40
        have x42 := x41 rfl
        have hv43 : INV ph (upd (upd (upd (upd (upd f0 (36 + 3 * s0) j2) 11 (nI s0)) (22 + (gN f0 7)) j32) 7 (nI (1 + (gN f0 7)))) 6 j38) := INV_upd hv37 (show bd 6 = ((-1), 5) by decide +kernel) (by omega) (by omega)
        refine V_iast 139 B 1 rfl (vpin _ _ (by decide +kernel)) dX12_does_139 [(h0, oC 13 [.ref h1, .ref h2, .int p2, .ref h3, .ref h4, .int (nI k5), .int (nI k6), .int p7, .int p8, .int p9, .int (nI k10), .int p11, .long q12, .ref h5, .ref h6, .int (nI k15), .int (nI k16)]), (h1, aI Y 3640 (upd (upd (upd (upd (upd f0 (36 + 3 * s0) j2) 11 (nI s0)) (22 + (gN f0 7)) j32) 7 (nI (1 + (gN f0 7)))) 6 j38)), (h2, aZ Y 2 f1), (h3, aZ Y 80 f3), (h4, aB Y 1600 f4), (h5, aI Y 200 f13), (h6, aI Y 800 f14)] rfl ?_
        refine V_goto 140 B 191 dX12_does_140 (by decide) ?_
        exact V_vret 191 B dX12_does_191 (mkW [] [] [] [(upd (upd (upd (upd (upd f0 (36 + 3 * s0) j2) 11 (nI s0)) (22 + (gN f0 7)) j32) 7 (nI (1 + (gN f0 7)))) 6 j38)] [] []) hv43 rfl
      ·
        have x44 := n_eq (a := (gN f0 7)) (b := 8) kk29 (by omega) (by omega)
        refine V_iconst 49 B (v := 1) dX12_does_49 (by decide +kernel) ?_
        refine V_istore_n 50 B (lv2 := [(3, .int 1), (2, .int 1), (0, .ref h0), (1, .int (nI s0))]) dX12_does_50 (by decide) rfl ?_
        refine V_wloop (α := WU) (fun a => 100000 - (a.1 0)) (fun a => INV ph (a.2.2.2.1 0) ∧ (a.1 0) ≤ 4000 ∧ 1 ≤ (a.1 0) ∧ gN (a.2.2.2.1 0) 7 = 8) (fun a => [(3, .int (nI (a.1 0))), (2, .int 1), (0, .ref h0), (1, .int (nI s0))]) (fun a => [(h0, oC 13 [.ref h1, .ref h2, .int p2, .ref h3, .ref h4, .int (nI k5), .int (nI k6), .int p7, .int p8, .int p9, .int (nI k10), .int p11, .long q12, .ref h5, .ref h6, .int (nI k15), .int (nI k16)]), (h1, aI Y 3640 (a.2.2.2.1 0)), (h2, aZ Y 2 f1), (h3, aZ Y 80 f3), (h4, aB Y 1600 f4), (h5, aI Y 200 f13), (h6, aI Y 800 f14)]) (mkW [1] [] [] [(upd (upd f0 (36 + 3 * s0) j2) 11 (nI s0))] [] []) ⟨hv5, (show 1 ≤ 4000 by omega), (show 1 ≤ 1 by omega), (show gN ((upd (upd f0 (36 + 3 * s0) j2) 11 (nI s0))) 7 = 8 by rw [gN_ne (by omega)]; rw [gN_ne (by omega)]; omega)⟩ rfl rfl (fun a45 hI47 IH46 => ?_)
        refine V_lv [(3, .int (nI (a45.1 0))), (2, .int 1), (0, .ref h0), (1, .int (nI s0))] [0, 1, 2, 3] rfl ?_
        refine V_ws [(h0, oC 13 [.ref h1, .ref h2, .int p2, .ref h3, .ref h4, .int (nI k5), .int (nI k6), .int p7, .int p8, .int p9, .int (nI k10), .int p11, .long q12, .ref h5, .ref h6, .int (nI k15), .int (nI k16)]), (h1, aI Y 3640 (a45.2.2.2.1 0)), (h2, aZ Y 2 f1), (h3, aZ Y 80 f3), (h4, aB Y 1600 f4), (h5, aI Y 200 f13), (h6, aI Y 800 f14)] rfl ?_
        obtain ⟨x48, x49, x50, x51⟩ := hI47
        refine V_iload_n 51 B dX12_does_51 0 rfl ?_
        refine V_bipush 52 B (v := 8) dX12_does_52 (by decide +kernel) ?_
        refine V_icmp_ge 54 B 83 dX12_does_54 (by decide) (fun kk52 => ?_) (fun kk52 => ?_)
        ·
          have x53 := n_le (a := 8) (b := (a45.1 0)) kk52 (by omega) (by omega)
          refine V_aload_n 83 B dX12_does_83 2 rfl ?_
          refine V_get 84 B gf_RX12_9 0 rfl rfl dX12_does_84 ?_
          refine V_bipush 87 B (v := 7) dX12_does_87 (by decide +kernel) ?_
          refine V_dup2_11 89 B dX12_does_89 rfl rfl ?_
          have x54 : (gN (a45.2.2.2.1 0) 7) ≤ 8 := gN_le x48 (by omega) (show bd 7 = (0, ((8 : Nat) : Int)) by decide +kernel)
          refine V_iald 90 B (v := (nI ((gN (a45.2.2.2.1 0) 7)))) 1 rfl (vpin _ _ (by decide +kernel)) dX12_does_90 (by show (a45.2.2.2.1 0) 7 = _; exact gN_eq x48 (by omega) (show bd 7 = (0, ((8 : Nat) : Int)) by decide +kernel)) ?_
          refine V_iconst 91 B (v := 1) dX12_does_91 (by decide +kernel) ?_
          refine V_isub 92 B (v := (nI (((gN (a45.2.2.2.1 0) 7) - 1)))) dX12_does_92 (nI_subE (a := (gN (a45.2.2.2.1 0) 7)) (b := 1) (by omega)) ?_
          have hv55 : INV ph (upd (a45.2.2.2.1 0) 7 (nI (((gN (a45.2.2.2.1 0) 7) - 1)))) := INV_nat (v := ((gN (a45.2.2.2.1 0) 7) - 1)) x48 (show bd 7 = (0, ((8 : Nat) : Int)) by decide +kernel) (by omega) (by decide)
          refine V_iast 93 B 1 rfl (vpin _ _ (by decide +kernel)) dX12_does_93 [(h0, oC 13 [.ref h1, .ref h2, .int p2, .ref h3, .ref h4, .int (nI k5), .int (nI k6), .int p7, .int p8, .int p9, .int (nI k10), .int p11, .long q12, .ref h5, .ref h6, .int (nI k15), .int (nI k16)]), (h1, aI Y 3640 (upd (a45.2.2.2.1 0) 7 (nI (((gN (a45.2.2.2.1 0) 7) - 1))))), (h2, aZ Y 2 f1), (h3, aZ Y 80 f3), (h4, aB Y 1600 f4), (h5, aI Y 200 f13), (h6, aI Y 800 f14)] rfl ?_
          refine V_aload_n 94 B dX12_does_94 2 rfl ?_
          refine V_get 95 B gf_RX12_9 0 rfl rfl dX12_does_95 ?_
          refine V_bipush 98 B (v := 22) dX12_does_98 (by decide +kernel) ?_
          refine V_aload_n 100 B dX12_does_100 2 rfl ?_
          refine V_get 101 B gf_RX12_9 0 rfl rfl dX12_does_101 ?_
          refine V_bipush 104 B (v := 7) dX12_does_104 (by decide +kernel) ?_
          refine V_iald 106 B (v := (nI (((gN (a45.2.2.2.1 0) 7) - 1)))) 1 rfl (vpin _ _ (by decide +kernel)) dX12_does_106 (by show (upd (a45.2.2.2.1 0) 7 (nI (((gN (a45.2.2.2.1 0) 7) - 1)))) 7 = _; exact upd_at) ?_
          refine V_iadd 107 B (v := (nI (22 + ((gN (a45.2.2.2.1 0) 7) - 1)))) dX12_does_107 (nI_addE (a := 22) (b := ((gN (a45.2.2.2.1 0) 7) - 1)) (by omega)) ?_
          refine V_aload_n 108 B dX12_does_108 2 rfl ?_
          refine V_get 109 B gf_RX12_9 0 rfl rfl dX12_does_109 ?_
          refine V_bipush 112 B (v := 6) dX12_does_112 (by decide +kernel) ?_
          refine V_iald 114 B (v := (a45.2.2.2.1 0) (6)) 1 rfl (vpin _ _ (by decide +kernel)) dX12_does_114 (by show (upd (a45.2.2.2.1 0) 7 (nI (((gN (a45.2.2.2.1 0) 7) - 1)))) 6 = _; rw [upd_ne (by omega)]) ?_
          refine V_nmi (fun j56 e57 => ?_)
          have x58 : (-1) ≤ j56.toInt ∧ j56.toInt ≤ 5 := by rw [e57]; exact ⟨INV_lo x48 (by omega) (show bd 6 = ((-1), 5) by decide +kernel), INV_hi x48 (by omega) (show bd 6 = ((-1), 5) by decide +kernel)⟩
          have hv59 : INV ph (upd (upd (a45.2.2.2.1 0) 7 (nI (((gN (a45.2.2.2.1 0) 7) - 1)))) (22 + ((gN (a45.2.2.2.1 0) 7) - 1)) j56) := INV_upd hv55 (rl16 (((gN (a45.2.2.2.1 0) 7) - 1)) (by omega)) (by omega) (by omega)
          refine V_iast 115 B 1 rfl (vp_in_nI (n := 22 + ((gN (a45.2.2.2.1 0) 7) - 1)) (by omega) (by decide)) dX12_does_115 [(h0, oC 13 [.ref h1, .ref h2, .int p2, .ref h3, .ref h4, .int (nI k5), .int (nI k6), .int p7, .int p8, .int p9, .int (nI k10), .int p11, .long q12, .ref h5, .ref h6, .int (nI k15), .int (nI k16)]), (h1, aI Y 3640 (upd (upd (a45.2.2.2.1 0) 7 (nI (((gN (a45.2.2.2.1 0) 7) - 1)))) (22 + ((gN (a45.2.2.2.1 0) 7) - 1)) j56)), (h2, aZ Y 2 f1), (h3, aZ Y 80 f3), (h4, aB Y 1600 f4), (h5, aI Y 200 f13), (h6, aI Y 800 f14)] (by rw [nI_clamp (show 22 + ((gN (a45.2.2.2.1 0) 7) - 1) < 2 ^ 31 by omega)]; rfl) ?_
          refine V_aload_n 116 B dX12_does_116 2 rfl ?_
          refine V_get 117 B gf_RX12_9 0 rfl rfl dX12_does_117 ?_
          refine V_bipush 120 B (v := 7) dX12_does_120 (by decide +kernel) ?_
          refine V_dup2_11 122 B dX12_does_122 rfl rfl ?_
          refine V_iald 123 B (v := (nI (((gN (a45.2.2.2.1 0) 7) - 1)))) 1 rfl (vpin _ _ (by decide +kernel)) dX12_does_123 (by show (upd (upd (a45.2.2.2.1 0) 7 (nI (((gN (a45.2.2.2.1 0) 7) - 1)))) (22 + ((gN (a45.2.2.2.1 0) 7) - 1)) j56) 7 = _; rw [upd_ne (by omega)]; exact upd_at) ?_
          refine V_iconst 124 B (v := 1) dX12_does_124 (by decide +kernel) ?_
          refine V_iadd 125 B (v := (nI (1 + ((gN (a45.2.2.2.1 0) 7) - 1)))) dX12_does_125 (nI_addE (a := ((gN (a45.2.2.2.1 0) 7) - 1)) (b := 1) (by omega)) ?_
          have hv60 : INV ph (upd (upd (upd (a45.2.2.2.1 0) 7 (nI (((gN (a45.2.2.2.1 0) 7) - 1)))) (22 + ((gN (a45.2.2.2.1 0) 7) - 1)) j56) 7 (nI (1 + ((gN (a45.2.2.2.1 0) 7) - 1)))) := INV_nat (v := 1 + ((gN (a45.2.2.2.1 0) 7) - 1)) hv59 (show bd 7 = (0, ((8 : Nat) : Int)) by decide +kernel) (by omega) (by decide)
          refine V_iast 126 B 1 rfl (vpin _ _ (by decide +kernel)) dX12_does_126 [(h0, oC 13 [.ref h1, .ref h2, .int p2, .ref h3, .ref h4, .int (nI k5), .int (nI k6), .int p7, .int p8, .int p9, .int (nI k10), .int p11, .long q12, .ref h5, .ref h6, .int (nI k15), .int (nI k16)]), (h1, aI Y 3640 (upd (upd (upd (a45.2.2.2.1 0) 7 (nI (((gN (a45.2.2.2.1 0) 7) - 1)))) (22 + ((gN (a45.2.2.2.1 0) 7) - 1)) j56) 7 (nI (1 + ((gN (a45.2.2.2.1 0) 7) - 1))))), (h2, aZ Y 2 f1), (h3, aZ Y 80 f3), (h4, aB Y 1600 f4), (h5, aI Y 200 f13), (h6, aI Y 800 f14)] rfl ?_
          refine V_aload_n 127 B dX12_does_127 2 rfl ?_
          refine V_get 128 B gf_RX12_9 0 rfl rfl dX12_does_128 ?_
          refine V_bipush 131 B (v := 6) dX12_does_131 (by decide +kernel) ?_
          refine V_aload_n 133 B dX12_does_133 2 rfl ?_
          refine V_iload_n 134 B dX12_does_134 3 rfl ?_
          refine V_iconst 135 B (v := 1) dX12_does_135 (by decide +kernel) ?_
          refine V_cvi 136 B (st := [.int 6, .ref h1]) (As := [.int (nI s0), .int 1]) (fun sz => rX12_ofCommand l D Y h0 h1 h2 h3 h4 h5 h6 p2 k5 k6 p7 p8 p9 k10 p11 q12 k15 k16 (upd (upd (upd (a45.2.2.2.1 0) 7 (nI (((gN (a45.2.2.2.1 0) 7) - 1)))) (22 + ((gN (a45.2.2.2.1 0) 7) - 1)) j56) 7 (nI (1 + ((gN (a45.2.2.2.1 0) 7) - 1)))) f1 f3 f4 f13 f14 ph hv60 (by omega) HP s0 1 (by omega) (by omega) sz) glV_RX12_102 ⟨rfl, rfl⟩ ⟨(Nat.le_of_ble_eq_true rfl), (Nat.le_of_ble_eq_true rfl)⟩ ⟨(Nat.le_of_ble_eq_true rfl), (Nat.le_of_ble_eq_true rfl)⟩ [0, 0, 0, 0, 0, 0, 0] rfl 13 0 rfl rfl rfl rfl (Nat.le_of_ble_eq_true rfl) rfl (fun _ _ _ => rfl) dX12_does_136 (fun j61 u62 w63 => ?_)
          refine V_ws [(h0, oC 13 [.ref h1, .ref h2, .int p2, .ref h3, .ref h4, .int (nI k5), .int (nI k6), .int p7, .int p8, .int p9, .int (nI k10), .int p11, .long q12, .ref h5, .ref h6, .int (nI k15), .int (nI k16)]), (h1, aI Y 3640 (upd (upd (upd (a45.2.2.2.1 0) 7 (nI (((gN (a45.2.2.2.1 0) 7) - 1)))) (22 + ((gN (a45.2.2.2.1 0) 7) - 1)) j56) 7 (nI (1 + ((gN (a45.2.2.2.1 0) 7) - 1))))), (h2, aZ Y 2 f1), (h3, aZ Y 80 f3), (h4, aB Y 1600 f4), (h5, aI Y 200 f13), (h6, aI Y 800 f14)] rfl ?_
          have x64 := w63
          clear w63
          have x65 := x64 rfl
          have hv66 : INV ph (upd (upd (upd (upd (a45.2.2.2.1 0) 7 (nI (((gN (a45.2.2.2.1 0) 7) - 1)))) (22 + ((gN (a45.2.2.2.1 0) 7) - 1)) j56) 7 (nI (1 + ((gN (a45.2.2.2.1 0) 7) - 1)))) 6 j61) := INV_upd hv60 (show bd 6 = ((-1), 5) by decide +kernel) (by omega) (by omega)
          refine V_iast 139 B 1 rfl (vpin _ _ (by decide +kernel)) dX12_does_139 [(h0, oC 13 [.ref h1, .ref h2, .int p2, .ref h3, .ref h4, .int (nI k5), .int (nI k6), .int p7, .int p8, .int p9, .int (nI k10), .int p11, .long q12, .ref h5, .ref h6, .int (nI k15), .int (nI k16)]), (h1, aI Y 3640 (upd (upd (upd (upd (a45.2.2.2.1 0) 7 (nI (((gN (a45.2.2.2.1 0) 7) - 1)))) (22 + ((gN (a45.2.2.2.1 0) 7) - 1)) j56) 7 (nI (1 + ((gN (a45.2.2.2.1 0) 7) - 1)))) 6 j61)), (h2, aZ Y 2 f1), (h3, aZ Y 80 f3), (h4, aB Y 1600 f4), (h5, aI Y 200 f13), (h6, aI Y 800 f14)] rfl ?_
          refine V_goto 140 B 191 dX12_does_140 (by decide) ?_
          exact V_vret 191 B dX12_does_191 (mkW [] [] [] [(upd (upd (upd (upd (a45.2.2.2.1 0) 7 (nI (((gN (a45.2.2.2.1 0) 7) - 1)))) (22 + ((gN (a45.2.2.2.1 0) 7) - 1)) j56) 7 (nI (1 + ((gN (a45.2.2.2.1 0) 7) - 1)))) 6 j61)] [] []) hv66 rfl
        ·
          have x67 := n_nle (a := 8) (b := (a45.1 0)) kk52 (by omega) (by omega)
          refine V_aload_n 57 B dX12_does_57 2 rfl ?_
          refine V_get 58 B gf_RX12_9 0 rfl rfl dX12_does_58 ?_
          refine V_bipush 61 B (v := 22) dX12_does_61 (by decide +kernel) ?_
          refine V_iload_n 63 B dX12_does_63 0 rfl ?_
          refine V_iadd 64 B (v := (nI (22 + (a45.1 0)))) dX12_does_64 (nI_addE (a := 22) (b := (a45.1 0)) (by omega)) ?_
          refine V_iconst 65 B (v := 1) dX12_does_65 (by decide +kernel) ?_
          refine V_isub 66 B (v := (nI (21 + (a45.1 0)))) dX12_does_66 (nI_subE (a := 22 + (a45.1 0)) (b := 1) (by omega)) ?_
          refine V_aload_n 67 B dX12_does_67 2 rfl ?_
          refine V_get 68 B gf_RX12_9 0 rfl rfl dX12_does_68 ?_
          refine V_bipush 71 B (v := 22) dX12_does_71 (by decide +kernel) ?_
          refine V_iload_n 73 B dX12_does_73 0 rfl ?_
          refine V_iadd 74 B (v := (nI (22 + (a45.1 0)))) dX12_does_74 (nI_addE (a := 22) (b := (a45.1 0)) (by omega)) ?_
          refine V_iald 75 B (v := (a45.2.2.2.1 0) (22 + (a45.1 0))) 1 rfl (vp_in_nI (n := 22 + (a45.1 0)) (by omega) (by decide)) dX12_does_75 (by rw [nI_clamp (show 22 + (a45.1 0) < 2 ^ 31 by omega)]) ?_
          refine V_nmi (fun j68 e69 => ?_)
          have x70 : (-1) ≤ j68.toInt ∧ j68.toInt ≤ 5 := by rw [e69]; exact ⟨INV_lo x48 (by omega) (rl17 (a45.1 0) (by omega) (by omega)), INV_hi x48 (by omega) (rl17 (a45.1 0) (by omega) (by omega))⟩
          have hv71 : INV ph (upd (a45.2.2.2.1 0) (21 + (a45.1 0)) j68) := INV_upd x48 (rl18 (a45.1 0) (by omega) (by omega)) (by omega) (by omega)
          refine V_iast 76 B 1 rfl (vp_in_nI (n := 21 + (a45.1 0)) (by omega) (by decide)) dX12_does_76 [(h0, oC 13 [.ref h1, .ref h2, .int p2, .ref h3, .ref h4, .int (nI k5), .int (nI k6), .int p7, .int p8, .int p9, .int (nI k10), .int p11, .long q12, .ref h5, .ref h6, .int (nI k15), .int (nI k16)]), (h1, aI Y 3640 (upd (a45.2.2.2.1 0) (21 + (a45.1 0)) j68)), (h2, aZ Y 2 f1), (h3, aZ Y 80 f3), (h4, aB Y 1600 f4), (h5, aI Y 200 f13), (h6, aI Y 800 f14)] (by rw [nI_clamp (show 21 + (a45.1 0) < 2 ^ 31 by omega)]; rfl) ?_
          refine V_iinc 77 B (v := (nI (1 + (a45.1 0)))) (lv2 := [(3, .int (nI (1 + (a45.1 0)))), (2, .int 1), (0, .ref h0), (1, .int (nI s0))]) dX12_does_77 0 rfl (nI_addE (a := (a45.1 0)) (b := 1) (by omega)) (by decide) rfl ?_
          refine V_goto 80 B 51 dX12_does_80 (by decide) ?_
          refine V_lv [(3, .int (nI (1 + (a45.1 0)))), (2, .int 1), (0, .ref h0), (1, .int (nI s0))] [0, 1, 2, 3] rfl ?_
          exact IH46 (mkW [1 + (a45.1 0)] [] [] [(upd (a45.2.2.2.1 0) (21 + (a45.1 0)) j68)] [] []) ⟨hv71, (show 1 + (a45.1 0) ≤ 4000 by omega), (show 1 ≤ 1 + (a45.1 0) by omega), ((gN_ne (by omega)).trans x51)⟩ (by show 100000 - (1 + (a45.1 0)) < 100000 - (a45.1 0); omega))
theorem dX12_makes_0 : decode cX12_makes 0 = .ok (.iconst 1, 1) := by decide +kernel
theorem dX12_makes_1 : decode cX12_makes 1 = .ok (.istore_n 2, 1) := by decide +kernel
theorem dX12_makes_2 : decode cX12_makes 2 = .ok (.iload_n 2, 1) := by decide +kernel
theorem dX12_makes_3 : decode cX12_makes 3 = .ok (.ifCond .eq 229, 3) := by decide +kernel
theorem dX12_makes_232 : decode cX12_makes 232 = .ok (.iconst (-1), 1) := by decide +kernel
theorem dX12_makes_233 : decode cX12_makes 233 = .ok (.ireturn, 1) := by decide +kernel
theorem dX12_makes_6 : decode cX12_makes 6 = .ok (.aload_n 0, 1) := by decide +kernel
theorem dX12_makes_7 : decode cX12_makes 7 = .ok (.getfield 9, 3) := by decide +kernel
theorem dX12_makes_10 : decode cX12_makes 10 = .ok (.bipush 13, 2) := by decide +kernel
theorem dX12_makes_12 : decode cX12_makes 12 = .ok (.dup2, 1) := by decide +kernel
theorem dX12_makes_13 : decode cX12_makes 13 = .ok (.iaload, 1) := by decide +kernel
theorem dX12_makes_14 : decode cX12_makes 14 = .ok (.iconst 1, 1) := by decide +kernel
theorem dX12_makes_15 : decode cX12_makes 15 = .ok (.iadd, 1) := by decide +kernel
theorem dX12_makes_16 : decode cX12_makes 16 = .ok (.iastore, 1) := by decide +kernel
theorem dX12_makes_17 : decode cX12_makes 17 = .ok (.aload_n 0, 1) := by decide +kernel
theorem dX12_makes_18 : decode cX12_makes 18 = .ok (.getfield 9, 3) := by decide +kernel
theorem dX12_makes_21 : decode cX12_makes 21 = .ok (.bipush 10, 2) := by decide +kernel
theorem dX12_makes_23 : decode cX12_makes 23 = .ok (.aload_n 0, 1) := by decide +kernel
theorem dX12_makes_24 : decode cX12_makes 24 = .ok (.getfield 9, 3) := by decide +kernel
theorem dX12_makes_27 : decode cX12_makes 27 = .ok (.bipush 9, 2) := by decide +kernel
theorem dX12_makes_29 : decode cX12_makes 29 = .ok (.iaload, 1) := by decide +kernel
theorem dX12_makes_30 : decode cX12_makes 30 = .ok (.iastore, 1) := by decide +kernel
theorem dX12_makes_31 : decode cX12_makes 31 = .ok (.aload_n 0, 1) := by decide +kernel
theorem dX12_makes_32 : decode cX12_makes 32 = .ok (.getfield 9, 3) := by decide +kernel
theorem dX12_makes_35 : decode cX12_makes 35 = .ok (.sipush 3629, 3) := by decide +kernel
theorem dX12_makes_38 : decode cX12_makes 38 = .ok (.aload_n 0, 1) := by decide +kernel
theorem dX12_makes_39 : decode cX12_makes 39 = .ok (.getfield 9, 3) := by decide +kernel
theorem dX12_makes_42 : decode cX12_makes 42 = .ok (.bipush 8, 2) := by decide +kernel
theorem dX12_makes_44 : decode cX12_makes 44 = .ok (.iaload, 1) := by decide +kernel
theorem dX12_makes_45 : decode cX12_makes 45 = .ok (.iconst 1, 1) := by decide +kernel
theorem dX12_makes_46 : decode cX12_makes 46 = .ok (.iadd, 1) := by decide +kernel
theorem dX12_makes_47 : decode cX12_makes 47 = .ok (.iastore, 1) := by decide +kernel
theorem dX12_makes_48 : decode cX12_makes 48 = .ok (.iconst 0, 1) := by decide +kernel
theorem dX12_makes_49 : decode cX12_makes 49 = .ok (.istore_n 3, 1) := by decide +kernel
theorem dX12_makes_50 : decode cX12_makes 50 = .ok (.iload_n 3, 1) := by decide +kernel
theorem dX12_makes_51 : decode cX12_makes 51 = .ok (.aload_n 0, 1) := by decide +kernel
theorem dX12_makes_52 : decode cX12_makes 52 = .ok (.getfield 9, 3) := by decide +kernel
theorem dX12_makes_55 : decode cX12_makes 55 = .ok (.bipush 8, 2) := by decide +kernel
theorem dX12_makes_57 : decode cX12_makes 57 = .ok (.iaload, 1) := by decide +kernel
theorem dX12_makes_58 : decode cX12_makes 58 = .ok (.if_icmp .ge 28, 3) := by decide +kernel
theorem dX12_makes_86 : decode cX12_makes 86 = .ok (.aload_n 0, 1) := by decide +kernel
theorem dX12_makes_87 : decode cX12_makes 87 = .ok (.getfield 9, 3) := by decide +kernel
theorem dX12_makes_90 : decode cX12_makes 90 = .ok (.sipush 3629, 3) := by decide +kernel
theorem dX12_makes_93 : decode cX12_makes 93 = .ok (.aload_n 0, 1) := by decide +kernel
theorem dX12_makes_94 : decode cX12_makes 94 = .ok (.getfield 9, 3) := by decide +kernel
theorem dX12_makes_97 : decode cX12_makes 97 = .ok (.sipush 3629, 3) := by decide +kernel
theorem dX12_makes_100 : decode cX12_makes 100 = .ok (.iaload, 1) := by decide +kernel
theorem dX12_makes_101 : decode cX12_makes 101 = .ok (.iadd, 1) := by decide +kernel
theorem dX12_makes_102 : decode cX12_makes 102 = .ok (.iload_n 1, 1) := by decide +kernel
theorem dX12_makes_103 : decode cX12_makes 103 = .ok (.iastore, 1) := by decide +kernel
theorem rl19 : ∀ z0, z0 < 5 → 1 ≤ z0 → bd (3629 + z0) = FREE := by decide +kernel
theorem dX12_makes_104 : decode cX12_makes 104 = .ok (.aload_n 0, 1) := by decide +kernel
theorem dX12_makes_105 : decode cX12_makes 105 = .ok (.aload_n 0, 1) := by decide +kernel
theorem dX12_makes_106 : decode cX12_makes 106 = .ok (.getfield 9, 3) := by decide +kernel
theorem dX12_makes_109 : decode cX12_makes 109 = .ok (.bipush 6, 2) := by decide +kernel
theorem dX12_makes_111 : decode cX12_makes 111 = .ok (.iaload, 1) := by decide +kernel
theorem dX12_makes_112 : decode cX12_makes 112 = .ok (.sipush 3629, 3) := by decide +kernel
theorem dX12_makes_115 : decode cX12_makes 115 = .ok (.invokevirtual 157, 3) := by decide +kernel
theorem dX12_makes_118 : decode cX12_makes 118 = .ok (.istore_n 3, 1) := by decide +kernel
theorem dX12_makes_119 : decode cX12_makes 119 = .ok (.iload_n 3, 1) := by decide +kernel
theorem dX12_makes_120 : decode cX12_makes 120 = .ok (.iconst (-1), 1) := by decide +kernel
theorem dX12_makes_121 : decode cX12_makes 121 = .ok (.if_icmp .eq 27, 3) := by decide +kernel
theorem dX12_makes_148 : decode cX12_makes 148 = .ok (.aload_n 0, 1) := by decide +kernel
theorem dX12_makes_149 : decode cX12_makes 149 = .ok (.aload_n 0, 1) := by decide +kernel
theorem dX12_makes_150 : decode cX12_makes 150 = .ok (.getfield 9, 3) := by decide +kernel
theorem dX12_makes_153 : decode cX12_makes 153 = .ok (.bipush 6, 2) := by decide +kernel
theorem dX12_makes_155 : decode cX12_makes 155 = .ok (.iaload, 1) := by decide +kernel
theorem dX12_makes_156 : decode cX12_makes 156 = .ok (.sipush 3629, 3) := by decide +kernel
theorem dX12_makes_159 : decode cX12_makes 159 = .ok (.invokevirtual 160, 3) := by decide +kernel
theorem dX12_makes_162 : decode cX12_makes 162 = .ok (.ifCond .le 32, 3) := by decide +kernel
theorem dX12_makes_194 : decode cX12_makes 194 = .ok (.aload_n 0, 1) := by decide +kernel
theorem dX12_makes_195 : decode cX12_makes 195 = .ok (.getfield 9, 3) := by decide +kernel
theorem dX12_makes_198 : decode cX12_makes 198 = .ok (.bipush 12, 2) := by decide +kernel
theorem dX12_makes_200 : decode cX12_makes 200 = .ok (.dup2, 1) := by decide +kernel
theorem dX12_makes_201 : decode cX12_makes 201 = .ok (.iaload, 1) := by decide +kernel
theorem dX12_makes_202 : decode cX12_makes 202 = .ok (.iconst 1, 1) := by decide +kernel
theorem dX12_makes_203 : decode cX12_makes 203 = .ok (.iadd, 1) := by decide +kernel
theorem dX12_makes_204 : decode cX12_makes 204 = .ok (.iastore, 1) := by decide +kernel
theorem dX12_makes_205 : decode cX12_makes 205 = .ok (.aload_n 0, 1) := by decide +kernel
theorem dX12_makes_206 : decode cX12_makes 206 = .ok (.getfield 9, 3) := by decide +kernel
theorem dX12_makes_209 : decode cX12_makes 209 = .ok (.bipush 8, 2) := by decide +kernel
theorem dX12_makes_211 : decode cX12_makes 211 = .ok (.iaload, 1) := by decide +kernel
theorem dX12_makes_212 : decode cX12_makes 212 = .ok (.ifCond .le 7, 3) := by decide +kernel
theorem dX12_makes_219 : decode cX12_makes 219 = .ok (.iconst 0, 1) := by decide +kernel
theorem dX12_makes_220 : decode cX12_makes 220 = .ok (.istore_n 2, 1) := by decide +kernel
theorem dX12_makes_221 : decode cX12_makes 221 = .ok (.aload_n 0, 1) := by decide +kernel
theorem dX12_makes_222 : decode cX12_makes 222 = .ok (.getfield 9, 3) := by decide +kernel
theorem dX12_makes_225 : decode cX12_makes 225 = .ok (.bipush 8, 2) := by decide +kernel
theorem dX12_makes_227 : decode cX12_makes 227 = .ok (.iconst 0, 1) := by decide +kernel
theorem dX12_makes_228 : decode cX12_makes 228 = .ok (.iastore, 1) := by decide +kernel
theorem dX12_makes_229 : decode cX12_makes 229 = .ok (.goto (-227), 3) := by decide +kernel
theorem dX12_makes_215 : decode cX12_makes 215 = .ok (.iconst 1, 1) := by decide +kernel
theorem dX12_makes_216 : decode cX12_makes 216 = .ok (.goto 4, 3) := by decide +kernel
theorem dX12_makes_165 : decode cX12_makes 165 = .ok (.aload_n 0, 1) := by decide +kernel
theorem dX12_makes_166 : decode cX12_makes 166 = .ok (.getfield 9, 3) := by decide +kernel
theorem dX12_makes_169 : decode cX12_makes 169 = .ok (.bipush 30, 2) := by decide +kernel
theorem dX12_makes_171 : decode cX12_makes 171 = .ok (.aload_n 0, 1) := by decide +kernel
theorem dX12_makes_172 : decode cX12_makes 172 = .ok (.getfield 9, 3) := by decide +kernel
theorem dX12_makes_175 : decode cX12_makes 175 = .ok (.bipush 8, 2) := by decide +kernel
theorem dX12_makes_177 : decode cX12_makes 177 = .ok (.iaload, 1) := by decide +kernel
theorem dX12_makes_178 : decode cX12_makes 178 = .ok (.iadd, 1) := by decide +kernel
theorem dX12_makes_179 : decode cX12_makes 179 = .ok (.iload_n 1, 1) := by decide +kernel
theorem dX12_makes_180 : decode cX12_makes 180 = .ok (.iastore, 1) := by decide +kernel
theorem rl20 : ∀ z0, z0 < 3 → bd (30 + z0) = FREE := by decide +kernel
theorem dX12_makes_181 : decode cX12_makes 181 = .ok (.aload_n 0, 1) := by decide +kernel
theorem dX12_makes_182 : decode cX12_makes 182 = .ok (.getfield 9, 3) := by decide +kernel
theorem dX12_makes_185 : decode cX12_makes 185 = .ok (.bipush 8, 2) := by decide +kernel
theorem dX12_makes_187 : decode cX12_makes 187 = .ok (.dup2, 1) := by decide +kernel
theorem dX12_makes_188 : decode cX12_makes 188 = .ok (.iaload, 1) := by decide +kernel
theorem dX12_makes_189 : decode cX12_makes 189 = .ok (.iconst 1, 1) := by decide +kernel
theorem dX12_makes_190 : decode cX12_makes 190 = .ok (.iadd, 1) := by decide +kernel
theorem dX12_makes_191 : decode cX12_makes 191 = .ok (.iastore, 1) := by decide +kernel
theorem dX12_makes_192 : decode cX12_makes 192 = .ok (.iconst (-1), 1) := by decide +kernel
theorem dX12_makes_193 : decode cX12_makes 193 = .ok (.ireturn, 1) := by decide +kernel
theorem dX12_makes_124 : decode cX12_makes 124 = .ok (.aload_n 0, 1) := by decide +kernel
theorem dX12_makes_125 : decode cX12_makes 125 = .ok (.getfield 9, 3) := by decide +kernel
theorem dX12_makes_128 : decode cX12_makes 128 = .ok (.bipush 8, 2) := by decide +kernel
theorem dX12_makes_130 : decode cX12_makes 130 = .ok (.iconst 0, 1) := by decide +kernel
theorem dX12_makes_131 : decode cX12_makes 131 = .ok (.iastore, 1) := by decide +kernel
theorem dX12_makes_132 : decode cX12_makes 132 = .ok (.aload_n 0, 1) := by decide +kernel
theorem dX12_makes_133 : decode cX12_makes 133 = .ok (.iload_n 3, 1) := by decide +kernel
theorem dX12_makes_134 : decode cX12_makes 134 = .ok (.invokevirtual 96, 3) := by decide +kernel
theorem dX12_makes_137 : decode cX12_makes 137 = .ok (.istore 4, 2) := by decide +kernel
theorem dX12_makes_139 : decode cX12_makes 139 = .ok (.aload_n 0, 1) := by decide +kernel
theorem dX12_makes_140 : decode cX12_makes 140 = .ok (.iload 4, 2) := by decide +kernel
theorem dX12_makes_142 : decode cX12_makes 142 = .ok (.invokevirtual 215, 3) := by decide +kernel
theorem glV_RX12_215 : GLV RX12 215 yX12_does RX12 cX12_does 4 none 1 := ⟨⟨(mT9 101 rfl rfl), (mT9 103 rfl rfl), (mTs 68 rfl rfl), (mT1 13 rfl rfl), (mT9 104 rfl rfl)⟩, by decide +kernel⟩
theorem dX12_makes_145 : decode cX12_makes 145 = .ok (.iload 4, 2) := by decide +kernel
theorem dX12_makes_147 : decode cX12_makes 147 = .ok (.ireturn, 1) := by decide +kernel
theorem dX12_makes_61 : decode cX12_makes 61 = .ok (.aload_n 0, 1) := by decide +kernel
theorem dX12_makes_62 : decode cX12_makes 62 = .ok (.getfield 9, 3) := by decide +kernel
theorem dX12_makes_65 : decode cX12_makes 65 = .ok (.sipush 3630, 3) := by decide +kernel
theorem dX12_makes_68 : decode cX12_makes 68 = .ok (.iload_n 3, 1) := by decide +kernel
theorem dX12_makes_69 : decode cX12_makes 69 = .ok (.iadd, 1) := by decide +kernel
theorem dX12_makes_70 : decode cX12_makes 70 = .ok (.aload_n 0, 1) := by decide +kernel
theorem dX12_makes_71 : decode cX12_makes 71 = .ok (.getfield 9, 3) := by decide +kernel
theorem dX12_makes_74 : decode cX12_makes 74 = .ok (.bipush 30, 2) := by decide +kernel
theorem dX12_makes_76 : decode cX12_makes 76 = .ok (.iload_n 3, 1) := by decide +kernel
theorem dX12_makes_77 : decode cX12_makes 77 = .ok (.iadd, 1) := by decide +kernel
theorem dX12_makes_78 : decode cX12_makes 78 = .ok (.iaload, 1) := by decide +kernel
theorem dX12_makes_79 : decode cX12_makes 79 = .ok (.iastore, 1) := by decide +kernel
theorem rl21 : ∀ z0, z0 < 3 → bd (3630 + z0) = FREE := by decide +kernel
theorem dX12_makes_80 : decode cX12_makes 80 = .ok (.iinc 3 1, 3) := by decide +kernel
theorem dX12_makes_83 : decode cX12_makes 83 = .ok (.goto (-33), 3) := by decide +kernel
set_option maxRecDepth 100000 in
set_option maxHeartbeats 4000000 in
theorem rX12_makes (l : Launch) (D : va_G) (Y : Nat → ClassId) (h0 : Nat) (h1 : Nat) (h2 : Nat) (h3 : Nat) (h4 : Nat) (h5 : Nat) (h6 : Nat) (p2 : Int32) (k5 : Nat) (k6 : Nat) (p7 : Int32) (p8 : Int32) (p9 : Int32) (k10 : Nat) (p11 : Int32) (q12 : Int64) (k15 : Nat) (k16 : Nat) (f0 : Nat → Int32) (f1 : Nat → Int32) (f3 : Nat → Int32) (f4 : Nat → Int32) (f13 : Nat → Int32) (f14 : Nat → Int32) (ph : Nat → Int32) (HI : INV ph f0) (HL : k5 ≤ 1600) (HP : PLV f13) (s0 : Int32)  (sz : Nat) : Met l yX12_makes (WSm yX12_makes cX12_makes 5 (some .int)) (mkR 6 0 0 137) (PreC D Y [.ref h0, .int s0] [(h0, oC 13 [.ref h1, .ref h2, .int p2, .ref h3, .ref h4, .int (nI k5), .int (nI k6), .int p7, .int p8, .int p9, .int (nI k10), .int p11, .long q12, .ref h5, .ref h6, .int (nI k15), .int (nI k16)]), (h1, aI Y 3640 f0), (h2, aZ Y 2 f1), (h3, aZ Y 80 f3), (h4, aB Y 1600 f4), (h5, aI Y 200 f13), (h6, aI Y 800 f14)] sz) (QI D (fun (r : Int32) (u : WU) => INV ph (u.2.2.2.1 0)) (fun (u : WU) => [(h0, oC 13 [.ref h1, .ref h2, .int p2, .ref h3, .ref h4, .int (nI k5), .int (nI k6), .int p7, .int p8, .int p9, .int (nI k10), .int p11, .long q12, .ref h5, .ref h6, .int (nI k15), .int (nI k16)]), (h1, aI Y 3640 (u.2.2.2.1 0)), (h2, aZ Y 2 f1), (h3, aZ Y 80 f3), (h4, aB Y 1600 f4), (h5, aI Y 200 f13), (h6, aI Y 800 f14)]) (va_A [(h0, oC 13 [.ref h1, .ref h2, .int p2, .ref h3, .ref h4, .int (nI k5), .int (nI k6), .int p7, .int p8, .int p9, .int (nI k10), .int p11, .long q12, .ref h5, .ref h6, .int (nI k15), .int (nI k16)]), (h1, aI Y 3640 f0), (h2, aZ Y 2 f1), (h3, aZ Y 80 f3), (h4, aB Y 1600 f4), (h5, aI Y 200 f13), (h6, aI Y 800 f14)] sz)) 0 0 (va_A [(h0, oC 13 [.ref h1, .ref h2, .int p2, .ref h3, .ref h4, .int (nI k5), .int (nI k6), .int p7, .int p8, .int p9, .int (nI k10), .int p11, .long q12, .ref h5, .ref h6, .int (nI k15), .int (nI k16)]), (h1, aI Y 3640 f0), (h2, aZ Y 2 f1), (h3, aZ Y 80 f3), (h4, aB Y 1600 f4), (h5, aI Y 200 f13), (h6, aI Y 800 f14)] sz) :=
  met_of  (by decide +kernel) (Nat.le_of_ble_eq_true rfl) (fun p e s m args below meth c B hin hsz => by
    have B : VB p s m args meth c D Y (va_A [(h0, oC 13 [.ref h1, .ref h2, .int p2, .ref h3, .ref h4, .int (nI k5), .int (nI k6), .int p7, .int p8, .int p9, .int (nI k10), .int p11, .long q12, .ref h5, .ref h6, .int (nI k15), .int (nI k16)]), (h1, aI Y 3640 f0), (h2, aZ Y 2 f1), (h3, aZ Y 80 f3), (h4, aB Y 1600 f4), (h5, aI Y 200 f13), (h6, aI Y 800 f14)] sz) cX12_makes 5 RX12 (some .int) := B
    refine V_iconst 0 B (v := 1) dX12_makes_0 (by decide +kernel) ?_
    refine V_istore_n 1 B (lv2 := [(2, .int 1), (0, .ref h0), (1, .int s0)]) dX12_makes_1 (by decide) rfl ?_
    refine V_wloop (α := WU) (fun a => mkM (a.2.1 0) (gN (a.2.2.2.1 0) 8)) (fun a => INV ph (a.2.2.2.1 0) ∧ ((a.2.1 0) = 0 ∨ (a.2.1 0) = 1)) (fun a => [(2, .int (a.2.1 0)), (0, .ref h0), (1, .int s0)]) (fun a => [(h0, oC 13 [.ref h1, .ref h2, .int p2, .ref h3, .ref h4, .int (nI k5), .int (nI k6), .int p7, .int p8, .int p9, .int (nI k10), .int p11, .long q12, .ref h5, .ref h6, .int (nI k15), .int (nI k16)]), (h1, aI Y 3640 (a.2.2.2.1 0)), (h2, aZ Y 2 f1), (h3, aZ Y 80 f3), (h4, aB Y 1600 f4), (h5, aI Y 200 f13), (h6, aI Y 800 f14)]) (mkW [] [1] [] [f0] [] []) ⟨HI, (Or.inr rfl)⟩ rfl rfl (fun a0 hI2 IH1 => ?_)
    refine V_lv [(2, .int (a0.2.1 0)), (0, .ref h0), (1, .int s0)] [0, 1, 2] rfl ?_
    refine V_ws [(h0, oC 13 [.ref h1, .ref h2, .int p2, .ref h3, .ref h4, .int (nI k5), .int (nI k6), .int p7, .int p8, .int p9, .int (nI k10), .int p11, .long q12, .ref h5, .ref h6, .int (nI k15), .int (nI k16)]), (h1, aI Y 3640 (a0.2.2.2.1 0)), (h2, aZ Y 2 f1), (h3, aZ Y 80 f3), (h4, aB Y 1600 f4), (h5, aI Y 200 f13), (h6, aI Y 800 f14)] rfl ?_
    obtain ⟨x3, x4⟩ := hI2
    rcases x4 with e5 | e5
    ·
      refine V_lv [(2, .int 0), (0, .ref h0), (1, .int s0)] [0, 1, 2] (by rw [e5]; rfl) ?_
      refine V_iload_n 2 B dX12_makes_2 0 rfl ?_
      refine V_if_eq_t 3 B 232 dX12_makes_3 (by decide) (by decide +kernel) ?_
      refine V_iconst 232 B (v := (-1)) dX12_makes_232 (by decide +kernel) ?_
      exact V_iret 233 B dX12_makes_233 (mkW [] [] [] [(a0.2.2.2.1 0)] [] []) x3 rfl
    ·
      refine V_lv [(2, .int 1), (0, .ref h0), (1, .int s0)] [0, 1, 2] (by rw [e5]; rfl) ?_
      refine V_iload_n 2 B dX12_makes_2 0 rfl ?_
      refine V_if_eq_f 3 B 232 dX12_makes_3 (by decide) (by decide +kernel) ?_
      refine V_aload_n 6 B dX12_makes_6 1 rfl ?_
      refine V_get 7 B gf_RX12_9 0 rfl rfl dX12_makes_7 ?_
      refine V_bipush 10 B (v := 13) dX12_makes_10 (by decide +kernel) ?_
      refine V_dup2_11 12 B dX12_makes_12 rfl rfl ?_
      refine V_iald 13 B (v := (a0.2.2.2.1 0) (13)) 1 rfl (vpin _ _ (by decide +kernel)) dX12_makes_13 (by rfl) ?_
      refine V_nmi (fun j6 e7 => ?_)
      refine V_iconst 14 B (v := 1) dX12_makes_14 (by decide +kernel) ?_
      refine V_iadd 15 B dX12_makes_15 rfl ?_
      refine V_nmi (fun j8 e9 => ?_)
      have hv10 : INV ph (upd (a0.2.2.2.1 0) 13 j8) := INV_free x3 (show bd 13 = FREE by decide +kernel)
      refine V_iast 16 B 1 rfl (vpin _ _ (by decide +kernel)) dX12_makes_16 [(h0, oC 13 [.ref h1, .ref h2, .int p2, .ref h3, .ref h4, .int (nI k5), .int (nI k6), .int p7, .int p8, .int p9, .int (nI k10), .int p11, .long q12, .ref h5, .ref h6, .int (nI k15), .int (nI k16)]), (h1, aI Y 3640 (upd (a0.2.2.2.1 0) 13 j8)), (h2, aZ Y 2 f1), (h3, aZ Y 80 f3), (h4, aB Y 1600 f4), (h5, aI Y 200 f13), (h6, aI Y 800 f14)] rfl ?_
      refine V_aload_n 17 B dX12_makes_17 1 rfl ?_
      refine V_get 18 B gf_RX12_9 0 rfl rfl dX12_makes_18 ?_
      refine V_bipush 21 B (v := 10) dX12_makes_21 (by decide +kernel) ?_
      refine V_aload_n 23 B dX12_makes_23 1 rfl ?_
      refine V_get 24 B gf_RX12_9 0 rfl rfl dX12_makes_24 ?_
      refine V_bipush 27 B (v := 9) dX12_makes_27 (by decide +kernel) ?_
      refine V_iald 29 B (v := (a0.2.2.2.1 0) (9)) 1 rfl (vpin _ _ (by decide +kernel)) dX12_makes_29 (by show (upd (a0.2.2.2.1 0) 13 j8) 9 = _; rw [upd_ne (by omega)]) ?_
      refine V_nmi (fun j11 e12 => ?_)
      have hv13 : INV ph (upd (upd (a0.2.2.2.1 0) 13 j8) 10 j11) := INV_free hv10 (show bd 10 = FREE by decide +kernel)
      refine V_iast 30 B 1 rfl (vpin _ _ (by decide +kernel)) dX12_makes_30 [(h0, oC 13 [.ref h1, .ref h2, .int p2, .ref h3, .ref h4, .int (nI k5), .int (nI k6), .int p7, .int p8, .int p9, .int (nI k10), .int p11, .long q12, .ref h5, .ref h6, .int (nI k15), .int (nI k16)]), (h1, aI Y 3640 (upd (upd (a0.2.2.2.1 0) 13 j8) 10 j11)), (h2, aZ Y 2 f1), (h3, aZ Y 80 f3), (h4, aB Y 1600 f4), (h5, aI Y 200 f13), (h6, aI Y 800 f14)] rfl ?_
      refine V_aload_n 31 B dX12_makes_31 1 rfl ?_
      refine V_get 32 B gf_RX12_9 0 rfl rfl dX12_makes_32 ?_
      refine V_sipush 35 B (v := 3629) dX12_makes_35 (by decide +kernel) ?_
      refine V_aload_n 38 B dX12_makes_38 1 rfl ?_
      refine V_get 39 B gf_RX12_9 0 rfl rfl dX12_makes_39 ?_
      refine V_bipush 42 B (v := 8) dX12_makes_42 (by decide +kernel) ?_
      have x14 : (gN (a0.2.2.2.1 0) 8) ≤ 3 := gN_le x3 (by omega) (show bd 8 = (0, ((3 : Nat) : Int)) by decide +kernel)
      refine V_iald 44 B (v := (nI ((gN (a0.2.2.2.1 0) 8)))) 1 rfl (vpin _ _ (by decide +kernel)) dX12_makes_44 (by show (upd (upd (a0.2.2.2.1 0) 13 j8) 10 j11) 8 = _; rw [upd_ne (by omega)]; rw [upd_ne (by omega)]; exact gN_eq x3 (by omega) (show bd 8 = (0, ((3 : Nat) : Int)) by decide +kernel)) ?_
      refine V_iconst 45 B (v := 1) dX12_makes_45 (by decide +kernel) ?_
      refine V_iadd 46 B (v := (nI (1 + (gN (a0.2.2.2.1 0) 8)))) dX12_makes_46 (nI_addE (a := (gN (a0.2.2.2.1 0) 8)) (b := 1) (by omega)) ?_
      have hv15 : INV ph (upd (upd (upd (a0.2.2.2.1 0) 13 j8) 10 j11) 3629 (nI (1 + (gN (a0.2.2.2.1 0) 8)))) := INV_nat (v := 1 + (gN (a0.2.2.2.1 0) 8)) hv13 (show bd 3629 = (0, ((4 : Nat) : Int)) by decide +kernel) (by omega) (by decide)
      refine V_iast 47 B 1 rfl (vpin _ _ (by decide +kernel)) dX12_makes_47 [(h0, oC 13 [.ref h1, .ref h2, .int p2, .ref h3, .ref h4, .int (nI k5), .int (nI k6), .int p7, .int p8, .int p9, .int (nI k10), .int p11, .long q12, .ref h5, .ref h6, .int (nI k15), .int (nI k16)]), (h1, aI Y 3640 (upd (upd (upd (a0.2.2.2.1 0) 13 j8) 10 j11) 3629 (nI (1 + (gN (a0.2.2.2.1 0) 8))))), (h2, aZ Y 2 f1), (h3, aZ Y 80 f3), (h4, aB Y 1600 f4), (h5, aI Y 200 f13), (h6, aI Y 800 f14)] rfl ?_
      refine V_iconst 48 B (v := 0) dX12_makes_48 (by decide +kernel) ?_
      refine V_istore_n 49 B (lv2 := [(3, .int 0), (2, .int 1), (0, .ref h0), (1, .int s0)]) dX12_makes_49 (by decide) rfl ?_
      refine V_wloop (α := WU) (fun a => 100000 - (a.1 0)) (fun a => INV ph (a.2.2.2.1 0) ∧ (a.1 0) ≤ 4000 ∧ gN (a.2.2.2.1 0) 8 = gN (a0.2.2.2.1 0) 8 ∧ gN (a.2.2.2.1 0) 3629 = 1 + gN (a0.2.2.2.1 0) 8) (fun a => [(3, .int (nI (a.1 0))), (2, .int 1), (0, .ref h0), (1, .int s0)]) (fun a => [(h0, oC 13 [.ref h1, .ref h2, .int p2, .ref h3, .ref h4, .int (nI k5), .int (nI k6), .int p7, .int p8, .int p9, .int (nI k10), .int p11, .long q12, .ref h5, .ref h6, .int (nI k15), .int (nI k16)]), (h1, aI Y 3640 (a.2.2.2.1 0)), (h2, aZ Y 2 f1), (h3, aZ Y 80 f3), (h4, aB Y 1600 f4), (h5, aI Y 200 f13), (h6, aI Y 800 f14)]) (mkW [0] [] [] [(upd (upd (upd (a0.2.2.2.1 0) 13 j8) 10 j11) 3629 (nI (1 + (gN (a0.2.2.2.1 0) 8))))] [] []) ⟨hv15, (show 0 ≤ 4000 by omega), (show gN ((upd (upd (upd (a0.2.2.2.1 0) 13 j8) 10 j11) 3629 (nI (1 + (gN (a0.2.2.2.1 0) 8))))) 8 = gN (a0.2.2.2.1 0) 8 by rw [gN_ne (by omega)]; rw [gN_ne (by omega)]; rw [gN_ne (by omega)]), (gN_at (by omega))⟩ rfl rfl (fun a16 hI18 IH17 => ?_)
      refine V_lv [(3, .int (nI (a16.1 0))), (2, .int 1), (0, .ref h0), (1, .int s0)] [0, 1, 2, 3] rfl ?_
      refine V_ws [(h0, oC 13 [.ref h1, .ref h2, .int p2, .ref h3, .ref h4, .int (nI k5), .int (nI k6), .int p7, .int p8, .int p9, .int (nI k10), .int p11, .long q12, .ref h5, .ref h6, .int (nI k15), .int (nI k16)]), (h1, aI Y 3640 (a16.2.2.2.1 0)), (h2, aZ Y 2 f1), (h3, aZ Y 80 f3), (h4, aB Y 1600 f4), (h5, aI Y 200 f13), (h6, aI Y 800 f14)] rfl ?_
      obtain ⟨x19, x20, x21, x22⟩ := hI18
      have x23 : (gN (a16.2.2.2.1 0) 8) ≤ 3 := gN_le x19 (by omega) (show bd 8 = (0, ((3 : Nat) : Int)) by decide +kernel)
      have x24 : (gN (a16.2.2.2.1 0) 3629) ≤ 4 := gN_le x19 (by omega) (show bd 3629 = (0, ((4 : Nat) : Int)) by decide +kernel)
      have x25 : (gN (a0.2.2.2.1 0) 8) ≤ 3 := gN_le x3 (by omega) (show bd 8 = (0, ((3 : Nat) : Int)) by decide +kernel)
      refine V_iload_n 50 B dX12_makes_50 0 rfl ?_
      refine V_aload_n 51 B dX12_makes_51 2 rfl ?_
      refine V_get 52 B gf_RX12_9 0 rfl rfl dX12_makes_52 ?_
      refine V_bipush 55 B (v := 8) dX12_makes_55 (by decide +kernel) ?_
      have x26 : (gN (a16.2.2.2.1 0) 8) ≤ 3 := gN_le x19 (by omega) (show bd 8 = (0, ((3 : Nat) : Int)) by decide +kernel)
      refine V_iald 57 B (v := (nI ((gN (a16.2.2.2.1 0) 8)))) 1 rfl (vpin _ _ (by decide +kernel)) dX12_makes_57 (by show (a16.2.2.2.1 0) 8 = _; exact gN_eq x19 (by omega) (show bd 8 = (0, ((3 : Nat) : Int)) by decide +kernel)) ?_
      refine V_icmp_ge 58 B 86 dX12_makes_58 (by decide) (fun kk27 => ?_) (fun kk27 => ?_)
      ·
        have x28 := n_le (a := (gN (a16.2.2.2.1 0) 8)) (b := (a16.1 0)) kk27 (by omega) (by omega)
        refine V_aload_n 86 B dX12_makes_86 2 rfl ?_
        refine V_get 87 B gf_RX12_9 0 rfl rfl dX12_makes_87 ?_
        refine V_sipush 90 B (v := 3629) dX12_makes_90 (by decide +kernel) ?_
        refine V_aload_n 93 B dX12_makes_93 2 rfl ?_
        refine V_get 94 B gf_RX12_9 0 rfl rfl dX12_makes_94 ?_
        refine V_sipush 97 B (v := 3629) dX12_makes_97 (by decide +kernel) ?_
        have x29 : (gN (a16.2.2.2.1 0) 3629) ≤ 4 := gN_le x19 (by omega) (show bd 3629 = (0, ((4 : Nat) : Int)) by decide +kernel)
        refine V_iald 100 B (v := (nI ((gN (a16.2.2.2.1 0) 3629)))) 1 rfl (vpin _ _ (by decide +kernel)) dX12_makes_100 (by show (a16.2.2.2.1 0) 3629 = _; exact gN_eq x19 (by omega) (show bd 3629 = (0, ((4 : Nat) : Int)) by decide +kernel)) ?_
        refine V_iadd 101 B (v := (nI (3629 + (gN (a16.2.2.2.1 0) 3629)))) dX12_makes_101 (nI_addE (a := 3629) (b := (gN (a16.2.2.2.1 0) 3629)) (by omega)) ?_
        refine V_iload_n 102 B dX12_makes_102 3 rfl ?_
        have hv30 : INV ph (upd (a16.2.2.2.1 0) (3629 + (gN (a16.2.2.2.1 0) 3629)) s0) := INV_free x19 (rl19 (gN (a16.2.2.2.1 0) 3629) (by omega) (by omega))
        refine V_iast 103 B 1 rfl (vp_in_nI (n := 3629 + (gN (a16.2.2.2.1 0) 3629)) (by omega) (by decide)) dX12_makes_103 [(h0, oC 13 [.ref h1, .ref h2, .int p2, .ref h3, .ref h4, .int (nI k5), .int (nI k6), .int p7, .int p8, .int p9, .int (nI k10), .int p11, .long q12, .ref h5, .ref h6, .int (nI k15), .int (nI k16)]), (h1, aI Y 3640 (upd (a16.2.2.2.1 0) (3629 + (gN (a16.2.2.2.1 0) 3629)) s0)), (h2, aZ Y 2 f1), (h3, aZ Y 80 f3), (h4, aB Y 1600 f4), (h5, aI Y 200 f13), (h6, aI Y 800 f14)] (by rw [nI_clamp (show 3629 + (gN (a16.2.2.2.1 0) 3629) < 2 ^ 31 by omega)]; rfl) ?_
        refine V_aload_n 104 B dX12_makes_104 2 rfl ?_
        refine V_aload_n 105 B dX12_makes_105 2 rfl ?_
        refine V_get 106 B gf_RX12_9 0 rfl rfl dX12_makes_106 ?_
        refine V_bipush 109 B (v := 6) dX12_makes_109 (by decide +kernel) ?_
        refine V_iald 111 B (v := (a16.2.2.2.1 0) (6)) 1 rfl (vpin _ _ (by decide +kernel)) dX12_makes_111 (by show (upd (a16.2.2.2.1 0) (3629 + (gN (a16.2.2.2.1 0) 3629)) s0) 6 = _; rw [upd_ne (by omega)]) ?_
        refine V_nmi (fun j31 e32 => ?_)
        have x33 : (-1) ≤ j31.toInt ∧ j31.toInt ≤ 5 := by rw [e32]; exact ⟨INV_lo x19 (by omega) (show bd 6 = ((-1), 5) by decide +kernel), INV_hi x19 (by omega) (show bd 6 = ((-1), 5) by decide +kernel)⟩
        refine V_sipush 112 B (v := 3629) dX12_makes_112 (by decide +kernel) ?_
        refine V_cvi 115 B (st := []) (As := [.int j31, .int 3629]) (fun sz => rX12_visibleWith l D Y h0 h1 h2 h3 h4 h5 h6 p2 k5 k6 p7 p8 p9 k10 p11 q12 k15 k16 (upd (a16.2.2.2.1 0) (3629 + (gN (a16.2.2.2.1 0) 3629)) s0) f1 f3 f4 f13 f14 ph hv30 (by omega) HP j31 3629 (by omega) (show SQ 3629 by unfold SQ; decide +kernel) sz) glV_RX12_157 ⟨rfl, rfl⟩ ⟨(Nat.le_of_ble_eq_true rfl), (Nat.le_of_ble_eq_true rfl)⟩ ⟨(Nat.le_of_ble_eq_true rfl), (Nat.le_of_ble_eq_true rfl)⟩ [0, 0, 0, 0, 0, 0, 0] rfl 13 0 rfl rfl rfl rfl (Nat.le_of_ble_eq_true rfl) rfl (fun _ _ _ => rfl) dX12_makes_115 (fun j34 u35 w36 => ?_)
        refine V_ws [(h0, oC 13 [.ref h1, .ref h2, .int p2, .ref h3, .ref h4, .int (nI k5), .int (nI k6), .int p7, .int p8, .int p9, .int (nI k10), .int p11, .long q12, .ref h5, .ref h6, .int (nI k15), .int (nI k16)]), (h1, aI Y 3640 (upd (a16.2.2.2.1 0) (3629 + (gN (a16.2.2.2.1 0) 3629)) s0)), (h2, aZ Y 2 f1), (h3, aZ Y 80 f3), (h4, aB Y 1600 f4), (h5, aI Y 200 f13), (h6, aI Y 800 f14)] rfl ?_
        have x37 := w36
        clear w36
        have x40 : (gN (upd (a16.2.2.2.1 0) (3629 + (gN (a16.2.2.2.1 0) 3629)) s0) 3) ≤ 80 := gN_le hv30 (by omega) (show bd 3 = (0, ((80 : Nat) : Int)) by decide +kernel)
        rcases x37 with rfl | ⟨n38, rfl, x39⟩
        ·
          refine V_istore_n 118 B (lv2 := [(3, .int (-1)), (2, .int 1), (0, .ref h0), (1, .int s0)]) dX12_makes_118 (by decide) rfl ?_
          refine V_iload_n 119 B dX12_makes_119 0 rfl ?_
          refine V_iconst 120 B (v := (-1)) dX12_makes_120 (by decide +kernel) ?_
          refine V_icmp_eq_t 121 B 148 dX12_makes_121 (by decide) (by decide +kernel) ?_
          refine V_aload_n 148 B dX12_makes_148 2 rfl ?_
          refine V_aload_n 149 B dX12_makes_149 2 rfl ?_
          refine V_get 150 B gf_RX12_9 0 rfl rfl dX12_makes_150 ?_
          refine V_bipush 153 B (v := 6) dX12_makes_153 (by decide +kernel) ?_
          refine V_iald 155 B (v := (a16.2.2.2.1 0) (6)) 1 rfl (vpin _ _ (by decide +kernel)) dX12_makes_155 (by show (upd (a16.2.2.2.1 0) (3629 + (gN (a16.2.2.2.1 0) 3629)) s0) 6 = _; rw [upd_ne (by omega)]) ?_
          refine V_nmi (fun j41 e42 => ?_)
          have x43 : (-1) ≤ j41.toInt ∧ j41.toInt ≤ 5 := by rw [e42]; exact ⟨INV_lo x19 (by omega) (show bd 6 = ((-1), 5) by decide +kernel), INV_hi x19 (by omega) (show bd 6 = ((-1), 5) by decide +kernel)⟩
          refine V_sipush 156 B (v := 3629) dX12_makes_156 (by decide +kernel) ?_
          refine V_cvi 159 B (st := []) (As := [.int j41, .int 3629]) (fun sz => rX12_continued l D Y h0 h1 h2 h3 h4 h5 h6 p2 k5 k6 p7 p8 p9 k10 p11 q12 k15 k16 (upd (a16.2.2.2.1 0) (3629 + (gN (a16.2.2.2.1 0) 3629)) s0) f1 f3 f4 f13 f14 ph hv30 (by omega) HP j41 3629 (by omega) (show SQ 3629 by unfold SQ; decide +kernel) sz) glV_RX12_160 ⟨rfl, rfl⟩ ⟨(Nat.le_of_ble_eq_true rfl), (Nat.le_of_ble_eq_true rfl)⟩ ⟨(Nat.le_of_ble_eq_true rfl), (Nat.le_of_ble_eq_true rfl)⟩ [0, 0, 0, 0, 0, 0, 0] rfl 13 0 rfl rfl rfl rfl (Nat.le_of_ble_eq_true rfl) rfl (fun _ _ _ => rfl) dX12_makes_159 (fun j44 u45 w46 => ?_)
          refine V_ws [(h0, oC 13 [.ref h1, .ref h2, .int p2, .ref h3, .ref h4, .int (nI k5), .int (nI k6), .int p7, .int p8, .int p9, .int (nI k10), .int p11, .long q12, .ref h5, .ref h6, .int (nI k15), .int (nI k16)]), (h1, aI Y 3640 (upd (a16.2.2.2.1 0) (3629 + (gN (a16.2.2.2.1 0) 3629)) s0)), (h2, aZ Y 2 f1), (h3, aZ Y 80 f3), (h4, aB Y 1600 f4), (h5, aI Y 200 f13), (h6, aI Y 800 f14)] rfl ?_
          have x47 := w46
          clear w46
          refine V_if_le 162 B 194 dX12_makes_162 (by decide) (fun kk48 => ?_) (fun kk48 => ?_)
          ·
            have x49 := x_le kk48
            rw [show (0 : Int32).toInt = 0 by decide +kernel] at x49
            refine V_aload_n 194 B dX12_makes_194 2 rfl ?_
            refine V_get 195 B gf_RX12_9 0 rfl rfl dX12_makes_195 ?_
            refine V_bipush 198 B (v := 12) dX12_makes_198 (by decide +kernel) ?_
            refine V_dup2_11 200 B dX12_makes_200 rfl rfl ?_
            refine V_iald 201 B (v := (a16.2.2.2.1 0) (12)) 1 rfl (vpin _ _ (by decide +kernel)) dX12_makes_201 (by show (upd (a16.2.2.2.1 0) (3629 + (gN (a16.2.2.2.1 0) 3629)) s0) 12 = _; rw [upd_ne (by omega)]) ?_
            refine V_nmi (fun j50 e51 => ?_)
            refine V_iconst 202 B (v := 1) dX12_makes_202 (by decide +kernel) ?_
            refine V_iadd 203 B dX12_makes_203 rfl ?_
            refine V_nmi (fun j52 e53 => ?_)
            have hv54 : INV ph (upd (upd (a16.2.2.2.1 0) (3629 + (gN (a16.2.2.2.1 0) 3629)) s0) 12 j52) := INV_free hv30 (show bd 12 = FREE by decide +kernel)
            refine V_iast 204 B 1 rfl (vpin _ _ (by decide +kernel)) dX12_makes_204 [(h0, oC 13 [.ref h1, .ref h2, .int p2, .ref h3, .ref h4, .int (nI k5), .int (nI k6), .int p7, .int p8, .int p9, .int (nI k10), .int p11, .long q12, .ref h5, .ref h6, .int (nI k15), .int (nI k16)]), (h1, aI Y 3640 (upd (upd (a16.2.2.2.1 0) (3629 + (gN (a16.2.2.2.1 0) 3629)) s0) 12 j52)), (h2, aZ Y 2 f1), (h3, aZ Y 80 f3), (h4, aB Y 1600 f4), (h5, aI Y 200 f13), (h6, aI Y 800 f14)] rfl ?_
            refine V_aload_n 205 B dX12_makes_205 2 rfl ?_
            refine V_get 206 B gf_RX12_9 0 rfl rfl dX12_makes_206 ?_
            refine V_bipush 209 B (v := 8) dX12_makes_209 (by decide +kernel) ?_
            have x55 : (gN (a16.2.2.2.1 0) 8) ≤ 3 := gN_le x19 (by omega) (show bd 8 = (0, ((3 : Nat) : Int)) by decide +kernel)
            refine V_iald 211 B (v := (nI ((gN (a16.2.2.2.1 0) 8)))) 1 rfl (vpin _ _ (by decide +kernel)) dX12_makes_211 (by show (upd (upd (a16.2.2.2.1 0) (3629 + (gN (a16.2.2.2.1 0) 3629)) s0) 12 j52) 8 = _; rw [upd_ne (by omega)]; rw [upd_ne (by omega)]; exact gN_eq x19 (by omega) (show bd 8 = (0, ((3 : Nat) : Int)) by decide +kernel)) ?_
            refine V_if_le 212 B 219 dX12_makes_212 (by decide) (fun kk56 => ?_) (fun kk56 => ?_)
            ·
              have x57 := n_le (a := (gN (a16.2.2.2.1 0) 8)) (b := 0) kk56 (by omega) (by omega)
              refine V_iconst 219 B (v := 0) dX12_makes_219 (by decide +kernel) ?_
              refine V_istore_n 220 B (lv2 := [(2, .int 0), (3, .int (-1)), (0, .ref h0), (1, .int s0)]) dX12_makes_220 (by decide) rfl ?_
              refine V_aload_n 221 B dX12_makes_221 2 rfl ?_
              refine V_get 222 B gf_RX12_9 0 rfl rfl dX12_makes_222 ?_
              refine V_bipush 225 B (v := 8) dX12_makes_225 (by decide +kernel) ?_
              refine V_iconst 227 B (v := 0) dX12_makes_227 (by decide +kernel) ?_
              have hv58 : INV ph (upd (upd (upd (a16.2.2.2.1 0) (3629 + (gN (a16.2.2.2.1 0) 3629)) s0) 12 j52) 8 0) := INV_nat (v := 0) hv54 (show bd 8 = (0, ((3 : Nat) : Int)) by decide +kernel) (by omega) (by decide)
              refine V_iast 228 B 1 rfl (vpin _ _ (by decide +kernel)) dX12_makes_228 [(h0, oC 13 [.ref h1, .ref h2, .int p2, .ref h3, .ref h4, .int (nI k5), .int (nI k6), .int p7, .int p8, .int p9, .int (nI k10), .int p11, .long q12, .ref h5, .ref h6, .int (nI k15), .int (nI k16)]), (h1, aI Y 3640 (upd (upd (upd (a16.2.2.2.1 0) (3629 + (gN (a16.2.2.2.1 0) 3629)) s0) 12 j52) 8 0)), (h2, aZ Y 2 f1), (h3, aZ Y 80 f3), (h4, aB Y 1600 f4), (h5, aI Y 200 f13), (h6, aI Y 800 f14)] rfl ?_
              refine V_goto 229 B 2 dX12_makes_229 (by decide) ?_
              refine V_lv [(2, .int 0), (0, .ref h0), (1, .int s0)] [0, 2, 3] rfl ?_
              exact IH1 (mkW [] [0] [] [(upd (upd (upd (a16.2.2.2.1 0) (3629 + (gN (a16.2.2.2.1 0) 3629)) s0) 12 j52) 8 0)] [] []) ⟨hv58, (Or.inl rfl)⟩ (mk0 e5)
            ·
              have x59 := n_nle (a := (gN (a16.2.2.2.1 0) 8)) (b := 0) kk56 (by omega) (by omega)
              refine V_iconst 215 B (v := 1) dX12_makes_215 (by decide +kernel) ?_
              refine V_goto 216 B 220 dX12_makes_216 (by decide) ?_
              refine V_istore_n 220 B (lv2 := [(2, .int 1), (3, .int (-1)), (0, .ref h0), (1, .int s0)]) dX12_makes_220 (by decide) rfl ?_
              refine V_aload_n 221 B dX12_makes_221 2 rfl ?_
              refine V_get 222 B gf_RX12_9 0 rfl rfl dX12_makes_222 ?_
              refine V_bipush 225 B (v := 8) dX12_makes_225 (by decide +kernel) ?_
              refine V_iconst 227 B (v := 0) dX12_makes_227 (by decide +kernel) ?_
              have hv60 : INV ph (upd (upd (upd (a16.2.2.2.1 0) (3629 + (gN (a16.2.2.2.1 0) 3629)) s0) 12 j52) 8 0) := INV_nat (v := 0) hv54 (show bd 8 = (0, ((3 : Nat) : Int)) by decide +kernel) (by omega) (by decide)
              refine V_iast 228 B 1 rfl (vpin _ _ (by decide +kernel)) dX12_makes_228 [(h0, oC 13 [.ref h1, .ref h2, .int p2, .ref h3, .ref h4, .int (nI k5), .int (nI k6), .int p7, .int p8, .int p9, .int (nI k10), .int p11, .long q12, .ref h5, .ref h6, .int (nI k15), .int (nI k16)]), (h1, aI Y 3640 (upd (upd (upd (a16.2.2.2.1 0) (3629 + (gN (a16.2.2.2.1 0) 3629)) s0) 12 j52) 8 0)), (h2, aZ Y 2 f1), (h3, aZ Y 80 f3), (h4, aB Y 1600 f4), (h5, aI Y 200 f13), (h6, aI Y 800 f14)] rfl ?_
              refine V_goto 229 B 2 dX12_makes_229 (by decide) ?_
              refine V_lv [(2, .int 1), (0, .ref h0), (1, .int s0)] [0, 2, 3] rfl ?_
              exact IH1 (mkW [] [1] [] [(upd (upd (upd (a16.2.2.2.1 0) (3629 + (gN (a16.2.2.2.1 0) 3629)) s0) 12 j52) 8 0)] [] []) ⟨hv60, (Or.inr rfl)⟩ (mk1 e5 (by omega) gN_z)
          ·
            have x61 := x_nle kk48
            rw [show (0 : Int32).toInt = 0 by decide +kernel] at x61
            have x62 : gN (a0.2.2.2.1 0) 8 < 3 := by
              rcases x47 with z | z
              · subst z
                have e0 : (0 : Int32).toInt = 0 := by decide
                omega
              · rw [gN_ne (by omega)] at z; omega
            refine V_aload_n 165 B dX12_makes_165 2 rfl ?_
            refine V_get 166 B gf_RX12_9 0 rfl rfl dX12_makes_166 ?_
            refine V_bipush 169 B (v := 30) dX12_makes_169 (by decide +kernel) ?_
            refine V_aload_n 171 B dX12_makes_171 2 rfl ?_
            refine V_get 172 B gf_RX12_9 0 rfl rfl dX12_makes_172 ?_
            refine V_bipush 175 B (v := 8) dX12_makes_175 (by decide +kernel) ?_
            have x63 : (gN (a16.2.2.2.1 0) 8) ≤ 3 := gN_le x19 (by omega) (show bd 8 = (0, ((3 : Nat) : Int)) by decide +kernel)
            refine V_iald 177 B (v := (nI ((gN (a16.2.2.2.1 0) 8)))) 1 rfl (vpin _ _ (by decide +kernel)) dX12_makes_177 (by show (upd (a16.2.2.2.1 0) (3629 + (gN (a16.2.2.2.1 0) 3629)) s0) 8 = _; rw [upd_ne (by omega)]; exact gN_eq x19 (by omega) (show bd 8 = (0, ((3 : Nat) : Int)) by decide +kernel)) ?_
            refine V_iadd 178 B (v := (nI (30 + (gN (a16.2.2.2.1 0) 8)))) dX12_makes_178 (nI_addE (a := 30) (b := (gN (a16.2.2.2.1 0) 8)) (by omega)) ?_
            refine V_iload_n 179 B dX12_makes_179 3 rfl ?_
            have hv64 : INV ph (upd (upd (a16.2.2.2.1 0) (3629 + (gN (a16.2.2.2.1 0) 3629)) s0) (30 + (gN (a16.2.2.2.1 0) 8)) s0) := INV_free hv30 (rl20 (gN (a16.2.2.2.1 0) 8) (by omega))
            refine V_iast 180 B 1 rfl (vp_in_nI (n := 30 + (gN (a16.2.2.2.1 0) 8)) (by omega) (by decide)) dX12_makes_180 [(h0, oC 13 [.ref h1, .ref h2, .int p2, .ref h3, .ref h4, .int (nI k5), .int (nI k6), .int p7, .int p8, .int p9, .int (nI k10), .int p11, .long q12, .ref h5, .ref h6, .int (nI k15), .int (nI k16)]), (h1, aI Y 3640 (upd (upd (a16.2.2.2.1 0) (3629 + (gN (a16.2.2.2.1 0) 3629)) s0) (30 + (gN (a16.2.2.2.1 0) 8)) s0)), (h2, aZ Y 2 f1), (h3, aZ Y 80 f3), (h4, aB Y 1600 f4), (h5, aI Y 200 f13), (h6, aI Y 800 f14)] (by rw [nI_clamp (show 30 + (gN (a16.2.2.2.1 0) 8) < 2 ^ 31 by omega)]; rfl) ?_
            refine V_aload_n 181 B dX12_makes_181 2 rfl ?_
            refine V_get 182 B gf_RX12_9 0 rfl rfl dX12_makes_182 ?_
            refine V_bipush 185 B (v := 8) dX12_makes_185 (by decide +kernel) ?_
            refine V_dup2_11 187 B dX12_makes_187 rfl rfl ?_
            have x65 : (gN (a16.2.2.2.1 0) 8) ≤ 3 := gN_le x19 (by omega) (show bd 8 = (0, ((3 : Nat) : Int)) by decide +kernel)
            refine V_iald 188 B (v := (nI ((gN (a16.2.2.2.1 0) 8)))) 1 rfl (vpin _ _ (by decide +kernel)) dX12_makes_188 (by show (upd (upd (a16.2.2.2.1 0) (3629 + (gN (a16.2.2.2.1 0) 3629)) s0) (30 + (gN (a16.2.2.2.1 0) 8)) s0) 8 = _; rw [upd_ne (by omega)]; rw [upd_ne (by omega)]; exact gN_eq x19 (by omega) (show bd 8 = (0, ((3 : Nat) : Int)) by decide +kernel)) ?_
            refine V_iconst 189 B (v := 1) dX12_makes_189 (by decide +kernel) ?_
            refine V_iadd 190 B (v := (nI (1 + (gN (a16.2.2.2.1 0) 8)))) dX12_makes_190 (nI_addE (a := (gN (a16.2.2.2.1 0) 8)) (b := 1) (by omega)) ?_
            have hv66 : INV ph (upd (upd (upd (a16.2.2.2.1 0) (3629 + (gN (a16.2.2.2.1 0) 3629)) s0) (30 + (gN (a16.2.2.2.1 0) 8)) s0) 8 (nI (1 + (gN (a16.2.2.2.1 0) 8)))) := INV_nat (v := 1 + (gN (a16.2.2.2.1 0) 8)) hv64 (show bd 8 = (0, ((3 : Nat) : Int)) by decide +kernel) (by omega) (by decide)
            refine V_iast 191 B 1 rfl (vpin _ _ (by decide +kernel)) dX12_makes_191 [(h0, oC 13 [.ref h1, .ref h2, .int p2, .ref h3, .ref h4, .int (nI k5), .int (nI k6), .int p7, .int p8, .int p9, .int (nI k10), .int p11, .long q12, .ref h5, .ref h6, .int (nI k15), .int (nI k16)]), (h1, aI Y 3640 (upd (upd (upd (a16.2.2.2.1 0) (3629 + (gN (a16.2.2.2.1 0) 3629)) s0) (30 + (gN (a16.2.2.2.1 0) 8)) s0) 8 (nI (1 + (gN (a16.2.2.2.1 0) 8))))), (h2, aZ Y 2 f1), (h3, aZ Y 80 f3), (h4, aB Y 1600 f4), (h5, aI Y 200 f13), (h6, aI Y 800 f14)] rfl ?_
            refine V_iconst 192 B (v := (-1)) dX12_makes_192 (by decide +kernel) ?_
            exact V_iret 193 B dX12_makes_193 (mkW [] [] [] [(upd (upd (upd (a16.2.2.2.1 0) (3629 + (gN (a16.2.2.2.1 0) 3629)) s0) (30 + (gN (a16.2.2.2.1 0) 8)) s0) 8 (nI (1 + (gN (a16.2.2.2.1 0) 8))))] [] []) hv66 rfl
        ·
          refine V_istore_n 118 B (lv2 := [(3, .int (nI n38)), (2, .int 1), (0, .ref h0), (1, .int s0)]) dX12_makes_118 (by decide) rfl ?_
          refine V_iload_n 119 B dX12_makes_119 0 rfl ?_
          refine V_iconst 120 B (v := (-1)) dX12_makes_120 (by decide +kernel) ?_
          refine V_icmp_eq_f 121 B 148 dX12_makes_121 (by decide) (fun z => by have z2 := x_eq z; rw [nI_toInt (show n38 < 2 ^ 31 by omega), show ((-1) : Int32).toInt = (-1) by decide +kernel] at z2; omega) ?_
          refine V_aload_n 124 B dX12_makes_124 2 rfl ?_
          refine V_get 125 B gf_RX12_9 0 rfl rfl dX12_makes_125 ?_
          refine V_bipush 128 B (v := 8) dX12_makes_128 (by decide +kernel) ?_
          refine V_iconst 130 B (v := 0) dX12_makes_130 (by decide +kernel) ?_
          have hv68 : INV ph (upd (upd (a16.2.2.2.1 0) (3629 + (gN (a16.2.2.2.1 0) 3629)) s0) 8 0) := INV_nat (v := 0) hv30 (show bd 8 = (0, ((3 : Nat) : Int)) by decide +kernel) (by omega) (by decide)
          refine V_iast 131 B 1 rfl (vpin _ _ (by decide +kernel)) dX12_makes_131 [(h0, oC 13 [.ref h1, .ref h2, .int p2, .ref h3, .ref h4, .int (nI k5), .int (nI k6), .int p7, .int p8, .int p9, .int (nI k10), .int p11, .long q12, .ref h5, .ref h6, .int (nI k15), .int (nI k16)]), (h1, aI Y 3640 (upd (upd (a16.2.2.2.1 0) (3629 + (gN (a16.2.2.2.1 0) 3629)) s0) 8 0)), (h2, aZ Y 2 f1), (h3, aZ Y 80 f3), (h4, aB Y 1600 f4), (h5, aI Y 200 f13), (h6, aI Y 800 f14)] rfl ?_
          refine V_aload_n 132 B dX12_makes_132 2 rfl ?_
          refine V_iload_n 133 B dX12_makes_133 0 rfl ?_
          refine V_cvi 134 B (st := []) (As := [.int (nI n38)]) (fun sz => rX12_commandOf l D Y h0 h1 h2 h3 h4 h5 h6 p2 k5 k6 p7 p8 p9 k10 p11 q12 k15 k16 (upd (upd (a16.2.2.2.1 0) (3629 + (gN (a16.2.2.2.1 0) 3629)) s0) 8 0) f1 f3 f4 f13 f14 ph hv68 (by omega) HP n38 (by omega) sz) glV_RX12_96 ⟨rfl, rfl⟩ ⟨(Nat.le_of_ble_eq_true rfl), (Nat.le_of_ble_eq_true rfl)⟩ ⟨(Nat.le_of_ble_eq_true rfl), (Nat.le_of_ble_eq_true rfl)⟩ [0, 0, 0, 0, 0, 0, 0] rfl 13 0 rfl rfl rfl rfl (Nat.le_of_ble_eq_true rfl) rfl (fun _ _ _ => rfl) dX12_makes_134 (fun j69 u70 w71 => ?_)
          refine V_ws [(h0, oC 13 [.ref h1, .ref h2, .int p2, .ref h3, .ref h4, .int (nI k5), .int (nI k6), .int p7, .int p8, .int p9, .int (nI k10), .int p11, .long q12, .ref h5, .ref h6, .int (nI k15), .int (nI k16)]), (h1, aI Y 3640 (upd (upd (a16.2.2.2.1 0) (3629 + (gN (a16.2.2.2.1 0) 3629)) s0) 8 0)), (h2, aZ Y 2 f1), (h3, aZ Y 80 f3), (h4, aB Y 1600 f4), (h5, aI Y 200 f13), (h6, aI Y 800 f14)] rfl ?_
          have x72 := w71
          clear w71
          obtain rfl := x72
          have x73 : (gN (upd (upd (a16.2.2.2.1 0) (3629 + (gN (a16.2.2.2.1 0) 3629)) s0) 8 0) (185 + 7 * n38)) ≤ 39 := gN_le hv68 (by omega) (rl2 n38 (by omega))
          refine V_istore 137 B (lv2 := [(4, .int (nI ((gN (upd (upd (a16.2.2.2.1 0) (3629 + (gN (a16.2.2.2.1 0) 3629)) s0) 8 0) (185 + 7 * n38))))), (3, .int (nI n38)), (2, .int 1), (0, .ref h0), (1, .int s0)]) dX12_makes_137 (by decide) rfl ?_
          refine V_aload_n 139 B dX12_makes_139 3 rfl ?_
          refine V_iload 140 B dX12_makes_140 0 rfl ?_
          refine V_cvv 142 B (st := []) (As := [.int (nI ((gN (upd (upd (a16.2.2.2.1 0) (3629 + (gN (a16.2.2.2.1 0) 3629)) s0) 8 0) (185 + 7 * n38))))]) (fun sz => rX12_does l D Y h0 h1 h2 h3 h4 h5 h6 p2 k5 k6 p7 p8 p9 k10 p11 q12 k15 k16 (upd (upd (a16.2.2.2.1 0) (3629 + (gN (a16.2.2.2.1 0) 3629)) s0) 8 0) f1 f3 f4 f13 f14 ph hv68 (by omega) HP ((gN (upd (upd (a16.2.2.2.1 0) (3629 + (gN (a16.2.2.2.1 0) 3629)) s0) 8 0) (185 + 7 * n38))) (by omega) sz) glV_RX12_215 ⟨rfl, rfl⟩ ⟨(Nat.le_of_ble_eq_true rfl), (Nat.le_of_ble_eq_true rfl)⟩ ⟨(Nat.le_of_ble_eq_true rfl), (Nat.le_of_ble_eq_true rfl)⟩ [0, 0, 0, 0, 0, 0, 0] rfl 13 0 rfl rfl rfl rfl (Nat.le_of_ble_eq_true rfl) rfl (fun _ _ => rfl) dX12_makes_142 (fun u75 w76 => ?_)
          refine V_ws [(h0, oC 13 [.ref h1, .ref h2, .int p2, .ref h3, .ref h4, .int (nI k5), .int (nI k6), .int p7, .int p8, .int p9, .int (nI k10), .int p11, .long q12, .ref h5, .ref h6, .int (nI k15), .int (nI k16)]), (h1, aI Y 3640 (u75.2.2.2.1 0)), (h2, aZ Y 2 f1), (h3, aZ Y 80 f3), (h4, aB Y 1600 f4), (h5, aI Y 200 f13), (h6, aI Y 800 f14)] rfl ?_
          have x77 := w76
          clear w76
          refine V_iload 145 B dX12_makes_145 0 rfl ?_
          exact V_iret 147 B dX12_makes_147 (mkW [] [] [] [(u75.2.2.2.1 0)] [] []) x77 rfl
      ·
        have x78 := n_nle (a := (gN (a16.2.2.2.1 0) 8)) (b := (a16.1 0)) kk27 (by omega) (by omega)
        refine V_aload_n 61 B dX12_makes_61 2 rfl ?_
        refine V_get 62 B gf_RX12_9 0 rfl rfl dX12_makes_62 ?_
        refine V_sipush 65 B (v := 3630) dX12_makes_65 (by decide +kernel) ?_
        refine V_iload_n 68 B dX12_makes_68 0 rfl ?_
        refine V_iadd 69 B (v := (nI (3630 + (a16.1 0)))) dX12_makes_69 (nI_addE (a := 3630) (b := (a16.1 0)) (by omega)) ?_
        refine V_aload_n 70 B dX12_makes_70 2 rfl ?_
        refine V_get 71 B gf_RX12_9 0 rfl rfl dX12_makes_71 ?_
        refine V_bipush 74 B (v := 30) dX12_makes_74 (by decide +kernel) ?_
        refine V_iload_n 76 B dX12_makes_76 0 rfl ?_
        refine V_iadd 77 B (v := (nI (30 + (a16.1 0)))) dX12_makes_77 (nI_addE (a := 30) (b := (a16.1 0)) (by omega)) ?_
        refine V_iald 78 B (v := (a16.2.2.2.1 0) (30 + (a16.1 0))) 1 rfl (vp_in_nI (n := 30 + (a16.1 0)) (by omega) (by decide)) dX12_makes_78 (by rw [nI_clamp (show 30 + (a16.1 0) < 2 ^ 31 by omega)]) ?_
        refine V_nmi (fun j79 e80 => ?_)
        have hv81 : INV ph (upd (a16.2.2.2.1 0) (3630 + (a16.1 0)) j79) := INV_free x19 (rl21 (a16.1 0) (by omega))
        refine V_iast 79 B 1 rfl (vp_in_nI (n := 3630 + (a16.1 0)) (by omega) (by decide)) dX12_makes_79 [(h0, oC 13 [.ref h1, .ref h2, .int p2, .ref h3, .ref h4, .int (nI k5), .int (nI k6), .int p7, .int p8, .int p9, .int (nI k10), .int p11, .long q12, .ref h5, .ref h6, .int (nI k15), .int (nI k16)]), (h1, aI Y 3640 (upd (a16.2.2.2.1 0) (3630 + (a16.1 0)) j79)), (h2, aZ Y 2 f1), (h3, aZ Y 80 f3), (h4, aB Y 1600 f4), (h5, aI Y 200 f13), (h6, aI Y 800 f14)] (by rw [nI_clamp (show 3630 + (a16.1 0) < 2 ^ 31 by omega)]; rfl) ?_
        refine V_iinc 80 B (v := (nI (1 + (a16.1 0)))) (lv2 := [(3, .int (nI (1 + (a16.1 0)))), (2, .int 1), (0, .ref h0), (1, .int s0)]) dX12_makes_80 0 rfl (nI_addE (a := (a16.1 0)) (b := 1) (by omega)) (by decide) rfl ?_
        refine V_goto 83 B 50 dX12_makes_83 (by decide) ?_
        refine V_lv [(3, .int (nI (1 + (a16.1 0)))), (2, .int 1), (0, .ref h0), (1, .int s0)] [0, 1, 2, 3] rfl ?_
        exact IH17 (mkW [1 + (a16.1 0)] [] [] [(upd (a16.2.2.2.1 0) (3630 + (a16.1 0)) j79)] [] []) ⟨hv81, (show 1 + (a16.1 0) ≤ 4000 by omega), ((gN_ne (by omega)).trans x21), ((gN_ne (by omega)).trans x22)⟩ (by show 100000 - (1 + (a16.1 0)) < 100000 - (a16.1 0); omega))
theorem dX12_pressed_0 : decode cX12_pressed 0 = .ok (.aload_n 0, 1) := by decide +kernel
theorem dX12_pressed_1 : decode cX12_pressed 1 = .ok (.iload_n 1, 1) := by decide +kernel
theorem dX12_pressed_2 : decode cX12_pressed 2 = .ok (.invokevirtual 209, 3) := by decide +kernel
theorem dX12_pressed_5 : decode cX12_pressed 5 = .ok (.istore_n 2, 1) := by decide +kernel
theorem dX12_pressed_6 : decode cX12_pressed 6 = .ok (.iload_n 2, 1) := by decide +kernel
theorem dX12_pressed_7 : decode cX12_pressed 7 = .ok (.iconst (-1), 1) := by decide +kernel
theorem dX12_pressed_8 : decode cX12_pressed 8 = .ok (.if_icmp .ne 13, 3) := by decide +kernel
theorem dX12_pressed_11 : decode cX12_pressed 11 = .ok (.aload_n 0, 1) := by decide +kernel
theorem dX12_pressed_12 : decode cX12_pressed 12 = .ok (.aload_n 0, 1) := by decide +kernel
theorem dX12_pressed_13 : decode cX12_pressed 13 = .ok (.iload_n 1, 1) := by decide +kernel
theorem dX12_pressed_14 : decode cX12_pressed 14 = .ok (.invokevirtual 212, 3) := by decide +kernel
theorem dX12_pressed_17 : decode cX12_pressed 17 = .ok (.invokevirtual 218, 3) := by decide +kernel
theorem glV_RX12_218 : GLV RX12 218 yX12_makes RX12 cX12_makes 5 (some .int) 1 := ⟨⟨(mT9 97 rfl rfl), (mT9 99 rfl rfl), (mTs 67 rfl rfl), (mT1 13 rfl rfl), (mT9 100 rfl rfl)⟩, by decide +kernel⟩
theorem dX12_pressed_20 : decode cX12_pressed 20 = .ok (.ireturn, 1) := by decide +kernel
theorem dX12_pressed_21 : decode cX12_pressed 21 = .ok (.aload_n 0, 1) := by decide +kernel
theorem dX12_pressed_22 : decode cX12_pressed 22 = .ok (.getfield 9, 3) := by decide +kernel
theorem dX12_pressed_25 : decode cX12_pressed 25 = .ok (.sipush 744, 3) := by decide +kernel
theorem dX12_pressed_28 : decode cX12_pressed 28 = .ok (.bipush 28, 2) := by decide +kernel
theorem dX12_pressed_30 : decode cX12_pressed 30 = .ok (.iload_n 2, 1) := by decide +kernel
theorem dX12_pressed_31 : decode cX12_pressed 31 = .ok (.imul, 1) := by decide +kernel
theorem dX12_pressed_32 : decode cX12_pressed 32 = .ok (.iadd, 1) := by decide +kernel
theorem dX12_pressed_33 : decode cX12_pressed 33 = .ok (.iconst 1, 1) := by decide +kernel
theorem dX12_pressed_34 : decode cX12_pressed 34 = .ok (.iadd, 1) := by decide +kernel
theorem dX12_pressed_35 : decode cX12_pressed 35 = .ok (.iconst 1, 1) := by decide +kernel
theorem dX12_pressed_36 : decode cX12_pressed 36 = .ok (.iastore, 1) := by decide +kernel
theorem rl22 : ∀ z0, z0 < 4 → bd (745 + 28 * z0) = FREE := by decide +kernel
theorem dX12_pressed_37 : decode cX12_pressed 37 = .ok (.iconst (-1), 1) := by decide +kernel
theorem dX12_pressed_38 : decode cX12_pressed 38 = .ok (.ireturn, 1) := by decide +kernel
set_option maxRecDepth 100000 in
set_option maxHeartbeats 4000000 in
theorem rX12_pressed (l : Launch) (D : va_G) (Y : Nat → ClassId) (h0 : Nat) (h1 : Nat) (h2 : Nat) (h3 : Nat) (h4 : Nat) (h5 : Nat) (h6 : Nat) (p2 : Int32) (k5 : Nat) (k6 : Nat) (p7 : Int32) (p8 : Int32) (p9 : Int32) (k10 : Nat) (p11 : Int32) (q12 : Int64) (k15 : Nat) (k16 : Nat) (f0 : Nat → Int32) (f1 : Nat → Int32) (f3 : Nat → Int32) (f4 : Nat → Int32) (f13 : Nat → Int32) (f14 : Nat → Int32) (ph : Nat → Int32) (HI : INV ph f0) (HL : k5 ≤ 1600) (HP : PLV f13) (s0 : Nat) (hn0 : s0 < 26) (sz : Nat) : Met l yX12_pressed (WSm yX12_pressed cX12_pressed 3 (some .int)) (mkR 7 0 0 161) (PreC D Y [.ref h0, .int (nI s0)] [(h0, oC 13 [.ref h1, .ref h2, .int p2, .ref h3, .ref h4, .int (nI k5), .int (nI k6), .int p7, .int p8, .int p9, .int (nI k10), .int p11, .long q12, .ref h5, .ref h6, .int (nI k15), .int (nI k16)]), (h1, aI Y 3640 f0), (h2, aZ Y 2 f1), (h3, aZ Y 80 f3), (h4, aB Y 1600 f4), (h5, aI Y 200 f13), (h6, aI Y 800 f14)] sz) (QI D (fun (r : Int32) (u : WU) => INV ph (u.2.2.2.1 0)) (fun (u : WU) => [(h0, oC 13 [.ref h1, .ref h2, .int p2, .ref h3, .ref h4, .int (nI k5), .int (nI k6), .int p7, .int p8, .int p9, .int (nI k10), .int p11, .long q12, .ref h5, .ref h6, .int (nI k15), .int (nI k16)]), (h1, aI Y 3640 (u.2.2.2.1 0)), (h2, aZ Y 2 f1), (h3, aZ Y 80 f3), (h4, aB Y 1600 f4), (h5, aI Y 200 f13), (h6, aI Y 800 f14)]) (va_A [(h0, oC 13 [.ref h1, .ref h2, .int p2, .ref h3, .ref h4, .int (nI k5), .int (nI k6), .int p7, .int p8, .int p9, .int (nI k10), .int p11, .long q12, .ref h5, .ref h6, .int (nI k15), .int (nI k16)]), (h1, aI Y 3640 f0), (h2, aZ Y 2 f1), (h3, aZ Y 80 f3), (h4, aB Y 1600 f4), (h5, aI Y 200 f13), (h6, aI Y 800 f14)] sz)) 0 0 (va_A [(h0, oC 13 [.ref h1, .ref h2, .int p2, .ref h3, .ref h4, .int (nI k5), .int (nI k6), .int p7, .int p8, .int p9, .int (nI k10), .int p11, .long q12, .ref h5, .ref h6, .int (nI k15), .int (nI k16)]), (h1, aI Y 3640 f0), (h2, aZ Y 2 f1), (h3, aZ Y 80 f3), (h4, aB Y 1600 f4), (h5, aI Y 200 f13), (h6, aI Y 800 f14)] sz) :=
  met_of  (by decide +kernel) (Nat.le_of_ble_eq_true rfl) (fun p e s m args below meth c B hin hsz => by
    have B : VB p s m args meth c D Y (va_A [(h0, oC 13 [.ref h1, .ref h2, .int p2, .ref h3, .ref h4, .int (nI k5), .int (nI k6), .int p7, .int p8, .int p9, .int (nI k10), .int p11, .long q12, .ref h5, .ref h6, .int (nI k15), .int (nI k16)]), (h1, aI Y 3640 f0), (h2, aZ Y 2 f1), (h3, aZ Y 80 f3), (h4, aB Y 1600 f4), (h5, aI Y 200 f13), (h6, aI Y 800 f14)] sz) cX12_pressed 3 RX12 (some .int) := B
    refine V_aload_n 0 B dX12_pressed_0 0 rfl ?_
    refine V_iload_n 1 B dX12_pressed_1 1 rfl ?_
    refine V_cvi 2 B (st := []) (As := [.int (nI s0)]) (fun sz => rX12_layerOf l D Y h0 h1 h2 h3 h4 h5 h6 p2 k5 k6 p7 p8 p9 k10 p11 q12 k15 k16 f0 f1 f3 f4 f13 f14 ph HI (by omega) HP (nI s0) sz) glV_RX12_209 ⟨rfl, rfl⟩ ⟨(Nat.le_of_ble_eq_true rfl), (Nat.le_of_ble_eq_true rfl)⟩ ⟨(Nat.le_of_ble_eq_true rfl), (Nat.le_of_ble_eq_true rfl)⟩ [0, 0, 0, 0, 0, 0, 0] rfl 13 0 rfl rfl rfl rfl (Nat.le_of_ble_eq_true rfl) rfl (fun _ _ _ => rfl) dX12_pressed_2 (fun j0 u1 w2 => ?_)
    refine V_ws [(h0, oC 13 [.ref h1, .ref h2, .int p2, .ref h3, .ref h4, .int (nI k5), .int (nI k6), .int p7, .int p8, .int p9, .int (nI k10), .int p11, .long q12, .ref h5, .ref h6, .int (nI k15), .int (nI k16)]), (h1, aI Y 3640 f0), (h2, aZ Y 2 f1), (h3, aZ Y 80 f3), (h4, aB Y 1600 f4), (h5, aI Y 200 f13), (h6, aI Y 800 f14)] rfl ?_
    have x3 := w2
    clear w2
    have x6 : (gN f0 4) ≤ 4 := gN_le HI (by omega) (show bd 4 = (0, ((4 : Nat) : Int)) by decide +kernel)
    rcases x3 with rfl | ⟨n4, rfl, x5⟩
    ·
      refine V_istore_n 5 B (lv2 := [(2, .int (-1)), (0, .ref h0), (1, .int (nI s0))]) dX12_pressed_5 (by decide) rfl ?_
      refine V_iload_n 6 B dX12_pressed_6 0 rfl ?_
      refine V_iconst 7 B (v := (-1)) dX12_pressed_7 (by decide +kernel) ?_
      refine V_icmp_ne_f 8 B 21 dX12_pressed_8 (by decide) (by decide +kernel) ?_
      refine V_aload_n 11 B dX12_pressed_11 1 rfl ?_
      refine V_aload_n 12 B dX12_pressed_12 1 rfl ?_
      refine V_iload_n 13 B dX12_pressed_13 2 rfl ?_
      refine V_cvi 14 B (st := [.ref h0]) (As := [.int (nI s0)]) (fun sz => rX12_madeBy l D Y h0 h1 h2 h3 h4 h5 h6 p2 k5 k6 p7 p8 p9 k10 p11 q12 k15 k16 f0 f1 f3 f4 f13 f14 ph HI (by omega) HP s0 (by omega) sz) glV_RX12_212 ⟨rfl, rfl⟩ ⟨(Nat.le_of_ble_eq_true rfl), (Nat.le_of_ble_eq_true rfl)⟩ ⟨(Nat.le_of_ble_eq_true rfl), (Nat.le_of_ble_eq_true rfl)⟩ [0, 0, 0, 0, 0, 0, 0] rfl 13 0 rfl rfl rfl rfl (Nat.le_of_ble_eq_true rfl) rfl (fun _ _ _ => rfl) dX12_pressed_14 (fun j7 u8 w9 => ?_)
      refine V_ws [(h0, oC 13 [.ref h1, .ref h2, .int p2, .ref h3, .ref h4, .int (nI k5), .int (nI k6), .int p7, .int p8, .int p9, .int (nI k10), .int p11, .long q12, .ref h5, .ref h6, .int (nI k15), .int (nI k16)]), (h1, aI Y 3640 f0), (h2, aZ Y 2 f1), (h3, aZ Y 80 f3), (h4, aB Y 1600 f4), (h5, aI Y 200 f13), (h6, aI Y 800 f14)] rfl ?_
      refine V_cvi 17 B (st := []) (As := [.int j7]) (fun sz => rX12_makes l D Y h0 h1 h2 h3 h4 h5 h6 p2 k5 k6 p7 p8 p9 k10 p11 q12 k15 k16 f0 f1 f3 f4 f13 f14 ph HI (by omega) HP j7 sz) glV_RX12_218 ⟨rfl, rfl⟩ ⟨(Nat.le_of_ble_eq_true rfl), (Nat.le_of_ble_eq_true rfl)⟩ ⟨(Nat.le_of_ble_eq_true rfl), (Nat.le_of_ble_eq_true rfl)⟩ [0, 0, 0, 0, 0, 0, 0] rfl 13 0 rfl rfl rfl rfl (Nat.le_of_ble_eq_true rfl) rfl (fun _ _ _ => rfl) dX12_pressed_17 (fun j10 u11 w12 => ?_)
      refine V_ws [(h0, oC 13 [.ref h1, .ref h2, .int p2, .ref h3, .ref h4, .int (nI k5), .int (nI k6), .int p7, .int p8, .int p9, .int (nI k10), .int p11, .long q12, .ref h5, .ref h6, .int (nI k15), .int (nI k16)]), (h1, aI Y 3640 (u11.2.2.2.1 0)), (h2, aZ Y 2 f1), (h3, aZ Y 80 f3), (h4, aB Y 1600 f4), (h5, aI Y 200 f13), (h6, aI Y 800 f14)] rfl ?_
      have x13 := w12
      clear w12
      exact V_iret 20 B dX12_pressed_20 (mkW [] [] [] [(u11.2.2.2.1 0)] [] []) x13 rfl
    ·
      refine V_istore_n 5 B (lv2 := [(2, .int (nI n4)), (0, .ref h0), (1, .int (nI s0))]) dX12_pressed_5 (by decide) rfl ?_
      refine V_iload_n 6 B dX12_pressed_6 0 rfl ?_
      refine V_iconst 7 B (v := (-1)) dX12_pressed_7 (by decide +kernel) ?_
      refine V_icmp_ne_t 8 B 21 dX12_pressed_8 (by decide) (fun z => by have z2 := x_eq z; rw [nI_toInt (show n4 < 2 ^ 31 by omega), show ((-1) : Int32).toInt = (-1) by decide +kernel] at z2; omega) ?_
      refine V_aload_n 21 B dX12_pressed_21 1 rfl ?_
      refine V_get 22 B gf_RX12_9 0 rfl rfl dX12_pressed_22 ?_
      refine V_sipush 25 B (v := 744) dX12_pressed_25 (by decide +kernel) ?_
      refine V_bipush 28 B (v := 28) dX12_pressed_28 (by decide +kernel) ?_
      refine V_iload_n 30 B dX12_pressed_30 0 rfl ?_
      refine V_imul 31 B (v := (nI (28 * n4))) dX12_pressed_31 (nI_mulE (a := 28) (b := n4) (by omega)) ?_
      refine V_iadd 32 B (v := (nI (744 + 28 * n4))) dX12_pressed_32 (nI_addE (a := 744) (b := 28 * n4) (by omega)) ?_
      refine V_iconst 33 B (v := 1) dX12_pressed_33 (by decide +kernel) ?_
      refine V_iadd 34 B (v := (nI (745 + 28 * n4))) dX12_pressed_34 (nI_addE (a := 744 + 28 * n4) (b := 1) (by omega)) ?_
      refine V_iconst 35 B (v := 1) dX12_pressed_35 (by decide +kernel) ?_
      have hv15 : INV ph (upd f0 (745 + 28 * n4) 1) := INV_free HI (rl22 n4 (by omega))
      refine V_iast 36 B 1 rfl (vp_in_nI (n := 745 + 28 * n4) (by omega) (by decide)) dX12_pressed_36 [(h0, oC 13 [.ref h1, .ref h2, .int p2, .ref h3, .ref h4, .int (nI k5), .int (nI k6), .int p7, .int p8, .int p9, .int (nI k10), .int p11, .long q12, .ref h5, .ref h6, .int (nI k15), .int (nI k16)]), (h1, aI Y 3640 (upd f0 (745 + 28 * n4) 1)), (h2, aZ Y 2 f1), (h3, aZ Y 80 f3), (h4, aB Y 1600 f4), (h5, aI Y 200 f13), (h6, aI Y 800 f14)] (by rw [nI_clamp (show 745 + 28 * n4 < 2 ^ 31 by omega)]; rfl) ?_
      refine V_iconst 37 B (v := (-1)) dX12_pressed_37 (by decide +kernel) ?_
      exact V_iret 38 B dX12_pressed_38 (mkW [] [] [] [(upd f0 (745 + 28 * n4) 1)] [] []) hv15 rfl)
theorem dX12_press_0 : decode cX12_press 0 = .ok (.aload_n 0, 1) := by decide +kernel
theorem dX12_press_1 : decode cX12_press 1 = .ok (.iconst 0, 1) := by decide +kernel
theorem dX12_press_2 : decode cX12_press 2 = .ok (.putfield 38, 3) := by decide +kernel
theorem dX12_press_5 : decode cX12_press 5 = .ok (.aload_n 0, 1) := by decide +kernel
theorem dX12_press_6 : decode cX12_press 6 = .ok (.iload_n 1, 1) := by decide +kernel
theorem dX12_press_7 : decode cX12_press 7 = .ok (.invokestatic 204, 3) := by decide +kernel
theorem dX12_press_10 : decode cX12_press 10 = .ok (.ifCond .ne 7, 3) := by decide +kernel
theorem dX12_press_13 : decode cX12_press 13 = .ok (.iconst 1, 1) := by decide +kernel
theorem dX12_press_14 : decode cX12_press 14 = .ok (.goto 4, 3) := by decide +kernel
theorem dX12_press_18 : decode cX12_press 18 = .ok (.iconst 1, 1) := by decide +kernel
theorem dX12_press_19 : decode cX12_press 19 = .ok (.invokevirtual 69, 3) := by decide +kernel
theorem dX12_press_22 : decode cX12_press 22 = .ok (.ifCond .eq 7, 3) := by decide +kernel
theorem dX12_press_25 : decode cX12_press 25 = .ok (.iconst 0, 1) := by decide +kernel
theorem dX12_press_26 : decode cX12_press 26 = .ok (.goto 8, 3) := by decide +kernel
theorem dX12_press_34 : decode cX12_press 34 = .ok (.ireturn, 1) := by decide +kernel
theorem dX12_press_17 : decode cX12_press 17 = .ok (.iconst 0, 1) := by decide +kernel
theorem dX12_press_29 : decode cX12_press 29 = .ok (.aload_n 0, 1) := by decide +kernel
theorem dX12_press_30 : decode cX12_press 30 = .ok (.iload_n 1, 1) := by decide +kernel
theorem dX12_press_31 : decode cX12_press 31 = .ok (.invokevirtual 221, 3) := by decide +kernel
theorem glV_RX12_221 : GLV RX12 221 yX12_pressed RX12 cX12_pressed 3 (some .int) 1 := ⟨⟨(mT9 93 rfl rfl), (mT9 95 rfl rfl), (mTs 66 rfl rfl), (mT1 13 rfl rfl), (mT9 96 rfl rfl)⟩, by decide +kernel⟩
