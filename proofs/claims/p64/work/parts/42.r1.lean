theorem dX12_isProperPrefix_0 : decode cX12_isProperPrefix 0 = .ok (.aload_n 0, 1) := by decide +kernel
theorem dX12_isProperPrefix_1 : decode cX12_isProperPrefix 1 = .ok (.getfield 9, 3) := by decide +kernel
theorem dX12_isProperPrefix_4 : decode cX12_isProperPrefix 4 = .ok (.iload_n 1, 1) := by decide +kernel
theorem dX12_isProperPrefix_5 : decode cX12_isProperPrefix 5 = .ok (.iaload, 1) := by decide +kernel
theorem dX12_isProperPrefix_6 : decode cX12_isProperPrefix 6 = .ok (.aload_n 0, 1) := by decide +kernel
theorem dX12_isProperPrefix_7 : decode cX12_isProperPrefix 7 = .ok (.getfield 9, 3) := by decide +kernel
theorem dX12_isProperPrefix_10 : decode cX12_isProperPrefix 10 = .ok (.iload_n 2, 1) := by decide +kernel
theorem dX12_isProperPrefix_11 : decode cX12_isProperPrefix 11 = .ok (.iaload, 1) := by decide +kernel
theorem dX12_isProperPrefix_12 : decode cX12_isProperPrefix 12 = .ok (.if_icmp .ge 22, 3) := by decide +kernel
theorem dX12_isProperPrefix_34 : decode cX12_isProperPrefix 34 = .ok (.iconst 0, 1) := by decide +kernel
theorem dX12_isProperPrefix_35 : decode cX12_isProperPrefix 35 = .ok (.ireturn, 1) := by decide +kernel
theorem dX12_isProperPrefix_15 : decode cX12_isProperPrefix 15 = .ok (.aload_n 0, 1) := by decide +kernel
theorem dX12_isProperPrefix_16 : decode cX12_isProperPrefix 16 = .ok (.iload_n 1, 1) := by decide +kernel
theorem dX12_isProperPrefix_17 : decode cX12_isProperPrefix 17 = .ok (.iload_n 2, 1) := by decide +kernel
theorem dX12_isProperPrefix_18 : decode cX12_isProperPrefix 18 = .ok (.invokevirtual 62, 3) := by decide +kernel
theorem dX12_isProperPrefix_21 : decode cX12_isProperPrefix 21 = .ok (.aload_n 0, 1) := by decide +kernel
theorem dX12_isProperPrefix_22 : decode cX12_isProperPrefix 22 = .ok (.getfield 9, 3) := by decide +kernel
theorem dX12_isProperPrefix_25 : decode cX12_isProperPrefix 25 = .ok (.iload_n 1, 1) := by decide +kernel
theorem dX12_isProperPrefix_26 : decode cX12_isProperPrefix 26 = .ok (.iaload, 1) := by decide +kernel
theorem dX12_isProperPrefix_27 : decode cX12_isProperPrefix 27 = .ok (.if_icmp .ne 7, 3) := by decide +kernel
theorem dX12_isProperPrefix_30 : decode cX12_isProperPrefix 30 = .ok (.iconst 1, 1) := by decide +kernel
theorem dX12_isProperPrefix_31 : decode cX12_isProperPrefix 31 = .ok (.goto 4, 3) := by decide +kernel
set_option maxRecDepth 100000 in
set_option maxHeartbeats 4000000 in
theorem rX12_isProperPrefix (l : Launch) (D : va_G) (Y : Nat → ClassId) (h0 : Nat) (h1 : Nat) (h2 : Nat) (h3 : Nat) (h4 : Nat) (h5 : Nat) (h6 : Nat) (p2 : Int32) (k5 : Nat) (k6 : Nat) (p7 : Int32) (p8 : Int32) (p9 : Int32) (k10 : Nat) (p11 : Int32) (q12 : Int64) (k15 : Nat) (k16 : Nat) (f0 : Nat → Int32) (f1 : Nat → Int32) (f3 : Nat → Int32) (f4 : Nat → Int32) (f13 : Nat → Int32) (f14 : Nat → Int32) (ph : Nat → Int32) (HI : INV ph f0) (HL : k5 ≤ 1600) (HP : PLV f13) (s0 : Nat) (s1 : Nat) (hs0 : SQ s0) (hs1 : SQ s1) (sz : Nat) : Met l yX12_isProperPrefix (WSm yX12_isProperPrefix cX12_isProperPrefix 3 (some .boolean)) (mkR 2 0 0 44) (PreC D Y [.ref h0, .int (nI s0), .int (nI s1)] [(h0, oC 13 [.ref h1, .ref h2, .int p2, .ref h3, .ref h4, .int (nI k5), .int (nI k6), .int p7, .int p8, .int p9, .int (nI k10), .int p11, .long q12, .ref h5, .ref h6, .int (nI k15), .int (nI k16)]), (h1, aI Y 3640 f0), (h2, aZ Y 2 f1), (h3, aZ Y 80 f3), (h4, aB Y 1600 f4), (h5, aI Y 200 f13), (h6, aI Y 800 f14)] sz) (QI D (fun (r : Int32) (u : WU) => (r = 0 ∨ (r = 1 ∧ gN f0 s0 < 4))) (fun (u : WU) => [(h0, oC 13 [.ref h1, .ref h2, .int p2, .ref h3, .ref h4, .int (nI k5), .int (nI k6), .int p7, .int p8, .int p9, .int (nI k10), .int p11, .long q12, .ref h5, .ref h6, .int (nI k15), .int (nI k16)]), (h1, aI Y 3640 f0), (h2, aZ Y 2 f1), (h3, aZ Y 80 f3), (h4, aB Y 1600 f4), (h5, aI Y 200 f13), (h6, aI Y 800 f14)]) (va_A [(h0, oC 13 [.ref h1, .ref h2, .int p2, .ref h3, .ref h4, .int (nI k5), .int (nI k6), .int p7, .int p8, .int p9, .int (nI k10), .int p11, .long q12, .ref h5, .ref h6, .int (nI k15), .int (nI k16)]), (h1, aI Y 3640 f0), (h2, aZ Y 2 f1), (h3, aZ Y 80 f3), (h4, aB Y 1600 f4), (h5, aI Y 200 f13), (h6, aI Y 800 f14)] sz)) 0 0 (va_A [(h0, oC 13 [.ref h1, .ref h2, .int p2, .ref h3, .ref h4, .int (nI k5), .int (nI k6), .int p7, .int p8, .int p9, .int (nI k10), .int p11, .long q12, .ref h5, .ref h6, .int (nI k15), .int (nI k16)]), (h1, aI Y 3640 f0), (h2, aZ Y 2 f1), (h3, aZ Y 80 f3), (h4, aB Y 1600 f4), (h5, aI Y 200 f13), (h6, aI Y 800 f14)] sz) :=
  met_of  (by decide +kernel) (Nat.le_of_ble_eq_true rfl) (fun p e s m args below meth c B hin hsz => by
    have B : VB p s m args meth c D Y (va_A [(h0, oC 13 [.ref h1, .ref h2, .int p2, .ref h3, .ref h4, .int (nI k5), .int (nI k6), .int p7, .int p8, .int p9, .int (nI k10), .int p11, .long q12, .ref h5, .ref h6, .int (nI k15), .int (nI k16)]), (h1, aI Y 3640 f0), (h2, aZ Y 2 f1), (h3, aZ Y 80 f3), (h4, aB Y 1600 f4), (h5, aI Y 200 f13), (h6, aI Y 800 f14)] sz) cX12_isProperPrefix 3 RX12 (some .boolean) := B
    have hq_s0 := hs0.1
    have hq_s1 := hs1.1
    refine V_aload_n 0 B dX12_isProperPrefix_0 0 rfl ?_
    refine V_get 1 B gf_RX12_9 0 rfl rfl dX12_isProperPrefix_1 ?_
    refine V_iload_n 4 B dX12_isProperPrefix_4 1 rfl ?_
    have x0 : (gN f0 s0) ≤ 4 := gN_le HI (by omega) hs0.2.1
    refine V_iald 5 B (v := (nI (gN f0 s0))) 1 rfl (vp_in_nI (n := s0) (by omega) (by decide)) dX12_isProperPrefix_5 (by rw [nI_clamp (show s0 < 2 ^ 31 by omega)]; exact gN_eq HI (by omega) hs0.2.1) ?_
    refine V_aload_n 6 B dX12_isProperPrefix_6 0 rfl ?_
    refine V_get 7 B gf_RX12_9 0 rfl rfl dX12_isProperPrefix_7 ?_
    refine V_iload_n 10 B dX12_isProperPrefix_10 2 rfl ?_
    have x1 : (gN f0 s1) ≤ 4 := gN_le HI (by omega) hs1.2.1
    refine V_iald 11 B (v := (nI (gN f0 s1))) 1 rfl (vp_in_nI (n := s1) (by omega) (by decide)) dX12_isProperPrefix_11 (by rw [nI_clamp (show s1 < 2 ^ 31 by omega)]; exact gN_eq HI (by omega) hs1.2.1) ?_
    refine V_icmp_ge 12 B 34 dX12_isProperPrefix_12 (by decide) (fun kk2 => ?_) (fun kk2 => ?_)
    ·
      have x3 := n_le (a := (gN f0 s1)) (b := (gN f0 s0)) kk2 (by omega) (by omega)
      refine V_iconst 34 B (v := 0) dX12_isProperPrefix_34 (by decide +kernel) ?_
      exact V_zret 35 B rfl dX12_isProperPrefix_35 (mkW [] [] [] [] [] []) (Or.inl rfl) rfl
    ·
      have x4 := n_nle (a := (gN f0 s1)) (b := (gN f0 s0)) kk2 (by omega) (by omega)
      refine V_aload_n 15 B dX12_isProperPrefix_15 0 rfl ?_
      refine V_iload_n 16 B dX12_isProperPrefix_16 1 rfl ?_
      refine V_iload_n 17 B dX12_isProperPrefix_17 2 rfl ?_
      refine V_cvi 18 B (st := []) (As := [.int (nI s0), .int (nI s1)]) (fun sz => rX12_commonOf l D Y h0 h1 h2 h3 h4 h5 h6 p2 k5 k6 p7 p8 p9 k10 p11 q12 k15 k16 f0 f1 f3 f4 f13 f14 ph HI (by omega) HP s0 s1 hs0 hs1 sz) glV_RX12_62 ⟨rfl, rfl⟩ ⟨(Nat.le_of_ble_eq_true rfl), (Nat.le_of_ble_eq_true rfl)⟩ ⟨(Nat.le_of_ble_eq_true rfl), (Nat.le_of_ble_eq_true rfl)⟩ [0, 0, 0, 0, 0, 0, 0] rfl 13 0 rfl rfl rfl rfl (Nat.le_of_ble_eq_true rfl) rfl (fun _ _ _ => rfl) dX12_isProperPrefix_18 (fun j5 u6 w7 => ?_)
      refine V_ws [(h0, oC 13 [.ref h1, .ref h2, .int p2, .ref h3, .ref h4, .int (nI k5), .int (nI k6), .int p7, .int p8, .int p9, .int (nI k10), .int p11, .long q12, .ref h5, .ref h6, .int (nI k15), .int (nI k16)]), (h1, aI Y 3640 f0), (h2, aZ Y 2 f1), (h3, aZ Y 80 f3), (h4, aB Y 1600 f4), (h5, aI Y 200 f13), (h6, aI Y 800 f14)] rfl ?_
      have x8 := w7
      clear w7
      obtain rfl := x8
      have x9 := kmV_le f0 s0 s1
      have x10 : gN f0 s0 ≤ 4 := gN_le HI (by omega) hs0.2.1
      have x11 : gN f0 s1 ≤ 4 := gN_le HI (by omega) hs1.2.1
      refine V_aload_n 21 B dX12_isProperPrefix_21 0 rfl ?_
      refine V_get 22 B gf_RX12_9 0 rfl rfl dX12_isProperPrefix_22 ?_
      refine V_iload_n 25 B dX12_isProperPrefix_25 1 rfl ?_
      have x12 : (gN f0 s0) ≤ 4 := gN_le HI (by omega) hs0.2.1
      refine V_iald 26 B (v := (nI (gN f0 s0))) 1 rfl (vp_in_nI (n := s0) (by omega) (by decide)) dX12_isProperPrefix_26 (by rw [nI_clamp (show s0 < 2 ^ 31 by omega)]; exact gN_eq HI (by omega) hs0.2.1) ?_
      refine V_icmp_ne 27 B 34 dX12_isProperPrefix_27 (by decide) (fun kk13 => ?_) (fun kk13 => ?_)
      ·
        have x14 := n_ne (a := (kmV f0 s0 s1)) (b := (gN f0 s0)) kk13
        refine V_iconst 34 B (v := 0) dX12_isProperPrefix_34 (by decide +kernel) ?_
        exact V_zret 35 B rfl dX12_isProperPrefix_35 (mkW [] [] [] [] [] []) (Or.inl rfl) rfl
      ·
        have x15 := n_eq (a := (kmV f0 s0 s1)) (b := (gN f0 s0)) kk13 (by omega) (by omega)
        refine V_iconst 30 B (v := 1) dX12_isProperPrefix_30 (by decide +kernel) ?_
        refine V_goto 31 B 35 dX12_isProperPrefix_31 (by decide) ?_
        exact V_zret 35 B rfl dX12_isProperPrefix_35 (mkW [] [] [] [] [] []) (Or.inr ⟨rfl, by omega⟩) rfl)
theorem dX12_isLess_0 : decode cX12_isLess 0 = .ok (.aload_n 0, 1) := by decide +kernel
theorem dX12_isLess_1 : decode cX12_isLess 1 = .ok (.iload_n 1, 1) := by decide +kernel
theorem dX12_isLess_2 : decode cX12_isLess 2 = .ok (.iload_n 2, 1) := by decide +kernel
theorem dX12_isLess_3 : decode cX12_isLess 3 = .ok (.invokevirtual 62, 3) := by decide +kernel
theorem dX12_isLess_6 : decode cX12_isLess 6 = .ok (.istore_n 3, 1) := by decide +kernel
theorem dX12_isLess_7 : decode cX12_isLess 7 = .ok (.iload_n 3, 1) := by decide +kernel
theorem dX12_isLess_8 : decode cX12_isLess 8 = .ok (.aload_n 0, 1) := by decide +kernel
theorem dX12_isLess_9 : decode cX12_isLess 9 = .ok (.getfield 9, 3) := by decide +kernel
theorem dX12_isLess_12 : decode cX12_isLess 12 = .ok (.iload_n 1, 1) := by decide +kernel
theorem dX12_isLess_13 : decode cX12_isLess 13 = .ok (.iaload, 1) := by decide +kernel
theorem dX12_isLess_14 : decode cX12_isLess 14 = .ok (.if_icmp .ne 21, 3) := by decide +kernel
theorem dX12_isLess_35 : decode cX12_isLess 35 = .ok (.iload_n 3, 1) := by decide +kernel
theorem dX12_isLess_36 : decode cX12_isLess 36 = .ok (.aload_n 0, 1) := by decide +kernel
theorem dX12_isLess_37 : decode cX12_isLess 37 = .ok (.getfield 9, 3) := by decide +kernel
theorem dX12_isLess_40 : decode cX12_isLess 40 = .ok (.iload_n 2, 1) := by decide +kernel
theorem dX12_isLess_41 : decode cX12_isLess 41 = .ok (.iaload, 1) := by decide +kernel
theorem dX12_isLess_42 : decode cX12_isLess 42 = .ok (.if_icmp .ge 30, 3) := by decide +kernel
theorem dX12_isLess_72 : decode cX12_isLess 72 = .ok (.iconst 0, 1) := by decide +kernel
theorem dX12_isLess_73 : decode cX12_isLess 73 = .ok (.ireturn, 1) := by decide +kernel
theorem dX12_isLess_45 : decode cX12_isLess 45 = .ok (.aload_n 0, 1) := by decide +kernel
theorem dX12_isLess_46 : decode cX12_isLess 46 = .ok (.getfield 9, 3) := by decide +kernel
theorem dX12_isLess_49 : decode cX12_isLess 49 = .ok (.iload_n 1, 1) := by decide +kernel
theorem dX12_isLess_50 : decode cX12_isLess 50 = .ok (.iload_n 3, 1) := by decide +kernel
theorem dX12_isLess_51 : decode cX12_isLess 51 = .ok (.iadd, 1) := by decide +kernel
theorem dX12_isLess_52 : decode cX12_isLess 52 = .ok (.iconst 1, 1) := by decide +kernel
theorem dX12_isLess_53 : decode cX12_isLess 53 = .ok (.iadd, 1) := by decide +kernel
theorem dX12_isLess_54 : decode cX12_isLess 54 = .ok (.iaload, 1) := by decide +kernel
theorem dX12_isLess_55 : decode cX12_isLess 55 = .ok (.aload_n 0, 1) := by decide +kernel
theorem dX12_isLess_56 : decode cX12_isLess 56 = .ok (.getfield 9, 3) := by decide +kernel
theorem dX12_isLess_59 : decode cX12_isLess 59 = .ok (.iload_n 2, 1) := by decide +kernel
theorem dX12_isLess_60 : decode cX12_isLess 60 = .ok (.iload_n 3, 1) := by decide +kernel
theorem dX12_isLess_61 : decode cX12_isLess 61 = .ok (.iadd, 1) := by decide +kernel
theorem dX12_isLess_62 : decode cX12_isLess 62 = .ok (.iconst 1, 1) := by decide +kernel
theorem dX12_isLess_63 : decode cX12_isLess 63 = .ok (.iadd, 1) := by decide +kernel
theorem dX12_isLess_64 : decode cX12_isLess 64 = .ok (.iaload, 1) := by decide +kernel
theorem dX12_isLess_65 : decode cX12_isLess 65 = .ok (.if_icmp .ge 7, 3) := by decide +kernel
theorem dX12_isLess_68 : decode cX12_isLess 68 = .ok (.iconst 1, 1) := by decide +kernel
theorem dX12_isLess_69 : decode cX12_isLess 69 = .ok (.goto 4, 3) := by decide +kernel
theorem dX12_isLess_17 : decode cX12_isLess 17 = .ok (.aload_n 0, 1) := by decide +kernel
theorem dX12_isLess_18 : decode cX12_isLess 18 = .ok (.getfield 9, 3) := by decide +kernel
theorem dX12_isLess_21 : decode cX12_isLess 21 = .ok (.iload_n 2, 1) := by decide +kernel
theorem dX12_isLess_22 : decode cX12_isLess 22 = .ok (.iaload, 1) := by decide +kernel
theorem dX12_isLess_23 : decode cX12_isLess 23 = .ok (.iload_n 3, 1) := by decide +kernel
theorem dX12_isLess_24 : decode cX12_isLess 24 = .ok (.if_icmp .le 7, 3) := by decide +kernel
theorem dX12_isLess_31 : decode cX12_isLess 31 = .ok (.iconst 0, 1) := by decide +kernel
theorem dX12_isLess_32 : decode cX12_isLess 32 = .ok (.goto 41, 3) := by decide +kernel
theorem dX12_isLess_27 : decode cX12_isLess 27 = .ok (.iconst 1, 1) := by decide +kernel
theorem dX12_isLess_28 : decode cX12_isLess 28 = .ok (.goto 45, 3) := by decide +kernel
set_option maxRecDepth 100000 in
set_option maxHeartbeats 4000000 in
theorem rX12_isLess (l : Launch) (D : va_G) (Y : Nat → ClassId) (h0 : Nat) (h1 : Nat) (h2 : Nat) (h3 : Nat) (h4 : Nat) (h5 : Nat) (h6 : Nat) (p2 : Int32) (k5 : Nat) (k6 : Nat) (p7 : Int32) (p8 : Int32) (p9 : Int32) (k10 : Nat) (p11 : Int32) (q12 : Int64) (k15 : Nat) (k16 : Nat) (f0 : Nat → Int32) (f1 : Nat → Int32) (f3 : Nat → Int32) (f4 : Nat → Int32) (f13 : Nat → Int32) (f14 : Nat → Int32) (ph : Nat → Int32) (HI : INV ph f0) (HL : k5 ≤ 1600) (HP : PLV f13) (s0 : Nat) (s1 : Nat) (hs0 : SQ s0) (hs1 : SQ s1) (sz : Nat) : Met l yX12_isLess (WSm yX12_isLess cX12_isLess 4 (some .boolean)) (mkR 2 0 0 44) (PreC D Y [.ref h0, .int (nI s0), .int (nI s1)] [(h0, oC 13 [.ref h1, .ref h2, .int p2, .ref h3, .ref h4, .int (nI k5), .int (nI k6), .int p7, .int p8, .int p9, .int (nI k10), .int p11, .long q12, .ref h5, .ref h6, .int (nI k15), .int (nI k16)]), (h1, aI Y 3640 f0), (h2, aZ Y 2 f1), (h3, aZ Y 80 f3), (h4, aB Y 1600 f4), (h5, aI Y 200 f13), (h6, aI Y 800 f14)] sz) (QI D (fun (r : Int32) (u : WU) => (r = 0 ∨ r = 1)) (fun (u : WU) => [(h0, oC 13 [.ref h1, .ref h2, .int p2, .ref h3, .ref h4, .int (nI k5), .int (nI k6), .int p7, .int p8, .int p9, .int (nI k10), .int p11, .long q12, .ref h5, .ref h6, .int (nI k15), .int (nI k16)]), (h1, aI Y 3640 f0), (h2, aZ Y 2 f1), (h3, aZ Y 80 f3), (h4, aB Y 1600 f4), (h5, aI Y 200 f13), (h6, aI Y 800 f14)]) (va_A [(h0, oC 13 [.ref h1, .ref h2, .int p2, .ref h3, .ref h4, .int (nI k5), .int (nI k6), .int p7, .int p8, .int p9, .int (nI k10), .int p11, .long q12, .ref h5, .ref h6, .int (nI k15), .int (nI k16)]), (h1, aI Y 3640 f0), (h2, aZ Y 2 f1), (h3, aZ Y 80 f3), (h4, aB Y 1600 f4), (h5, aI Y 200 f13), (h6, aI Y 800 f14)] sz)) 0 0 (va_A [(h0, oC 13 [.ref h1, .ref h2, .int p2, .ref h3, .ref h4, .int (nI k5), .int (nI k6), .int p7, .int p8, .int p9, .int (nI k10), .int p11, .long q12, .ref h5, .ref h6, .int (nI k15), .int (nI k16)]), (h1, aI Y 3640 f0), (h2, aZ Y 2 f1), (h3, aZ Y 80 f3), (h4, aB Y 1600 f4), (h5, aI Y 200 f13), (h6, aI Y 800 f14)] sz) :=
  met_of  (by decide +kernel) (Nat.le_of_ble_eq_true rfl) (fun p e s m args below meth c B hin hsz => by
    have B : VB p s m args meth c D Y (va_A [(h0, oC 13 [.ref h1, .ref h2, .int p2, .ref h3, .ref h4, .int (nI k5), .int (nI k6), .int p7, .int p8, .int p9, .int (nI k10), .int p11, .long q12, .ref h5, .ref h6, .int (nI k15), .int (nI k16)]), (h1, aI Y 3640 f0), (h2, aZ Y 2 f1), (h3, aZ Y 80 f3), (h4, aB Y 1600 f4), (h5, aI Y 200 f13), (h6, aI Y 800 f14)] sz) cX12_isLess 4 RX12 (some .boolean) := B
    have hq_s0 := hs0.1
    have hq_s1 := hs1.1
    refine V_aload_n 0 B dX12_isLess_0 0 rfl ?_
    refine V_iload_n 1 B dX12_isLess_1 1 rfl ?_
    refine V_iload_n 2 B dX12_isLess_2 2 rfl ?_
    refine V_cvi 3 B (st := []) (As := [.int (nI s0), .int (nI s1)]) (fun sz => rX12_commonOf l D Y h0 h1 h2 h3 h4 h5 h6 p2 k5 k6 p7 p8 p9 k10 p11 q12 k15 k16 f0 f1 f3 f4 f13 f14 ph HI (by omega) HP s0 s1 hs0 hs1 sz) glV_RX12_62 ⟨rfl, rfl⟩ ⟨(Nat.le_of_ble_eq_true rfl), (Nat.le_of_ble_eq_true rfl)⟩ ⟨(Nat.le_of_ble_eq_true rfl), (Nat.le_of_ble_eq_true rfl)⟩ [0, 0, 0, 0, 0, 0, 0] rfl 13 0 rfl rfl rfl rfl (Nat.le_of_ble_eq_true rfl) rfl (fun _ _ _ => rfl) dX12_isLess_3 (fun j0 u1 w2 => ?_)
    refine V_ws [(h0, oC 13 [.ref h1, .ref h2, .int p2, .ref h3, .ref h4, .int (nI k5), .int (nI k6), .int p7, .int p8, .int p9, .int (nI k10), .int p11, .long q12, .ref h5, .ref h6, .int (nI k15), .int (nI k16)]), (h1, aI Y 3640 f0), (h2, aZ Y 2 f1), (h3, aZ Y 80 f3), (h4, aB Y 1600 f4), (h5, aI Y 200 f13), (h6, aI Y 800 f14)] rfl ?_
    have x3 := w2
    clear w2
    obtain rfl := x3
    have x4 := kmV_le f0 s0 s1
    have x5 : gN f0 s0 ≤ 4 := gN_le HI (by omega) hs0.2.1
    have x6 : gN f0 s1 ≤ 4 := gN_le HI (by omega) hs1.2.1
    refine V_istore_n 6 B (lv2 := [(3, .int (nI (kmV f0 s0 s1))), (0, .ref h0), (1, .int (nI s0)), (2, .int (nI s1))]) dX12_isLess_6 (by decide) rfl ?_
    refine V_iload_n 7 B dX12_isLess_7 0 rfl ?_
    refine V_aload_n 8 B dX12_isLess_8 1 rfl ?_
    refine V_get 9 B gf_RX12_9 0 rfl rfl dX12_isLess_9 ?_
    refine V_iload_n 12 B dX12_isLess_12 2 rfl ?_
    have x7 : (gN f0 s0) ≤ 4 := gN_le HI (by omega) hs0.2.1
    refine V_iald 13 B (v := (nI (gN f0 s0))) 1 rfl (vp_in_nI (n := s0) (by omega) (by decide)) dX12_isLess_13 (by rw [nI_clamp (show s0 < 2 ^ 31 by omega)]; exact gN_eq HI (by omega) hs0.2.1) ?_
    refine V_icmp_ne 14 B 35 dX12_isLess_14 (by decide) (fun kk8 => ?_) (fun kk8 => ?_)
    ·
      have x9 := n_ne (a := (kmV f0 s0 s1)) (b := (gN f0 s0)) kk8
      refine V_iload_n 35 B dX12_isLess_35 0 rfl ?_
      refine V_aload_n 36 B dX12_isLess_36 1 rfl ?_
      refine V_get 37 B gf_RX12_9 0 rfl rfl dX12_isLess_37 ?_
      refine V_iload_n 40 B dX12_isLess_40 3 rfl ?_
      have x10 : (gN f0 s1) ≤ 4 := gN_le HI (by omega) hs1.2.1
      refine V_iald 41 B (v := (nI (gN f0 s1))) 1 rfl (vp_in_nI (n := s1) (by omega) (by decide)) dX12_isLess_41 (by rw [nI_clamp (show s1 < 2 ^ 31 by omega)]; exact gN_eq HI (by omega) hs1.2.1) ?_
      refine V_icmp_ge 42 B 72 dX12_isLess_42 (by decide) (fun kk11 => ?_) (fun kk11 => ?_)
      ·
        have x12 := n_le (a := (gN f0 s1)) (b := (kmV f0 s0 s1)) kk11 (by omega) (by omega)
        refine V_iconst 72 B (v := 0) dX12_isLess_72 (by decide +kernel) ?_
        exact V_zret 73 B rfl dX12_isLess_73 (mkW [] [] [] [] [] []) (Or.inl rfl) rfl
      ·
        have x13 := n_nle (a := (gN f0 s1)) (b := (kmV f0 s0 s1)) kk11 (by omega) (by omega)
        refine V_aload_n 45 B dX12_isLess_45 1 rfl ?_
        refine V_get 46 B gf_RX12_9 0 rfl rfl dX12_isLess_46 ?_
        refine V_iload_n 49 B dX12_isLess_49 2 rfl ?_
        refine V_iload_n 50 B dX12_isLess_50 0 rfl ?_
        refine V_iadd 51 B (v := (nI ((kmV f0 s0 s1) + s0))) dX12_isLess_51 (nI_addE (a := s0) (b := (kmV f0 s0 s1)) (by omega)) ?_
        refine V_iconst 52 B (v := 1) dX12_isLess_52 (by decide +kernel) ?_
        refine V_iadd 53 B (v := (nI (1 + (kmV f0 s0 s1) + s0))) dX12_isLess_53 (nI_addE (a := (kmV f0 s0 s1) + s0) (b := 1) (by omega)) ?_
        refine V_iald 54 B (v := f0 (1 + (kmV f0 s0 s1) + s0)) 1 rfl (vp_in_nI (n := 1 + (kmV f0 s0 s1) + s0) (by omega) (by decide)) dX12_isLess_54 (by rw [nI_clamp (show 1 + (kmV f0 s0 s1) + s0 < 2 ^ 31 by omega)]) ?_
        refine V_nmi (fun j14 e15 => ?_)
        refine V_aload_n 55 B dX12_isLess_55 1 rfl ?_
        refine V_get 56 B gf_RX12_9 0 rfl rfl dX12_isLess_56 ?_
        refine V_iload_n 59 B dX12_isLess_59 3 rfl ?_
        refine V_iload_n 60 B dX12_isLess_60 0 rfl ?_
        refine V_iadd 61 B (v := (nI ((kmV f0 s0 s1) + s1))) dX12_isLess_61 (nI_addE (a := s1) (b := (kmV f0 s0 s1)) (by omega)) ?_
        refine V_iconst 62 B (v := 1) dX12_isLess_62 (by decide +kernel) ?_
        refine V_iadd 63 B (v := (nI (1 + (kmV f0 s0 s1) + s1))) dX12_isLess_63 (nI_addE (a := (kmV f0 s0 s1) + s1) (b := 1) (by omega)) ?_
        refine V_iald 64 B (v := f0 (1 + (kmV f0 s0 s1) + s1)) 1 rfl (vp_in_nI (n := 1 + (kmV f0 s0 s1) + s1) (by omega) (by decide)) dX12_isLess_64 (by rw [nI_clamp (show 1 + (kmV f0 s0 s1) + s1 < 2 ^ 31 by omega)]) ?_
        refine V_nmi (fun j16 e17 => ?_)
        refine V_icmp_ge 65 B 72 dX12_isLess_65 (by decide) (fun kk18 => ?_) (fun kk18 => ?_)
        ·
          have x19 := x_le kk18
          refine V_iconst 72 B (v := 0) dX12_isLess_72 (by decide +kernel) ?_
          exact V_zret 73 B rfl dX12_isLess_73 (mkW [] [] [] [] [] []) (Or.inl rfl) rfl
        ·
          have x20 := x_nle kk18
          refine V_iconst 68 B (v := 1) dX12_isLess_68 (by decide +kernel) ?_
          refine V_goto 69 B 73 dX12_isLess_69 (by decide) ?_
          exact V_zret 73 B rfl dX12_isLess_73 (mkW [] [] [] [] [] []) (Or.inr rfl) rfl
    ·
      have x21 := n_eq (a := (kmV f0 s0 s1)) (b := (gN f0 s0)) kk8 (by omega) (by omega)
      refine V_aload_n 17 B dX12_isLess_17 1 rfl ?_
      refine V_get 18 B gf_RX12_9 0 rfl rfl dX12_isLess_18 ?_
      refine V_iload_n 21 B dX12_isLess_21 3 rfl ?_
      have x22 : (gN f0 s1) ≤ 4 := gN_le HI (by omega) hs1.2.1
      refine V_iald 22 B (v := (nI (gN f0 s1))) 1 rfl (vp_in_nI (n := s1) (by omega) (by decide)) dX12_isLess_22 (by rw [nI_clamp (show s1 < 2 ^ 31 by omega)]; exact gN_eq HI (by omega) hs1.2.1) ?_
      refine V_iload_n 23 B dX12_isLess_23 0 rfl ?_
      refine V_icmp_le 24 B 31 dX12_isLess_24 (by decide) (fun kk23 => ?_) (fun kk23 => ?_)
      ·
        have x24 := n_le (a := (gN f0 s1)) (b := (kmV f0 s0 s1)) kk23 (by omega) (by omega)
        refine V_iconst 31 B (v := 0) dX12_isLess_31 (by decide +kernel) ?_
        refine V_goto 32 B 73 dX12_isLess_32 (by decide) ?_
        exact V_zret 73 B rfl dX12_isLess_73 (mkW [] [] [] [] [] []) (Or.inl rfl) rfl
      ·
        have x25 := n_nle (a := (gN f0 s1)) (b := (kmV f0 s0 s1)) kk23 (by omega) (by omega)
        refine V_iconst 27 B (v := 1) dX12_isLess_27 (by decide +kernel) ?_
        refine V_goto 28 B 73 dX12_isLess_28 (by decide) ?_
        exact V_zret 73 B rfl dX12_isLess_73 (mkW [] [] [] [] [] []) (Or.inr rfl) rfl)
theorem dX12_strokeAt_0 : decode cX12_strokeAt 0 = .ok (.iload_n 2, 1) := by decide +kernel
theorem dX12_strokeAt_1 : decode cX12_strokeAt 1 = .ok (.i2l, 1) := by decide +kernel
theorem dX12_strokeAt_2 : decode cX12_strokeAt 2 = .ok (.lconst 0, 1) := by decide +kernel
theorem dX12_strokeAt_3 : decode cX12_strokeAt 3 = .ok (.aload_n 0, 1) := by decide +kernel
theorem dX12_strokeAt_4 : decode cX12_strokeAt 4 = .ok (.getfield 9, 3) := by decide +kernel
theorem dX12_strokeAt_7 : decode cX12_strokeAt 7 = .ok (.iload_n 1, 1) := by decide +kernel
theorem dX12_strokeAt_8 : decode cX12_strokeAt 8 = .ok (.iaload, 1) := by decide +kernel
theorem dX12_strokeAt_9 : decode cX12_strokeAt 9 = .ok (.iconst 1, 1) := by decide +kernel
theorem dX12_strokeAt_10 : decode cX12_strokeAt 10 = .ok (.isub, 1) := by decide +kernel
theorem dX12_strokeAt_11 : decode cX12_strokeAt 11 = .ok (.i2l, 1) := by decide +kernel
theorem dX12_strokeAt_12 : decode cX12_strokeAt 12 = .ok (.invokestatic 41, 3) := by decide +kernel
theorem dX12_strokeAt_15 : decode cX12_strokeAt 15 = .ok (.ifCond .eq 16, 3) := by decide +kernel
theorem dX12_strokeAt_31 : decode cX12_strokeAt 31 = .ok (.iconst (-1), 1) := by decide +kernel
theorem dX12_strokeAt_32 : decode cX12_strokeAt 32 = .ok (.ireturn, 1) := by decide +kernel
theorem dX12_strokeAt_18 : decode cX12_strokeAt 18 = .ok (.aload_n 0, 1) := by decide +kernel
theorem dX12_strokeAt_19 : decode cX12_strokeAt 19 = .ok (.getfield 9, 3) := by decide +kernel
theorem dX12_strokeAt_22 : decode cX12_strokeAt 22 = .ok (.iload_n 1, 1) := by decide +kernel
theorem dX12_strokeAt_23 : decode cX12_strokeAt 23 = .ok (.iload_n 2, 1) := by decide +kernel
theorem dX12_strokeAt_24 : decode cX12_strokeAt 24 = .ok (.iadd, 1) := by decide +kernel
theorem dX12_strokeAt_25 : decode cX12_strokeAt 25 = .ok (.iconst 1, 1) := by decide +kernel
theorem dX12_strokeAt_26 : decode cX12_strokeAt 26 = .ok (.iadd, 1) := by decide +kernel
theorem dX12_strokeAt_27 : decode cX12_strokeAt 27 = .ok (.iaload, 1) := by decide +kernel
theorem dX12_strokeAt_28 : decode cX12_strokeAt 28 = .ok (.goto 4, 3) := by decide +kernel
set_option maxRecDepth 100000 in
set_option maxHeartbeats 4000000 in
theorem rX12_strokeAt (l : Launch) (D : va_G) (Y : Nat → ClassId) (h0 : Nat) (h1 : Nat) (h2 : Nat) (h3 : Nat) (h4 : Nat) (h5 : Nat) (h6 : Nat) (p2 : Int32) (k5 : Nat) (k6 : Nat) (p7 : Int32) (p8 : Int32) (p9 : Int32) (k10 : Nat) (p11 : Int32) (q12 : Int64) (k15 : Nat) (k16 : Nat) (f0 : Nat → Int32) (f1 : Nat → Int32) (f3 : Nat → Int32) (f4 : Nat → Int32) (f13 : Nat → Int32) (f14 : Nat → Int32) (ph : Nat → Int32) (HI : INV ph f0) (HL : k5 ≤ 1600) (HP : PLV f13) (s0 : Nat) (s1 : Int32) (hs0 : SQ s0) (sz : Nat) : Met l yX12_strokeAt (WSm yX12_strokeAt cX12_strokeAt 3 (some .int)) (mkR 1 0 0 25) (PreC D Y [.ref h0, .int (nI s0), .int s1] [(h0, oC 13 [.ref h1, .ref h2, .int p2, .ref h3, .ref h4, .int (nI k5), .int (nI k6), .int p7, .int p8, .int p9, .int (nI k10), .int p11, .long q12, .ref h5, .ref h6, .int (nI k15), .int (nI k16)]), (h1, aI Y 3640 f0), (h2, aZ Y 2 f1), (h3, aZ Y 80 f3), (h4, aB Y 1600 f4), (h5, aI Y 200 f13), (h6, aI Y 800 f14)] sz) (QI D (fun (r : Int32) (u : WU) => True) (fun (u : WU) => [(h0, oC 13 [.ref h1, .ref h2, .int p2, .ref h3, .ref h4, .int (nI k5), .int (nI k6), .int p7, .int p8, .int p9, .int (nI k10), .int p11, .long q12, .ref h5, .ref h6, .int (nI k15), .int (nI k16)]), (h1, aI Y 3640 f0), (h2, aZ Y 2 f1), (h3, aZ Y 80 f3), (h4, aB Y 1600 f4), (h5, aI Y 200 f13), (h6, aI Y 800 f14)]) (va_A [(h0, oC 13 [.ref h1, .ref h2, .int p2, .ref h3, .ref h4, .int (nI k5), .int (nI k6), .int p7, .int p8, .int p9, .int (nI k10), .int p11, .long q12, .ref h5, .ref h6, .int (nI k15), .int (nI k16)]), (h1, aI Y 3640 f0), (h2, aZ Y 2 f1), (h3, aZ Y 80 f3), (h4, aB Y 1600 f4), (h5, aI Y 200 f13), (h6, aI Y 800 f14)] sz)) 0 0 (va_A [(h0, oC 13 [.ref h1, .ref h2, .int p2, .ref h3, .ref h4, .int (nI k5), .int (nI k6), .int p7, .int p8, .int p9, .int (nI k10), .int p11, .long q12, .ref h5, .ref h6, .int (nI k15), .int (nI k16)]), (h1, aI Y 3640 f0), (h2, aZ Y 2 f1), (h3, aZ Y 80 f3), (h4, aB Y 1600 f4), (h5, aI Y 200 f13), (h6, aI Y 800 f14)] sz) :=
  met_of  (by decide +kernel) (Nat.le_of_ble_eq_true rfl) (fun p e s m args below meth c B hin hsz => by
    have B : VB p s m args meth c D Y (va_A [(h0, oC 13 [.ref h1, .ref h2, .int p2, .ref h3, .ref h4, .int (nI k5), .int (nI k6), .int p7, .int p8, .int p9, .int (nI k10), .int p11, .long q12, .ref h5, .ref h6, .int (nI k15), .int (nI k16)]), (h1, aI Y 3640 f0), (h2, aZ Y 2 f1), (h3, aZ Y 80 f3), (h4, aB Y 1600 f4), (h5, aI Y 200 f13), (h6, aI Y 800 f14)] sz) cX12_strokeAt 3 RX12 (some .int) := B
    have hq_s0 := hs0.1
    refine V_iload_n 0 B dX12_strokeAt_0 2 rfl ?_
    refine V_i2l 1 B dX12_strokeAt_1 rfl ?_
    refine V_nml (fun o0 e1 => ?_)
    have x2 : o0.toInt = s1.toInt := by rw [e1, Int32.toInt_toInt64]
    refine V_lconst 2 B (v := 0) dX12_strokeAt_2 (by decide +kernel) ?_
    refine V_aload_n 3 B dX12_strokeAt_3 0 rfl ?_
    refine V_get 4 B gf_RX12_9 0 rfl rfl dX12_strokeAt_4 ?_
    refine V_iload_n 7 B dX12_strokeAt_7 1 rfl ?_
    have x3 : (gN f0 s0) ≤ 4 := gN_le HI (by omega) hs0.2.1
    refine V_iald 8 B (v := (nI (gN f0 s0))) 1 rfl (vp_in_nI (n := s0) (by omega) (by decide)) dX12_strokeAt_8 (by rw [nI_clamp (show s0 < 2 ^ 31 by omega)]; exact gN_eq HI (by omega) hs0.2.1) ?_
    refine V_iconst 9 B (v := 1) dX12_strokeAt_9 (by decide +kernel) ?_
    refine V_isub 10 B dX12_strokeAt_10 rfl ?_
    refine V_nmi (fun j4 e5 => ?_)
    have x6 : j4.toInt = (((gN f0 s0) : Nat) : Int) - ((1 : Nat) : Int) := by rw [e5]; exact nI_subT (a := (gN f0 s0)) (b := 1) (by omega) (by omega)
    refine V_i2l 11 B dX12_strokeAt_11 rfl ?_
    refine V_nml (fun o7 e8 => ?_)
    have x9 : o7.toInt = j4.toInt := by rw [e8, Int32.toInt_toInt64]
    refine V_csi 12 B (st := []) (As := [.long o0, .long 0, .long o7]) (fun sz => rX12_inRange l D Y o0 0 o7 sz) glS_RX12_41 ⟨rfl, rfl⟩ ⟨(Nat.le_of_ble_eq_true rfl), (Nat.le_of_ble_eq_true rfl)⟩ ⟨(Nat.le_of_ble_eq_true rfl), (Nat.le_of_ble_eq_true rfl)⟩ [] rfl rfl (Nat.le_of_ble_eq_true rfl) rfl (fun _ _ _ => rfl) dX12_strokeAt_12 (fun j10 u11 w12 => ?_)
    refine V_ws [(h0, oC 13 [.ref h1, .ref h2, .int p2, .ref h3, .ref h4, .int (nI k5), .int (nI k6), .int p7, .int p8, .int p9, .int (nI k10), .int p11, .long q12, .ref h5, .ref h6, .int (nI k15), .int (nI k16)]), (h1, aI Y 3640 f0), (h2, aZ Y 2 f1), (h3, aZ Y 80 f3), (h4, aB Y 1600 f4), (h5, aI Y 200 f13), (h6, aI Y 800 f14)] rfl ?_
    rcases w12 with ⟨rfl, x15⟩ | ⟨rfl, x13, x14⟩
    ·
      rw [show (0 : Int64).toInt = 0 by decide +kernel] at x15
      refine V_if_eq_t 15 B 31 dX12_strokeAt_15 (by decide) (by decide +kernel) ?_
      refine V_iconst 31 B (v := (-1)) dX12_strokeAt_31 (by decide +kernel) ?_
      exact V_iret 32 B dX12_strokeAt_32 (mkW [] [] [] [] [] []) trivial rfl
    ·
      rw [show (0 : Int64).toInt = 0 by decide +kernel] at x13
      refine V_if_eq_f 15 B 31 dX12_strokeAt_15 (by decide) (by decide +kernel) ?_
      refine V_aload_n 18 B dX12_strokeAt_18 0 rfl ?_
      refine V_get 19 B gf_RX12_9 0 rfl rfl dX12_strokeAt_19 ?_
      refine V_iload_n 22 B dX12_strokeAt_22 1 rfl ?_
      refine V_iload_n 23 B dX12_strokeAt_23 2 rfl ?_
      obtain ⟨n16, x17, rfl⟩ := nat_of (x := s1) (n := 3) (by omega) (by omega)
      have e18 := nI_toInt (show n16 < 2 ^ 31 by omega)
      refine V_iadd 24 B (v := (nI (n16 + s0))) dX12_strokeAt_24 (nI_addE (a := s0) (b := n16) (by omega)) ?_
      refine V_iconst 25 B (v := 1) dX12_strokeAt_25 (by decide +kernel) ?_
      refine V_iadd 26 B (v := (nI (1 + n16 + s0))) dX12_strokeAt_26 (nI_addE (a := n16 + s0) (b := 1) (by omega)) ?_
      refine V_iald 27 B (v := f0 (1 + n16 + s0)) 1 rfl (vp_in_nI (n := 1 + n16 + s0) (by omega) (by decide)) dX12_strokeAt_27 (by rw [nI_clamp (show 1 + n16 + s0 < 2 ^ 31 by omega)]) ?_
      refine V_nmi (fun j19 e20 => ?_)
      refine V_goto 28 B 32 dX12_strokeAt_28 (by decide) ?_
      exact V_iret 32 B dX12_strokeAt_32 (mkW [] [] [] [] [] []) trivial rfl)
theorem dX12_hasNoDraft_0 : decode cX12_hasNoDraft 0 = .ok (.aload_n 0, 1) := by decide +kernel
theorem dX12_hasNoDraft_1 : decode cX12_hasNoDraft 1 = .ok (.getfield 9, 3) := by decide +kernel
theorem dX12_hasNoDraft_4 : decode cX12_hasNoDraft 4 = .ok (.sipush 3624, 3) := by decide +kernel
theorem dX12_hasNoDraft_7 : decode cX12_hasNoDraft 7 = .ok (.iaload, 1) := by decide +kernel
theorem dX12_hasNoDraft_8 : decode cX12_hasNoDraft 8 = .ok (.ifCond .ne 7, 3) := by decide +kernel
theorem dX12_hasNoDraft_15 : decode cX12_hasNoDraft 15 = .ok (.iconst 0, 1) := by decide +kernel
theorem dX12_hasNoDraft_16 : decode cX12_hasNoDraft 16 = .ok (.ireturn, 1) := by decide +kernel
theorem dX12_hasNoDraft_11 : decode cX12_hasNoDraft 11 = .ok (.iconst 1, 1) := by decide +kernel
theorem dX12_hasNoDraft_12 : decode cX12_hasNoDraft 12 = .ok (.goto 4, 3) := by decide +kernel
set_option maxRecDepth 100000 in
set_option maxHeartbeats 4000000 in
theorem rX12_hasNoDraft (l : Launch) (D : va_G) (Y : Nat → ClassId) (h0 : Nat) (h1 : Nat) (h2 : Nat) (h3 : Nat) (h4 : Nat) (h5 : Nat) (h6 : Nat) (p2 : Int32) (k5 : Nat) (k6 : Nat) (p7 : Int32) (p8 : Int32) (p9 : Int32) (k10 : Nat) (p11 : Int32) (q12 : Int64) (k15 : Nat) (k16 : Nat) (f0 : Nat → Int32) (f1 : Nat → Int32) (f3 : Nat → Int32) (f4 : Nat → Int32) (f13 : Nat → Int32) (f14 : Nat → Int32) (ph : Nat → Int32) (HI : INV ph f0) (HL : k5 ≤ 1600) (HP : PLV f13)   (sz : Nat) : Met l yX12_hasNoDraft (WSm yX12_hasNoDraft cX12_hasNoDraft 1 (some .boolean)) (mkR 0 0 0 0) (PreC D Y [.ref h0] [(h0, oC 13 [.ref h1, .ref h2, .int p2, .ref h3, .ref h4, .int (nI k5), .int (nI k6), .int p7, .int p8, .int p9, .int (nI k10), .int p11, .long q12, .ref h5, .ref h6, .int (nI k15), .int (nI k16)]), (h1, aI Y 3640 f0), (h2, aZ Y 2 f1), (h3, aZ Y 80 f3), (h4, aB Y 1600 f4), (h5, aI Y 200 f13), (h6, aI Y 800 f14)] sz) (QI D (fun (r : Int32) (u : WU) => (r = 0 ∨ r = 1)) (fun (u : WU) => [(h0, oC 13 [.ref h1, .ref h2, .int p2, .ref h3, .ref h4, .int (nI k5), .int (nI k6), .int p7, .int p8, .int p9, .int (nI k10), .int p11, .long q12, .ref h5, .ref h6, .int (nI k15), .int (nI k16)]), (h1, aI Y 3640 f0), (h2, aZ Y 2 f1), (h3, aZ Y 80 f3), (h4, aB Y 1600 f4), (h5, aI Y 200 f13), (h6, aI Y 800 f14)]) (va_A [(h0, oC 13 [.ref h1, .ref h2, .int p2, .ref h3, .ref h4, .int (nI k5), .int (nI k6), .int p7, .int p8, .int p9, .int (nI k10), .int p11, .long q12, .ref h5, .ref h6, .int (nI k15), .int (nI k16)]), (h1, aI Y 3640 f0), (h2, aZ Y 2 f1), (h3, aZ Y 80 f3), (h4, aB Y 1600 f4), (h5, aI Y 200 f13), (h6, aI Y 800 f14)] sz)) 0 0 (va_A [(h0, oC 13 [.ref h1, .ref h2, .int p2, .ref h3, .ref h4, .int (nI k5), .int (nI k6), .int p7, .int p8, .int p9, .int (nI k10), .int p11, .long q12, .ref h5, .ref h6, .int (nI k15), .int (nI k16)]), (h1, aI Y 3640 f0), (h2, aZ Y 2 f1), (h3, aZ Y 80 f3), (h4, aB Y 1600 f4), (h5, aI Y 200 f13), (h6, aI Y 800 f14)] sz) :=
  met_of  (by decide +kernel) (Nat.le_of_ble_eq_true rfl) (fun p e s m args below meth c B hin hsz => by
    have B : VB p s m args meth c D Y (va_A [(h0, oC 13 [.ref h1, .ref h2, .int p2, .ref h3, .ref h4, .int (nI k5), .int (nI k6), .int p7, .int p8, .int p9, .int (nI k10), .int p11, .long q12, .ref h5, .ref h6, .int (nI k15), .int (nI k16)]), (h1, aI Y 3640 f0), (h2, aZ Y 2 f1), (h3, aZ Y 80 f3), (h4, aB Y 1600 f4), (h5, aI Y 200 f13), (h6, aI Y 800 f14)] sz) cX12_hasNoDraft 1 RX12 (some .boolean) := B
    refine V_aload_n 0 B dX12_hasNoDraft_0 0 rfl ?_
    refine V_get 1 B gf_RX12_9 0 rfl rfl dX12_hasNoDraft_1 ?_
    refine V_sipush 4 B (v := 3624) dX12_hasNoDraft_4 (by decide +kernel) ?_
    have x0 : (gN f0 3624) ≤ 4 := gN_le HI (by omega) (show bd 3624 = (0, ((4 : Nat) : Int)) by decide +kernel)
    refine V_iald 7 B (v := (nI (gN f0 3624))) 1 rfl (vpin _ _ (by decide +kernel)) dX12_hasNoDraft_7 (by show f0 3624 = _; exact gN_eq HI (by omega) (show bd 3624 = (0, ((4 : Nat) : Int)) by decide +kernel)) ?_
    refine V_if_ne 8 B 15 dX12_hasNoDraft_8 (by decide) (fun kk1 => ?_) (fun kk1 => ?_)
    ·
      have x2 := n_ne (a := (gN f0 3624)) (b := 0) kk1
      refine V_iconst 15 B (v := 0) dX12_hasNoDraft_15 (by decide +kernel) ?_
      exact V_zret 16 B rfl dX12_hasNoDraft_16 (mkW [] [] [] [] [] []) (Or.inl rfl) rfl
    ·
      have x3 := n_eq (a := (gN f0 3624)) (b := 0) kk1 (by omega) (by omega)
      refine V_iconst 11 B (v := 1) dX12_hasNoDraft_11 (by decide +kernel) ?_
      refine V_goto 12 B 16 dX12_hasNoDraft_12 (by decide) ?_
      exact V_zret 16 B rfl dX12_hasNoDraft_16 (mkW [] [] [] [] [] []) (Or.inr rfl) rfl)
theorem dX12_draft_0 : decode cX12_draft 0 = .ok (.aload_n 0, 1) := by decide +kernel
theorem dX12_draft_1 : decode cX12_draft 1 = .ok (.iconst 0, 1) := by decide +kernel
theorem dX12_draft_2 : decode cX12_draft 2 = .ok (.putfield 38, 3) := by decide +kernel
theorem dX12_draft_5 : decode cX12_draft 5 = .ok (.aload_n 0, 1) := by decide +kernel
theorem dX12_draft_6 : decode cX12_draft 6 = .ok (.iload_n 1, 1) := by decide +kernel
theorem dX12_draft_7 : decode cX12_draft 7 = .ok (.invokestatic 65, 3) := by decide +kernel
theorem glS_RX12_65 : GLS RX12 65 yX12_isStroke cX12_isStroke 1 (some .boolean) 1 := ⟨⟨(mT7 209 rfl rfl), (mT7 210 rfl rfl), (mT1 13 rfl rfl), (mT7 211 rfl rfl)⟩, by decide +kernel⟩
theorem dX12_draft_10 : decode cX12_draft 10 = .ok (.ifCond .ne 7, 3) := by decide +kernel
theorem dX12_draft_13 : decode cX12_draft 13 = .ok (.iconst 1, 1) := by decide +kernel
theorem dX12_draft_14 : decode cX12_draft 14 = .ok (.goto 4, 3) := by decide +kernel
theorem dX12_draft_18 : decode cX12_draft 18 = .ok (.iconst 1, 1) := by decide +kernel
theorem dX12_draft_19 : decode cX12_draft 19 = .ok (.invokevirtual 69, 3) := by decide +kernel
theorem dX12_throwsIf_0 : decode cX12_throwsIf 0 = .ok (.iload_n 1, 1) := by decide +kernel
theorem dX12_throwsIf_1 : decode cX12_throwsIf 1 = .ok (.ifCond .eq 8, 3) := by decide +kernel
theorem dX12_throwsIf_4 : decode cX12_throwsIf 4 = .ok (.aload_n 0, 1) := by decide +kernel
theorem dX12_throwsIf_5 : decode cX12_throwsIf 5 = .ok (.iload_n 2, 1) := by decide +kernel
theorem dX12_throwsIf_6 : decode cX12_throwsIf 6 = .ok (.putfield 38, 3) := by decide +kernel
theorem dX12_throwsIf_9 : decode cX12_throwsIf 9 = .ok (.iload_n 1, 1) := by decide +kernel
theorem dX12_throwsIf_10 : decode cX12_throwsIf 10 = .ok (.ireturn, 1) := by decide +kernel
set_option maxRecDepth 100000 in
set_option maxHeartbeats 4000000 in
theorem rX12_throwsIf_1 (l : Launch) (D : va_G) (Y : Nat → ClassId) (h0 : Nat) (h1 : Nat) (h2 : Nat) (h3 : Nat) (h4 : Nat) (h5 : Nat) (h6 : Nat) (p2 : Int32) (k5 : Nat) (k6 : Nat) (p7 : Int32) (p8 : Int32) (p9 : Int32) (k10 : Nat) (p11 : Int32) (q12 : Int64) (k15 : Nat) (k16 : Nat) (f0 : Nat → Int32) (f1 : Nat → Int32) (f3 : Nat → Int32) (f4 : Nat → Int32) (f13 : Nat → Int32) (f14 : Nat → Int32) (ph : Nat → Int32) (HI : INV ph f0) (HL : k5 ≤ 1600) (HP : PLV f13) (s1 : Int32)  (sz : Nat) : Met l yX12_throwsIf (WSm yX12_throwsIf cX12_throwsIf 3 (some .boolean)) (mkR 0 0 0 0) (PreC D Y [.ref h0, .int 1, .int s1] [(h0, oC 13 [.ref h1, .ref h2, .int p2, .ref h3, .ref h4, .int (nI k5), .int (nI k6), .int p7, .int p8, .int p9, .int (nI k10), .int p11, .long q12, .ref h5, .ref h6, .int (nI k15), .int (nI k16)]), (h1, aI Y 3640 f0), (h2, aZ Y 2 f1), (h3, aZ Y 80 f3), (h4, aB Y 1600 f4), (h5, aI Y 200 f13), (h6, aI Y 800 f14)] sz) (QI D (fun (r : Int32) (u : WU) => r = 1) (fun (u : WU) => [(h0, oC 13 [.ref h1, .ref h2, .int (u.2.1 0), .ref h3, .ref h4, .int (nI k5), .int (nI k6), .int p7, .int p8, .int p9, .int (nI k10), .int p11, .long q12, .ref h5, .ref h6, .int (nI k15), .int (nI k16)]), (h1, aI Y 3640 f0), (h2, aZ Y 2 f1), (h3, aZ Y 80 f3), (h4, aB Y 1600 f4), (h5, aI Y 200 f13), (h6, aI Y 800 f14)]) (va_A [(h0, oC 13 [.ref h1, .ref h2, .int p2, .ref h3, .ref h4, .int (nI k5), .int (nI k6), .int p7, .int p8, .int p9, .int (nI k10), .int p11, .long q12, .ref h5, .ref h6, .int (nI k15), .int (nI k16)]), (h1, aI Y 3640 f0), (h2, aZ Y 2 f1), (h3, aZ Y 80 f3), (h4, aB Y 1600 f4), (h5, aI Y 200 f13), (h6, aI Y 800 f14)] sz)) 0 0 (va_A [(h0, oC 13 [.ref h1, .ref h2, .int p2, .ref h3, .ref h4, .int (nI k5), .int (nI k6), .int p7, .int p8, .int p9, .int (nI k10), .int p11, .long q12, .ref h5, .ref h6, .int (nI k15), .int (nI k16)]), (h1, aI Y 3640 f0), (h2, aZ Y 2 f1), (h3, aZ Y 80 f3), (h4, aB Y 1600 f4), (h5, aI Y 200 f13), (h6, aI Y 800 f14)] sz) :=
  met_of  (by decide +kernel) (Nat.le_of_ble_eq_true rfl) (fun p e s m args below meth c B hin hsz => by
    have B : VB p s m args meth c D Y (va_A [(h0, oC 13 [.ref h1, .ref h2, .int p2, .ref h3, .ref h4, .int (nI k5), .int (nI k6), .int p7, .int p8, .int p9, .int (nI k10), .int p11, .long q12, .ref h5, .ref h6, .int (nI k15), .int (nI k16)]), (h1, aI Y 3640 f0), (h2, aZ Y 2 f1), (h3, aZ Y 80 f3), (h4, aB Y 1600 f4), (h5, aI Y 200 f13), (h6, aI Y 800 f14)] sz) cX12_throwsIf 3 RX12 (some .boolean) := B
    refine V_iload_n 0 B dX12_throwsIf_0 1 rfl ?_
    refine V_if_eq_f 1 B 9 dX12_throwsIf_1 (by decide) (by decide +kernel) ?_
    refine V_aload_n 4 B dX12_throwsIf_4 0 rfl ?_
    refine V_iload_n 5 B dX12_throwsIf_5 2 rfl ?_
    refine V_put 6 B gp_RX12_38 0 rfl (Nat.le_of_ble_eq_true rfl) rfl rfl dX12_throwsIf_6 [(h0, oC 13 [.ref h1, .ref h2, .int s1, .ref h3, .ref h4, .int (nI k5), .int (nI k6), .int p7, .int p8, .int p9, .int (nI k10), .int p11, .long q12, .ref h5, .ref h6, .int (nI k15), .int (nI k16)]), (h1, aI Y 3640 f0), (h2, aZ Y 2 f1), (h3, aZ Y 80 f3), (h4, aB Y 1600 f4), (h5, aI Y 200 f13), (h6, aI Y 800 f14)] rfl ?_
    refine V_iload_n 9 B dX12_throwsIf_9 1 rfl ?_
    exact V_zret 10 B rfl dX12_throwsIf_10 (mkW [] [s1] [] [] [] []) rfl rfl)
theorem glV_RX12_69 : GLV RX12 69 yX12_throwsIf RX12 cX12_throwsIf 3 (some .boolean) 2 := ⟨⟨(mT7 213 rfl rfl), (mT7 215 rfl rfl), (mTs 29 rfl rfl), (mT1 13 rfl rfl), (mT7 216 rfl rfl)⟩, by decide +kernel⟩
theorem dX12_draft_22 : decode cX12_draft 22 = .ok (.ifCond .eq 5, 3) := by decide +kernel
theorem dX12_draft_25 : decode cX12_draft 25 = .ok (.iconst 0, 1) := by decide +kernel
theorem dX12_draft_26 : decode cX12_draft 26 = .ok (.ireturn, 1) := by decide +kernel
theorem dX12_draft_17 : decode cX12_draft 17 = .ok (.iconst 0, 1) := by decide +kernel
set_option maxRecDepth 100000 in
set_option maxHeartbeats 4000000 in
theorem rX12_throwsIf_0 (l : Launch) (D : va_G) (Y : Nat → ClassId) (h0 : Nat) (h1 : Nat) (h2 : Nat) (h3 : Nat) (h4 : Nat) (h5 : Nat) (h6 : Nat) (p2 : Int32) (k5 : Nat) (k6 : Nat) (p7 : Int32) (p8 : Int32) (p9 : Int32) (k10 : Nat) (p11 : Int32) (q12 : Int64) (k15 : Nat) (k16 : Nat) (f0 : Nat → Int32) (f1 : Nat → Int32) (f3 : Nat → Int32) (f4 : Nat → Int32) (f13 : Nat → Int32) (f14 : Nat → Int32) (ph : Nat → Int32) (HI : INV ph f0) (HL : k5 ≤ 1600) (HP : PLV f13) (s1 : Int32)  (sz : Nat) : Met l yX12_throwsIf (WSm yX12_throwsIf cX12_throwsIf 3 (some .boolean)) (mkR 0 0 0 0) (PreC D Y [.ref h0, .int 0, .int s1] [(h0, oC 13 [.ref h1, .ref h2, .int p2, .ref h3, .ref h4, .int (nI k5), .int (nI k6), .int p7, .int p8, .int p9, .int (nI k10), .int p11, .long q12, .ref h5, .ref h6, .int (nI k15), .int (nI k16)]), (h1, aI Y 3640 f0), (h2, aZ Y 2 f1), (h3, aZ Y 80 f3), (h4, aB Y 1600 f4), (h5, aI Y 200 f13), (h6, aI Y 800 f14)] sz) (QI D (fun (r : Int32) (u : WU) => r = 0) (fun (u : WU) => [(h0, oC 13 [.ref h1, .ref h2, .int (u.2.1 0), .ref h3, .ref h4, .int (nI k5), .int (nI k6), .int p7, .int p8, .int p9, .int (nI k10), .int p11, .long q12, .ref h5, .ref h6, .int (nI k15), .int (nI k16)]), (h1, aI Y 3640 f0), (h2, aZ Y 2 f1), (h3, aZ Y 80 f3), (h4, aB Y 1600 f4), (h5, aI Y 200 f13), (h6, aI Y 800 f14)]) (va_A [(h0, oC 13 [.ref h1, .ref h2, .int p2, .ref h3, .ref h4, .int (nI k5), .int (nI k6), .int p7, .int p8, .int p9, .int (nI k10), .int p11, .long q12, .ref h5, .ref h6, .int (nI k15), .int (nI k16)]), (h1, aI Y 3640 f0), (h2, aZ Y 2 f1), (h3, aZ Y 80 f3), (h4, aB Y 1600 f4), (h5, aI Y 200 f13), (h6, aI Y 800 f14)] sz)) 0 0 (va_A [(h0, oC 13 [.ref h1, .ref h2, .int p2, .ref h3, .ref h4, .int (nI k5), .int (nI k6), .int p7, .int p8, .int p9, .int (nI k10), .int p11, .long q12, .ref h5, .ref h6, .int (nI k15), .int (nI k16)]), (h1, aI Y 3640 f0), (h2, aZ Y 2 f1), (h3, aZ Y 80 f3), (h4, aB Y 1600 f4), (h5, aI Y 200 f13), (h6, aI Y 800 f14)] sz) :=
  met_of  (by decide +kernel) (Nat.le_of_ble_eq_true rfl) (fun p e s m args below meth c B hin hsz => by
    have B : VB p s m args meth c D Y (va_A [(h0, oC 13 [.ref h1, .ref h2, .int p2, .ref h3, .ref h4, .int (nI k5), .int (nI k6), .int p7, .int p8, .int p9, .int (nI k10), .int p11, .long q12, .ref h5, .ref h6, .int (nI k15), .int (nI k16)]), (h1, aI Y 3640 f0), (h2, aZ Y 2 f1), (h3, aZ Y 80 f3), (h4, aB Y 1600 f4), (h5, aI Y 200 f13), (h6, aI Y 800 f14)] sz) cX12_throwsIf 3 RX12 (some .boolean) := B
    refine V_iload_n 0 B dX12_throwsIf_0 1 rfl ?_
    refine V_if_eq_t 1 B 9 dX12_throwsIf_1 (by decide) (by decide +kernel) ?_
    refine V_iload_n 9 B dX12_throwsIf_9 1 rfl ?_
    exact V_zret 10 B rfl dX12_throwsIf_10 (mkW [] [p2] [] [] [] []) rfl rfl)
theorem dX12_draft_27 : decode cX12_draft 27 = .ok (.aload_n 0, 1) := by decide +kernel
theorem dX12_draft_28 : decode cX12_draft 28 = .ok (.getfield 9, 3) := by decide +kernel
theorem dX12_draft_31 : decode cX12_draft 31 = .ok (.sipush 3624, 3) := by decide +kernel
theorem dX12_draft_34 : decode cX12_draft 34 = .ok (.iaload, 1) := by decide +kernel
theorem dX12_draft_35 : decode cX12_draft 35 = .ok (.iconst 4, 1) := by decide +kernel
theorem dX12_draft_36 : decode cX12_draft 36 = .ok (.if_icmp .ne 6, 3) := by decide +kernel
theorem dX12_draft_42 : decode cX12_draft 42 = .ok (.aload_n 0, 1) := by decide +kernel
theorem dX12_draft_43 : decode cX12_draft 43 = .ok (.getfield 9, 3) := by decide +kernel
theorem dX12_draft_46 : decode cX12_draft 46 = .ok (.sipush 3624, 3) := by decide +kernel
theorem dX12_draft_49 : decode cX12_draft 49 = .ok (.dup2, 1) := by decide +kernel
theorem dX12_draft_50 : decode cX12_draft 50 = .ok (.iaload, 1) := by decide +kernel
theorem dX12_draft_51 : decode cX12_draft 51 = .ok (.iconst 1, 1) := by decide +kernel
theorem dX12_draft_52 : decode cX12_draft 52 = .ok (.iadd, 1) := by decide +kernel
theorem dX12_draft_53 : decode cX12_draft 53 = .ok (.iastore, 1) := by decide +kernel
theorem dX12_draft_54 : decode cX12_draft 54 = .ok (.aload_n 0, 1) := by decide +kernel
theorem dX12_draft_55 : decode cX12_draft 55 = .ok (.getfield 9, 3) := by decide +kernel
theorem dX12_draft_58 : decode cX12_draft 58 = .ok (.sipush 3624, 3) := by decide +kernel
theorem dX12_draft_61 : decode cX12_draft 61 = .ok (.aload_n 0, 1) := by decide +kernel
theorem dX12_draft_62 : decode cX12_draft 62 = .ok (.getfield 9, 3) := by decide +kernel
theorem dX12_draft_65 : decode cX12_draft 65 = .ok (.sipush 3624, 3) := by decide +kernel
theorem dX12_draft_68 : decode cX12_draft 68 = .ok (.iaload, 1) := by decide +kernel
theorem dX12_draft_69 : decode cX12_draft 69 = .ok (.iadd, 1) := by decide +kernel
theorem dX12_draft_70 : decode cX12_draft 70 = .ok (.iload_n 1, 1) := by decide +kernel
theorem dX12_draft_71 : decode cX12_draft 71 = .ok (.iastore, 1) := by decide +kernel
theorem rl0 : ∀ z0, z0 < 4 → bd (3625 + z0) = FREE := by decide +kernel
theorem dX12_draft_72 : decode cX12_draft 72 = .ok (.aload_n 0, 1) := by decide +kernel
theorem dX12_draft_73 : decode cX12_draft 73 = .ok (.getfield 9, 3) := by decide +kernel
theorem dX12_draft_76 : decode cX12_draft 76 = .ok (.sipush 3624, 3) := by decide +kernel
theorem dX12_draft_79 : decode cX12_draft 79 = .ok (.iaload, 1) := by decide +kernel
theorem dX12_draft_80 : decode cX12_draft 80 = .ok (.ireturn, 1) := by decide +kernel
theorem dX12_draft_39 : decode cX12_draft 39 = .ok (.bipush (-2), 2) := by decide +kernel
theorem dX12_draft_41 : decode cX12_draft 41 = .ok (.ireturn, 1) := by decide +kernel
set_option maxRecDepth 100000 in
set_option maxHeartbeats 4000000 in
theorem rX12_draft (l : Launch) (D : va_G) (Y : Nat → ClassId) (h0 : Nat) (h1 : Nat) (h2 : Nat) (h3 : Nat) (h4 : Nat) (h5 : Nat) (h6 : Nat) (p2 : Int32) (k5 : Nat) (k6 : Nat) (p7 : Int32) (p8 : Int32) (p9 : Int32) (k10 : Nat) (p11 : Int32) (q12 : Int64) (k15 : Nat) (k16 : Nat) (f0 : Nat → Int32) (f1 : Nat → Int32) (f3 : Nat → Int32) (f4 : Nat → Int32) (f13 : Nat → Int32) (f14 : Nat → Int32) (ph : Nat → Int32) (HI : INV ph f0) (HL : k5 ≤ 1600) (HP : PLV f13) (s0 : Int32)  (sz : Nat) : Met l yX12_draft (WSm yX12_draft cX12_draft 2 (some .int)) (mkR 2 0 0 45) (PreC D Y [.ref h0, .int s0] [(h0, oC 13 [.ref h1, .ref h2, .int p2, .ref h3, .ref h4, .int (nI k5), .int (nI k6), .int p7, .int p8, .int p9, .int (nI k10), .int p11, .long q12, .ref h5, .ref h6, .int (nI k15), .int (nI k16)]), (h1, aI Y 3640 f0), (h2, aZ Y 2 f1), (h3, aZ Y 80 f3), (h4, aB Y 1600 f4), (h5, aI Y 200 f13), (h6, aI Y 800 f14)] sz) (QI D (fun (r : Int32) (u : WU) => INV ph (u.2.2.2.1 0)) (fun (u : WU) => [(h0, oC 13 [.ref h1, .ref h2, .int (u.2.1 0), .ref h3, .ref h4, .int (nI k5), .int (nI k6), .int p7, .int p8, .int p9, .int (nI k10), .int p11, .long q12, .ref h5, .ref h6, .int (nI k15), .int (nI k16)]), (h1, aI Y 3640 (u.2.2.2.1 0)), (h2, aZ Y 2 f1), (h3, aZ Y 80 f3), (h4, aB Y 1600 f4), (h5, aI Y 200 f13), (h6, aI Y 800 f14)]) (va_A [(h0, oC 13 [.ref h1, .ref h2, .int p2, .ref h3, .ref h4, .int (nI k5), .int (nI k6), .int p7, .int p8, .int p9, .int (nI k10), .int p11, .long q12, .ref h5, .ref h6, .int (nI k15), .int (nI k16)]), (h1, aI Y 3640 f0), (h2, aZ Y 2 f1), (h3, aZ Y 80 f3), (h4, aB Y 1600 f4), (h5, aI Y 200 f13), (h6, aI Y 800 f14)] sz)) 0 0 (va_A [(h0, oC 13 [.ref h1, .ref h2, .int p2, .ref h3, .ref h4, .int (nI k5), .int (nI k6), .int p7, .int p8, .int p9, .int (nI k10), .int p11, .long q12, .ref h5, .ref h6, .int (nI k15), .int (nI k16)]), (h1, aI Y 3640 f0), (h2, aZ Y 2 f1), (h3, aZ Y 80 f3), (h4, aB Y 1600 f4), (h5, aI Y 200 f13), (h6, aI Y 800 f14)] sz) :=
  met_of  (by decide +kernel) (Nat.le_of_ble_eq_true rfl) (fun p e s m args below meth c B hin hsz => by
    have B : VB p s m args meth c D Y (va_A [(h0, oC 13 [.ref h1, .ref h2, .int p2, .ref h3, .ref h4, .int (nI k5), .int (nI k6), .int p7, .int p8, .int p9, .int (nI k10), .int p11, .long q12, .ref h5, .ref h6, .int (nI k15), .int (nI k16)]), (h1, aI Y 3640 f0), (h2, aZ Y 2 f1), (h3, aZ Y 80 f3), (h4, aB Y 1600 f4), (h5, aI Y 200 f13), (h6, aI Y 800 f14)] sz) cX12_draft 2 RX12 (some .int) := B
    refine V_aload_n 0 B dX12_draft_0 0 rfl ?_
    refine V_iconst 1 B (v := 0) dX12_draft_1 (by decide +kernel) ?_
    refine V_put 2 B gp_RX12_38 0 rfl (Nat.le_of_ble_eq_true rfl) rfl rfl dX12_draft_2 [(h0, oC 13 [.ref h1, .ref h2, .int 0, .ref h3, .ref h4, .int (nI k5), .int (nI k6), .int p7, .int p8, .int p9, .int (nI k10), .int p11, .long q12, .ref h5, .ref h6, .int (nI k15), .int (nI k16)]), (h1, aI Y 3640 f0), (h2, aZ Y 2 f1), (h3, aZ Y 80 f3), (h4, aB Y 1600 f4), (h5, aI Y 200 f13), (h6, aI Y 800 f14)] rfl ?_
    refine V_aload_n 5 B dX12_draft_5 0 rfl ?_
    refine V_iload_n 6 B dX12_draft_6 1 rfl ?_
    refine V_csi 7 B (st := [.ref h0]) (As := [.int s0]) (fun sz => rX12_isStroke l D Y s0 sz) glS_RX12_65 ⟨rfl, rfl⟩ ⟨(Nat.le_of_ble_eq_true rfl), (Nat.le_of_ble_eq_true rfl)⟩ ⟨(Nat.le_of_ble_eq_true rfl), (Nat.le_of_ble_eq_true rfl)⟩ [] rfl rfl (Nat.le_of_ble_eq_true rfl) rfl (fun _ _ _ => rfl) dX12_draft_7 (fun j0 u1 w2 => ?_)
    refine V_ws [(h0, oC 13 [.ref h1, .ref h2, .int 0, .ref h3, .ref h4, .int (nI k5), .int (nI k6), .int p7, .int p8, .int p9, .int (nI k10), .int p11, .long q12, .ref h5, .ref h6, .int (nI k15), .int (nI k16)]), (h1, aI Y 3640 f0), (h2, aZ Y 2 f1), (h3, aZ Y 80 f3), (h4, aB Y 1600 f4), (h5, aI Y 200 f13), (h6, aI Y 800 f14)] rfl ?_
    have x3 := w2
    clear w2
    rcases x3 with rfl | rfl
    ·
      refine V_if_ne_f 10 B 17 dX12_draft_10 (by decide) (by decide +kernel) ?_
      refine V_iconst 13 B (v := 1) dX12_draft_13 (by decide +kernel) ?_
      refine V_goto 14 B 18 dX12_draft_14 (by decide) ?_
      refine V_iconst 18 B (v := 1) dX12_draft_18 (by decide +kernel) ?_
      refine V_cvi 19 B (st := []) (As := [.int 1, .int 1]) (fun sz => rX12_throwsIf_1 l D Y h0 h1 h2 h3 h4 h5 h6 0 k5 k6 p7 p8 p9 k10 p11 q12 k15 k16 f0 f1 f3 f4 f13 f14 ph HI (by omega) HP 1 sz) glV_RX12_69 ⟨rfl, rfl⟩ ⟨(Nat.le_of_ble_eq_true rfl), (Nat.le_of_ble_eq_true rfl)⟩ ⟨(Nat.le_of_ble_eq_true rfl), (Nat.le_of_ble_eq_true rfl)⟩ [0, 0, 0, 0, 0, 0, 0] rfl 13 0 rfl rfl rfl rfl (Nat.le_of_ble_eq_true rfl) rfl (fun _ _ _ => rfl) dX12_draft_19 (fun j4 u5 w6 => ?_)
      refine V_ws [(h0, oC 13 [.ref h1, .ref h2, .int (u5.2.1 0), .ref h3, .ref h4, .int (nI k5), .int (nI k6), .int p7, .int p8, .int p9, .int (nI k10), .int p11, .long q12, .ref h5, .ref h6, .int (nI k15), .int (nI k16)]), (h1, aI Y 3640 f0), (h2, aZ Y 2 f1), (h3, aZ Y 80 f3), (h4, aB Y 1600 f4), (h5, aI Y 200 f13), (h6, aI Y 800 f14)] rfl ?_
      have x7 := w6
      clear w6
      obtain rfl := x7
      refine V_if_eq_f 22 B 27 dX12_draft_22 (by decide) (by decide +kernel) ?_
      refine V_iconst 25 B (v := 0) dX12_draft_25 (by decide +kernel) ?_
      exact V_iret 26 B dX12_draft_26 (mkW [] [(u5.2.1 0)] [] [f0] [] []) HI rfl
    ·
      refine V_if_ne_t 10 B 17 dX12_draft_10 (by decide) (by decide +kernel) ?_
      refine V_iconst 17 B (v := 0) dX12_draft_17 (by decide +kernel) ?_
      refine V_iconst 18 B (v := 1) dX12_draft_18 (by decide +kernel) ?_
      refine V_cvi 19 B (st := []) (As := [.int 0, .int 1]) (fun sz => rX12_throwsIf_0 l D Y h0 h1 h2 h3 h4 h5 h6 0 k5 k6 p7 p8 p9 k10 p11 q12 k15 k16 f0 f1 f3 f4 f13 f14 ph HI (by omega) HP 1 sz) glV_RX12_69 ⟨rfl, rfl⟩ ⟨(Nat.le_of_ble_eq_true rfl), (Nat.le_of_ble_eq_true rfl)⟩ ⟨(Nat.le_of_ble_eq_true rfl), (Nat.le_of_ble_eq_true rfl)⟩ [0, 0, 0, 0, 0, 0, 0] rfl 13 0 rfl rfl rfl rfl (Nat.le_of_ble_eq_true rfl) rfl (fun _ _ _ => rfl) dX12_draft_19 (fun j8 u9 w10 => ?_)
      refine V_ws [(h0, oC 13 [.ref h1, .ref h2, .int (u9.2.1 0), .ref h3, .ref h4, .int (nI k5), .int (nI k6), .int p7, .int p8, .int p9, .int (nI k10), .int p11, .long q12, .ref h5, .ref h6, .int (nI k15), .int (nI k16)]), (h1, aI Y 3640 f0), (h2, aZ Y 2 f1), (h3, aZ Y 80 f3), (h4, aB Y 1600 f4), (h5, aI Y 200 f13), (h6, aI Y 800 f14)] rfl ?_
      have x11 := w10
      clear w10
      obtain rfl := x11
      refine V_if_eq_t 22 B 27 dX12_draft_22 (by decide) (by decide +kernel) ?_
      refine V_aload_n 27 B dX12_draft_27 0 rfl ?_
      refine V_get 28 B gf_RX12_9 0 rfl rfl dX12_draft_28 ?_
      refine V_sipush 31 B (v := 3624) dX12_draft_31 (by decide +kernel) ?_
      have x12 : (gN f0 3624) ≤ 4 := gN_le HI (by omega) (show bd 3624 = (0, ((4 : Nat) : Int)) by decide +kernel)
      refine V_iald 34 B (v := (nI (gN f0 3624))) 1 rfl (vpin _ _ (by decide +kernel)) dX12_draft_34 (by show f0 3624 = _; exact gN_eq HI (by omega) (show bd 3624 = (0, ((4 : Nat) : Int)) by decide +kernel)) ?_
      refine V_iconst 35 B (v := 4) dX12_draft_35 (by decide +kernel) ?_
      refine V_icmp_ne 36 B 42 dX12_draft_36 (by decide) (fun kk13 => ?_) (fun kk13 => ?_)
      ·
        have x14 := n_ne (a := (gN f0 3624)) (b := 4) kk13
        refine V_aload_n 42 B dX12_draft_42 0 rfl ?_
        refine V_get 43 B gf_RX12_9 0 rfl rfl dX12_draft_43 ?_
        refine V_sipush 46 B (v := 3624) dX12_draft_46 (by decide +kernel) ?_
        refine V_dup2_11 49 B dX12_draft_49 rfl rfl ?_
        have x15 : (gN f0 3624) ≤ 4 := gN_le HI (by omega) (show bd 3624 = (0, ((4 : Nat) : Int)) by decide +kernel)
        refine V_iald 50 B (v := (nI (gN f0 3624))) 1 rfl (vpin _ _ (by decide +kernel)) dX12_draft_50 (by show f0 3624 = _; exact gN_eq HI (by omega) (show bd 3624 = (0, ((4 : Nat) : Int)) by decide +kernel)) ?_
        refine V_iconst 51 B (v := 1) dX12_draft_51 (by decide +kernel) ?_
        refine V_iadd 52 B (v := (nI (1 + (gN f0 3624)))) dX12_draft_52 (nI_addE (a := (gN f0 3624)) (b := 1) (by omega)) ?_
        have hv16 : INV ph (upd f0 3624 (nI (1 + (gN f0 3624)))) := INV_nat (v := 1 + (gN f0 3624)) HI (show bd 3624 = (0, ((4 : Nat) : Int)) by decide +kernel) (by omega) (by decide)
        refine V_iast 53 B 1 rfl (vpin _ _ (by decide +kernel)) dX12_draft_53 [(h0, oC 13 [.ref h1, .ref h2, .int (u9.2.1 0), .ref h3, .ref h4, .int (nI k5), .int (nI k6), .int p7, .int p8, .int p9, .int (nI k10), .int p11, .long q12, .ref h5, .ref h6, .int (nI k15), .int (nI k16)]), (h1, aI Y 3640 (upd f0 3624 (nI (1 + (gN f0 3624))))), (h2, aZ Y 2 f1), (h3, aZ Y 80 f3), (h4, aB Y 1600 f4), (h5, aI Y 200 f13), (h6, aI Y 800 f14)] rfl ?_
        refine V_aload_n 54 B dX12_draft_54 0 rfl ?_
        refine V_get 55 B gf_RX12_9 0 rfl rfl dX12_draft_55 ?_
        refine V_sipush 58 B (v := 3624) dX12_draft_58 (by decide +kernel) ?_
        refine V_aload_n 61 B dX12_draft_61 0 rfl ?_
        refine V_get 62 B gf_RX12_9 0 rfl rfl dX12_draft_62 ?_
        refine V_sipush 65 B (v := 3624) dX12_draft_65 (by decide +kernel) ?_
        refine V_iald 68 B (v := (nI (1 + (gN f0 3624)))) 1 rfl (vpin _ _ (by decide +kernel)) dX12_draft_68 (by show (upd f0 3624 (nI (1 + (gN f0 3624)))) 3624 = _; exact upd_at) ?_
        refine V_iadd 69 B (v := (nI (3625 + (gN f0 3624)))) dX12_draft_69 (nI_addE (a := 3624) (b := 1 + (gN f0 3624)) (by omega)) ?_
        refine V_iload_n 70 B dX12_draft_70 1 rfl ?_
        have hv17 : INV ph (upd (upd f0 3624 (nI (1 + (gN f0 3624)))) (3625 + (gN f0 3624)) s0) := INV_free hv16 (rl0 (gN f0 3624) (by omega))
        refine V_iast 71 B 1 rfl (vp_in_nI (n := 3625 + (gN f0 3624)) (by omega) (by decide)) dX12_draft_71 [(h0, oC 13 [.ref h1, .ref h2, .int (u9.2.1 0), .ref h3, .ref h4, .int (nI k5), .int (nI k6), .int p7, .int p8, .int p9, .int (nI k10), .int p11, .long q12, .ref h5, .ref h6, .int (nI k15), .int (nI k16)]), (h1, aI Y 3640 (upd (upd f0 3624 (nI (1 + (gN f0 3624)))) (3625 + (gN f0 3624)) s0)), (h2, aZ Y 2 f1), (h3, aZ Y 80 f3), (h4, aB Y 1600 f4), (h5, aI Y 200 f13), (h6, aI Y 800 f14)] (by rw [nI_clamp (show 3625 + (gN f0 3624) < 2 ^ 31 by omega)]; rfl) ?_
        refine V_aload_n 72 B dX12_draft_72 0 rfl ?_
        refine V_get 73 B gf_RX12_9 0 rfl rfl dX12_draft_73 ?_
        refine V_sipush 76 B (v := 3624) dX12_draft_76 (by decide +kernel) ?_
        refine V_iald 79 B (v := (nI (1 + (gN f0 3624)))) 1 rfl (vpin _ _ (by decide +kernel)) dX12_draft_79 (by show (upd (upd f0 3624 (nI (1 + (gN f0 3624)))) (3625 + (gN f0 3624)) s0) 3624 = _; rw [upd_ne (by omega)]; exact upd_at) ?_
        exact V_iret 80 B dX12_draft_80 (mkW [] [(u9.2.1 0)] [] [(upd (upd f0 3624 (nI (1 + (gN f0 3624)))) (3625 + (gN f0 3624)) s0)] [] []) hv17 rfl
      ·
        have x18 := n_eq (a := (gN f0 3624)) (b := 4) kk13 (by omega) (by omega)
        refine V_bipush 39 B (v := (-2)) dX12_draft_39 (by decide +kernel) ?_
        exact V_iret 41 B dX12_draft_41 (mkW [] [(u9.2.1 0)] [] [f0] [] []) HI rfl)
theorem dX12_clearDraft_0 : decode cX12_clearDraft 0 = .ok (.aload_n 0, 1) := by decide +kernel
theorem dX12_clearDraft_1 : decode cX12_clearDraft 1 = .ok (.iconst 0, 1) := by decide +kernel
theorem dX12_clearDraft_2 : decode cX12_clearDraft 2 = .ok (.putfield 38, 3) := by decide +kernel
theorem dX12_clearDraft_5 : decode cX12_clearDraft 5 = .ok (.aload_n 0, 1) := by decide +kernel
theorem dX12_clearDraft_6 : decode cX12_clearDraft 6 = .ok (.getfield 9, 3) := by decide +kernel
theorem dX12_clearDraft_9 : decode cX12_clearDraft 9 = .ok (.sipush 3624, 3) := by decide +kernel
theorem dX12_clearDraft_12 : decode cX12_clearDraft 12 = .ok (.iaload, 1) := by decide +kernel
theorem dX12_clearDraft_13 : decode cX12_clearDraft 13 = .ok (.istore_n 1, 1) := by decide +kernel
theorem dX12_clearDraft_14 : decode cX12_clearDraft 14 = .ok (.aload_n 0, 1) := by decide +kernel
theorem dX12_clearDraft_15 : decode cX12_clearDraft 15 = .ok (.getfield 9, 3) := by decide +kernel
theorem dX12_clearDraft_18 : decode cX12_clearDraft 18 = .ok (.sipush 3624, 3) := by decide +kernel
theorem dX12_clearDraft_21 : decode cX12_clearDraft 21 = .ok (.iconst 0, 1) := by decide +kernel
theorem dX12_clearDraft_22 : decode cX12_clearDraft 22 = .ok (.iastore, 1) := by decide +kernel
theorem dX12_clearDraft_23 : decode cX12_clearDraft 23 = .ok (.iload_n 1, 1) := by decide +kernel
theorem dX12_clearDraft_24 : decode cX12_clearDraft 24 = .ok (.ireturn, 1) := by decide +kernel
set_option maxRecDepth 100000 in
set_option maxHeartbeats 4000000 in
theorem rX12_clearDraft (l : Launch) (D : va_G) (Y : Nat → ClassId) (h0 : Nat) (h1 : Nat) (h2 : Nat) (h3 : Nat) (h4 : Nat) (h5 : Nat) (h6 : Nat) (p2 : Int32) (k5 : Nat) (k6 : Nat) (p7 : Int32) (p8 : Int32) (p9 : Int32) (k10 : Nat) (p11 : Int32) (q12 : Int64) (k15 : Nat) (k16 : Nat) (f0 : Nat → Int32) (f1 : Nat → Int32) (f3 : Nat → Int32) (f4 : Nat → Int32) (f13 : Nat → Int32) (f14 : Nat → Int32) (ph : Nat → Int32) (HI : INV ph f0) (HL : k5 ≤ 1600) (HP : PLV f13)   (sz : Nat) : Met l yX12_clearDraft (WSm yX12_clearDraft cX12_clearDraft 2 (some .int)) (mkR 0 0 0 0) (PreC D Y [.ref h0] [(h0, oC 13 [.ref h1, .ref h2, .int p2, .ref h3, .ref h4, .int (nI k5), .int (nI k6), .int p7, .int p8, .int p9, .int (nI k10), .int p11, .long q12, .ref h5, .ref h6, .int (nI k15), .int (nI k16)]), (h1, aI Y 3640 f0), (h2, aZ Y 2 f1), (h3, aZ Y 80 f3), (h4, aB Y 1600 f4), (h5, aI Y 200 f13), (h6, aI Y 800 f14)] sz) (QI D (fun (r : Int32) (u : WU) => INV ph (u.2.2.2.1 0)) (fun (u : WU) => [(h0, oC 13 [.ref h1, .ref h2, .int (u.2.1 0), .ref h3, .ref h4, .int (nI k5), .int (nI k6), .int p7, .int p8, .int p9, .int (nI k10), .int p11, .long q12, .ref h5, .ref h6, .int (nI k15), .int (nI k16)]), (h1, aI Y 3640 (u.2.2.2.1 0)), (h2, aZ Y 2 f1), (h3, aZ Y 80 f3), (h4, aB Y 1600 f4), (h5, aI Y 200 f13), (h6, aI Y 800 f14)]) (va_A [(h0, oC 13 [.ref h1, .ref h2, .int p2, .ref h3, .ref h4, .int (nI k5), .int (nI k6), .int p7, .int p8, .int p9, .int (nI k10), .int p11, .long q12, .ref h5, .ref h6, .int (nI k15), .int (nI k16)]), (h1, aI Y 3640 f0), (h2, aZ Y 2 f1), (h3, aZ Y 80 f3), (h4, aB Y 1600 f4), (h5, aI Y 200 f13), (h6, aI Y 800 f14)] sz)) 0 0 (va_A [(h0, oC 13 [.ref h1, .ref h2, .int p2, .ref h3, .ref h4, .int (nI k5), .int (nI k6), .int p7, .int p8, .int p9, .int (nI k10), .int p11, .long q12, .ref h5, .ref h6, .int (nI k15), .int (nI k16)]), (h1, aI Y 3640 f0), (h2, aZ Y 2 f1), (h3, aZ Y 80 f3), (h4, aB Y 1600 f4), (h5, aI Y 200 f13), (h6, aI Y 800 f14)] sz) :=
  met_of  (by decide +kernel) (Nat.le_of_ble_eq_true rfl) (fun p e s m args below meth c B hin hsz => by
    have B : VB p s m args meth c D Y (va_A [(h0, oC 13 [.ref h1, .ref h2, .int p2, .ref h3, .ref h4, .int (nI k5), .int (nI k6), .int p7, .int p8, .int p9, .int (nI k10), .int p11, .long q12, .ref h5, .ref h6, .int (nI k15), .int (nI k16)]), (h1, aI Y 3640 f0), (h2, aZ Y 2 f1), (h3, aZ Y 80 f3), (h4, aB Y 1600 f4), (h5, aI Y 200 f13), (h6, aI Y 800 f14)] sz) cX12_clearDraft 2 RX12 (some .int) := B
    refine V_aload_n 0 B dX12_clearDraft_0 0 rfl ?_
    refine V_iconst 1 B (v := 0) dX12_clearDraft_1 (by decide +kernel) ?_
    refine V_put 2 B gp_RX12_38 0 rfl (Nat.le_of_ble_eq_true rfl) rfl rfl dX12_clearDraft_2 [(h0, oC 13 [.ref h1, .ref h2, .int 0, .ref h3, .ref h4, .int (nI k5), .int (nI k6), .int p7, .int p8, .int p9, .int (nI k10), .int p11, .long q12, .ref h5, .ref h6, .int (nI k15), .int (nI k16)]), (h1, aI Y 3640 f0), (h2, aZ Y 2 f1), (h3, aZ Y 80 f3), (h4, aB Y 1600 f4), (h5, aI Y 200 f13), (h6, aI Y 800 f14)] rfl ?_
    refine V_aload_n 5 B dX12_clearDraft_5 0 rfl ?_
    refine V_get 6 B gf_RX12_9 0 rfl rfl dX12_clearDraft_6 ?_
    refine V_sipush 9 B (v := 3624) dX12_clearDraft_9 (by decide +kernel) ?_
    have x0 : (gN f0 3624) ≤ 4 := gN_le HI (by omega) (show bd 3624 = (0, ((4 : Nat) : Int)) by decide +kernel)
    refine V_iald 12 B (v := (nI (gN f0 3624))) 1 rfl (vpin _ _ (by decide +kernel)) dX12_clearDraft_12 (by show f0 3624 = _; exact gN_eq HI (by omega) (show bd 3624 = (0, ((4 : Nat) : Int)) by decide +kernel)) ?_
    refine V_istore_n 13 B (lv2 := [(1, .int (nI (gN f0 3624))), (0, .ref h0)]) dX12_clearDraft_13 (by decide) rfl ?_
    refine V_aload_n 14 B dX12_clearDraft_14 1 rfl ?_
    refine V_get 15 B gf_RX12_9 0 rfl rfl dX12_clearDraft_15 ?_
    refine V_sipush 18 B (v := 3624) dX12_clearDraft_18 (by decide +kernel) ?_
    refine V_iconst 21 B (v := 0) dX12_clearDraft_21 (by decide +kernel) ?_
    have hv1 : INV ph (upd f0 3624 0) := INV_nat (v := 0) HI (show bd 3624 = (0, ((4 : Nat) : Int)) by decide +kernel) (by omega) (by decide)
    refine V_iast 22 B 1 rfl (vpin _ _ (by decide +kernel)) dX12_clearDraft_22 [(h0, oC 13 [.ref h1, .ref h2, .int 0, .ref h3, .ref h4, .int (nI k5), .int (nI k6), .int p7, .int p8, .int p9, .int (nI k10), .int p11, .long q12, .ref h5, .ref h6, .int (nI k15), .int (nI k16)]), (h1, aI Y 3640 (upd f0 3624 0)), (h2, aZ Y 2 f1), (h3, aZ Y 80 f3), (h4, aB Y 1600 f4), (h5, aI Y 200 f13), (h6, aI Y 800 f14)] rfl ?_
    refine V_iload_n 23 B dX12_clearDraft_23 0 rfl ?_
    exact V_iret 24 B dX12_clearDraft_24 (mkW [] [0] [] [(upd f0 3624 0)] [] []) hv1 rfl)
theorem dX12_draftStroke_0 : decode cX12_draftStroke 0 = .ok (.aload_n 0, 1) := by decide +kernel
theorem dX12_draftStroke_1 : decode cX12_draftStroke 1 = .ok (.iconst 0, 1) := by decide +kernel
theorem dX12_draftStroke_2 : decode cX12_draftStroke 2 = .ok (.putfield 38, 3) := by decide +kernel
theorem dX12_draftStroke_5 : decode cX12_draftStroke 5 = .ok (.aload_n 0, 1) := by decide +kernel
theorem dX12_draftStroke_6 : decode cX12_draftStroke 6 = .ok (.sipush 3624, 3) := by decide +kernel
theorem dX12_draftStroke_9 : decode cX12_draftStroke 9 = .ok (.iload_n 1, 1) := by decide +kernel
theorem dX12_draftStroke_10 : decode cX12_draftStroke 10 = .ok (.invokevirtual 73, 3) := by decide +kernel
theorem glV_RX12_73 : GLV RX12 73 yX12_strokeAt RX12 cX12_strokeAt 3 (some .int) 2 := ⟨⟨(mT7 225 rfl rfl), (mT7 227 rfl rfl), (mTs 30 rfl rfl), (mT1 13 rfl rfl), (mT7 228 rfl rfl)⟩, by decide +kernel⟩
theorem dX12_draftStroke_13 : decode cX12_draftStroke 13 = .ok (.ireturn, 1) := by decide +kernel
set_option maxRecDepth 100000 in
set_option maxHeartbeats 4000000 in
theorem rX12_draftStroke (l : Launch) (D : va_G) (Y : Nat → ClassId) (h0 : Nat) (h1 : Nat) (h2 : Nat) (h3 : Nat) (h4 : Nat) (h5 : Nat) (h6 : Nat) (p2 : Int32) (k5 : Nat) (k6 : Nat) (p7 : Int32) (p8 : Int32) (p9 : Int32) (k10 : Nat) (p11 : Int32) (q12 : Int64) (k15 : Nat) (k16 : Nat) (f0 : Nat → Int32) (f1 : Nat → Int32) (f3 : Nat → Int32) (f4 : Nat → Int32) (f13 : Nat → Int32) (f14 : Nat → Int32) (ph : Nat → Int32) (HI : INV ph f0) (HL : k5 ≤ 1600) (HP : PLV f13) (s0 : Int32)  (sz : Nat) : Met l yX12_draftStroke (WSm yX12_draftStroke cX12_draftStroke 2 (some .int)) (mkR 2 0 0 47) (PreC D Y [.ref h0, .int s0] [(h0, oC 13 [.ref h1, .ref h2, .int p2, .ref h3, .ref h4, .int (nI k5), .int (nI k6), .int p7, .int p8, .int p9, .int (nI k10), .int p11, .long q12, .ref h5, .ref h6, .int (nI k15), .int (nI k16)]), (h1, aI Y 3640 f0), (h2, aZ Y 2 f1), (h3, aZ Y 80 f3), (h4, aB Y 1600 f4), (h5, aI Y 200 f13), (h6, aI Y 800 f14)] sz) (QI D (fun (r : Int32) (u : WU) => True) (fun (u : WU) => [(h0, oC 13 [.ref h1, .ref h2, .int (u.2.1 0), .ref h3, .ref h4, .int (nI k5), .int (nI k6), .int p7, .int p8, .int p9, .int (nI k10), .int p11, .long q12, .ref h5, .ref h6, .int (nI k15), .int (nI k16)]), (h1, aI Y 3640 f0), (h2, aZ Y 2 f1), (h3, aZ Y 80 f3), (h4, aB Y 1600 f4), (h5, aI Y 200 f13), (h6, aI Y 800 f14)]) (va_A [(h0, oC 13 [.ref h1, .ref h2, .int p2, .ref h3, .ref h4, .int (nI k5), .int (nI k6), .int p7, .int p8, .int p9, .int (nI k10), .int p11, .long q12, .ref h5, .ref h6, .int (nI k15), .int (nI k16)]), (h1, aI Y 3640 f0), (h2, aZ Y 2 f1), (h3, aZ Y 80 f3), (h4, aB Y 1600 f4), (h5, aI Y 200 f13), (h6, aI Y 800 f14)] sz)) 0 0 (va_A [(h0, oC 13 [.ref h1, .ref h2, .int p2, .ref h3, .ref h4, .int (nI k5), .int (nI k6), .int p7, .int p8, .int p9, .int (nI k10), .int p11, .long q12, .ref h5, .ref h6, .int (nI k15), .int (nI k16)]), (h1, aI Y 3640 f0), (h2, aZ Y 2 f1), (h3, aZ Y 80 f3), (h4, aB Y 1600 f4), (h5, aI Y 200 f13), (h6, aI Y 800 f14)] sz) :=
  met_of  (by decide +kernel) (Nat.le_of_ble_eq_true rfl) (fun p e s m args below meth c B hin hsz => by
    have B : VB p s m args meth c D Y (va_A [(h0, oC 13 [.ref h1, .ref h2, .int p2, .ref h3, .ref h4, .int (nI k5), .int (nI k6), .int p7, .int p8, .int p9, .int (nI k10), .int p11, .long q12, .ref h5, .ref h6, .int (nI k15), .int (nI k16)]), (h1, aI Y 3640 f0), (h2, aZ Y 2 f1), (h3, aZ Y 80 f3), (h4, aB Y 1600 f4), (h5, aI Y 200 f13), (h6, aI Y 800 f14)] sz) cX12_draftStroke 2 RX12 (some .int) := B
    refine V_aload_n 0 B dX12_draftStroke_0 0 rfl ?_
    refine V_iconst 1 B (v := 0) dX12_draftStroke_1 (by decide +kernel) ?_
    refine V_put 2 B gp_RX12_38 0 rfl (Nat.le_of_ble_eq_true rfl) rfl rfl dX12_draftStroke_2 [(h0, oC 13 [.ref h1, .ref h2, .int 0, .ref h3, .ref h4, .int (nI k5), .int (nI k6), .int p7, .int p8, .int p9, .int (nI k10), .int p11, .long q12, .ref h5, .ref h6, .int (nI k15), .int (nI k16)]), (h1, aI Y 3640 f0), (h2, aZ Y 2 f1), (h3, aZ Y 80 f3), (h4, aB Y 1600 f4), (h5, aI Y 200 f13), (h6, aI Y 800 f14)] rfl ?_
    refine V_aload_n 5 B dX12_draftStroke_5 0 rfl ?_
    refine V_sipush 6 B (v := 3624) dX12_draftStroke_6 (by decide +kernel) ?_
    refine V_iload_n 9 B dX12_draftStroke_9 1 rfl ?_
    refine V_cvi 10 B (st := []) (As := [.int 3624, .int s0]) (fun sz => rX12_strokeAt l D Y h0 h1 h2 h3 h4 h5 h6 0 k5 k6 p7 p8 p9 k10 p11 q12 k15 k16 f0 f1 f3 f4 f13 f14 ph HI (by omega) HP 3624 s0 (show SQ 3624 by unfold SQ; decide +kernel) sz) glV_RX12_73 ⟨rfl, rfl⟩ ⟨(Nat.le_of_ble_eq_true rfl), (Nat.le_of_ble_eq_true rfl)⟩ ⟨(Nat.le_of_ble_eq_true rfl), (Nat.le_of_ble_eq_true rfl)⟩ [0, 0, 0, 0, 0, 0, 0] rfl 13 0 rfl rfl rfl rfl (Nat.le_of_ble_eq_true rfl) rfl (fun _ _ _ => rfl) dX12_draftStroke_10 (fun j0 u1 w2 => ?_)
    refine V_ws [(h0, oC 13 [.ref h1, .ref h2, .int 0, .ref h3, .ref h4, .int (nI k5), .int (nI k6), .int p7, .int p8, .int p9, .int (nI k10), .int p11, .long q12, .ref h5, .ref h6, .int (nI k15), .int (nI k16)]), (h1, aI Y 3640 f0), (h2, aZ Y 2 f1), (h3, aZ Y 80 f3), (h4, aB Y 1600 f4), (h5, aI Y 200 f13), (h6, aI Y 800 f14)] rfl ?_
    exact V_iret 13 B dX12_draftStroke_13 (mkW [] [0] [] [] [] []) trivial rfl)
theorem dX12_draftCost_0 : decode cX12_draftCost 0 = .ok (.aload_n 0, 1) := by decide +kernel
theorem dX12_draftCost_1 : decode cX12_draftCost 1 = .ok (.iconst 0, 1) := by decide +kernel
theorem dX12_draftCost_2 : decode cX12_draftCost 2 = .ok (.putfield 38, 3) := by decide +kernel
theorem dX12_draftCost_5 : decode cX12_draftCost 5 = .ok (.aload_n 0, 1) := by decide +kernel
theorem dX12_draftCost_6 : decode cX12_draftCost 6 = .ok (.sipush 3624, 3) := by decide +kernel
theorem dX12_draftCost_9 : decode cX12_draftCost 9 = .ok (.invokevirtual 76, 3) := by decide +kernel
theorem glV_RX12_76 : GLV RX12 76 yX12_costOf RX12 cX12_costOf 4 (some .int) 1 := ⟨⟨(mT7 233 rfl rfl), (mT7 235 rfl rfl), (mTs 31 rfl rfl), (mT1 13 rfl rfl), (mT7 236 rfl rfl)⟩, by decide +kernel⟩
theorem dX12_draftCost_12 : decode cX12_draftCost 12 = .ok (.ireturn, 1) := by decide +kernel
set_option maxRecDepth 100000 in
set_option maxHeartbeats 4000000 in
theorem rX12_draftCost (l : Launch) (D : va_G) (Y : Nat → ClassId) (h0 : Nat) (h1 : Nat) (h2 : Nat) (h3 : Nat) (h4 : Nat) (h5 : Nat) (h6 : Nat) (p2 : Int32) (k5 : Nat) (k6 : Nat) (p7 : Int32) (p8 : Int32) (p9 : Int32) (k10 : Nat) (p11 : Int32) (q12 : Int64) (k15 : Nat) (k16 : Nat) (f0 : Nat → Int32) (f1 : Nat → Int32) (f3 : Nat → Int32) (f4 : Nat → Int32) (f13 : Nat → Int32) (f14 : Nat → Int32) (ph : Nat → Int32) (HI : INV ph f0) (HL : k5 ≤ 1600) (HP : PLV f13)   (sz : Nat) : Met l yX12_draftCost (WSm yX12_draftCost cX12_draftCost 1 (some .int)) (mkR 3 0 0 65) (PreC D Y [.ref h0] [(h0, oC 13 [.ref h1, .ref h2, .int p2, .ref h3, .ref h4, .int (nI k5), .int (nI k6), .int p7, .int p8, .int p9, .int (nI k10), .int p11, .long q12, .ref h5, .ref h6, .int (nI k15), .int (nI k16)]), (h1, aI Y 3640 f0), (h2, aZ Y 2 f1), (h3, aZ Y 80 f3), (h4, aB Y 1600 f4), (h5, aI Y 200 f13), (h6, aI Y 800 f14)] sz) (QI D (fun (r : Int32) (u : WU) => True) (fun (u : WU) => [(h0, oC 13 [.ref h1, .ref h2, .int (u.2.1 0), .ref h3, .ref h4, .int (nI k5), .int (nI k6), .int p7, .int p8, .int p9, .int (nI k10), .int p11, .long q12, .ref h5, .ref h6, .int (nI k15), .int (nI k16)]), (h1, aI Y 3640 f0), (h2, aZ Y 2 f1), (h3, aZ Y 80 f3), (h4, aB Y 1600 f4), (h5, aI Y 200 f13), (h6, aI Y 800 f14)]) (va_A [(h0, oC 13 [.ref h1, .ref h2, .int p2, .ref h3, .ref h4, .int (nI k5), .int (nI k6), .int p7, .int p8, .int p9, .int (nI k10), .int p11, .long q12, .ref h5, .ref h6, .int (nI k15), .int (nI k16)]), (h1, aI Y 3640 f0), (h2, aZ Y 2 f1), (h3, aZ Y 80 f3), (h4, aB Y 1600 f4), (h5, aI Y 200 f13), (h6, aI Y 800 f14)] sz)) 0 0 (va_A [(h0, oC 13 [.ref h1, .ref h2, .int p2, .ref h3, .ref h4, .int (nI k5), .int (nI k6), .int p7, .int p8, .int p9, .int (nI k10), .int p11, .long q12, .ref h5, .ref h6, .int (nI k15), .int (nI k16)]), (h1, aI Y 3640 f0), (h2, aZ Y 2 f1), (h3, aZ Y 80 f3), (h4, aB Y 1600 f4), (h5, aI Y 200 f13), (h6, aI Y 800 f14)] sz) :=
  met_of  (by decide +kernel) (Nat.le_of_ble_eq_true rfl) (fun p e s m args below meth c B hin hsz => by
    have B : VB p s m args meth c D Y (va_A [(h0, oC 13 [.ref h1, .ref h2, .int p2, .ref h3, .ref h4, .int (nI k5), .int (nI k6), .int p7, .int p8, .int p9, .int (nI k10), .int p11, .long q12, .ref h5, .ref h6, .int (nI k15), .int (nI k16)]), (h1, aI Y 3640 f0), (h2, aZ Y 2 f1), (h3, aZ Y 80 f3), (h4, aB Y 1600 f4), (h5, aI Y 200 f13), (h6, aI Y 800 f14)] sz) cX12_draftCost 1 RX12 (some .int) := B
    refine V_aload_n 0 B dX12_draftCost_0 0 rfl ?_
    refine V_iconst 1 B (v := 0) dX12_draftCost_1 (by decide +kernel) ?_
    refine V_put 2 B gp_RX12_38 0 rfl (Nat.le_of_ble_eq_true rfl) rfl rfl dX12_draftCost_2 [(h0, oC 13 [.ref h1, .ref h2, .int 0, .ref h3, .ref h4, .int (nI k5), .int (nI k6), .int p7, .int p8, .int p9, .int (nI k10), .int p11, .long q12, .ref h5, .ref h6, .int (nI k15), .int (nI k16)]), (h1, aI Y 3640 f0), (h2, aZ Y 2 f1), (h3, aZ Y 80 f3), (h4, aB Y 1600 f4), (h5, aI Y 200 f13), (h6, aI Y 800 f14)] rfl ?_
    refine V_aload_n 5 B dX12_draftCost_5 0 rfl ?_
    refine V_sipush 6 B (v := 3624) dX12_draftCost_6 (by decide +kernel) ?_
    refine V_cvi 9 B (st := []) (As := [.int 3624]) (fun sz => rX12_costOf l D Y h0 h1 h2 h3 h4 h5 h6 0 k5 k6 p7 p8 p9 k10 p11 q12 k15 k16 f0 f1 f3 f4 f13 f14 ph HI (by omega) HP 3624 (show SQ 3624 by unfold SQ; decide +kernel) sz) glV_RX12_76 ⟨rfl, rfl⟩ ⟨(Nat.le_of_ble_eq_true rfl), (Nat.le_of_ble_eq_true rfl)⟩ ⟨(Nat.le_of_ble_eq_true rfl), (Nat.le_of_ble_eq_true rfl)⟩ [0, 0, 0, 0, 0, 0, 0] rfl 13 0 rfl rfl rfl rfl (Nat.le_of_ble_eq_true rfl) rfl (fun _ _ _ => rfl) dX12_draftCost_9 (fun j0 u1 w2 => ?_)
    refine V_ws [(h0, oC 13 [.ref h1, .ref h2, .int 0, .ref h3, .ref h4, .int (nI k5), .int (nI k6), .int p7, .int p8, .int p9, .int (nI k10), .int p11, .long q12, .ref h5, .ref h6, .int (nI k15), .int (nI k16)]), (h1, aI Y 3640 f0), (h2, aZ Y 2 f1), (h3, aZ Y 80 f3), (h4, aB Y 1600 f4), (h5, aI Y 200 f13), (h6, aI Y 800 f14)] rfl ?_
    exact V_iret 12 B dX12_draftCost_12 (mkW [] [0] [] [] [] []) trivial rfl)
theorem dX12_bindingAt_0 : decode cX12_bindingAt 0 = .ok (.sipush 184, 3) := by decide +kernel
theorem dX12_bindingAt_3 : decode cX12_bindingAt 3 = .ok (.bipush 7, 2) := by decide +kernel
theorem dX12_bindingAt_5 : decode cX12_bindingAt 5 = .ok (.iload_n 0, 1) := by decide +kernel
theorem dX12_bindingAt_6 : decode cX12_bindingAt 6 = .ok (.imul, 1) := by decide +kernel
theorem dX12_bindingAt_7 : decode cX12_bindingAt 7 = .ok (.iadd, 1) := by decide +kernel
theorem dX12_bindingAt_8 : decode cX12_bindingAt 8 = .ok (.ireturn, 1) := by decide +kernel
set_option maxRecDepth 100000 in
set_option maxHeartbeats 4000000 in
theorem rX12_bindingAt (l : Launch) (D : va_G) (Y : Nat → ClassId)  (s0 : Nat) (hn0 : s0 < 81) (sz : Nat) : Met l yX12_bindingAt (WSm yX12_bindingAt cX12_bindingAt 1 (some .int)) (mkR 0 0 0 0) (PreC D Y [.int (nI s0)] [] sz) (QI D (fun (r : Int32) (u : WU) => r = nI (184 + 7 * s0)) (fun (u : WU) => []) (va_A [] sz)) 0 0 (va_A [] sz) :=
  met_of  (by decide +kernel) (Nat.le_of_ble_eq_true rfl) (fun p e s m args below meth c B hin hsz => by
    have B : VB p s m args meth c D Y (va_A [] sz) cX12_bindingAt 1 RX12 (some .int) := B
    refine V_sipush 0 B (v := 184) dX12_bindingAt_0 (by decide +kernel) ?_
    refine V_bipush 3 B (v := 7) dX12_bindingAt_3 (by decide +kernel) ?_
    refine V_iload_n 5 B dX12_bindingAt_5 0 rfl ?_
    refine V_imul 6 B (v := (nI (7 * s0))) dX12_bindingAt_6 (nI_mulE (a := 7) (b := s0) (by omega)) ?_
    refine V_iadd 7 B (v := (nI (184 + 7 * s0))) dX12_bindingAt_7 (nI_addE (a := 184) (b := 7 * s0) (by omega)) ?_
    exact V_iret 8 B dX12_bindingAt_8 (mkW [] [] [] [] [] []) (congrArg nI (by omega)) rfl)
theorem dX12_sequenceOf_0 : decode cX12_sequenceOf 0 = .ok (.iload_n 0, 1) := by decide +kernel
theorem dX12_sequenceOf_1 : decode cX12_sequenceOf 1 = .ok (.invokestatic 79, 3) := by decide +kernel
theorem glS_RX12_79 : GLS RX12 79 yX12_bindingAt cX12_bindingAt 1 (some .int) 1 := ⟨⟨(mT8 14 rfl rfl), (mT8 15 rfl rfl), (mT1 13 rfl rfl), (mT8 16 rfl rfl)⟩, by decide +kernel⟩
theorem dX12_sequenceOf_4 : decode cX12_sequenceOf 4 = .ok (.iconst 2, 1) := by decide +kernel
theorem dX12_sequenceOf_5 : decode cX12_sequenceOf 5 = .ok (.iadd, 1) := by decide +kernel
theorem dX12_sequenceOf_6 : decode cX12_sequenceOf 6 = .ok (.ireturn, 1) := by decide +kernel
set_option maxRecDepth 100000 in
set_option maxHeartbeats 4000000 in
theorem rX12_sequenceOf (l : Launch) (D : va_G) (Y : Nat → ClassId)  (s0 : Nat) (hn0 : s0 < 80) (sz : Nat) : Met l yX12_sequenceOf (WSm yX12_sequenceOf cX12_sequenceOf 1 (some .int)) (mkR 1 0 0 20) (PreC D Y [.int (nI s0)] [] sz) (QI D (fun (r : Int32) (u : WU) => r = nI (186 + 7 * s0)) (fun (u : WU) => []) (va_A [] sz)) 0 0 (va_A [] sz) :=
  met_of  (by decide +kernel) (Nat.le_of_ble_eq_true rfl) (fun p e s m args below meth c B hin hsz => by
    have B : VB p s m args meth c D Y (va_A [] sz) cX12_sequenceOf 1 RX12 (some .int) := B
    refine V_iload_n 0 B dX12_sequenceOf_0 0 rfl ?_
    refine V_csi 1 B (st := []) (As := [.int (nI s0)]) (fun sz => rX12_bindingAt l D Y s0 (by omega) sz) glS_RX12_79 ⟨rfl, rfl⟩ ⟨(Nat.le_of_ble_eq_true rfl), (Nat.le_of_ble_eq_true rfl)⟩ ⟨(Nat.le_of_ble_eq_true rfl), (Nat.le_of_ble_eq_true rfl)⟩ [] rfl rfl (Nat.le_of_ble_eq_true rfl) rfl (fun _ _ _ => rfl) dX12_sequenceOf_1 (fun j0 u1 w2 => ?_)
    have x3 := w2
    clear w2
    obtain rfl := x3
    refine V_iconst 4 B (v := 2) dX12_sequenceOf_4 (by decide +kernel) ?_
    refine V_iadd 5 B (v := (nI (186 + 7 * s0))) dX12_sequenceOf_5 (nI_addE (a := 184 + 7 * s0) (b := 2) (by omega)) ?_
    exact V_iret 6 B dX12_sequenceOf_6 (mkW [] [] [] [] [] []) (congrArg nI (by omega)) rfl)
theorem dX12_modeOf_0 : decode cX12_modeOf 0 = .ok (.aload_n 0, 1) := by decide +kernel
theorem dX12_modeOf_1 : decode cX12_modeOf 1 = .ok (.getfield 9, 3) := by decide +kernel
theorem dX12_modeOf_4 : decode cX12_modeOf 4 = .ok (.iload_n 1, 1) := by decide +kernel
theorem dX12_modeOf_5 : decode cX12_modeOf 5 = .ok (.invokestatic 79, 3) := by decide +kernel
theorem dX12_modeOf_8 : decode cX12_modeOf 8 = .ok (.iconst 0, 1) := by decide +kernel
theorem dX12_modeOf_9 : decode cX12_modeOf 9 = .ok (.iadd, 1) := by decide +kernel
theorem dX12_modeOf_10 : decode cX12_modeOf 10 = .ok (.iaload, 1) := by decide +kernel
theorem rl1 : ∀ z0, z0 < 80 → bd (184 + 7 * z0) = FREE := by decide +kernel
theorem dX12_modeOf_11 : decode cX12_modeOf 11 = .ok (.ireturn, 1) := by decide +kernel
set_option maxRecDepth 100000 in
set_option maxHeartbeats 4000000 in
theorem rX12_modeOf (l : Launch) (D : va_G) (Y : Nat → ClassId) (h0 : Nat) (h1 : Nat) (h2 : Nat) (h3 : Nat) (h4 : Nat) (h5 : Nat) (h6 : Nat) (p2 : Int32) (k5 : Nat) (k6 : Nat) (p7 : Int32) (p8 : Int32) (p9 : Int32) (k10 : Nat) (p11 : Int32) (q12 : Int64) (k15 : Nat) (k16 : Nat) (f0 : Nat → Int32) (f1 : Nat → Int32) (f3 : Nat → Int32) (f4 : Nat → Int32) (f13 : Nat → Int32) (f14 : Nat → Int32) (ph : Nat → Int32) (HI : INV ph f0) (HL : k5 ≤ 1600) (HP : PLV f13) (s0 : Nat) (hn0 : s0 < 80) (sz : Nat) : Met l yX12_modeOf (WSm yX12_modeOf cX12_modeOf 2 (some .int)) (mkR 1 0 0 20) (PreC D Y [.ref h0, .int (nI s0)] [(h0, oC 13 [.ref h1, .ref h2, .int p2, .ref h3, .ref h4, .int (nI k5), .int (nI k6), .int p7, .int p8, .int p9, .int (nI k10), .int p11, .long q12, .ref h5, .ref h6, .int (nI k15), .int (nI k16)]), (h1, aI Y 3640 f0), (h2, aZ Y 2 f1), (h3, aZ Y 80 f3), (h4, aB Y 1600 f4), (h5, aI Y 200 f13), (h6, aI Y 800 f14)] sz) (QI D (fun (r : Int32) (u : WU) => r = f0 (184 + 7 * s0)) (fun (u : WU) => [(h0, oC 13 [.ref h1, .ref h2, .int p2, .ref h3, .ref h4, .int (nI k5), .int (nI k6), .int p7, .int p8, .int p9, .int (nI k10), .int p11, .long q12, .ref h5, .ref h6, .int (nI k15), .int (nI k16)]), (h1, aI Y 3640 f0), (h2, aZ Y 2 f1), (h3, aZ Y 80 f3), (h4, aB Y 1600 f4), (h5, aI Y 200 f13), (h6, aI Y 800 f14)]) (va_A [(h0, oC 13 [.ref h1, .ref h2, .int p2, .ref h3, .ref h4, .int (nI k5), .int (nI k6), .int p7, .int p8, .int p9, .int (nI k10), .int p11, .long q12, .ref h5, .ref h6, .int (nI k15), .int (nI k16)]), (h1, aI Y 3640 f0), (h2, aZ Y 2 f1), (h3, aZ Y 80 f3), (h4, aB Y 1600 f4), (h5, aI Y 200 f13), (h6, aI Y 800 f14)] sz)) 0 0 (va_A [(h0, oC 13 [.ref h1, .ref h2, .int p2, .ref h3, .ref h4, .int (nI k5), .int (nI k6), .int p7, .int p8, .int p9, .int (nI k10), .int p11, .long q12, .ref h5, .ref h6, .int (nI k15), .int (nI k16)]), (h1, aI Y 3640 f0), (h2, aZ Y 2 f1), (h3, aZ Y 80 f3), (h4, aB Y 1600 f4), (h5, aI Y 200 f13), (h6, aI Y 800 f14)] sz) :=
  met_of  (by decide +kernel) (Nat.le_of_ble_eq_true rfl) (fun p e s m args below meth c B hin hsz => by
    have B : VB p s m args meth c D Y (va_A [(h0, oC 13 [.ref h1, .ref h2, .int p2, .ref h3, .ref h4, .int (nI k5), .int (nI k6), .int p7, .int p8, .int p9, .int (nI k10), .int p11, .long q12, .ref h5, .ref h6, .int (nI k15), .int (nI k16)]), (h1, aI Y 3640 f0), (h2, aZ Y 2 f1), (h3, aZ Y 80 f3), (h4, aB Y 1600 f4), (h5, aI Y 200 f13), (h6, aI Y 800 f14)] sz) cX12_modeOf 2 RX12 (some .int) := B
    refine V_aload_n 0 B dX12_modeOf_0 0 rfl ?_
    refine V_get 1 B gf_RX12_9 0 rfl rfl dX12_modeOf_1 ?_
    refine V_iload_n 4 B dX12_modeOf_4 1 rfl ?_
    refine V_csi 5 B (st := [.ref h1]) (As := [.int (nI s0)]) (fun sz => rX12_bindingAt l D Y s0 (by omega) sz) glS_RX12_79 ⟨rfl, rfl⟩ ⟨(Nat.le_of_ble_eq_true rfl), (Nat.le_of_ble_eq_true rfl)⟩ ⟨(Nat.le_of_ble_eq_true rfl), (Nat.le_of_ble_eq_true rfl)⟩ [] rfl rfl (Nat.le_of_ble_eq_true rfl) rfl (fun _ _ _ => rfl) dX12_modeOf_5 (fun j0 u1 w2 => ?_)
    refine V_ws [(h0, oC 13 [.ref h1, .ref h2, .int p2, .ref h3, .ref h4, .int (nI k5), .int (nI k6), .int p7, .int p8, .int p9, .int (nI k10), .int p11, .long q12, .ref h5, .ref h6, .int (nI k15), .int (nI k16)]), (h1, aI Y 3640 f0), (h2, aZ Y 2 f1), (h3, aZ Y 80 f3), (h4, aB Y 1600 f4), (h5, aI Y 200 f13), (h6, aI Y 800 f14)] rfl ?_
    have x3 := w2
    clear w2
    obtain rfl := x3
    refine V_iconst 8 B (v := 0) dX12_modeOf_8 (by decide +kernel) ?_
    refine V_iadd 9 B (v := (nI (184 + 7 * s0))) dX12_modeOf_9 (nI_addE (a := 184 + 7 * s0) (b := 0) (by omega)) ?_
    refine V_iald 10 B (v := f0 (184 + 7 * s0)) 1 rfl (vp_in_nI (n := 184 + 7 * s0) (by omega) (by decide)) dX12_modeOf_10 (by rw [nI_clamp (show 184 + 7 * s0 < 2 ^ 31 by omega)]) ?_
    refine V_nmi (fun j4 e5 => ?_)
    exact V_iret 11 B dX12_modeOf_11 (mkW [] [] [] [] [] []) e5 rfl)
theorem dX12_commandOf_0 : decode cX12_commandOf 0 = .ok (.aload_n 0, 1) := by decide +kernel
theorem dX12_commandOf_1 : decode cX12_commandOf 1 = .ok (.getfield 9, 3) := by decide +kernel
theorem dX12_commandOf_4 : decode cX12_commandOf 4 = .ok (.iload_n 1, 1) := by decide +kernel
theorem dX12_commandOf_5 : decode cX12_commandOf 5 = .ok (.invokestatic 79, 3) := by decide +kernel
theorem dX12_commandOf_8 : decode cX12_commandOf 8 = .ok (.iconst 1, 1) := by decide +kernel
theorem dX12_commandOf_9 : decode cX12_commandOf 9 = .ok (.iadd, 1) := by decide +kernel
theorem dX12_commandOf_10 : decode cX12_commandOf 10 = .ok (.iaload, 1) := by decide +kernel
theorem rl2 : ∀ z0, z0 < 80 → bd (185 + 7 * z0) = (0, ((39 : Nat) : Int)) := by decide +kernel
theorem dX12_commandOf_11 : decode cX12_commandOf 11 = .ok (.ireturn, 1) := by decide +kernel
set_option maxRecDepth 100000 in
set_option maxHeartbeats 4000000 in
theorem rX12_commandOf (l : Launch) (D : va_G) (Y : Nat → ClassId) (h0 : Nat) (h1 : Nat) (h2 : Nat) (h3 : Nat) (h4 : Nat) (h5 : Nat) (h6 : Nat) (p2 : Int32) (k5 : Nat) (k6 : Nat) (p7 : Int32) (p8 : Int32) (p9 : Int32) (k10 : Nat) (p11 : Int32) (q12 : Int64) (k15 : Nat) (k16 : Nat) (f0 : Nat → Int32) (f1 : Nat → Int32) (f3 : Nat → Int32) (f4 : Nat → Int32) (f13 : Nat → Int32) (f14 : Nat → Int32) (ph : Nat → Int32) (HI : INV ph f0) (HL : k5 ≤ 1600) (HP : PLV f13) (s0 : Nat) (hn0 : s0 < 80) (sz : Nat) : Met l yX12_commandOf (WSm yX12_commandOf cX12_commandOf 2 (some .int)) (mkR 1 0 0 20) (PreC D Y [.ref h0, .int (nI s0)] [(h0, oC 13 [.ref h1, .ref h2, .int p2, .ref h3, .ref h4, .int (nI k5), .int (nI k6), .int p7, .int p8, .int p9, .int (nI k10), .int p11, .long q12, .ref h5, .ref h6, .int (nI k15), .int (nI k16)]), (h1, aI Y 3640 f0), (h2, aZ Y 2 f1), (h3, aZ Y 80 f3), (h4, aB Y 1600 f4), (h5, aI Y 200 f13), (h6, aI Y 800 f14)] sz) (QI D (fun (r : Int32) (u : WU) => r = nI (gN f0 (185 + 7 * s0))) (fun (u : WU) => [(h0, oC 13 [.ref h1, .ref h2, .int p2, .ref h3, .ref h4, .int (nI k5), .int (nI k6), .int p7, .int p8, .int p9, .int (nI k10), .int p11, .long q12, .ref h5, .ref h6, .int (nI k15), .int (nI k16)]), (h1, aI Y 3640 f0), (h2, aZ Y 2 f1), (h3, aZ Y 80 f3), (h4, aB Y 1600 f4), (h5, aI Y 200 f13), (h6, aI Y 800 f14)]) (va_A [(h0, oC 13 [.ref h1, .ref h2, .int p2, .ref h3, .ref h4, .int (nI k5), .int (nI k6), .int p7, .int p8, .int p9, .int (nI k10), .int p11, .long q12, .ref h5, .ref h6, .int (nI k15), .int (nI k16)]), (h1, aI Y 3640 f0), (h2, aZ Y 2 f1), (h3, aZ Y 80 f3), (h4, aB Y 1600 f4), (h5, aI Y 200 f13), (h6, aI Y 800 f14)] sz)) 0 0 (va_A [(h0, oC 13 [.ref h1, .ref h2, .int p2, .ref h3, .ref h4, .int (nI k5), .int (nI k6), .int p7, .int p8, .int p9, .int (nI k10), .int p11, .long q12, .ref h5, .ref h6, .int (nI k15), .int (nI k16)]), (h1, aI Y 3640 f0), (h2, aZ Y 2 f1), (h3, aZ Y 80 f3), (h4, aB Y 1600 f4), (h5, aI Y 200 f13), (h6, aI Y 800 f14)] sz) :=
  met_of  (by decide +kernel) (Nat.le_of_ble_eq_true rfl) (fun p e s m args below meth c B hin hsz => by
    have B : VB p s m args meth c D Y (va_A [(h0, oC 13 [.ref h1, .ref h2, .int p2, .ref h3, .ref h4, .int (nI k5), .int (nI k6), .int p7, .int p8, .int p9, .int (nI k10), .int p11, .long q12, .ref h5, .ref h6, .int (nI k15), .int (nI k16)]), (h1, aI Y 3640 f0), (h2, aZ Y 2 f1), (h3, aZ Y 80 f3), (h4, aB Y 1600 f4), (h5, aI Y 200 f13), (h6, aI Y 800 f14)] sz) cX12_commandOf 2 RX12 (some .int) := B
    refine V_aload_n 0 B dX12_commandOf_0 0 rfl ?_
    refine V_get 1 B gf_RX12_9 0 rfl rfl dX12_commandOf_1 ?_
    refine V_iload_n 4 B dX12_commandOf_4 1 rfl ?_
    refine V_csi 5 B (st := [.ref h1]) (As := [.int (nI s0)]) (fun sz => rX12_bindingAt l D Y s0 (by omega) sz) glS_RX12_79 ⟨rfl, rfl⟩ ⟨(Nat.le_of_ble_eq_true rfl), (Nat.le_of_ble_eq_true rfl)⟩ ⟨(Nat.le_of_ble_eq_true rfl), (Nat.le_of_ble_eq_true rfl)⟩ [] rfl rfl (Nat.le_of_ble_eq_true rfl) rfl (fun _ _ _ => rfl) dX12_commandOf_5 (fun j0 u1 w2 => ?_)
    refine V_ws [(h0, oC 13 [.ref h1, .ref h2, .int p2, .ref h3, .ref h4, .int (nI k5), .int (nI k6), .int p7, .int p8, .int p9, .int (nI k10), .int p11, .long q12, .ref h5, .ref h6, .int (nI k15), .int (nI k16)]), (h1, aI Y 3640 f0), (h2, aZ Y 2 f1), (h3, aZ Y 80 f3), (h4, aB Y 1600 f4), (h5, aI Y 200 f13), (h6, aI Y 800 f14)] rfl ?_
    have x3 := w2
    clear w2
    obtain rfl := x3
    refine V_iconst 8 B (v := 1) dX12_commandOf_8 (by decide +kernel) ?_
    refine V_iadd 9 B (v := (nI (185 + 7 * s0))) dX12_commandOf_9 (nI_addE (a := 184 + 7 * s0) (b := 1) (by omega)) ?_
    have x4 : (gN f0 (185 + 7 * s0)) ≤ 39 := gN_le HI (by omega) (rl2 s0 (by omega))
    refine V_iald 10 B (v := (nI ((gN f0 (185 + 7 * s0))))) 1 rfl (vp_in_nI (n := 185 + 7 * s0) (by omega) (by decide)) dX12_commandOf_10 (by rw [nI_clamp (show 185 + 7 * s0 < 2 ^ 31 by omega)]; exact gN_eq HI (by omega) (rl2 s0 (by omega))) ?_
    exact V_iret 11 B dX12_commandOf_11 (mkW [] [] [] [] [] []) rfl rfl)
theorem dX12_ofCommand_0 : decode cX12_ofCommand 0 = .ok (.aload_n 0, 1) := by decide +kernel
theorem dX12_ofCommand_1 : decode cX12_ofCommand 1 = .ok (.getfield 9, 3) := by decide +kernel
theorem dX12_ofCommand_4 : decode cX12_ofCommand 4 = .ok (.bipush 34, 2) := by decide +kernel
theorem dX12_ofCommand_6 : decode cX12_ofCommand 6 = .ok (.iconst 3, 1) := by decide +kernel
theorem dX12_ofCommand_7 : decode cX12_ofCommand 7 = .ok (.iload_n 1, 1) := by decide +kernel
theorem dX12_ofCommand_8 : decode cX12_ofCommand 8 = .ok (.imul, 1) := by decide +kernel
theorem dX12_ofCommand_9 : decode cX12_ofCommand 9 = .ok (.iadd, 1) := by decide +kernel
theorem dX12_ofCommand_10 : decode cX12_ofCommand 10 = .ok (.iload_n 2, 1) := by decide +kernel
theorem dX12_ofCommand_11 : decode cX12_ofCommand 11 = .ok (.iadd, 1) := by decide +kernel
theorem dX12_ofCommand_12 : decode cX12_ofCommand 12 = .ok (.iaload, 1) := by decide +kernel
theorem dX12_ofCommand_13 : decode cX12_ofCommand 13 = .ok (.ireturn, 1) := by decide +kernel
theorem rl3 : ∀ z0, z0 < 40 → bd (34 + 3 * z0 + 1) = (-1, 5) := by decide +kernel
set_option maxRecDepth 100000 in
set_option maxHeartbeats 4000000 in
theorem rX12_ofCommand (l : Launch) (D : va_G) (Y : Nat → ClassId) (h0 : Nat) (h1 : Nat) (h2 : Nat) (h3 : Nat) (h4 : Nat) (h5 : Nat) (h6 : Nat) (p2 : Int32) (k5 : Nat) (k6 : Nat) (p7 : Int32) (p8 : Int32) (p9 : Int32) (k10 : Nat) (p11 : Int32) (q12 : Int64) (k15 : Nat) (k16 : Nat) (f0 : Nat → Int32) (f1 : Nat → Int32) (f3 : Nat → Int32) (f4 : Nat → Int32) (f13 : Nat → Int32) (f14 : Nat → Int32) (ph : Nat → Int32) (HI : INV ph f0) (HL : k5 ≤ 1600) (HP : PLV f13) (s0 : Nat) (s1 : Nat) (hn0 : s0 < 40) (hn1 : s1 < 3) (sz : Nat) : Met l yX12_ofCommand (WSm yX12_ofCommand cX12_ofCommand 3 (some .int)) (mkR 0 0 0 0) (PreC D Y [.ref h0, .int (nI s0), .int (nI s1)] [(h0, oC 13 [.ref h1, .ref h2, .int p2, .ref h3, .ref h4, .int (nI k5), .int (nI k6), .int p7, .int p8, .int p9, .int (nI k10), .int p11, .long q12, .ref h5, .ref h6, .int (nI k15), .int (nI k16)]), (h1, aI Y 3640 f0), (h2, aZ Y 2 f1), (h3, aZ Y 80 f3), (h4, aB Y 1600 f4), (h5, aI Y 200 f13), (h6, aI Y 800 f14)] sz) (QI D (fun (r : Int32) (u : WU) => (s1 = 1 → -1 ≤ r.toInt ∧ r.toInt ≤ 5)) (fun (u : WU) => [(h0, oC 13 [.ref h1, .ref h2, .int p2, .ref h3, .ref h4, .int (nI k5), .int (nI k6), .int p7, .int p8, .int p9, .int (nI k10), .int p11, .long q12, .ref h5, .ref h6, .int (nI k15), .int (nI k16)]), (h1, aI Y 3640 f0), (h2, aZ Y 2 f1), (h3, aZ Y 80 f3), (h4, aB Y 1600 f4), (h5, aI Y 200 f13), (h6, aI Y 800 f14)]) (va_A [(h0, oC 13 [.ref h1, .ref h2, .int p2, .ref h3, .ref h4, .int (nI k5), .int (nI k6), .int p7, .int p8, .int p9, .int (nI k10), .int p11, .long q12, .ref h5, .ref h6, .int (nI k15), .int (nI k16)]), (h1, aI Y 3640 f0), (h2, aZ Y 2 f1), (h3, aZ Y 80 f3), (h4, aB Y 1600 f4), (h5, aI Y 200 f13), (h6, aI Y 800 f14)] sz)) 0 0 (va_A [(h0, oC 13 [.ref h1, .ref h2, .int p2, .ref h3, .ref h4, .int (nI k5), .int (nI k6), .int p7, .int p8, .int p9, .int (nI k10), .int p11, .long q12, .ref h5, .ref h6, .int (nI k15), .int (nI k16)]), (h1, aI Y 3640 f0), (h2, aZ Y 2 f1), (h3, aZ Y 80 f3), (h4, aB Y 1600 f4), (h5, aI Y 200 f13), (h6, aI Y 800 f14)] sz) :=
  met_of  (by decide +kernel) (Nat.le_of_ble_eq_true rfl) (fun p e s m args below meth c B hin hsz => by
    have B : VB p s m args meth c D Y (va_A [(h0, oC 13 [.ref h1, .ref h2, .int p2, .ref h3, .ref h4, .int (nI k5), .int (nI k6), .int p7, .int p8, .int p9, .int (nI k10), .int p11, .long q12, .ref h5, .ref h6, .int (nI k15), .int (nI k16)]), (h1, aI Y 3640 f0), (h2, aZ Y 2 f1), (h3, aZ Y 80 f3), (h4, aB Y 1600 f4), (h5, aI Y 200 f13), (h6, aI Y 800 f14)] sz) cX12_ofCommand 3 RX12 (some .int) := B
    refine V_aload_n 0 B dX12_ofCommand_0 0 rfl ?_
    refine V_get 1 B gf_RX12_9 0 rfl rfl dX12_ofCommand_1 ?_
    refine V_bipush 4 B (v := 34) dX12_ofCommand_4 (by decide +kernel) ?_
    refine V_iconst 6 B (v := 3) dX12_ofCommand_6 (by decide +kernel) ?_
    refine V_iload_n 7 B dX12_ofCommand_7 1 rfl ?_
    refine V_imul 8 B (v := (nI (3 * s0))) dX12_ofCommand_8 (nI_mulE (a := 3) (b := s0) (by omega)) ?_
    refine V_iadd 9 B (v := (nI (34 + 3 * s0))) dX12_ofCommand_9 (nI_addE (a := 34) (b := 3 * s0) (by omega)) ?_
    refine V_iload_n 10 B dX12_ofCommand_10 2 rfl ?_
    refine V_iadd 11 B (v := (nI (34 + 3 * s0 + s1))) dX12_ofCommand_11 (nI_addE (a := 34 + 3 * s0) (b := s1) (by omega)) ?_
    refine V_iald 12 B (v := f0 (34 + 3 * s0 + s1)) 1 rfl (vp_in_nI (n := 34 + 3 * s0 + s1) (by omega) (by decide)) dX12_ofCommand_12 (by rw [nI_clamp (show 34 + 3 * s0 + s1 < 2 ^ 31 by omega)]) ?_
    refine V_nmi (fun j0 e1 => ?_)
    exact V_iret 13 B dX12_ofCommand_13 (mkW [] [] [] [] [] []) (fun e9 => by
      subst e9
      rw [e1]
      exact ⟨INV_lo HI (by omega) (by rw [show 34 + 3 * s0 + 1 = 34 + 3 * s0 + 1 by omega]; exact rl3 s0 (by omega)), INV_hi HI (by omega) (by rw [show 34 + 3 * s0 + 1 = 34 + 3 * s0 + 1 by omega]; exact rl3 s0 (by omega))⟩) rfl)
theorem dX12_ofLayer_0 : decode cX12_ofLayer 0 = .ok (.aload_n 0, 1) := by decide +kernel
theorem dX12_ofLayer_1 : decode cX12_ofLayer 1 = .ok (.getfield 9, 3) := by decide +kernel
theorem dX12_ofLayer_4 : decode cX12_ofLayer 4 = .ok (.sipush 744, 3) := by decide +kernel
theorem dX12_ofLayer_7 : decode cX12_ofLayer 7 = .ok (.bipush 28, 2) := by decide +kernel
theorem dX12_ofLayer_9 : decode cX12_ofLayer 9 = .ok (.iload_n 1, 1) := by decide +kernel
theorem dX12_ofLayer_10 : decode cX12_ofLayer 10 = .ok (.imul, 1) := by decide +kernel
theorem dX12_ofLayer_11 : decode cX12_ofLayer 11 = .ok (.iadd, 1) := by decide +kernel
theorem dX12_ofLayer_12 : decode cX12_ofLayer 12 = .ok (.iload_n 2, 1) := by decide +kernel
theorem dX12_ofLayer_13 : decode cX12_ofLayer 13 = .ok (.iadd, 1) := by decide +kernel
theorem dX12_ofLayer_14 : decode cX12_ofLayer 14 = .ok (.iaload, 1) := by decide +kernel
theorem rl4 : ∀ z0, z0 < 4 → ∀ z1, z1 < 28 → bd (744 + 28 * z0 + z1) = FREE := by decide +kernel
theorem dX12_ofLayer_15 : decode cX12_ofLayer 15 = .ok (.ireturn, 1) := by decide +kernel
set_option maxRecDepth 100000 in
set_option maxHeartbeats 4000000 in
theorem rX12_ofLayer (l : Launch) (D : va_G) (Y : Nat → ClassId) (h0 : Nat) (h1 : Nat) (h2 : Nat) (h3 : Nat) (h4 : Nat) (h5 : Nat) (h6 : Nat) (p2 : Int32) (k5 : Nat) (k6 : Nat) (p7 : Int32) (p8 : Int32) (p9 : Int32) (k10 : Nat) (p11 : Int32) (q12 : Int64) (k15 : Nat) (k16 : Nat) (f0 : Nat → Int32) (f1 : Nat → Int32) (f3 : Nat → Int32) (f4 : Nat → Int32) (f13 : Nat → Int32) (f14 : Nat → Int32) (ph : Nat → Int32) (HI : INV ph f0) (HL : k5 ≤ 1600) (HP : PLV f13) (s0 : Nat) (s1 : Nat) (hn0 : s0 < 4) (hn1 : s1 < 28) (sz : Nat) : Met l yX12_ofLayer (WSm yX12_ofLayer cX12_ofLayer 3 (some .int)) (mkR 0 0 0 0) (PreC D Y [.ref h0, .int (nI s0), .int (nI s1)] [(h0, oC 13 [.ref h1, .ref h2, .int p2, .ref h3, .ref h4, .int (nI k5), .int (nI k6), .int p7, .int p8, .int p9, .int (nI k10), .int p11, .long q12, .ref h5, .ref h6, .int (nI k15), .int (nI k16)]), (h1, aI Y 3640 f0), (h2, aZ Y 2 f1), (h3, aZ Y 80 f3), (h4, aB Y 1600 f4), (h5, aI Y 200 f13), (h6, aI Y 800 f14)] sz) (QI D (fun (r : Int32) (u : WU) => True) (fun (u : WU) => [(h0, oC 13 [.ref h1, .ref h2, .int p2, .ref h3, .ref h4, .int (nI k5), .int (nI k6), .int p7, .int p8, .int p9, .int (nI k10), .int p11, .long q12, .ref h5, .ref h6, .int (nI k15), .int (nI k16)]), (h1, aI Y 3640 f0), (h2, aZ Y 2 f1), (h3, aZ Y 80 f3), (h4, aB Y 1600 f4), (h5, aI Y 200 f13), (h6, aI Y 800 f14)]) (va_A [(h0, oC 13 [.ref h1, .ref h2, .int p2, .ref h3, .ref h4, .int (nI k5), .int (nI k6), .int p7, .int p8, .int p9, .int (nI k10), .int p11, .long q12, .ref h5, .ref h6, .int (nI k15), .int (nI k16)]), (h1, aI Y 3640 f0), (h2, aZ Y 2 f1), (h3, aZ Y 80 f3), (h4, aB Y 1600 f4), (h5, aI Y 200 f13), (h6, aI Y 800 f14)] sz)) 0 0 (va_A [(h0, oC 13 [.ref h1, .ref h2, .int p2, .ref h3, .ref h4, .int (nI k5), .int (nI k6), .int p7, .int p8, .int p9, .int (nI k10), .int p11, .long q12, .ref h5, .ref h6, .int (nI k15), .int (nI k16)]), (h1, aI Y 3640 f0), (h2, aZ Y 2 f1), (h3, aZ Y 80 f3), (h4, aB Y 1600 f4), (h5, aI Y 200 f13), (h6, aI Y 800 f14)] sz) :=
  met_of  (by decide +kernel) (Nat.le_of_ble_eq_true rfl) (fun p e s m args below meth c B hin hsz => by
    have B : VB p s m args meth c D Y (va_A [(h0, oC 13 [.ref h1, .ref h2, .int p2, .ref h3, .ref h4, .int (nI k5), .int (nI k6), .int p7, .int p8, .int p9, .int (nI k10), .int p11, .long q12, .ref h5, .ref h6, .int (nI k15), .int (nI k16)]), (h1, aI Y 3640 f0), (h2, aZ Y 2 f1), (h3, aZ Y 80 f3), (h4, aB Y 1600 f4), (h5, aI Y 200 f13), (h6, aI Y 800 f14)] sz) cX12_ofLayer 3 RX12 (some .int) := B
    refine V_aload_n 0 B dX12_ofLayer_0 0 rfl ?_
    refine V_get 1 B gf_RX12_9 0 rfl rfl dX12_ofLayer_1 ?_
    refine V_sipush 4 B (v := 744) dX12_ofLayer_4 (by decide +kernel) ?_
    refine V_bipush 7 B (v := 28) dX12_ofLayer_7 (by decide +kernel) ?_
    refine V_iload_n 9 B dX12_ofLayer_9 1 rfl ?_
    refine V_imul 10 B (v := (nI (28 * s0))) dX12_ofLayer_10 (nI_mulE (a := 28) (b := s0) (by omega)) ?_
    refine V_iadd 11 B (v := (nI (744 + 28 * s0))) dX12_ofLayer_11 (nI_addE (a := 744) (b := 28 * s0) (by omega)) ?_
    refine V_iload_n 12 B dX12_ofLayer_12 2 rfl ?_
    refine V_iadd 13 B (v := (nI (744 + 28 * s0 + s1))) dX12_ofLayer_13 (nI_addE (a := 744 + 28 * s0) (b := s1) (by omega)) ?_
    refine V_iald 14 B (v := f0 (744 + 28 * s0 + s1)) 1 rfl (vp_in_nI (n := 744 + 28 * s0 + s1) (by omega) (by decide)) dX12_ofLayer_14 (by rw [nI_clamp (show 744 + 28 * s0 + s1 < 2 ^ 31 by omega)]) ?_
    refine V_nmi (fun j0 e1 => ?_)
    exact V_iret 15 B dX12_ofLayer_15 (mkW [] [] [] [] [] []) trivial rfl)
theorem dX12_isMode_0 : decode cX12_isMode 0 = .ok (.iload_n 1, 1) := by decide +kernel
theorem dX12_isMode_1 : decode cX12_isMode 1 = .ok (.i2l, 1) := by decide +kernel
theorem dX12_isMode_2 : decode cX12_isMode 2 = .ok (.lconst 0, 1) := by decide +kernel
theorem dX12_isMode_3 : decode cX12_isMode 3 = .ok (.aload_n 0, 1) := by decide +kernel
theorem dX12_isMode_4 : decode cX12_isMode 4 = .ok (.getfield 9, 3) := by decide +kernel
theorem dX12_isMode_7 : decode cX12_isMode 7 = .ok (.iconst 0, 1) := by decide +kernel
theorem dX12_isMode_8 : decode cX12_isMode 8 = .ok (.iaload, 1) := by decide +kernel
theorem dX12_isMode_9 : decode cX12_isMode 9 = .ok (.iconst 1, 1) := by decide +kernel
theorem dX12_isMode_10 : decode cX12_isMode 10 = .ok (.isub, 1) := by decide +kernel
theorem dX12_isMode_11 : decode cX12_isMode 11 = .ok (.i2l, 1) := by decide +kernel
theorem dX12_isMode_12 : decode cX12_isMode 12 = .ok (.invokestatic 41, 3) := by decide +kernel
theorem dX12_isMode_15 : decode cX12_isMode 15 = .ok (.ireturn, 1) := by decide +kernel
set_option maxRecDepth 100000 in
set_option maxHeartbeats 4000000 in
theorem rX12_isMode (l : Launch) (D : va_G) (Y : Nat → ClassId) (h0 : Nat) (h1 : Nat) (h2 : Nat) (h3 : Nat) (h4 : Nat) (h5 : Nat) (h6 : Nat) (p2 : Int32) (k5 : Nat) (k6 : Nat) (p7 : Int32) (p8 : Int32) (p9 : Int32) (k10 : Nat) (p11 : Int32) (q12 : Int64) (k15 : Nat) (k16 : Nat) (f0 : Nat → Int32) (f1 : Nat → Int32) (f3 : Nat → Int32) (f4 : Nat → Int32) (f13 : Nat → Int32) (f14 : Nat → Int32) (ph : Nat → Int32) (HI : INV ph f0) (HL : k5 ≤ 1600) (HP : PLV f13) (s0 : Int32)  (sz : Nat) : Met l yX12_isMode (WSm yX12_isMode cX12_isMode 2 (some .boolean)) (mkR 1 0 0 25) (PreC D Y [.ref h0, .int s0] [(h0, oC 13 [.ref h1, .ref h2, .int p2, .ref h3, .ref h4, .int (nI k5), .int (nI k6), .int p7, .int p8, .int p9, .int (nI k10), .int p11, .long q12, .ref h5, .ref h6, .int (nI k15), .int (nI k16)]), (h1, aI Y 3640 f0), (h2, aZ Y 2 f1), (h3, aZ Y 80 f3), (h4, aB Y 1600 f4), (h5, aI Y 200 f13), (h6, aI Y 800 f14)] sz) (QI D (fun (r : Int32) (u : WU) => (r = 0 ∨ (r = 1 ∧ ∃ m : Nat, s0 = nI m ∧ m < gN f0 0))) (fun (u : WU) => [(h0, oC 13 [.ref h1, .ref h2, .int p2, .ref h3, .ref h4, .int (nI k5), .int (nI k6), .int p7, .int p8, .int p9, .int (nI k10), .int p11, .long q12, .ref h5, .ref h6, .int (nI k15), .int (nI k16)]), (h1, aI Y 3640 f0), (h2, aZ Y 2 f1), (h3, aZ Y 80 f3), (h4, aB Y 1600 f4), (h5, aI Y 200 f13), (h6, aI Y 800 f14)]) (va_A [(h0, oC 13 [.ref h1, .ref h2, .int p2, .ref h3, .ref h4, .int (nI k5), .int (nI k6), .int p7, .int p8, .int p9, .int (nI k10), .int p11, .long q12, .ref h5, .ref h6, .int (nI k15), .int (nI k16)]), (h1, aI Y 3640 f0), (h2, aZ Y 2 f1), (h3, aZ Y 80 f3), (h4, aB Y 1600 f4), (h5, aI Y 200 f13), (h6, aI Y 800 f14)] sz)) 0 0 (va_A [(h0, oC 13 [.ref h1, .ref h2, .int p2, .ref h3, .ref h4, .int (nI k5), .int (nI k6), .int p7, .int p8, .int p9, .int (nI k10), .int p11, .long q12, .ref h5, .ref h6, .int (nI k15), .int (nI k16)]), (h1, aI Y 3640 f0), (h2, aZ Y 2 f1), (h3, aZ Y 80 f3), (h4, aB Y 1600 f4), (h5, aI Y 200 f13), (h6, aI Y 800 f14)] sz) :=
  met_of  (by decide +kernel) (Nat.le_of_ble_eq_true rfl) (fun p e s m args below meth c B hin hsz => by
    have B : VB p s m args meth c D Y (va_A [(h0, oC 13 [.ref h1, .ref h2, .int p2, .ref h3, .ref h4, .int (nI k5), .int (nI k6), .int p7, .int p8, .int p9, .int (nI k10), .int p11, .long q12, .ref h5, .ref h6, .int (nI k15), .int (nI k16)]), (h1, aI Y 3640 f0), (h2, aZ Y 2 f1), (h3, aZ Y 80 f3), (h4, aB Y 1600 f4), (h5, aI Y 200 f13), (h6, aI Y 800 f14)] sz) cX12_isMode 2 RX12 (some .boolean) := B
    refine V_iload_n 0 B dX12_isMode_0 1 rfl ?_
    refine V_i2l 1 B dX12_isMode_1 rfl ?_
    refine V_nml (fun o0 e1 => ?_)
    have x2 : o0.toInt = s0.toInt := by rw [e1, Int32.toInt_toInt64]
    refine V_lconst 2 B (v := 0) dX12_isMode_2 (by decide +kernel) ?_
    refine V_aload_n 3 B dX12_isMode_3 0 rfl ?_
    refine V_get 4 B gf_RX12_9 0 rfl rfl dX12_isMode_4 ?_
    refine V_iconst 7 B (v := 0) dX12_isMode_7 (by decide +kernel) ?_
    have x3 : (gN f0 0) ≤ 6 := gN_le HI (by omega) (show bd 0 = (0, ((6 : Nat) : Int)) by decide +kernel)
    refine V_iald 8 B (v := (nI (gN f0 0))) 1 rfl (vpin _ _ (by decide +kernel)) dX12_isMode_8 (by show f0 0 = _; exact gN_eq HI (by omega) (show bd 0 = (0, ((6 : Nat) : Int)) by decide +kernel)) ?_
    refine V_iconst 9 B (v := 1) dX12_isMode_9 (by decide +kernel) ?_
    refine V_isub 10 B dX12_isMode_10 rfl ?_
    refine V_nmi (fun j4 e5 => ?_)
    have x6 : j4.toInt = (((gN f0 0) : Nat) : Int) - ((1 : Nat) : Int) := by rw [e5]; exact nI_subT (a := (gN f0 0)) (b := 1) (by omega) (by omega)
    refine V_i2l 11 B dX12_isMode_11 rfl ?_
    refine V_nml (fun o7 e8 => ?_)
    have x9 : o7.toInt = j4.toInt := by rw [e8, Int32.toInt_toInt64]
    refine V_csi 12 B (st := []) (As := [.long o0, .long 0, .long o7]) (fun sz => rX12_inRange l D Y o0 0 o7 sz) glS_RX12_41 ⟨rfl, rfl⟩ ⟨(Nat.le_of_ble_eq_true rfl), (Nat.le_of_ble_eq_true rfl)⟩ ⟨(Nat.le_of_ble_eq_true rfl), (Nat.le_of_ble_eq_true rfl)⟩ [] rfl rfl (Nat.le_of_ble_eq_true rfl) rfl (fun _ _ _ => rfl) dX12_isMode_12 (fun j10 u11 w12 => ?_)
    refine V_ws [(h0, oC 13 [.ref h1, .ref h2, .int p2, .ref h3, .ref h4, .int (nI k5), .int (nI k6), .int p7, .int p8, .int p9, .int (nI k10), .int p11, .long q12, .ref h5, .ref h6, .int (nI k15), .int (nI k16)]), (h1, aI Y 3640 f0), (h2, aZ Y 2 f1), (h3, aZ Y 80 f3), (h4, aB Y 1600 f4), (h5, aI Y 200 f13), (h6, aI Y 800 f14)] rfl ?_
    rcases w12 with ⟨rfl, x15⟩ | ⟨rfl, x13, x14⟩
    ·
      rw [show (0 : Int64).toInt = 0 by decide +kernel] at x15
      exact V_zret 15 B rfl dX12_isMode_15 (mkW [] [] [] [] [] []) (Or.inl rfl) rfl
    ·
      rw [show (0 : Int64).toInt = 0 by decide +kernel] at x13
      exact V_zret 15 B rfl dX12_isMode_15 (mkW [] [] [] [] [] []) (Or.inr ⟨rfl, nat_lt (by omega) (by omega)⟩) rfl)
theorem dX12_isCommand_0 : decode cX12_isCommand 0 = .ok (.iload_n 1, 1) := by decide +kernel
theorem dX12_isCommand_1 : decode cX12_isCommand 1 = .ok (.i2l, 1) := by decide +kernel
theorem dX12_isCommand_2 : decode cX12_isCommand 2 = .ok (.lconst 0, 1) := by decide +kernel
theorem dX12_isCommand_3 : decode cX12_isCommand 3 = .ok (.aload_n 0, 1) := by decide +kernel
theorem dX12_isCommand_4 : decode cX12_isCommand 4 = .ok (.getfield 9, 3) := by decide +kernel
theorem dX12_isCommand_7 : decode cX12_isCommand 7 = .ok (.iconst 1, 1) := by decide +kernel
theorem dX12_isCommand_8 : decode cX12_isCommand 8 = .ok (.iaload, 1) := by decide +kernel
theorem dX12_isCommand_9 : decode cX12_isCommand 9 = .ok (.iconst 1, 1) := by decide +kernel
theorem dX12_isCommand_10 : decode cX12_isCommand 10 = .ok (.isub, 1) := by decide +kernel
theorem dX12_isCommand_11 : decode cX12_isCommand 11 = .ok (.i2l, 1) := by decide +kernel
theorem dX12_isCommand_12 : decode cX12_isCommand 12 = .ok (.invokestatic 41, 3) := by decide +kernel
theorem dX12_isCommand_15 : decode cX12_isCommand 15 = .ok (.ireturn, 1) := by decide +kernel
set_option maxRecDepth 100000 in
set_option maxHeartbeats 4000000 in
theorem rX12_isCommand (l : Launch) (D : va_G) (Y : Nat → ClassId) (h0 : Nat) (h1 : Nat) (h2 : Nat) (h3 : Nat) (h4 : Nat) (h5 : Nat) (h6 : Nat) (p2 : Int32) (k5 : Nat) (k6 : Nat) (p7 : Int32) (p8 : Int32) (p9 : Int32) (k10 : Nat) (p11 : Int32) (q12 : Int64) (k15 : Nat) (k16 : Nat) (f0 : Nat → Int32) (f1 : Nat → Int32) (f3 : Nat → Int32) (f4 : Nat → Int32) (f13 : Nat → Int32) (f14 : Nat → Int32) (ph : Nat → Int32) (HI : INV ph f0) (HL : k5 ≤ 1600) (HP : PLV f13) (s0 : Int32)  (sz : Nat) : Met l yX12_isCommand (WSm yX12_isCommand cX12_isCommand 2 (some .boolean)) (mkR 1 0 0 25) (PreC D Y [.ref h0, .int s0] [(h0, oC 13 [.ref h1, .ref h2, .int p2, .ref h3, .ref h4, .int (nI k5), .int (nI k6), .int p7, .int p8, .int p9, .int (nI k10), .int p11, .long q12, .ref h5, .ref h6, .int (nI k15), .int (nI k16)]), (h1, aI Y 3640 f0), (h2, aZ Y 2 f1), (h3, aZ Y 80 f3), (h4, aB Y 1600 f4), (h5, aI Y 200 f13), (h6, aI Y 800 f14)] sz) (QI D (fun (r : Int32) (u : WU) => (r = 0 ∨ (r = 1 ∧ ∃ m : Nat, s0 = nI m ∧ m < gN f0 1))) (fun (u : WU) => [(h0, oC 13 [.ref h1, .ref h2, .int p2, .ref h3, .ref h4, .int (nI k5), .int (nI k6), .int p7, .int p8, .int p9, .int (nI k10), .int p11, .long q12, .ref h5, .ref h6, .int (nI k15), .int (nI k16)]), (h1, aI Y 3640 f0), (h2, aZ Y 2 f1), (h3, aZ Y 80 f3), (h4, aB Y 1600 f4), (h5, aI Y 200 f13), (h6, aI Y 800 f14)]) (va_A [(h0, oC 13 [.ref h1, .ref h2, .int p2, .ref h3, .ref h4, .int (nI k5), .int (nI k6), .int p7, .int p8, .int p9, .int (nI k10), .int p11, .long q12, .ref h5, .ref h6, .int (nI k15), .int (nI k16)]), (h1, aI Y 3640 f0), (h2, aZ Y 2 f1), (h3, aZ Y 80 f3), (h4, aB Y 1600 f4), (h5, aI Y 200 f13), (h6, aI Y 800 f14)] sz)) 0 0 (va_A [(h0, oC 13 [.ref h1, .ref h2, .int p2, .ref h3, .ref h4, .int (nI k5), .int (nI k6), .int p7, .int p8, .int p9, .int (nI k10), .int p11, .long q12, .ref h5, .ref h6, .int (nI k15), .int (nI k16)]), (h1, aI Y 3640 f0), (h2, aZ Y 2 f1), (h3, aZ Y 80 f3), (h4, aB Y 1600 f4), (h5, aI Y 200 f13), (h6, aI Y 800 f14)] sz) :=
  met_of  (by decide +kernel) (Nat.le_of_ble_eq_true rfl) (fun p e s m args below meth c B hin hsz => by
    have B : VB p s m args meth c D Y (va_A [(h0, oC 13 [.ref h1, .ref h2, .int p2, .ref h3, .ref h4, .int (nI k5), .int (nI k6), .int p7, .int p8, .int p9, .int (nI k10), .int p11, .long q12, .ref h5, .ref h6, .int (nI k15), .int (nI k16)]), (h1, aI Y 3640 f0), (h2, aZ Y 2 f1), (h3, aZ Y 80 f3), (h4, aB Y 1600 f4), (h5, aI Y 200 f13), (h6, aI Y 800 f14)] sz) cX12_isCommand 2 RX12 (some .boolean) := B
    refine V_iload_n 0 B dX12_isCommand_0 1 rfl ?_
    refine V_i2l 1 B dX12_isCommand_1 rfl ?_
    refine V_nml (fun o0 e1 => ?_)
    have x2 : o0.toInt = s0.toInt := by rw [e1, Int32.toInt_toInt64]
    refine V_lconst 2 B (v := 0) dX12_isCommand_2 (by decide +kernel) ?_
    refine V_aload_n 3 B dX12_isCommand_3 0 rfl ?_
    refine V_get 4 B gf_RX12_9 0 rfl rfl dX12_isCommand_4 ?_
    refine V_iconst 7 B (v := 1) dX12_isCommand_7 (by decide +kernel) ?_
    have x3 : (gN f0 1) ≤ 40 := gN_le HI (by omega) (show bd 1 = (0, ((40 : Nat) : Int)) by decide +kernel)
    refine V_iald 8 B (v := (nI (gN f0 1))) 1 rfl (vpin _ _ (by decide +kernel)) dX12_isCommand_8 (by show f0 1 = _; exact gN_eq HI (by omega) (show bd 1 = (0, ((40 : Nat) : Int)) by decide +kernel)) ?_
    refine V_iconst 9 B (v := 1) dX12_isCommand_9 (by decide +kernel) ?_
    refine V_isub 10 B dX12_isCommand_10 rfl ?_
    refine V_nmi (fun j4 e5 => ?_)
    have x6 : j4.toInt = (((gN f0 1) : Nat) : Int) - ((1 : Nat) : Int) := by rw [e5]; exact nI_subT (a := (gN f0 1)) (b := 1) (by omega) (by omega)
    refine V_i2l 11 B dX12_isCommand_11 rfl ?_
    refine V_nml (fun o7 e8 => ?_)
    have x9 : o7.toInt = j4.toInt := by rw [e8, Int32.toInt_toInt64]
    refine V_csi 12 B (st := []) (As := [.long o0, .long 0, .long o7]) (fun sz => rX12_inRange l D Y o0 0 o7 sz) glS_RX12_41 ⟨rfl, rfl⟩ ⟨(Nat.le_of_ble_eq_true rfl), (Nat.le_of_ble_eq_true rfl)⟩ ⟨(Nat.le_of_ble_eq_true rfl), (Nat.le_of_ble_eq_true rfl)⟩ [] rfl rfl (Nat.le_of_ble_eq_true rfl) rfl (fun _ _ _ => rfl) dX12_isCommand_12 (fun j10 u11 w12 => ?_)
    refine V_ws [(h0, oC 13 [.ref h1, .ref h2, .int p2, .ref h3, .ref h4, .int (nI k5), .int (nI k6), .int p7, .int p8, .int p9, .int (nI k10), .int p11, .long q12, .ref h5, .ref h6, .int (nI k15), .int (nI k16)]), (h1, aI Y 3640 f0), (h2, aZ Y 2 f1), (h3, aZ Y 80 f3), (h4, aB Y 1600 f4), (h5, aI Y 200 f13), (h6, aI Y 800 f14)] rfl ?_
    rcases w12 with ⟨rfl, x15⟩ | ⟨rfl, x13, x14⟩
    ·
      rw [show (0 : Int64).toInt = 0 by decide +kernel] at x15
      exact V_zret 15 B rfl dX12_isCommand_15 (mkW [] [] [] [] [] []) (Or.inl rfl) rfl
    ·
      rw [show (0 : Int64).toInt = 0 by decide +kernel] at x13
      exact V_zret 15 B rfl dX12_isCommand_15 (mkW [] [] [] [] [] []) (Or.inr ⟨rfl, nat_lt (by omega) (by omega)⟩) rfl)
theorem dX12_isBinding_0 : decode cX12_isBinding 0 = .ok (.iload_n 1, 1) := by decide +kernel
theorem dX12_isBinding_1 : decode cX12_isBinding 1 = .ok (.i2l, 1) := by decide +kernel
theorem dX12_isBinding_2 : decode cX12_isBinding 2 = .ok (.lconst 0, 1) := by decide +kernel
theorem dX12_isBinding_3 : decode cX12_isBinding 3 = .ok (.aload_n 0, 1) := by decide +kernel
theorem dX12_isBinding_4 : decode cX12_isBinding 4 = .ok (.getfield 9, 3) := by decide +kernel
theorem dX12_isBinding_7 : decode cX12_isBinding 7 = .ok (.iconst 3, 1) := by decide +kernel
theorem dX12_isBinding_8 : decode cX12_isBinding 8 = .ok (.iaload, 1) := by decide +kernel
theorem dX12_isBinding_9 : decode cX12_isBinding 9 = .ok (.iconst 1, 1) := by decide +kernel
theorem dX12_isBinding_10 : decode cX12_isBinding 10 = .ok (.isub, 1) := by decide +kernel
theorem dX12_isBinding_11 : decode cX12_isBinding 11 = .ok (.i2l, 1) := by decide +kernel
theorem dX12_isBinding_12 : decode cX12_isBinding 12 = .ok (.invokestatic 41, 3) := by decide +kernel
theorem dX12_isBinding_15 : decode cX12_isBinding 15 = .ok (.ireturn, 1) := by decide +kernel
set_option maxRecDepth 100000 in
set_option maxHeartbeats 4000000 in
theorem rX12_isBinding (l : Launch) (D : va_G) (Y : Nat → ClassId) (h0 : Nat) (h1 : Nat) (h2 : Nat) (h3 : Nat) (h4 : Nat) (h5 : Nat) (h6 : Nat) (p2 : Int32) (k5 : Nat) (k6 : Nat) (p7 : Int32) (p8 : Int32) (p9 : Int32) (k10 : Nat) (p11 : Int32) (q12 : Int64) (k15 : Nat) (k16 : Nat) (f0 : Nat → Int32) (f1 : Nat → Int32) (f3 : Nat → Int32) (f4 : Nat → Int32) (f13 : Nat → Int32) (f14 : Nat → Int32) (ph : Nat → Int32) (HI : INV ph f0) (HL : k5 ≤ 1600) (HP : PLV f13) (s0 : Int32)  (sz : Nat) : Met l yX12_isBinding (WSm yX12_isBinding cX12_isBinding 2 (some .boolean)) (mkR 1 0 0 25) (PreC D Y [.ref h0, .int s0] [(h0, oC 13 [.ref h1, .ref h2, .int p2, .ref h3, .ref h4, .int (nI k5), .int (nI k6), .int p7, .int p8, .int p9, .int (nI k10), .int p11, .long q12, .ref h5, .ref h6, .int (nI k15), .int (nI k16)]), (h1, aI Y 3640 f0), (h2, aZ Y 2 f1), (h3, aZ Y 80 f3), (h4, aB Y 1600 f4), (h5, aI Y 200 f13), (h6, aI Y 800 f14)] sz) (QI D (fun (r : Int32) (u : WU) => (r = 0 ∨ (r = 1 ∧ ∃ m : Nat, s0 = nI m ∧ m < gN f0 3))) (fun (u : WU) => [(h0, oC 13 [.ref h1, .ref h2, .int p2, .ref h3, .ref h4, .int (nI k5), .int (nI k6), .int p7, .int p8, .int p9, .int (nI k10), .int p11, .long q12, .ref h5, .ref h6, .int (nI k15), .int (nI k16)]), (h1, aI Y 3640 f0), (h2, aZ Y 2 f1), (h3, aZ Y 80 f3), (h4, aB Y 1600 f4), (h5, aI Y 200 f13), (h6, aI Y 800 f14)]) (va_A [(h0, oC 13 [.ref h1, .ref h2, .int p2, .ref h3, .ref h4, .int (nI k5), .int (nI k6), .int p7, .int p8, .int p9, .int (nI k10), .int p11, .long q12, .ref h5, .ref h6, .int (nI k15), .int (nI k16)]), (h1, aI Y 3640 f0), (h2, aZ Y 2 f1), (h3, aZ Y 80 f3), (h4, aB Y 1600 f4), (h5, aI Y 200 f13), (h6, aI Y 800 f14)] sz)) 0 0 (va_A [(h0, oC 13 [.ref h1, .ref h2, .int p2, .ref h3, .ref h4, .int (nI k5), .int (nI k6), .int p7, .int p8, .int p9, .int (nI k10), .int p11, .long q12, .ref h5, .ref h6, .int (nI k15), .int (nI k16)]), (h1, aI Y 3640 f0), (h2, aZ Y 2 f1), (h3, aZ Y 80 f3), (h4, aB Y 1600 f4), (h5, aI Y 200 f13), (h6, aI Y 800 f14)] sz) :=
  met_of  (by decide +kernel) (Nat.le_of_ble_eq_true rfl) (fun p e s m args below meth c B hin hsz => by
    have B : VB p s m args meth c D Y (va_A [(h0, oC 13 [.ref h1, .ref h2, .int p2, .ref h3, .ref h4, .int (nI k5), .int (nI k6), .int p7, .int p8, .int p9, .int (nI k10), .int p11, .long q12, .ref h5, .ref h6, .int (nI k15), .int (nI k16)]), (h1, aI Y 3640 f0), (h2, aZ Y 2 f1), (h3, aZ Y 80 f3), (h4, aB Y 1600 f4), (h5, aI Y 200 f13), (h6, aI Y 800 f14)] sz) cX12_isBinding 2 RX12 (some .boolean) := B
    refine V_iload_n 0 B dX12_isBinding_0 1 rfl ?_
    refine V_i2l 1 B dX12_isBinding_1 rfl ?_
    refine V_nml (fun o0 e1 => ?_)
    have x2 : o0.toInt = s0.toInt := by rw [e1, Int32.toInt_toInt64]
    refine V_lconst 2 B (v := 0) dX12_isBinding_2 (by decide +kernel) ?_
    refine V_aload_n 3 B dX12_isBinding_3 0 rfl ?_
    refine V_get 4 B gf_RX12_9 0 rfl rfl dX12_isBinding_4 ?_
    refine V_iconst 7 B (v := 3) dX12_isBinding_7 (by decide +kernel) ?_
    have x3 : (gN f0 3) ≤ 80 := gN_le HI (by omega) (show bd 3 = (0, ((80 : Nat) : Int)) by decide +kernel)
    refine V_iald 8 B (v := (nI (gN f0 3))) 1 rfl (vpin _ _ (by decide +kernel)) dX12_isBinding_8 (by show f0 3 = _; exact gN_eq HI (by omega) (show bd 3 = (0, ((80 : Nat) : Int)) by decide +kernel)) ?_
    refine V_iconst 9 B (v := 1) dX12_isBinding_9 (by decide +kernel) ?_
    refine V_isub 10 B dX12_isBinding_10 rfl ?_
    refine V_nmi (fun j4 e5 => ?_)
    have x6 : j4.toInt = (((gN f0 3) : Nat) : Int) - ((1 : Nat) : Int) := by rw [e5]; exact nI_subT (a := (gN f0 3)) (b := 1) (by omega) (by omega)
    refine V_i2l 11 B dX12_isBinding_11 rfl ?_
    refine V_nml (fun o7 e8 => ?_)
    have x9 : o7.toInt = j4.toInt := by rw [e8, Int32.toInt_toInt64]
    refine V_csi 12 B (st := []) (As := [.long o0, .long 0, .long o7]) (fun sz => rX12_inRange l D Y o0 0 o7 sz) glS_RX12_41 ⟨rfl, rfl⟩ ⟨(Nat.le_of_ble_eq_true rfl), (Nat.le_of_ble_eq_true rfl)⟩ ⟨(Nat.le_of_ble_eq_true rfl), (Nat.le_of_ble_eq_true rfl)⟩ [] rfl rfl (Nat.le_of_ble_eq_true rfl) rfl (fun _ _ _ => rfl) dX12_isBinding_12 (fun j10 u11 w12 => ?_)
    refine V_ws [(h0, oC 13 [.ref h1, .ref h2, .int p2, .ref h3, .ref h4, .int (nI k5), .int (nI k6), .int p7, .int p8, .int p9, .int (nI k10), .int p11, .long q12, .ref h5, .ref h6, .int (nI k15), .int (nI k16)]), (h1, aI Y 3640 f0), (h2, aZ Y 2 f1), (h3, aZ Y 80 f3), (h4, aB Y 1600 f4), (h5, aI Y 200 f13), (h6, aI Y 800 f14)] rfl ?_
    rcases w12 with ⟨rfl, x15⟩ | ⟨rfl, x13, x14⟩
    ·
      rw [show (0 : Int64).toInt = 0 by decide +kernel] at x15
      exact V_zret 15 B rfl dX12_isBinding_15 (mkW [] [] [] [] [] []) (Or.inl rfl) rfl
    ·
      rw [show (0 : Int64).toInt = 0 by decide +kernel] at x13
      exact V_zret 15 B rfl dX12_isBinding_15 (mkW [] [] [] [] [] []) (Or.inr ⟨rfl, nat_lt (by omega) (by omega)⟩) rfl)
theorem dX12_isLayer_0 : decode cX12_isLayer 0 = .ok (.iload_n 1, 1) := by decide +kernel
theorem dX12_isLayer_1 : decode cX12_isLayer 1 = .ok (.i2l, 1) := by decide +kernel
theorem dX12_isLayer_2 : decode cX12_isLayer 2 = .ok (.lconst 0, 1) := by decide +kernel
theorem dX12_isLayer_3 : decode cX12_isLayer 3 = .ok (.aload_n 0, 1) := by decide +kernel
theorem dX12_isLayer_4 : decode cX12_isLayer 4 = .ok (.getfield 9, 3) := by decide +kernel
theorem dX12_isLayer_7 : decode cX12_isLayer 7 = .ok (.iconst 4, 1) := by decide +kernel
theorem dX12_isLayer_8 : decode cX12_isLayer 8 = .ok (.iaload, 1) := by decide +kernel
theorem dX12_isLayer_9 : decode cX12_isLayer 9 = .ok (.iconst 1, 1) := by decide +kernel
theorem dX12_isLayer_10 : decode cX12_isLayer 10 = .ok (.isub, 1) := by decide +kernel
theorem dX12_isLayer_11 : decode cX12_isLayer 11 = .ok (.i2l, 1) := by decide +kernel
theorem dX12_isLayer_12 : decode cX12_isLayer 12 = .ok (.invokestatic 41, 3) := by decide +kernel
theorem dX12_isLayer_15 : decode cX12_isLayer 15 = .ok (.ireturn, 1) := by decide +kernel
set_option maxRecDepth 100000 in
set_option maxHeartbeats 4000000 in
theorem rX12_isLayer (l : Launch) (D : va_G) (Y : Nat → ClassId) (h0 : Nat) (h1 : Nat) (h2 : Nat) (h3 : Nat) (h4 : Nat) (h5 : Nat) (h6 : Nat) (p2 : Int32) (k5 : Nat) (k6 : Nat) (p7 : Int32) (p8 : Int32) (p9 : Int32) (k10 : Nat) (p11 : Int32) (q12 : Int64) (k15 : Nat) (k16 : Nat) (f0 : Nat → Int32) (f1 : Nat → Int32) (f3 : Nat → Int32) (f4 : Nat → Int32) (f13 : Nat → Int32) (f14 : Nat → Int32) (ph : Nat → Int32) (HI : INV ph f0) (HL : k5 ≤ 1600) (HP : PLV f13) (s0 : Int32)  (sz : Nat) : Met l yX12_isLayer (WSm yX12_isLayer cX12_isLayer 2 (some .boolean)) (mkR 1 0 0 25) (PreC D Y [.ref h0, .int s0] [(h0, oC 13 [.ref h1, .ref h2, .int p2, .ref h3, .ref h4, .int (nI k5), .int (nI k6), .int p7, .int p8, .int p9, .int (nI k10), .int p11, .long q12, .ref h5, .ref h6, .int (nI k15), .int (nI k16)]), (h1, aI Y 3640 f0), (h2, aZ Y 2 f1), (h3, aZ Y 80 f3), (h4, aB Y 1600 f4), (h5, aI Y 200 f13), (h6, aI Y 800 f14)] sz) (QI D (fun (r : Int32) (u : WU) => (r = 0 ∨ (r = 1 ∧ ∃ m : Nat, s0 = nI m ∧ m < gN f0 4))) (fun (u : WU) => [(h0, oC 13 [.ref h1, .ref h2, .int p2, .ref h3, .ref h4, .int (nI k5), .int (nI k6), .int p7, .int p8, .int p9, .int (nI k10), .int p11, .long q12, .ref h5, .ref h6, .int (nI k15), .int (nI k16)]), (h1, aI Y 3640 f0), (h2, aZ Y 2 f1), (h3, aZ Y 80 f3), (h4, aB Y 1600 f4), (h5, aI Y 200 f13), (h6, aI Y 800 f14)]) (va_A [(h0, oC 13 [.ref h1, .ref h2, .int p2, .ref h3, .ref h4, .int (nI k5), .int (nI k6), .int p7, .int p8, .int p9, .int (nI k10), .int p11, .long q12, .ref h5, .ref h6, .int (nI k15), .int (nI k16)]), (h1, aI Y 3640 f0), (h2, aZ Y 2 f1), (h3, aZ Y 80 f3), (h4, aB Y 1600 f4), (h5, aI Y 200 f13), (h6, aI Y 800 f14)] sz)) 0 0 (va_A [(h0, oC 13 [.ref h1, .ref h2, .int p2, .ref h3, .ref h4, .int (nI k5), .int (nI k6), .int p7, .int p8, .int p9, .int (nI k10), .int p11, .long q12, .ref h5, .ref h6, .int (nI k15), .int (nI k16)]), (h1, aI Y 3640 f0), (h2, aZ Y 2 f1), (h3, aZ Y 80 f3), (h4, aB Y 1600 f4), (h5, aI Y 200 f13), (h6, aI Y 800 f14)] sz) :=
  met_of  (by decide +kernel) (Nat.le_of_ble_eq_true rfl) (fun p e s m args below meth c B hin hsz => by
    have B : VB p s m args meth c D Y (va_A [(h0, oC 13 [.ref h1, .ref h2, .int p2, .ref h3, .ref h4, .int (nI k5), .int (nI k6), .int p7, .int p8, .int p9, .int (nI k10), .int p11, .long q12, .ref h5, .ref h6, .int (nI k15), .int (nI k16)]), (h1, aI Y 3640 f0), (h2, aZ Y 2 f1), (h3, aZ Y 80 f3), (h4, aB Y 1600 f4), (h5, aI Y 200 f13), (h6, aI Y 800 f14)] sz) cX12_isLayer 2 RX12 (some .boolean) := B
    refine V_iload_n 0 B dX12_isLayer_0 1 rfl ?_
    refine V_i2l 1 B dX12_isLayer_1 rfl ?_
    refine V_nml (fun o0 e1 => ?_)
    have x2 : o0.toInt = s0.toInt := by rw [e1, Int32.toInt_toInt64]
    refine V_lconst 2 B (v := 0) dX12_isLayer_2 (by decide +kernel) ?_
    refine V_aload_n 3 B dX12_isLayer_3 0 rfl ?_
    refine V_get 4 B gf_RX12_9 0 rfl rfl dX12_isLayer_4 ?_
    refine V_iconst 7 B (v := 4) dX12_isLayer_7 (by decide +kernel) ?_
    have x3 : (gN f0 4) ≤ 4 := gN_le HI (by omega) (show bd 4 = (0, ((4 : Nat) : Int)) by decide +kernel)
    refine V_iald 8 B (v := (nI (gN f0 4))) 1 rfl (vpin _ _ (by decide +kernel)) dX12_isLayer_8 (by show f0 4 = _; exact gN_eq HI (by omega) (show bd 4 = (0, ((4 : Nat) : Int)) by decide +kernel)) ?_
    refine V_iconst 9 B (v := 1) dX12_isLayer_9 (by decide +kernel) ?_
    refine V_isub 10 B dX12_isLayer_10 rfl ?_
    refine V_nmi (fun j4 e5 => ?_)
    have x6 : j4.toInt = (((gN f0 4) : Nat) : Int) - ((1 : Nat) : Int) := by rw [e5]; exact nI_subT (a := (gN f0 4)) (b := 1) (by omega) (by omega)
    refine V_i2l 11 B dX12_isLayer_11 rfl ?_
    refine V_nml (fun o7 e8 => ?_)
    have x9 : o7.toInt = j4.toInt := by rw [e8, Int32.toInt_toInt64]
    refine V_csi 12 B (st := []) (As := [.long o0, .long 0, .long o7]) (fun sz => rX12_inRange l D Y o0 0 o7 sz) glS_RX12_41 ⟨rfl, rfl⟩ ⟨(Nat.le_of_ble_eq_true rfl), (Nat.le_of_ble_eq_true rfl)⟩ ⟨(Nat.le_of_ble_eq_true rfl), (Nat.le_of_ble_eq_true rfl)⟩ [] rfl rfl (Nat.le_of_ble_eq_true rfl) rfl (fun _ _ _ => rfl) dX12_isLayer_12 (fun j10 u11 w12 => ?_)
    refine V_ws [(h0, oC 13 [.ref h1, .ref h2, .int p2, .ref h3, .ref h4, .int (nI k5), .int (nI k6), .int p7, .int p8, .int p9, .int (nI k10), .int p11, .long q12, .ref h5, .ref h6, .int (nI k15), .int (nI k16)]), (h1, aI Y 3640 f0), (h2, aZ Y 2 f1), (h3, aZ Y 80 f3), (h4, aB Y 1600 f4), (h5, aI Y 200 f13), (h6, aI Y 800 f14)] rfl ?_
    rcases w12 with ⟨rfl, x15⟩ | ⟨rfl, x13, x14⟩
    ·
      rw [show (0 : Int64).toInt = 0 by decide +kernel] at x15
      exact V_zret 15 B rfl dX12_isLayer_15 (mkW [] [] [] [] [] []) (Or.inl rfl) rfl
    ·
      rw [show (0 : Int64).toInt = 0 by decide +kernel] at x13
      exact V_zret 15 B rfl dX12_isLayer_15 (mkW [] [] [] [] [] []) (Or.inr ⟨rfl, nat_lt (by omega) (by omega)⟩) rfl)
theorem dX12_draftFrom_0 : decode cX12_draftFrom 0 = .ok (.aload_n 0, 1) := by decide +kernel
theorem dX12_draftFrom_1 : decode cX12_draftFrom 1 = .ok (.iconst 0, 1) := by decide +kernel
theorem dX12_draftFrom_2 : decode cX12_draftFrom 2 = .ok (.putfield 38, 3) := by decide +kernel
theorem dX12_draftFrom_5 : decode cX12_draftFrom 5 = .ok (.aload_n 0, 1) := by decide +kernel
theorem dX12_draftFrom_6 : decode cX12_draftFrom 6 = .ok (.aload_n 0, 1) := by decide +kernel
theorem dX12_draftFrom_7 : decode cX12_draftFrom 7 = .ok (.iload_n 1, 1) := by decide +kernel
theorem dX12_draftFrom_8 : decode cX12_draftFrom 8 = .ok (.invokevirtual 82, 3) := by decide +kernel
theorem glV_RX12_82 : GLV RX12 82 yX12_isBinding RX12 cX12_isBinding 2 (some .boolean) 1 := ⟨⟨(mT8 7 rfl rfl), (mT8 9 rfl rfl), (mTs 32 rfl rfl), (mT1 13 rfl rfl), (mT8 10 rfl rfl)⟩, by decide +kernel⟩
theorem dX12_draftFrom_11 : decode cX12_draftFrom 11 = .ok (.ifCond .ne 7, 3) := by decide +kernel
theorem dX12_draftFrom_14 : decode cX12_draftFrom 14 = .ok (.iconst 1, 1) := by decide +kernel
theorem dX12_draftFrom_15 : decode cX12_draftFrom 15 = .ok (.goto 4, 3) := by decide +kernel
theorem dX12_draftFrom_19 : decode cX12_draftFrom 19 = .ok (.iconst 1, 1) := by decide +kernel
theorem dX12_draftFrom_20 : decode cX12_draftFrom 20 = .ok (.invokevirtual 69, 3) := by decide +kernel
theorem dX12_draftFrom_23 : decode cX12_draftFrom 23 = .ok (.ifCond .eq 5, 3) := by decide +kernel
theorem dX12_draftFrom_26 : decode cX12_draftFrom 26 = .ok (.iconst 0, 1) := by decide +kernel
theorem dX12_draftFrom_27 : decode cX12_draftFrom 27 = .ok (.ireturn, 1) := by decide +kernel
theorem dX12_draftFrom_18 : decode cX12_draftFrom 18 = .ok (.iconst 0, 1) := by decide +kernel
theorem dX12_draftFrom_28 : decode cX12_draftFrom 28 = .ok (.aload_n 0, 1) := by decide +kernel
theorem dX12_draftFrom_29 : decode cX12_draftFrom 29 = .ok (.iload_n 1, 1) := by decide +kernel
theorem dX12_draftFrom_30 : decode cX12_draftFrom 30 = .ok (.invokestatic 85, 3) := by decide +kernel
theorem glS_RX12_85 : GLS RX12 85 yX12_sequenceOf cX12_sequenceOf 1 (some .int) 1 := ⟨⟨(mT8 11 rfl rfl), (mT8 12 rfl rfl), (mT1 13 rfl rfl), (mT8 13 rfl rfl)⟩, by decide +kernel⟩
theorem dX12_draftFrom_33 : decode cX12_draftFrom 33 = .ok (.sipush 3624, 3) := by decide +kernel
theorem dX12_draftFrom_36 : decode cX12_draftFrom 36 = .ok (.invokevirtual 88, 3) := by decide +kernel
theorem rl5 : ∀ z0, z0 < 80 → SQ (186 + 7 * z0) := by unfold SQ; decide +kernel
theorem glV_RX12_88 : GLV RX12 88 yX12_copySequence RX12 cX12_copySequence 4 none 2 := ⟨⟨(mT8 17 rfl rfl), (mT8 19 rfl rfl), (mTs 33 rfl rfl), (mT1 13 rfl rfl), (mT8 20 rfl rfl)⟩, by decide +kernel⟩
theorem dX12_draftFrom_39 : decode cX12_draftFrom 39 = .ok (.aload_n 0, 1) := by decide +kernel
theorem dX12_draftFrom_40 : decode cX12_draftFrom 40 = .ok (.getfield 9, 3) := by decide +kernel
theorem dX12_draftFrom_43 : decode cX12_draftFrom 43 = .ok (.sipush 3624, 3) := by decide +kernel
theorem dX12_draftFrom_46 : decode cX12_draftFrom 46 = .ok (.iaload, 1) := by decide +kernel
theorem dX12_draftFrom_47 : decode cX12_draftFrom 47 = .ok (.ireturn, 1) := by decide +kernel
set_option maxRecDepth 100000 in
set_option maxHeartbeats 4000000 in
theorem rX12_draftFrom (l : Launch) (D : va_G) (Y : Nat → ClassId) (h0 : Nat) (h1 : Nat) (h2 : Nat) (h3 : Nat) (h4 : Nat) (h5 : Nat) (h6 : Nat) (p2 : Int32) (k5 : Nat) (k6 : Nat) (p7 : Int32) (p8 : Int32) (p9 : Int32) (k10 : Nat) (p11 : Int32) (q12 : Int64) (k15 : Nat) (k16 : Nat) (f0 : Nat → Int32) (f1 : Nat → Int32) (f3 : Nat → Int32) (f4 : Nat → Int32) (f13 : Nat → Int32) (f14 : Nat → Int32) (ph : Nat → Int32) (HI : INV ph f0) (HL : k5 ≤ 1600) (HP : PLV f13) (s0 : Int32)  (sz : Nat) : Met l yX12_draftFrom (WSm yX12_draftFrom cX12_draftFrom 2 (some .int)) (mkR 2 0 0 46) (PreC D Y [.ref h0, .int s0] [(h0, oC 13 [.ref h1, .ref h2, .int p2, .ref h3, .ref h4, .int (nI k5), .int (nI k6), .int p7, .int p8, .int p9, .int (nI k10), .int p11, .long q12, .ref h5, .ref h6, .int (nI k15), .int (nI k16)]), (h1, aI Y 3640 f0), (h2, aZ Y 2 f1), (h3, aZ Y 80 f3), (h4, aB Y 1600 f4), (h5, aI Y 200 f13), (h6, aI Y 800 f14)] sz) (QI D (fun (r : Int32) (u : WU) => INV ph (u.2.2.2.1 0)) (fun (u : WU) => [(h0, oC 13 [.ref h1, .ref h2, .int (u.2.1 0), .ref h3, .ref h4, .int (nI k5), .int (nI k6), .int p7, .int p8, .int p9, .int (nI k10), .int p11, .long q12, .ref h5, .ref h6, .int (nI k15), .int (nI k16)]), (h1, aI Y 3640 (u.2.2.2.1 0)), (h2, aZ Y 2 f1), (h3, aZ Y 80 f3), (h4, aB Y 1600 f4), (h5, aI Y 200 f13), (h6, aI Y 800 f14)]) (va_A [(h0, oC 13 [.ref h1, .ref h2, .int p2, .ref h3, .ref h4, .int (nI k5), .int (nI k6), .int p7, .int p8, .int p9, .int (nI k10), .int p11, .long q12, .ref h5, .ref h6, .int (nI k15), .int (nI k16)]), (h1, aI Y 3640 f0), (h2, aZ Y 2 f1), (h3, aZ Y 80 f3), (h4, aB Y 1600 f4), (h5, aI Y 200 f13), (h6, aI Y 800 f14)] sz)) 0 0 (va_A [(h0, oC 13 [.ref h1, .ref h2, .int p2, .ref h3, .ref h4, .int (nI k5), .int (nI k6), .int p7, .int p8, .int p9, .int (nI k10), .int p11, .long q12, .ref h5, .ref h6, .int (nI k15), .int (nI k16)]), (h1, aI Y 3640 f0), (h2, aZ Y 2 f1), (h3, aZ Y 80 f3), (h4, aB Y 1600 f4), (h5, aI Y 200 f13), (h6, aI Y 800 f14)] sz) :=
  met_of  (by decide +kernel) (Nat.le_of_ble_eq_true rfl) (fun p e s m args below meth c B hin hsz => by
    have B : VB p s m args meth c D Y (va_A [(h0, oC 13 [.ref h1, .ref h2, .int p2, .ref h3, .ref h4, .int (nI k5), .int (nI k6), .int p7, .int p8, .int p9, .int (nI k10), .int p11, .long q12, .ref h5, .ref h6, .int (nI k15), .int (nI k16)]), (h1, aI Y 3640 f0), (h2, aZ Y 2 f1), (h3, aZ Y 80 f3), (h4, aB Y 1600 f4), (h5, aI Y 200 f13), (h6, aI Y 800 f14)] sz) cX12_draftFrom 2 RX12 (some .int) := B
    refine V_aload_n 0 B dX12_draftFrom_0 0 rfl ?_
    refine V_iconst 1 B (v := 0) dX12_draftFrom_1 (by decide +kernel) ?_
    refine V_put 2 B gp_RX12_38 0 rfl (Nat.le_of_ble_eq_true rfl) rfl rfl dX12_draftFrom_2 [(h0, oC 13 [.ref h1, .ref h2, .int 0, .ref h3, .ref h4, .int (nI k5), .int (nI k6), .int p7, .int p8, .int p9, .int (nI k10), .int p11, .long q12, .ref h5, .ref h6, .int (nI k15), .int (nI k16)]), (h1, aI Y 3640 f0), (h2, aZ Y 2 f1), (h3, aZ Y 80 f3), (h4, aB Y 1600 f4), (h5, aI Y 200 f13), (h6, aI Y 800 f14)] rfl ?_
    refine V_aload_n 5 B dX12_draftFrom_5 0 rfl ?_
    refine V_aload_n 6 B dX12_draftFrom_6 0 rfl ?_
    refine V_iload_n 7 B dX12_draftFrom_7 1 rfl ?_
    refine V_cvi 8 B (st := [.ref h0]) (As := [.int s0]) (fun sz => rX12_isBinding l D Y h0 h1 h2 h3 h4 h5 h6 0 k5 k6 p7 p8 p9 k10 p11 q12 k15 k16 f0 f1 f3 f4 f13 f14 ph HI (by omega) HP s0 sz) glV_RX12_82 ⟨rfl, rfl⟩ ⟨(Nat.le_of_ble_eq_true rfl), (Nat.le_of_ble_eq_true rfl)⟩ ⟨(Nat.le_of_ble_eq_true rfl), (Nat.le_of_ble_eq_true rfl)⟩ [0, 0, 0, 0, 0, 0, 0] rfl 13 0 rfl rfl rfl rfl (Nat.le_of_ble_eq_true rfl) rfl (fun _ _ _ => rfl) dX12_draftFrom_8 (fun j0 u1 w2 => ?_)
    refine V_ws [(h0, oC 13 [.ref h1, .ref h2, .int 0, .ref h3, .ref h4, .int (nI k5), .int (nI k6), .int p7, .int p8, .int p9, .int (nI k10), .int p11, .long q12, .ref h5, .ref h6, .int (nI k15), .int (nI k16)]), (h1, aI Y 3640 f0), (h2, aZ Y 2 f1), (h3, aZ Y 80 f3), (h4, aB Y 1600 f4), (h5, aI Y 200 f13), (h6, aI Y 800 f14)] rfl ?_
    have x3 := w2
    clear w2
    have x7 : (gN f0 3) ≤ 80 := gN_le HI (by omega) (show bd 3 = (0, ((80 : Nat) : Int)) by decide +kernel)
    rcases x3 with rfl | ⟨rfl, n4, rfl, x6⟩
    ·
      refine V_if_ne_f 11 B 18 dX12_draftFrom_11 (by decide) (by decide +kernel) ?_
      refine V_iconst 14 B (v := 1) dX12_draftFrom_14 (by decide +kernel) ?_
      refine V_goto 15 B 19 dX12_draftFrom_15 (by decide) ?_
      refine V_iconst 19 B (v := 1) dX12_draftFrom_19 (by decide +kernel) ?_
      refine V_cvi 20 B (st := []) (As := [.int 1, .int 1]) (fun sz => rX12_throwsIf_1 l D Y h0 h1 h2 h3 h4 h5 h6 0 k5 k6 p7 p8 p9 k10 p11 q12 k15 k16 f0 f1 f3 f4 f13 f14 ph HI (by omega) HP 1 sz) glV_RX12_69 ⟨rfl, rfl⟩ ⟨(Nat.le_of_ble_eq_true rfl), (Nat.le_of_ble_eq_true rfl)⟩ ⟨(Nat.le_of_ble_eq_true rfl), (Nat.le_of_ble_eq_true rfl)⟩ [0, 0, 0, 0, 0, 0, 0] rfl 13 0 rfl rfl rfl rfl (Nat.le_of_ble_eq_true rfl) rfl (fun _ _ _ => rfl) dX12_draftFrom_20 (fun j8 u9 w10 => ?_)
      refine V_ws [(h0, oC 13 [.ref h1, .ref h2, .int (u9.2.1 0), .ref h3, .ref h4, .int (nI k5), .int (nI k6), .int p7, .int p8, .int p9, .int (nI k10), .int p11, .long q12, .ref h5, .ref h6, .int (nI k15), .int (nI k16)]), (h1, aI Y 3640 f0), (h2, aZ Y 2 f1), (h3, aZ Y 80 f3), (h4, aB Y 1600 f4), (h5, aI Y 200 f13), (h6, aI Y 800 f14)] rfl ?_
      have x11 := w10
      clear w10
      obtain rfl := x11
      refine V_if_eq_f 23 B 28 dX12_draftFrom_23 (by decide) (by decide +kernel) ?_
      refine V_iconst 26 B (v := 0) dX12_draftFrom_26 (by decide +kernel) ?_
      exact V_iret 27 B dX12_draftFrom_27 (mkW [] [(u9.2.1 0)] [] [f0] [] []) HI rfl
    ·
      have e12 := nI_toInt (show n4 < 2 ^ 31 by omega)
      have x13 : (gN f0 3) ≤ 80 := gN_le HI (by omega) (show bd 3 = (0, ((80 : Nat) : Int)) by decide +kernel)
      refine V_if_ne_t 11 B 18 dX12_draftFrom_11 (by decide) (by decide +kernel) ?_
      refine V_iconst 18 B (v := 0) dX12_draftFrom_18 (by decide +kernel) ?_
      refine V_iconst 19 B (v := 1) dX12_draftFrom_19 (by decide +kernel) ?_
      refine V_cvi 20 B (st := []) (As := [.int 0, .int 1]) (fun sz => rX12_throwsIf_0 l D Y h0 h1 h2 h3 h4 h5 h6 0 k5 k6 p7 p8 p9 k10 p11 q12 k15 k16 f0 f1 f3 f4 f13 f14 ph HI (by omega) HP 1 sz) glV_RX12_69 ⟨rfl, rfl⟩ ⟨(Nat.le_of_ble_eq_true rfl), (Nat.le_of_ble_eq_true rfl)⟩ ⟨(Nat.le_of_ble_eq_true rfl), (Nat.le_of_ble_eq_true rfl)⟩ [0, 0, 0, 0, 0, 0, 0] rfl 13 0 rfl rfl rfl rfl (Nat.le_of_ble_eq_true rfl) rfl (fun _ _ _ => rfl) dX12_draftFrom_20 (fun j14 u15 w16 => ?_)
      refine V_ws [(h0, oC 13 [.ref h1, .ref h2, .int (u15.2.1 0), .ref h3, .ref h4, .int (nI k5), .int (nI k6), .int p7, .int p8, .int p9, .int (nI k10), .int p11, .long q12, .ref h5, .ref h6, .int (nI k15), .int (nI k16)]), (h1, aI Y 3640 f0), (h2, aZ Y 2 f1), (h3, aZ Y 80 f3), (h4, aB Y 1600 f4), (h5, aI Y 200 f13), (h6, aI Y 800 f14)] rfl ?_
      have x17 := w16
      clear w16
      obtain rfl := x17
      refine V_if_eq_t 23 B 28 dX12_draftFrom_23 (by decide) (by decide +kernel) ?_
      refine V_aload_n 28 B dX12_draftFrom_28 0 rfl ?_
      refine V_iload_n 29 B dX12_draftFrom_29 1 rfl ?_
      refine V_csi 30 B (st := [.ref h0]) (As := [.int (nI n4)]) (fun sz => rX12_sequenceOf l D Y n4 (by omega) sz) glS_RX12_85 ⟨rfl, rfl⟩ ⟨(Nat.le_of_ble_eq_true rfl), (Nat.le_of_ble_eq_true rfl)⟩ ⟨(Nat.le_of_ble_eq_true rfl), (Nat.le_of_ble_eq_true rfl)⟩ [] rfl rfl (Nat.le_of_ble_eq_true rfl) rfl (fun _ _ _ => rfl) dX12_draftFrom_30 (fun j18 u19 w20 => ?_)
      refine V_ws [(h0, oC 13 [.ref h1, .ref h2, .int (u15.2.1 0), .ref h3, .ref h4, .int (nI k5), .int (nI k6), .int p7, .int p8, .int p9, .int (nI k10), .int p11, .long q12, .ref h5, .ref h6, .int (nI k15), .int (nI k16)]), (h1, aI Y 3640 f0), (h2, aZ Y 2 f1), (h3, aZ Y 80 f3), (h4, aB Y 1600 f4), (h5, aI Y 200 f13), (h6, aI Y 800 f14)] rfl ?_
      have x21 := w20
      clear w20
      obtain rfl := x21
      refine V_sipush 33 B (v := 3624) dX12_draftFrom_33 (by decide +kernel) ?_
      refine V_cvv 36 B (st := []) (As := [.int (nI (186 + 7 * n4)), .int 3624]) (fun sz => rX12_copySequence l D Y h0 h1 h2 h3 h4 h5 h6 (u15.2.1 0) k5 k6 p7 p8 p9 k10 p11 q12 k15 k16 f0 f1 f3 f4 f13 f14 ph HI (by omega) HP (186 + 7 * n4) 3624 (rl5 n4 (by omega)) (show SQ 3624 by unfold SQ; decide +kernel) sz) glV_RX12_88 ⟨rfl, rfl⟩ ⟨(Nat.le_of_ble_eq_true rfl), (Nat.le_of_ble_eq_true rfl)⟩ ⟨(Nat.le_of_ble_eq_true rfl), (Nat.le_of_ble_eq_true rfl)⟩ [0, 0, 0, 0, 0, 0, 0] rfl 13 0 rfl rfl rfl rfl (Nat.le_of_ble_eq_true rfl) rfl (fun _ _ => rfl) dX12_draftFrom_36 (fun u23 w24 => ?_)
      refine V_ws [(h0, oC 13 [.ref h1, .ref h2, .int (u15.2.1 0), .ref h3, .ref h4, .int (nI k5), .int (nI k6), .int p7, .int p8, .int p9, .int (nI k10), .int p11, .long q12, .ref h5, .ref h6, .int (nI k15), .int (nI k16)]), (h1, aI Y 3640 (u23.2.2.2.1 0)), (h2, aZ Y 2 f1), (h3, aZ Y 80 f3), (h4, aB Y 1600 f4), (h5, aI Y 200 f13), (h6, aI Y 800 f14)] rfl ?_
      obtain ⟨x25, x26⟩ := w24
      refine V_aload_n 39 B dX12_draftFrom_39 0 rfl ?_
      refine V_get 40 B gf_RX12_9 0 rfl rfl dX12_draftFrom_40 ?_
      refine V_sipush 43 B (v := 3624) dX12_draftFrom_43 (by decide +kernel) ?_
      have x27 : (gN (u23.2.2.2.1 0) 3624) ≤ 4 := gN_le x25 (by omega) (show bd 3624 = (0, ((4 : Nat) : Int)) by decide +kernel)
      refine V_iald 46 B (v := (nI ((gN (u23.2.2.2.1 0) 3624)))) 1 rfl (vpin _ _ (by decide +kernel)) dX12_draftFrom_46 (by show (u23.2.2.2.1 0) 3624 = _; exact gN_eq x25 (by omega) (show bd 3624 = (0, ((4 : Nat) : Int)) by decide +kernel)) ?_
      exact V_iret 47 B dX12_draftFrom_47 (mkW [] [(u15.2.1 0)] [] [(u23.2.2.2.1 0)] [] []) x25 rfl)
