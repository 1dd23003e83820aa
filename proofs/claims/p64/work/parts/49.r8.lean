theorem dX12_layerOf_0 : decode cX12_layerOf 0 = .ok (.iconst 0, 1) := by decide +kernel
theorem dX12_layerOf_1 : decode cX12_layerOf 1 = .ok (.istore_n 2, 1) := by decide +kernel
theorem dX12_layerOf_2 : decode cX12_layerOf 2 = .ok (.iload_n 2, 1) := by decide +kernel
theorem dX12_layerOf_3 : decode cX12_layerOf 3 = .ok (.aload_n 0, 1) := by decide +kernel
theorem dX12_layerOf_4 : decode cX12_layerOf 4 = .ok (.getfield 9, 3) := by decide +kernel
theorem dX12_layerOf_7 : decode cX12_layerOf 7 = .ok (.iconst 4, 1) := by decide +kernel
theorem dX12_layerOf_8 : decode cX12_layerOf 8 = .ok (.iaload, 1) := by decide +kernel
theorem dX12_layerOf_9 : decode cX12_layerOf 9 = .ok (.if_icmp .ge 21, 3) := by decide +kernel
theorem dX12_layerOf_30 : decode cX12_layerOf 30 = .ok (.iconst (-1), 1) := by decide +kernel
theorem dX12_layerOf_31 : decode cX12_layerOf 31 = .ok (.ireturn, 1) := by decide +kernel
theorem dX12_layerOf_12 : decode cX12_layerOf 12 = .ok (.aload_n 0, 1) := by decide +kernel
theorem dX12_layerOf_13 : decode cX12_layerOf 13 = .ok (.iload_n 2, 1) := by decide +kernel
theorem dX12_layerOf_14 : decode cX12_layerOf 14 = .ok (.iconst 0, 1) := by decide +kernel
theorem dX12_layerOf_15 : decode cX12_layerOf 15 = .ok (.invokevirtual 193, 3) := by decide +kernel
theorem glV_RX12_193 : GLV RX12 193 yX12_ofLayer RX12 cX12_ofLayer 3 (some .int) 2 := ⟨⟨(mT9 56 rfl rfl), (mT9 58 rfl rfl), (mTs 62 rfl rfl), (mT1 13 rfl rfl), (mT9 59 rfl rfl)⟩, by decide +kernel⟩
theorem dX12_layerOf_18 : decode cX12_layerOf 18 = .ok (.iload_n 1, 1) := by decide +kernel
theorem dX12_layerOf_19 : decode cX12_layerOf 19 = .ok (.if_icmp .ne 5, 3) := by decide +kernel
theorem dX12_layerOf_24 : decode cX12_layerOf 24 = .ok (.iinc 2 1, 3) := by decide +kernel
theorem dX12_layerOf_27 : decode cX12_layerOf 27 = .ok (.goto (-25), 3) := by decide +kernel
theorem dX12_layerOf_22 : decode cX12_layerOf 22 = .ok (.iload_n 2, 1) := by decide +kernel
theorem dX12_layerOf_23 : decode cX12_layerOf 23 = .ok (.ireturn, 1) := by decide +kernel
set_option maxRecDepth 100000 in
set_option maxHeartbeats 4000000 in
theorem rX12_layerOf (l : Launch) (D : va_G) (Y : Nat → ClassId) (h0 : Nat) (h1 : Nat) (h2 : Nat) (h3 : Nat) (h4 : Nat) (h5 : Nat) (h6 : Nat) (p2 : Int32) (k5 : Nat) (k6 : Nat) (p7 : Int32) (p8 : Int32) (p9 : Int32) (k10 : Nat) (p11 : Int32) (q12 : Int64) (k15 : Nat) (k16 : Nat) (f0 : Nat → Int32) (f1 : Nat → Int32) (f3 : Nat → Int32) (f4 : Nat → Int32) (f13 : Nat → Int32) (f14 : Nat → Int32) (HI : INV f0) (HL : k5 ≤ 1600) (HP : PLV f13) (s0 : Int32)  (sz : Nat) : Met l yX12_layerOf (WSm yX12_layerOf cX12_layerOf 3 (some .int)) (mkR 1 0 0 22) (PreC D Y [.ref h0, .int s0] [(h0, oC 13 [.ref h1, .ref h2, .int p2, .ref h3, .ref h4, .int (nI k5), .int (nI k6), .int p7, .int p8, .int p9, .int (nI k10), .int p11, .long q12, .ref h5, .ref h6, .int (nI k15), .int (nI k16)]), (h1, aI Y 3640 f0), (h2, aZ Y 2 f1), (h3, aZ Y 80 f3), (h4, aB Y 1600 f4), (h5, aI Y 200 f13), (h6, aI Y 800 f14)] sz) (QI D (fun (r : Int32) (u : WU) => (r = -1 ∨ ∃ b : Nat, r = nI b ∧ b < gN f0 4)) (fun (u : WU) => [(h0, oC 13 [.ref h1, .ref h2, .int p2, .ref h3, .ref h4, .int (nI k5), .int (nI k6), .int p7, .int p8, .int p9, .int (nI k10), .int p11, .long q12, .ref h5, .ref h6, .int (nI k15), .int (nI k16)]), (h1, aI Y 3640 f0), (h2, aZ Y 2 f1), (h3, aZ Y 80 f3), (h4, aB Y 1600 f4), (h5, aI Y 200 f13), (h6, aI Y 800 f14)]) (va_A [(h0, oC 13 [.ref h1, .ref h2, .int p2, .ref h3, .ref h4, .int (nI k5), .int (nI k6), .int p7, .int p8, .int p9, .int (nI k10), .int p11, .long q12, .ref h5, .ref h6, .int (nI k15), .int (nI k16)]), (h1, aI Y 3640 f0), (h2, aZ Y 2 f1), (h3, aZ Y 80 f3), (h4, aB Y 1600 f4), (h5, aI Y 200 f13), (h6, aI Y 800 f14)] sz)) 0 0 (va_A [(h0, oC 13 [.ref h1, .ref h2, .int p2, .ref h3, .ref h4, .int (nI k5), .int (nI k6), .int p7, .int p8, .int p9, .int (nI k10), .int p11, .long q12, .ref h5, .ref h6, .int (nI k15), .int (nI k16)]), (h1, aI Y 3640 f0), (h2, aZ Y 2 f1), (h3, aZ Y 80 f3), (h4, aB Y 1600 f4), (h5, aI Y 200 f13), (h6, aI Y 800 f14)] sz) :=
  met_of (by decide +kernel) (Nat.le_of_ble_eq_true rfl) (fun p e s m args below meth c B hin hsz => by
    have B : VB p s m args meth c D Y (va_A [(h0, oC 13 [.ref h1, .ref h2, .int p2, .ref h3, .ref h4, .int (nI k5), .int (nI k6), .int p7, .int p8, .int p9, .int (nI k10), .int p11, .long q12, .ref h5, .ref h6, .int (nI k15), .int (nI k16)]), (h1, aI Y 3640 f0), (h2, aZ Y 2 f1), (h3, aZ Y 80 f3), (h4, aB Y 1600 f4), (h5, aI Y 200 f13), (h6, aI Y 800 f14)] sz) cX12_layerOf 3 RX12 (some .int) := B
    refine V_iconst 0 B (v := 0) dX12_layerOf_0 (by decide +kernel) ?_
    refine V_istore_n 1 B (lv2 := [(2, .int 0), (0, .ref h0), (1, .int s0)]) dX12_layerOf_1 (by decide) rfl ?_
    refine V_wloop (α := WU) (fun a => 100000 - (a.1 0)) (fun a => (a.1 0) ≤ 4000) (fun a => [(2, .int (nI (a.1 0))), (0, .ref h0), (1, .int s0)]) (fun a => [(h0, oC 13 [.ref h1, .ref h2, .int p2, .ref h3, .ref h4, .int (nI k5), .int (nI k6), .int p7, .int p8, .int p9, .int (nI k10), .int p11, .long q12, .ref h5, .ref h6, .int (nI k15), .int (nI k16)]), (h1, aI Y 3640 f0), (h2, aZ Y 2 f1), (h3, aZ Y 80 f3), (h4, aB Y 1600 f4), (h5, aI Y 200 f13), (h6, aI Y 800 f14)]) (mkW [0] [] [] [] [] []) (show 0 ≤ 4000 by omega) rfl rfl (fun a0 hI2 IH1 => ?_)
    refine V_lv [(2, .int (nI (a0.1 0))), (0, .ref h0), (1, .int s0)] [0, 1, 2] rfl ?_
    refine V_ws [(h0, oC 13 [.ref h1, .ref h2, .int p2, .ref h3, .ref h4, .int (nI k5), .int (nI k6), .int p7, .int p8, .int p9, .int (nI k10), .int p11, .long q12, .ref h5, .ref h6, .int (nI k15), .int (nI k16)]), (h1, aI Y 3640 f0), (h2, aZ Y 2 f1), (h3, aZ Y 80 f3), (h4, aB Y 1600 f4), (h5, aI Y 200 f13), (h6, aI Y 800 f14)] rfl ?_
    have x3 := hI2
    refine V_iload_n 2 B dX12_layerOf_2 0 rfl ?_
    refine V_aload_n 3 B dX12_layerOf_3 1 rfl ?_
    refine V_get 4 B gf_RX12_9 0 rfl rfl dX12_layerOf_4 ?_
    refine V_iconst 7 B (v := 4) dX12_layerOf_7 (by decide +kernel) ?_
    have x4 : (gN f0 4) ≤ 4 := gN_le HI (by omega) (show bd 4 = (0, ((4 : Nat) : Int)) by decide +kernel)
    refine V_iald 8 B (v := (nI (gN f0 4))) 1 rfl (vpin _ _ (by decide +kernel)) dX12_layerOf_8 (by show f0 4 = _; exact gN_eq HI (by omega) (show bd 4 = (0, ((4 : Nat) : Int)) by decide +kernel)) ?_
    refine V_icmp_ge 9 B 30 dX12_layerOf_9 (by decide) (fun kk5 => ?_) (fun kk5 => ?_)
    ·
      have x6 := n_le (a := (gN f0 4)) (b := (a0.1 0)) kk5 (by omega) (by omega)
      refine V_iconst 30 B (v := (-1)) dX12_layerOf_30 (by decide +kernel) ?_
      exact V_iret 31 B dX12_layerOf_31 (mkW [] [] [] [] [] []) (Or.inl rfl) rfl
    ·
      have x7 := n_nle (a := (gN f0 4)) (b := (a0.1 0)) kk5 (by omega) (by omega)
      refine V_aload_n 12 B dX12_layerOf_12 1 rfl ?_
      refine V_iload_n 13 B dX12_layerOf_13 0 rfl ?_
      refine V_iconst 14 B (v := 0) dX12_layerOf_14 (by decide +kernel) ?_
      refine V_cvi 15 B (st := []) (As := [.int (nI (a0.1 0)), .int 0]) (fun sz => rX12_ofLayer l D Y h0 h1 h2 h3 h4 h5 h6 p2 k5 k6 p7 p8 p9 k10 p11 q12 k15 k16 f0 f1 f3 f4 f13 f14 HI (by omega) HP (a0.1 0) 0 (by omega) (by omega) sz) glV_RX12_193 ⟨rfl, rfl⟩ ⟨(Nat.le_of_ble_eq_true rfl), (Nat.le_of_ble_eq_true rfl)⟩ ⟨(Nat.le_of_ble_eq_true rfl), (Nat.le_of_ble_eq_true rfl)⟩ [0, 0, 0, 0, 0, 0, 0] rfl 13 0 rfl rfl rfl rfl (Nat.le_of_ble_eq_true rfl) rfl (fun _ _ _ => rfl) dX12_layerOf_15 (fun j8 u9 w10 => ?_)
      refine V_ws [(h0, oC 13 [.ref h1, .ref h2, .int p2, .ref h3, .ref h4, .int (nI k5), .int (nI k6), .int p7, .int p8, .int p9, .int (nI k10), .int p11, .long q12, .ref h5, .ref h6, .int (nI k15), .int (nI k16)]), (h1, aI Y 3640 f0), (h2, aZ Y 2 f1), (h3, aZ Y 80 f3), (h4, aB Y 1600 f4), (h5, aI Y 200 f13), (h6, aI Y 800 f14)] rfl ?_
      refine V_iload_n 18 B dX12_layerOf_18 2 rfl ?_
      refine V_icmp_ne 19 B 24 dX12_layerOf_19 (by decide) (fun kk11 => ?_) (fun kk11 => ?_)
      ·
        have x12 := x_ne kk11
        refine V_iinc 24 B (v := (nI (1 + (a0.1 0)))) (lv2 := [(2, .int (nI (1 + (a0.1 0)))), (0, .ref h0), (1, .int s0)]) dX12_layerOf_24 0 rfl (nI_addE (a := (a0.1 0)) (b := 1) (by omega)) (by decide) rfl ?_
        refine V_goto 27 B 2 dX12_layerOf_27 (by decide) ?_
        refine V_lv [(2, .int (nI (1 + (a0.1 0)))), (0, .ref h0), (1, .int s0)] [0, 1, 2] rfl ?_
        exact IH1 (mkW [1 + (a0.1 0)] [] [] [] [] []) (show 1 + (a0.1 0) ≤ 4000 by omega) (by show 100000 - (1 + (a0.1 0)) < 100000 - (a0.1 0); omega)
      ·
        have x13 := x_eq kk11
        refine V_iload_n 22 B dX12_layerOf_22 0 rfl ?_
        exact V_iret 23 B dX12_layerOf_23 (mkW [] [] [] [] [] []) (Or.inr ⟨(a0.1 0), rfl, by omega⟩) rfl)
theorem dX12_mappedCount_0 : decode cX12_mappedCount 0 = .ok (.iconst 0, 1) := by decide +kernel
theorem dX12_mappedCount_1 : decode cX12_mappedCount 1 = .ok (.istore_n 2, 1) := by decide +kernel
theorem dX12_mappedCount_2 : decode cX12_mappedCount 2 = .ok (.iconst 0, 1) := by decide +kernel
theorem dX12_mappedCount_3 : decode cX12_mappedCount 3 = .ok (.istore_n 3, 1) := by decide +kernel
theorem dX12_mappedCount_4 : decode cX12_mappedCount 4 = .ok (.iload_n 3, 1) := by decide +kernel
theorem dX12_mappedCount_5 : decode cX12_mappedCount 5 = .ok (.bipush 26, 2) := by decide +kernel
theorem dX12_mappedCount_7 : decode cX12_mappedCount 7 = .ok (.if_icmp .ge 28, 3) := by decide +kernel
theorem dX12_mappedCount_35 : decode cX12_mappedCount 35 = .ok (.iload_n 2, 1) := by decide +kernel
theorem dX12_mappedCount_36 : decode cX12_mappedCount 36 = .ok (.ireturn, 1) := by decide +kernel
theorem dX12_mappedCount_10 : decode cX12_mappedCount 10 = .ok (.iload_n 2, 1) := by decide +kernel
theorem dX12_mappedCount_11 : decode cX12_mappedCount 11 = .ok (.aload_n 0, 1) := by decide +kernel
theorem dX12_mappedCount_12 : decode cX12_mappedCount 12 = .ok (.iload_n 1, 1) := by decide +kernel
theorem dX12_mappedCount_13 : decode cX12_mappedCount 13 = .ok (.iconst 2, 1) := by decide +kernel
theorem dX12_mappedCount_14 : decode cX12_mappedCount 14 = .ok (.iload_n 3, 1) := by decide +kernel
theorem dX12_mappedCount_15 : decode cX12_mappedCount 15 = .ok (.iadd, 1) := by decide +kernel
theorem dX12_mappedCount_16 : decode cX12_mappedCount 16 = .ok (.invokevirtual 193, 3) := by decide +kernel
theorem dX12_mappedCount_19 : decode cX12_mappedCount 19 = .ok (.ifCond .le 7, 3) := by decide +kernel
theorem dX12_mappedCount_26 : decode cX12_mappedCount 26 = .ok (.iconst 0, 1) := by decide +kernel
theorem dX12_mappedCount_27 : decode cX12_mappedCount 27 = .ok (.iadd, 1) := by decide +kernel
theorem dX12_mappedCount_28 : decode cX12_mappedCount 28 = .ok (.istore_n 2, 1) := by decide +kernel
theorem dX12_mappedCount_29 : decode cX12_mappedCount 29 = .ok (.iinc 3 1, 3) := by decide +kernel
theorem dX12_mappedCount_32 : decode cX12_mappedCount 32 = .ok (.goto (-28), 3) := by decide +kernel
theorem dX12_mappedCount_22 : decode cX12_mappedCount 22 = .ok (.iconst 1, 1) := by decide +kernel
theorem dX12_mappedCount_23 : decode cX12_mappedCount 23 = .ok (.goto 4, 3) := by decide +kernel
set_option maxRecDepth 100000 in
set_option maxHeartbeats 4000000 in
theorem rX12_mappedCount (l : Launch) (D : va_G) (Y : Nat → ClassId) (h0 : Nat) (h1 : Nat) (h2 : Nat) (h3 : Nat) (h4 : Nat) (h5 : Nat) (h6 : Nat) (p2 : Int32) (k5 : Nat) (k6 : Nat) (p7 : Int32) (p8 : Int32) (p9 : Int32) (k10 : Nat) (p11 : Int32) (q12 : Int64) (k15 : Nat) (k16 : Nat) (f0 : Nat → Int32) (f1 : Nat → Int32) (f3 : Nat → Int32) (f4 : Nat → Int32) (f13 : Nat → Int32) (f14 : Nat → Int32) (HI : INV f0) (HL : k5 ≤ 1600) (HP : PLV f13) (s0 : Nat) (hn0 : s0 < 4) (sz : Nat) : Met l yX12_mappedCount (WSm yX12_mappedCount cX12_mappedCount 4 (some .int)) (mkR 1 0 0 22) (PreC D Y [.ref h0, .int (nI s0)] [(h0, oC 13 [.ref h1, .ref h2, .int p2, .ref h3, .ref h4, .int (nI k5), .int (nI k6), .int p7, .int p8, .int p9, .int (nI k10), .int p11, .long q12, .ref h5, .ref h6, .int (nI k15), .int (nI k16)]), (h1, aI Y 3640 f0), (h2, aZ Y 2 f1), (h3, aZ Y 80 f3), (h4, aB Y 1600 f4), (h5, aI Y 200 f13), (h6, aI Y 800 f14)] sz) (QI D (fun (r : Int32) (u : WU) => True) (fun (u : WU) => [(h0, oC 13 [.ref h1, .ref h2, .int p2, .ref h3, .ref h4, .int (nI k5), .int (nI k6), .int p7, .int p8, .int p9, .int (nI k10), .int p11, .long q12, .ref h5, .ref h6, .int (nI k15), .int (nI k16)]), (h1, aI Y 3640 f0), (h2, aZ Y 2 f1), (h3, aZ Y 80 f3), (h4, aB Y 1600 f4), (h5, aI Y 200 f13), (h6, aI Y 800 f14)]) (va_A [(h0, oC 13 [.ref h1, .ref h2, .int p2, .ref h3, .ref h4, .int (nI k5), .int (nI k6), .int p7, .int p8, .int p9, .int (nI k10), .int p11, .long q12, .ref h5, .ref h6, .int (nI k15), .int (nI k16)]), (h1, aI Y 3640 f0), (h2, aZ Y 2 f1), (h3, aZ Y 80 f3), (h4, aB Y 1600 f4), (h5, aI Y 200 f13), (h6, aI Y 800 f14)] sz)) 0 0 (va_A [(h0, oC 13 [.ref h1, .ref h2, .int p2, .ref h3, .ref h4, .int (nI k5), .int (nI k6), .int p7, .int p8, .int p9, .int (nI k10), .int p11, .long q12, .ref h5, .ref h6, .int (nI k15), .int (nI k16)]), (h1, aI Y 3640 f0), (h2, aZ Y 2 f1), (h3, aZ Y 80 f3), (h4, aB Y 1600 f4), (h5, aI Y 200 f13), (h6, aI Y 800 f14)] sz) :=
  met_of (by decide +kernel) (Nat.le_of_ble_eq_true rfl) (fun p e s m args below meth c B hin hsz => by
    have B : VB p s m args meth c D Y (va_A [(h0, oC 13 [.ref h1, .ref h2, .int p2, .ref h3, .ref h4, .int (nI k5), .int (nI k6), .int p7, .int p8, .int p9, .int (nI k10), .int p11, .long q12, .ref h5, .ref h6, .int (nI k15), .int (nI k16)]), (h1, aI Y 3640 f0), (h2, aZ Y 2 f1), (h3, aZ Y 80 f3), (h4, aB Y 1600 f4), (h5, aI Y 200 f13), (h6, aI Y 800 f14)] sz) cX12_mappedCount 4 RX12 (some .int) := B
    refine V_iconst 0 B (v := 0) dX12_mappedCount_0 (by decide +kernel) ?_
    refine V_istore_n 1 B (lv2 := [(2, .int 0), (0, .ref h0), (1, .int (nI s0))]) dX12_mappedCount_1 (by decide) rfl ?_
    refine V_iconst 2 B (v := 0) dX12_mappedCount_2 (by decide +kernel) ?_
    refine V_istore_n 3 B (lv2 := [(3, .int 0), (2, .int 0), (0, .ref h0), (1, .int (nI s0))]) dX12_mappedCount_3 (by decide) rfl ?_
    refine V_wloop (α := WU) (fun a => 100000 - (a.1 0)) (fun a => (a.1 0) ≤ 4000) (fun a => [(3, .int (nI (a.1 0))), (2, .int (a.2.1 0)), (0, .ref h0), (1, .int (nI s0))]) (fun a => [(h0, oC 13 [.ref h1, .ref h2, .int p2, .ref h3, .ref h4, .int (nI k5), .int (nI k6), .int p7, .int p8, .int p9, .int (nI k10), .int p11, .long q12, .ref h5, .ref h6, .int (nI k15), .int (nI k16)]), (h1, aI Y 3640 f0), (h2, aZ Y 2 f1), (h3, aZ Y 80 f3), (h4, aB Y 1600 f4), (h5, aI Y 200 f13), (h6, aI Y 800 f14)]) (mkW [0] [0] [] [] [] []) (show 0 ≤ 4000 by omega) rfl rfl (fun a0 hI2 IH1 => ?_)
    refine V_lv [(3, .int (nI (a0.1 0))), (2, .int (a0.2.1 0)), (0, .ref h0), (1, .int (nI s0))] [0, 1, 2, 3] rfl ?_
    refine V_ws [(h0, oC 13 [.ref h1, .ref h2, .int p2, .ref h3, .ref h4, .int (nI k5), .int (nI k6), .int p7, .int p8, .int p9, .int (nI k10), .int p11, .long q12, .ref h5, .ref h6, .int (nI k15), .int (nI k16)]), (h1, aI Y 3640 f0), (h2, aZ Y 2 f1), (h3, aZ Y 80 f3), (h4, aB Y 1600 f4), (h5, aI Y 200 f13), (h6, aI Y 800 f14)] rfl ?_
    have x3 := hI2
    refine V_iload_n 4 B dX12_mappedCount_4 0 rfl ?_
    refine V_bipush 5 B (v := 26) dX12_mappedCount_5 (by decide +kernel) ?_
    refine V_icmp_ge 7 B 35 dX12_mappedCount_7 (by decide) (fun kk4 => ?_) (fun kk4 => ?_)
    ·
      have x5 := n_le (a := 26) (b := (a0.1 0)) kk4 (by omega) (by omega)
      refine V_iload_n 35 B dX12_mappedCount_35 1 rfl ?_
      exact V_iret 36 B dX12_mappedCount_36 (mkW [] [] [] [] [] []) trivial rfl
    ·
      have x6 := n_nle (a := 26) (b := (a0.1 0)) kk4 (by omega) (by omega)
      refine V_iload_n 10 B dX12_mappedCount_10 1 rfl ?_
      refine V_aload_n 11 B dX12_mappedCount_11 2 rfl ?_
      refine V_iload_n 12 B dX12_mappedCount_12 3 rfl ?_
      refine V_iconst 13 B (v := 2) dX12_mappedCount_13 (by decide +kernel) ?_
      refine V_iload_n 14 B dX12_mappedCount_14 0 rfl ?_
      refine V_iadd 15 B (v := (nI (2 + (a0.1 0)))) dX12_mappedCount_15 (nI_addE (a := 2) (b := (a0.1 0)) (by omega)) ?_
      refine V_cvi 16 B (st := [.int (a0.2.1 0)]) (As := [.int (nI s0), .int (nI (2 + (a0.1 0)))]) (fun sz => rX12_ofLayer l D Y h0 h1 h2 h3 h4 h5 h6 p2 k5 k6 p7 p8 p9 k10 p11 q12 k15 k16 f0 f1 f3 f4 f13 f14 HI (by omega) HP s0 (2 + (a0.1 0)) (by omega) (by omega) sz) glV_RX12_193 ⟨rfl, rfl⟩ ⟨(Nat.le_of_ble_eq_true rfl), (Nat.le_of_ble_eq_true rfl)⟩ ⟨(Nat.le_of_ble_eq_true rfl), (Nat.le_of_ble_eq_true rfl)⟩ [0, 0, 0, 0, 0, 0, 0] rfl 13 0 rfl rfl rfl rfl (Nat.le_of_ble_eq_true rfl) rfl (fun _ _ _ => rfl) dX12_mappedCount_16 (fun j7 u8 w9 => ?_)
      refine V_ws [(h0, oC 13 [.ref h1, .ref h2, .int p2, .ref h3, .ref h4, .int (nI k5), .int (nI k6), .int p7, .int p8, .int p9, .int (nI k10), .int p11, .long q12, .ref h5, .ref h6, .int (nI k15), .int (nI k16)]), (h1, aI Y 3640 f0), (h2, aZ Y 2 f1), (h3, aZ Y 80 f3), (h4, aB Y 1600 f4), (h5, aI Y 200 f13), (h6, aI Y 800 f14)] rfl ?_
      refine V_if_le 19 B 26 dX12_mappedCount_19 (by decide) (fun kk10 => ?_) (fun kk10 => ?_)
      ·
        have x11 := x_le kk10
        rw [show (0 : Int32).toInt = 0 by decide +kernel] at x11
        refine V_iconst 26 B (v := 0) dX12_mappedCount_26 (by decide +kernel) ?_
        refine V_iadd 27 B (v := (a0.2.1 0)) dX12_mappedCount_27 (Int32.add_zero _) ?_
        refine V_istore_n 28 B (lv2 := [(2, .int (a0.2.1 0)), (3, .int (nI (a0.1 0))), (0, .ref h0), (1, .int (nI s0))]) dX12_mappedCount_28 (by decide) rfl ?_
        refine V_iinc 29 B (v := (nI (1 + (a0.1 0)))) (lv2 := [(3, .int (nI (1 + (a0.1 0)))), (2, .int (a0.2.1 0)), (0, .ref h0), (1, .int (nI s0))]) dX12_mappedCount_29 1 rfl (nI_addE (a := (a0.1 0)) (b := 1) (by omega)) (by decide) rfl ?_
        refine V_goto 32 B 4 dX12_mappedCount_32 (by decide) ?_
        refine V_lv [(3, .int (nI (1 + (a0.1 0)))), (2, .int (a0.2.1 0)), (0, .ref h0), (1, .int (nI s0))] [0, 1, 2, 3] rfl ?_
        exact IH1 (mkW [1 + (a0.1 0)] [(a0.2.1 0)] [] [] [] []) (show 1 + (a0.1 0) ≤ 4000 by omega) (by show 100000 - (1 + (a0.1 0)) < 100000 - (a0.1 0); omega)
      ·
        have x12 := x_nle kk10
        rw [show (0 : Int32).toInt = 0 by decide +kernel] at x12
        refine V_iconst 22 B (v := 1) dX12_mappedCount_22 (by decide +kernel) ?_
        refine V_goto 23 B 27 dX12_mappedCount_23 (by decide) ?_
        refine V_iadd 27 B dX12_mappedCount_27 rfl ?_
        refine V_nmi (fun j13 e14 => ?_)
        refine V_istore_n 28 B (lv2 := [(2, .int j13), (3, .int (nI (a0.1 0))), (0, .ref h0), (1, .int (nI s0))]) dX12_mappedCount_28 (by decide) rfl ?_
        refine V_iinc 29 B (v := (nI (1 + (a0.1 0)))) (lv2 := [(3, .int (nI (1 + (a0.1 0)))), (2, .int j13), (0, .ref h0), (1, .int (nI s0))]) dX12_mappedCount_29 1 rfl (nI_addE (a := (a0.1 0)) (b := 1) (by omega)) (by decide) rfl ?_
        refine V_goto 32 B 4 dX12_mappedCount_32 (by decide) ?_
        refine V_lv [(3, .int (nI (1 + (a0.1 0)))), (2, .int j13), (0, .ref h0), (1, .int (nI s0))] [0, 1, 2, 3] rfl ?_
        exact IH1 (mkW [1 + (a0.1 0)] [j13] [] [] [] []) (show 1 + (a0.1 0) ≤ 4000 by omega) (by show 100000 - (1 + (a0.1 0)) < 100000 - (a0.1 0); omega))
theorem dX12_layer_0 : decode cX12_layer 0 = .ok (.aload_n 0, 1) := by decide +kernel
theorem dX12_layer_1 : decode cX12_layer 1 = .ok (.iconst 0, 1) := by decide +kernel
theorem dX12_layer_2 : decode cX12_layer 2 = .ok (.putfield 38, 3) := by decide +kernel
theorem dX12_layer_5 : decode cX12_layer 5 = .ok (.aload_n 0, 1) := by decide +kernel
theorem dX12_layer_6 : decode cX12_layer 6 = .ok (.aload_n 0, 1) := by decide +kernel
theorem dX12_layer_7 : decode cX12_layer 7 = .ok (.iload_n 1, 1) := by decide +kernel
theorem dX12_layer_8 : decode cX12_layer 8 = .ok (.invokevirtual 196, 3) := by decide +kernel
theorem glV_RX12_196 : GLV RX12 196 yX12_isLayer RX12 cX12_isLayer 2 (some .boolean) 1 := ⟨⟨(mT9 52 rfl rfl), (mT9 54 rfl rfl), (mTs 61 rfl rfl), (mT1 13 rfl rfl), (mT9 55 rfl rfl)⟩, by decide +kernel⟩
theorem dX12_layer_11 : decode cX12_layer 11 = .ok (.ifCond .ne 7, 3) := by decide +kernel
theorem dX12_layer_14 : decode cX12_layer 14 = .ok (.iconst 1, 1) := by decide +kernel
theorem dX12_layer_15 : decode cX12_layer 15 = .ok (.goto 4, 3) := by decide +kernel
theorem dX12_layer_19 : decode cX12_layer 19 = .ok (.iconst 1, 1) := by decide +kernel
theorem dX12_layer_20 : decode cX12_layer 20 = .ok (.invokevirtual 69, 3) := by decide +kernel
theorem dX12_layer_23 : decode cX12_layer 23 = .ok (.ifCond .eq 5, 3) := by decide +kernel
theorem dX12_layer_26 : decode cX12_layer 26 = .ok (.iconst 0, 1) := by decide +kernel
theorem dX12_layer_27 : decode cX12_layer 27 = .ok (.ireturn, 1) := by decide +kernel
theorem dX12_layer_18 : decode cX12_layer 18 = .ok (.iconst 0, 1) := by decide +kernel
theorem dX12_layer_28 : decode cX12_layer 28 = .ok (.iload_n 2, 1) := by decide +kernel
theorem dX12_layer_29 : decode cX12_layer 29 = .ok (.ifCond .ne 12, 3) := by decide +kernel
theorem dX12_layer_41 : decode cX12_layer 41 = .ok (.iload_n 2, 1) := by decide +kernel
theorem dX12_layer_42 : decode cX12_layer 42 = .ok (.iconst 1, 1) := by decide +kernel
theorem dX12_layer_43 : decode cX12_layer 43 = .ok (.if_icmp .ne 11, 3) := by decide +kernel
theorem dX12_layer_54 : decode cX12_layer 54 = .ok (.iload_n 2, 1) := by decide +kernel
theorem dX12_layer_55 : decode cX12_layer 55 = .ok (.iconst 2, 1) := by decide +kernel
theorem dX12_layer_56 : decode cX12_layer 56 = .ok (.if_icmp .ne 12, 3) := by decide +kernel
theorem dX12_layer_68 : decode cX12_layer 68 = .ok (.iconst (-1), 1) := by decide +kernel
theorem dX12_layer_69 : decode cX12_layer 69 = .ok (.ireturn, 1) := by decide +kernel
theorem dX12_layer_59 : decode cX12_layer 59 = .ok (.aload_n 0, 1) := by decide +kernel
theorem dX12_layer_60 : decode cX12_layer 60 = .ok (.iload_n 1, 1) := by decide +kernel
theorem dX12_layer_61 : decode cX12_layer 61 = .ok (.iconst 1, 1) := by decide +kernel
theorem dX12_layer_62 : decode cX12_layer 62 = .ok (.invokevirtual 193, 3) := by decide +kernel
theorem dX12_layer_65 : decode cX12_layer 65 = .ok (.goto 4, 3) := by decide +kernel
theorem dX12_layer_46 : decode cX12_layer 46 = .ok (.aload_n 0, 1) := by decide +kernel
theorem dX12_layer_47 : decode cX12_layer 47 = .ok (.iload_n 1, 1) := by decide +kernel
theorem dX12_layer_48 : decode cX12_layer 48 = .ok (.invokevirtual 199, 3) := by decide +kernel
theorem glV_RX12_199 : GLV RX12 199 yX12_mappedCount RX12 cX12_mappedCount 4 (some .int) 1 := ⟨⟨(mT9 60 rfl rfl), (mT9 62 rfl rfl), (mTs 63 rfl rfl), (mT1 13 rfl rfl), (mT9 63 rfl rfl)⟩, by decide +kernel⟩
theorem dX12_layer_51 : decode cX12_layer 51 = .ok (.goto 18, 3) := by decide +kernel
theorem dX12_layer_32 : decode cX12_layer 32 = .ok (.aload_n 0, 1) := by decide +kernel
theorem dX12_layer_33 : decode cX12_layer 33 = .ok (.iload_n 1, 1) := by decide +kernel
theorem dX12_layer_34 : decode cX12_layer 34 = .ok (.iconst 0, 1) := by decide +kernel
theorem dX12_layer_35 : decode cX12_layer 35 = .ok (.invokevirtual 193, 3) := by decide +kernel
theorem dX12_layer_38 : decode cX12_layer 38 = .ok (.goto 31, 3) := by decide +kernel
set_option maxRecDepth 100000 in
set_option maxHeartbeats 4000000 in
theorem rX12_layer (l : Launch) (D : va_G) (Y : Nat → ClassId) (h0 : Nat) (h1 : Nat) (h2 : Nat) (h3 : Nat) (h4 : Nat) (h5 : Nat) (h6 : Nat) (p2 : Int32) (k5 : Nat) (k6 : Nat) (p7 : Int32) (p8 : Int32) (p9 : Int32) (k10 : Nat) (p11 : Int32) (q12 : Int64) (k15 : Nat) (k16 : Nat) (f0 : Nat → Int32) (f1 : Nat → Int32) (f3 : Nat → Int32) (f4 : Nat → Int32) (f13 : Nat → Int32) (f14 : Nat → Int32) (HI : INV f0) (HL : k5 ≤ 1600) (HP : PLV f13) (s0 : Int32) (s1 : Int32)  (sz : Nat) : Met l yX12_layer (WSm yX12_layer cX12_layer 3 (some .int)) (mkR 2 0 0 46) (PreC D Y [.ref h0, .int s0, .int s1] [(h0, oC 13 [.ref h1, .ref h2, .int p2, .ref h3, .ref h4, .int (nI k5), .int (nI k6), .int p7, .int p8, .int p9, .int (nI k10), .int p11, .long q12, .ref h5, .ref h6, .int (nI k15), .int (nI k16)]), (h1, aI Y 3640 f0), (h2, aZ Y 2 f1), (h3, aZ Y 80 f3), (h4, aB Y 1600 f4), (h5, aI Y 200 f13), (h6, aI Y 800 f14)] sz) (QI D (fun (r : Int32) (u : WU) => True) (fun (u : WU) => [(h0, oC 13 [.ref h1, .ref h2, .int (u.2.1 0), .ref h3, .ref h4, .int (nI k5), .int (nI k6), .int p7, .int p8, .int p9, .int (nI k10), .int p11, .long q12, .ref h5, .ref h6, .int (nI k15), .int (nI k16)]), (h1, aI Y 3640 f0), (h2, aZ Y 2 f1), (h3, aZ Y 80 f3), (h4, aB Y 1600 f4), (h5, aI Y 200 f13), (h6, aI Y 800 f14)]) (va_A [(h0, oC 13 [.ref h1, .ref h2, .int p2, .ref h3, .ref h4, .int (nI k5), .int (nI k6), .int p7, .int p8, .int p9, .int (nI k10), .int p11, .long q12, .ref h5, .ref h6, .int (nI k15), .int (nI k16)]), (h1, aI Y 3640 f0), (h2, aZ Y 2 f1), (h3, aZ Y 80 f3), (h4, aB Y 1600 f4), (h5, aI Y 200 f13), (h6, aI Y 800 f14)] sz)) 0 0 (va_A [(h0, oC 13 [.ref h1, .ref h2, .int p2, .ref h3, .ref h4, .int (nI k5), .int (nI k6), .int p7, .int p8, .int p9, .int (nI k10), .int p11, .long q12, .ref h5, .ref h6, .int (nI k15), .int (nI k16)]), (h1, aI Y 3640 f0), (h2, aZ Y 2 f1), (h3, aZ Y 80 f3), (h4, aB Y 1600 f4), (h5, aI Y 200 f13), (h6, aI Y 800 f14)] sz) :=
  met_of (by decide +kernel) (Nat.le_of_ble_eq_true rfl) (fun p e s m args below meth c B hin hsz => by
    have B : VB p s m args meth c D Y (va_A [(h0, oC 13 [.ref h1, .ref h2, .int p2, .ref h3, .ref h4, .int (nI k5), .int (nI k6), .int p7, .int p8, .int p9, .int (nI k10), .int p11, .long q12, .ref h5, .ref h6, .int (nI k15), .int (nI k16)]), (h1, aI Y 3640 f0), (h2, aZ Y 2 f1), (h3, aZ Y 80 f3), (h4, aB Y 1600 f4), (h5, aI Y 200 f13), (h6, aI Y 800 f14)] sz) cX12_layer 3 RX12 (some .int) := B
    refine V_aload_n 0 B dX12_layer_0 0 rfl ?_
    refine V_iconst 1 B (v := 0) dX12_layer_1 (by decide +kernel) ?_
    refine V_put 2 B gp_RX12_38 0 rfl (Nat.le_of_ble_eq_true rfl) rfl rfl dX12_layer_2 [(h0, oC 13 [.ref h1, .ref h2, .int 0, .ref h3, .ref h4, .int (nI k5), .int (nI k6), .int p7, .int p8, .int p9, .int (nI k10), .int p11, .long q12, .ref h5, .ref h6, .int (nI k15), .int (nI k16)]), (h1, aI Y 3640 f0), (h2, aZ Y 2 f1), (h3, aZ Y 80 f3), (h4, aB Y 1600 f4), (h5, aI Y 200 f13), (h6, aI Y 800 f14)] rfl ?_
    refine V_aload_n 5 B dX12_layer_5 0 rfl ?_
    refine V_aload_n 6 B dX12_layer_6 0 rfl ?_
    refine V_iload_n 7 B dX12_layer_7 1 rfl ?_
    refine V_cvi 8 B (st := [.ref h0]) (As := [.int s0]) (fun sz => rX12_isLayer l D Y h0 h1 h2 h3 h4 h5 h6 0 k5 k6 p7 p8 p9 k10 p11 q12 k15 k16 f0 f1 f3 f4 f13 f14 HI (by omega) HP s0 sz) glV_RX12_196 ⟨rfl, rfl⟩ ⟨(Nat.le_of_ble_eq_true rfl), (Nat.le_of_ble_eq_true rfl)⟩ ⟨(Nat.le_of_ble_eq_true rfl), (Nat.le_of_ble_eq_true rfl)⟩ [0, 0, 0, 0, 0, 0, 0] rfl 13 0 rfl rfl rfl rfl (Nat.le_of_ble_eq_true rfl) rfl (fun _ _ _ => rfl) dX12_layer_8 (fun j0 u1 w2 => ?_)
    refine V_ws [(h0, oC 13 [.ref h1, .ref h2, .int 0, .ref h3, .ref h4, .int (nI k5), .int (nI k6), .int p7, .int p8, .int p9, .int (nI k10), .int p11, .long q12, .ref h5, .ref h6, .int (nI k15), .int (nI k16)]), (h1, aI Y 3640 f0), (h2, aZ Y 2 f1), (h3, aZ Y 80 f3), (h4, aB Y 1600 f4), (h5, aI Y 200 f13), (h6, aI Y 800 f14)] rfl ?_
    have x3 := w2
    have x7 : (gN f0 4) ≤ 4 := gN_le HI (by omega) (show bd 4 = (0, ((4 : Nat) : Int)) by decide +kernel)
    rcases x3 with rfl | ⟨rfl, n4, rfl, x6⟩
    ·
      refine V_if_ne_f 11 B 18 dX12_layer_11 (by decide) (by decide +kernel) ?_
      refine V_iconst 14 B (v := 1) dX12_layer_14 (by decide +kernel) ?_
      refine V_goto 15 B 19 dX12_layer_15 (by decide) ?_
      refine V_iconst 19 B (v := 1) dX12_layer_19 (by decide +kernel) ?_
      refine V_cvi 20 B (st := []) (As := [.int 1, .int 1]) (fun sz => rX12_throwsIf_1 l D Y h0 h1 h2 h3 h4 h5 h6 0 k5 k6 p7 p8 p9 k10 p11 q12 k15 k16 f0 f1 f3 f4 f13 f14 HI (by omega) HP 1 sz) glV_RX12_69 ⟨rfl, rfl⟩ ⟨(Nat.le_of_ble_eq_true rfl), (Nat.le_of_ble_eq_true rfl)⟩ ⟨(Nat.le_of_ble_eq_true rfl), (Nat.le_of_ble_eq_true rfl)⟩ [0, 0, 0, 0, 0, 0, 0] rfl 13 0 rfl rfl rfl rfl (Nat.le_of_ble_eq_true rfl) rfl (fun _ _ _ => rfl) dX12_layer_20 (fun j8 u9 w10 => ?_)
      refine V_ws [(h0, oC 13 [.ref h1, .ref h2, .int (u9.2.1 0), .ref h3, .ref h4, .int (nI k5), .int (nI k6), .int p7, .int p8, .int p9, .int (nI k10), .int p11, .long q12, .ref h5, .ref h6, .int (nI k15), .int (nI k16)]), (h1, aI Y 3640 f0), (h2, aZ Y 2 f1), (h3, aZ Y 80 f3), (h4, aB Y 1600 f4), (h5, aI Y 200 f13), (h6, aI Y 800 f14)] rfl ?_
      have x11 := w10
      obtain rfl := x11
      refine V_if_eq_f 23 B 28 dX12_layer_23 (by decide) (by decide +kernel) ?_
      refine V_iconst 26 B (v := 0) dX12_layer_26 (by decide +kernel) ?_
      exact V_iret 27 B dX12_layer_27 (mkW [] [(u9.2.1 0)] [] [] [] []) trivial rfl
    ·
      have e12 := nI_toInt (show n4 < 2 ^ 31 by omega)
      have x13 : (gN f0 4) ≤ 4 := gN_le HI (by omega) (show bd 4 = (0, ((4 : Nat) : Int)) by decide +kernel)
      refine V_if_ne_t 11 B 18 dX12_layer_11 (by decide) (by decide +kernel) ?_
      refine V_iconst 18 B (v := 0) dX12_layer_18 (by decide +kernel) ?_
      refine V_iconst 19 B (v := 1) dX12_layer_19 (by decide +kernel) ?_
      refine V_cvi 20 B (st := []) (As := [.int 0, .int 1]) (fun sz => rX12_throwsIf_0 l D Y h0 h1 h2 h3 h4 h5 h6 0 k5 k6 p7 p8 p9 k10 p11 q12 k15 k16 f0 f1 f3 f4 f13 f14 HI (by omega) HP 1 sz) glV_RX12_69 ⟨rfl, rfl⟩ ⟨(Nat.le_of_ble_eq_true rfl), (Nat.le_of_ble_eq_true rfl)⟩ ⟨(Nat.le_of_ble_eq_true rfl), (Nat.le_of_ble_eq_true rfl)⟩ [0, 0, 0, 0, 0, 0, 0] rfl 13 0 rfl rfl rfl rfl (Nat.le_of_ble_eq_true rfl) rfl (fun _ _ _ => rfl) dX12_layer_20 (fun j14 u15 w16 => ?_)
      refine V_ws [(h0, oC 13 [.ref h1, .ref h2, .int (u15.2.1 0), .ref h3, .ref h4, .int (nI k5), .int (nI k6), .int p7, .int p8, .int p9, .int (nI k10), .int p11, .long q12, .ref h5, .ref h6, .int (nI k15), .int (nI k16)]), (h1, aI Y 3640 f0), (h2, aZ Y 2 f1), (h3, aZ Y 80 f3), (h4, aB Y 1600 f4), (h5, aI Y 200 f13), (h6, aI Y 800 f14)] rfl ?_
      have x17 := w16
      obtain rfl := x17
      refine V_if_eq_t 23 B 28 dX12_layer_23 (by decide) (by decide +kernel) ?_
      refine V_iload_n 28 B dX12_layer_28 2 rfl ?_
      refine V_if_ne 29 B 41 dX12_layer_29 (by decide) (fun kk18 => ?_) (fun kk18 => ?_)
      ·
        have x19 := x_ne kk18
        rw [show (0 : Int32).toInt = 0 by decide +kernel] at x19
        refine V_iload_n 41 B dX12_layer_41 2 rfl ?_
        refine V_iconst 42 B (v := 1) dX12_layer_42 (by decide +kernel) ?_
        refine V_icmp_ne 43 B 54 dX12_layer_43 (by decide) (fun kk20 => ?_) (fun kk20 => ?_)
        ·
          have x21 := x_ne kk20
          rw [show (1 : Int32).toInt = 1 by decide +kernel] at x21
          refine V_iload_n 54 B dX12_layer_54 2 rfl ?_
          refine V_iconst 55 B (v := 2) dX12_layer_55 (by decide +kernel) ?_
          refine V_icmp_ne 56 B 68 dX12_layer_56 (by decide) (fun kk22 => ?_) (fun kk22 => ?_)
          ·
            have x23 := x_ne kk22
            rw [show (2 : Int32).toInt = 2 by decide +kernel] at x23
            refine V_iconst 68 B (v := (-1)) dX12_layer_68 (by decide +kernel) ?_
            exact V_iret 69 B dX12_layer_69 (mkW [] [(u15.2.1 0)] [] [] [] []) trivial rfl
          ·
            obtain rfl : s1 = 2 := kk22
            have e25 : (2 : Int32).toInt = 2 := by decide +kernel
            refine V_aload_n 59 B dX12_layer_59 0 rfl ?_
            refine V_iload_n 60 B dX12_layer_60 1 rfl ?_
            refine V_iconst 61 B (v := 1) dX12_layer_61 (by decide +kernel) ?_
            refine V_cvi 62 B (st := []) (As := [.int (nI n4), .int 1]) (fun sz => rX12_ofLayer l D Y h0 h1 h2 h3 h4 h5 h6 (u15.2.1 0) k5 k6 p7 p8 p9 k10 p11 q12 k15 k16 f0 f1 f3 f4 f13 f14 HI (by omega) HP n4 1 (by omega) (by omega) sz) glV_RX12_193 ⟨rfl, rfl⟩ ⟨(Nat.le_of_ble_eq_true rfl), (Nat.le_of_ble_eq_true rfl)⟩ ⟨(Nat.le_of_ble_eq_true rfl), (Nat.le_of_ble_eq_true rfl)⟩ [0, 0, 0, 0, 0, 0, 0] rfl 13 0 rfl rfl rfl rfl (Nat.le_of_ble_eq_true rfl) rfl (fun _ _ _ => rfl) dX12_layer_62 (fun j26 u27 w28 => ?_)
            refine V_ws [(h0, oC 13 [.ref h1, .ref h2, .int (u15.2.1 0), .ref h3, .ref h4, .int (nI k5), .int (nI k6), .int p7, .int p8, .int p9, .int (nI k10), .int p11, .long q12, .ref h5, .ref h6, .int (nI k15), .int (nI k16)]), (h1, aI Y 3640 f0), (h2, aZ Y 2 f1), (h3, aZ Y 80 f3), (h4, aB Y 1600 f4), (h5, aI Y 200 f13), (h6, aI Y 800 f14)] rfl ?_
            refine V_goto 65 B 69 dX12_layer_65 (by decide) ?_
            exact V_iret 69 B dX12_layer_69 (mkW [] [(u15.2.1 0)] [] [] [] []) trivial rfl
        ·
          obtain rfl : s1 = 1 := kk20
          have e30 : (1 : Int32).toInt = 1 := by decide +kernel
          refine V_aload_n 46 B dX12_layer_46 0 rfl ?_
          refine V_iload_n 47 B dX12_layer_47 1 rfl ?_
          refine V_cvi 48 B (st := []) (As := [.int (nI n4)]) (fun sz => rX12_mappedCount l D Y h0 h1 h2 h3 h4 h5 h6 (u15.2.1 0) k5 k6 p7 p8 p9 k10 p11 q12 k15 k16 f0 f1 f3 f4 f13 f14 HI (by omega) HP n4 (by omega) sz) glV_RX12_199 ⟨rfl, rfl⟩ ⟨(Nat.le_of_ble_eq_true rfl), (Nat.le_of_ble_eq_true rfl)⟩ ⟨(Nat.le_of_ble_eq_true rfl), (Nat.le_of_ble_eq_true rfl)⟩ [0, 0, 0, 0, 0, 0, 0] rfl 13 0 rfl rfl rfl rfl (Nat.le_of_ble_eq_true rfl) rfl (fun _ _ _ => rfl) dX12_layer_48 (fun j31 u32 w33 => ?_)
          refine V_ws [(h0, oC 13 [.ref h1, .ref h2, .int (u15.2.1 0), .ref h3, .ref h4, .int (nI k5), .int (nI k6), .int p7, .int p8, .int p9, .int (nI k10), .int p11, .long q12, .ref h5, .ref h6, .int (nI k15), .int (nI k16)]), (h1, aI Y 3640 f0), (h2, aZ Y 2 f1), (h3, aZ Y 80 f3), (h4, aB Y 1600 f4), (h5, aI Y 200 f13), (h6, aI Y 800 f14)] rfl ?_
          refine V_goto 51 B 69 dX12_layer_51 (by decide) ?_
          exact V_iret 69 B dX12_layer_69 (mkW [] [(u15.2.1 0)] [] [] [] []) trivial rfl
      ·
        obtain rfl : s1 = 0 := kk18
        have e35 : (0 : Int32).toInt = 0 := by decide +kernel
        refine V_aload_n 32 B dX12_layer_32 0 rfl ?_
        refine V_iload_n 33 B dX12_layer_33 1 rfl ?_
        refine V_iconst 34 B (v := 0) dX12_layer_34 (by decide +kernel) ?_
        refine V_cvi 35 B (st := []) (As := [.int (nI n4), .int 0]) (fun sz => rX12_ofLayer l D Y h0 h1 h2 h3 h4 h5 h6 (u15.2.1 0) k5 k6 p7 p8 p9 k10 p11 q12 k15 k16 f0 f1 f3 f4 f13 f14 HI (by omega) HP n4 0 (by omega) (by omega) sz) glV_RX12_193 ⟨rfl, rfl⟩ ⟨(Nat.le_of_ble_eq_true rfl), (Nat.le_of_ble_eq_true rfl)⟩ ⟨(Nat.le_of_ble_eq_true rfl), (Nat.le_of_ble_eq_true rfl)⟩ [0, 0, 0, 0, 0, 0, 0] rfl 13 0 rfl rfl rfl rfl (Nat.le_of_ble_eq_true rfl) rfl (fun _ _ _ => rfl) dX12_layer_35 (fun j36 u37 w38 => ?_)
        refine V_ws [(h0, oC 13 [.ref h1, .ref h2, .int (u15.2.1 0), .ref h3, .ref h4, .int (nI k5), .int (nI k6), .int p7, .int p8, .int p9, .int (nI k10), .int p11, .long q12, .ref h5, .ref h6, .int (nI k15), .int (nI k16)]), (h1, aI Y 3640 f0), (h2, aZ Y 2 f1), (h3, aZ Y 80 f3), (h4, aB Y 1600 f4), (h5, aI Y 200 f13), (h6, aI Y 800 f14)] rfl ?_
        refine V_goto 38 B 69 dX12_layer_38 (by decide) ?_
        exact V_iret 69 B dX12_layer_69 (mkW [] [(u15.2.1 0)] [] [] [] []) trivial rfl)
theorem dX12_isKey_0 : decode cX12_isKey 0 = .ok (.iload_n 0, 1) := by decide +kernel
theorem dX12_isKey_1 : decode cX12_isKey 1 = .ok (.i2l, 1) := by decide +kernel
theorem dX12_isKey_2 : decode cX12_isKey 2 = .ok (.lconst 0, 1) := by decide +kernel
theorem dX12_isKey_3 : decode cX12_isKey 3 = .ok (.ldc2_w 202, 3) := by decide +kernel
theorem dX12_isKey_6 : decode cX12_isKey 6 = .ok (.invokestatic 41, 3) := by decide +kernel
theorem dX12_isKey_9 : decode cX12_isKey 9 = .ok (.ireturn, 1) := by decide +kernel
set_option maxRecDepth 100000 in
set_option maxHeartbeats 4000000 in
theorem rX12_isKey (l : Launch) (D : va_G) (Y : Nat → ClassId)  (s0 : Int32)  (sz : Nat) : Met l yX12_isKey (WSm yX12_isKey cX12_isKey 1 (some .boolean)) (mkR 1 0 0 25) (PreC D Y [.int s0] [] sz) (QI D (fun (r : Int32) (u : WU) => (r = 0 ∨ (r = 1 ∧ ∃ m : Nat, s0 = nI m ∧ m < 26))) (fun (u : WU) => []) (va_A [] sz)) 0 0 (va_A [] sz) :=
  met_of (by decide +kernel) (Nat.le_of_ble_eq_true rfl) (fun p e s m args below meth c B hin hsz => by
    have B : VB p s m args meth c D Y (va_A [] sz) cX12_isKey 1 RX12 (some .boolean) := B
    refine V_iload_n 0 B dX12_isKey_0 0 rfl ?_
    refine V_i2l 1 B dX12_isKey_1 rfl ?_
    refine V_nml (fun o0 e1 => ?_)
    have x2 : o0.toInt = s0.toInt := by rw [e1, Int32.toInt_toInt64]
    refine V_lconst 2 B (v := 0) dX12_isKey_2 (by decide +kernel) ?_
    refine V_ldc2 3 B (v := 25) dX12_isKey_3 (mT9 71 rfl rfl) ?_
    refine V_csi 6 B (st := []) (As := [.long o0, .long 0, .long 25]) (fun sz => rX12_inRange l D Y o0 0 25 sz) glS_RX12_41 ⟨rfl, rfl⟩ ⟨(Nat.le_of_ble_eq_true rfl), (Nat.le_of_ble_eq_true rfl)⟩ ⟨(Nat.le_of_ble_eq_true rfl), (Nat.le_of_ble_eq_true rfl)⟩ [] rfl rfl (Nat.le_of_ble_eq_true rfl) rfl (fun _ _ _ => rfl) dX12_isKey_6 (fun j3 u4 w5 => ?_)
    rcases w5 with rfl | ⟨rfl, x6, x7⟩
    ·
      exact V_zret 9 B rfl dX12_isKey_9 (mkW [] [] [] [] [] []) (Or.inl rfl) rfl
    ·
      rw [show (0 : Int64).toInt = 0 by decide +kernel] at x6
      rw [show (25 : Int64).toInt = 25 by decide +kernel] at x7
      exact V_zret 9 B rfl dX12_isKey_9 (mkW [] [] [] [] [] []) (Or.inr ⟨rfl, nat_lt (n := 26) (by omega) (by omega)⟩) rfl)
theorem dX12_mapped_0 : decode cX12_mapped 0 = .ok (.aload_n 0, 1) := by decide +kernel
theorem dX12_mapped_1 : decode cX12_mapped 1 = .ok (.iconst 0, 1) := by decide +kernel
theorem dX12_mapped_2 : decode cX12_mapped 2 = .ok (.putfield 38, 3) := by decide +kernel
theorem dX12_mapped_5 : decode cX12_mapped 5 = .ok (.aload_n 0, 1) := by decide +kernel
theorem dX12_mapped_6 : decode cX12_mapped 6 = .ok (.aload_n 0, 1) := by decide +kernel
theorem dX12_mapped_7 : decode cX12_mapped 7 = .ok (.iload_n 1, 1) := by decide +kernel
theorem dX12_mapped_8 : decode cX12_mapped 8 = .ok (.invokevirtual 196, 3) := by decide +kernel
theorem dX12_mapped_11 : decode cX12_mapped 11 = .ok (.ifCond .ne 7, 3) := by decide +kernel
theorem dX12_mapped_14 : decode cX12_mapped 14 = .ok (.iconst 1, 1) := by decide +kernel
theorem dX12_mapped_15 : decode cX12_mapped 15 = .ok (.goto 4, 3) := by decide +kernel
theorem dX12_mapped_19 : decode cX12_mapped 19 = .ok (.iconst 1, 1) := by decide +kernel
theorem dX12_mapped_20 : decode cX12_mapped 20 = .ok (.invokevirtual 69, 3) := by decide +kernel
theorem dX12_mapped_23 : decode cX12_mapped 23 = .ok (.ifCond .ne 23, 3) := by decide +kernel
theorem dX12_mapped_46 : decode cX12_mapped 46 = .ok (.iconst 0, 1) := by decide +kernel
theorem dX12_mapped_47 : decode cX12_mapped 47 = .ok (.goto 13, 3) := by decide +kernel
theorem dX12_mapped_60 : decode cX12_mapped 60 = .ok (.ireturn, 1) := by decide +kernel
theorem dX12_mapped_18 : decode cX12_mapped 18 = .ok (.iconst 0, 1) := by decide +kernel
theorem dX12_mapped_26 : decode cX12_mapped 26 = .ok (.aload_n 0, 1) := by decide +kernel
theorem dX12_mapped_27 : decode cX12_mapped 27 = .ok (.iload_n 2, 1) := by decide +kernel
theorem dX12_mapped_28 : decode cX12_mapped 28 = .ok (.invokestatic 204, 3) := by decide +kernel
theorem glS_RX12_204 : GLS RX12 204 yX12_isKey cX12_isKey 1 (some .boolean) 1 := ⟨⟨(mT9 68 rfl rfl), (mT9 69 rfl rfl), (mT1 13 rfl rfl), (mT9 70 rfl rfl)⟩, by decide +kernel⟩
theorem dX12_mapped_31 : decode cX12_mapped 31 = .ok (.ifCond .ne 7, 3) := by decide +kernel
theorem dX12_mapped_34 : decode cX12_mapped 34 = .ok (.iconst 1, 1) := by decide +kernel
theorem dX12_mapped_35 : decode cX12_mapped 35 = .ok (.goto 4, 3) := by decide +kernel
theorem dX12_mapped_39 : decode cX12_mapped 39 = .ok (.iconst 2, 1) := by decide +kernel
theorem dX12_mapped_40 : decode cX12_mapped 40 = .ok (.invokevirtual 69, 3) := by decide +kernel
theorem dX12_mapped_43 : decode cX12_mapped 43 = .ok (.ifCond .eq 7, 3) := by decide +kernel
theorem dX12_mapped_38 : decode cX12_mapped 38 = .ok (.iconst 0, 1) := by decide +kernel
theorem dX12_mapped_50 : decode cX12_mapped 50 = .ok (.aload_n 0, 1) := by decide +kernel
theorem dX12_mapped_51 : decode cX12_mapped 51 = .ok (.iload_n 1, 1) := by decide +kernel
theorem dX12_mapped_52 : decode cX12_mapped 52 = .ok (.iconst 2, 1) := by decide +kernel
theorem dX12_mapped_53 : decode cX12_mapped 53 = .ok (.iload_n 2, 1) := by decide +kernel
theorem dX12_mapped_54 : decode cX12_mapped 54 = .ok (.iadd, 1) := by decide +kernel
theorem dX12_mapped_55 : decode cX12_mapped 55 = .ok (.invokevirtual 193, 3) := by decide +kernel
theorem dX12_mapped_58 : decode cX12_mapped 58 = .ok (.iconst 1, 1) := by decide +kernel
theorem dX12_mapped_59 : decode cX12_mapped 59 = .ok (.isub, 1) := by decide +kernel
set_option maxRecDepth 100000 in
set_option maxHeartbeats 4000000 in
theorem rX12_mapped (l : Launch) (D : va_G) (Y : Nat → ClassId) (h0 : Nat) (h1 : Nat) (h2 : Nat) (h3 : Nat) (h4 : Nat) (h5 : Nat) (h6 : Nat) (p2 : Int32) (k5 : Nat) (k6 : Nat) (p7 : Int32) (p8 : Int32) (p9 : Int32) (k10 : Nat) (p11 : Int32) (q12 : Int64) (k15 : Nat) (k16 : Nat) (f0 : Nat → Int32) (f1 : Nat → Int32) (f3 : Nat → Int32) (f4 : Nat → Int32) (f13 : Nat → Int32) (f14 : Nat → Int32) (HI : INV f0) (HL : k5 ≤ 1600) (HP : PLV f13) (s0 : Int32) (s1 : Int32)  (sz : Nat) : Met l yX12_mapped (WSm yX12_mapped cX12_mapped 3 (some .int)) (mkR 2 0 0 46) (PreC D Y [.ref h0, .int s0, .int s1] [(h0, oC 13 [.ref h1, .ref h2, .int p2, .ref h3, .ref h4, .int (nI k5), .int (nI k6), .int p7, .int p8, .int p9, .int (nI k10), .int p11, .long q12, .ref h5, .ref h6, .int (nI k15), .int (nI k16)]), (h1, aI Y 3640 f0), (h2, aZ Y 2 f1), (h3, aZ Y 80 f3), (h4, aB Y 1600 f4), (h5, aI Y 200 f13), (h6, aI Y 800 f14)] sz) (QI D (fun (r : Int32) (u : WU) => True) (fun (u : WU) => [(h0, oC 13 [.ref h1, .ref h2, .int (u.2.1 0), .ref h3, .ref h4, .int (nI k5), .int (nI k6), .int p7, .int p8, .int p9, .int (nI k10), .int p11, .long q12, .ref h5, .ref h6, .int (nI k15), .int (nI k16)]), (h1, aI Y 3640 f0), (h2, aZ Y 2 f1), (h3, aZ Y 80 f3), (h4, aB Y 1600 f4), (h5, aI Y 200 f13), (h6, aI Y 800 f14)]) (va_A [(h0, oC 13 [.ref h1, .ref h2, .int p2, .ref h3, .ref h4, .int (nI k5), .int (nI k6), .int p7, .int p8, .int p9, .int (nI k10), .int p11, .long q12, .ref h5, .ref h6, .int (nI k15), .int (nI k16)]), (h1, aI Y 3640 f0), (h2, aZ Y 2 f1), (h3, aZ Y 80 f3), (h4, aB Y 1600 f4), (h5, aI Y 200 f13), (h6, aI Y 800 f14)] sz)) 0 0 (va_A [(h0, oC 13 [.ref h1, .ref h2, .int p2, .ref h3, .ref h4, .int (nI k5), .int (nI k6), .int p7, .int p8, .int p9, .int (nI k10), .int p11, .long q12, .ref h5, .ref h6, .int (nI k15), .int (nI k16)]), (h1, aI Y 3640 f0), (h2, aZ Y 2 f1), (h3, aZ Y 80 f3), (h4, aB Y 1600 f4), (h5, aI Y 200 f13), (h6, aI Y 800 f14)] sz) :=
  met_of (by decide +kernel) (Nat.le_of_ble_eq_true rfl) (fun p e s m args below meth c B hin hsz => by
    have B : VB p s m args meth c D Y (va_A [(h0, oC 13 [.ref h1, .ref h2, .int p2, .ref h3, .ref h4, .int (nI k5), .int (nI k6), .int p7, .int p8, .int p9, .int (nI k10), .int p11, .long q12, .ref h5, .ref h6, .int (nI k15), .int (nI k16)]), (h1, aI Y 3640 f0), (h2, aZ Y 2 f1), (h3, aZ Y 80 f3), (h4, aB Y 1600 f4), (h5, aI Y 200 f13), (h6, aI Y 800 f14)] sz) cX12_mapped 3 RX12 (some .int) := B
    refine V_aload_n 0 B dX12_mapped_0 0 rfl ?_
    refine V_iconst 1 B (v := 0) dX12_mapped_1 (by decide +kernel) ?_
    refine V_put 2 B gp_RX12_38 0 rfl (Nat.le_of_ble_eq_true rfl) rfl rfl dX12_mapped_2 [(h0, oC 13 [.ref h1, .ref h2, .int 0, .ref h3, .ref h4, .int (nI k5), .int (nI k6), .int p7, .int p8, .int p9, .int (nI k10), .int p11, .long q12, .ref h5, .ref h6, .int (nI k15), .int (nI k16)]), (h1, aI Y 3640 f0), (h2, aZ Y 2 f1), (h3, aZ Y 80 f3), (h4, aB Y 1600 f4), (h5, aI Y 200 f13), (h6, aI Y 800 f14)] rfl ?_
    refine V_aload_n 5 B dX12_mapped_5 0 rfl ?_
    refine V_aload_n 6 B dX12_mapped_6 0 rfl ?_
    refine V_iload_n 7 B dX12_mapped_7 1 rfl ?_
    refine V_cvi 8 B (st := [.ref h0]) (As := [.int s0]) (fun sz => rX12_isLayer l D Y h0 h1 h2 h3 h4 h5 h6 0 k5 k6 p7 p8 p9 k10 p11 q12 k15 k16 f0 f1 f3 f4 f13 f14 HI (by omega) HP s0 sz) glV_RX12_196 ⟨rfl, rfl⟩ ⟨(Nat.le_of_ble_eq_true rfl), (Nat.le_of_ble_eq_true rfl)⟩ ⟨(Nat.le_of_ble_eq_true rfl), (Nat.le_of_ble_eq_true rfl)⟩ [0, 0, 0, 0, 0, 0, 0] rfl 13 0 rfl rfl rfl rfl (Nat.le_of_ble_eq_true rfl) rfl (fun _ _ _ => rfl) dX12_mapped_8 (fun j0 u1 w2 => ?_)
    refine V_ws [(h0, oC 13 [.ref h1, .ref h2, .int 0, .ref h3, .ref h4, .int (nI k5), .int (nI k6), .int p7, .int p8, .int p9, .int (nI k10), .int p11, .long q12, .ref h5, .ref h6, .int (nI k15), .int (nI k16)]), (h1, aI Y 3640 f0), (h2, aZ Y 2 f1), (h3, aZ Y 80 f3), (h4, aB Y 1600 f4), (h5, aI Y 200 f13), (h6, aI Y 800 f14)] rfl ?_
    have x3 := w2
    have x7 : (gN f0 4) ≤ 4 := gN_le HI (by omega) (show bd 4 = (0, ((4 : Nat) : Int)) by decide +kernel)
    rcases x3 with rfl | ⟨rfl, n4, rfl, x6⟩
    ·
      refine V_if_ne_f 11 B 18 dX12_mapped_11 (by decide) (by decide +kernel) ?_
      refine V_iconst 14 B (v := 1) dX12_mapped_14 (by decide +kernel) ?_
      refine V_goto 15 B 19 dX12_mapped_15 (by decide) ?_
      refine V_iconst 19 B (v := 1) dX12_mapped_19 (by decide +kernel) ?_
      refine V_cvi 20 B (st := []) (As := [.int 1, .int 1]) (fun sz => rX12_throwsIf_1 l D Y h0 h1 h2 h3 h4 h5 h6 0 k5 k6 p7 p8 p9 k10 p11 q12 k15 k16 f0 f1 f3 f4 f13 f14 HI (by omega) HP 1 sz) glV_RX12_69 ⟨rfl, rfl⟩ ⟨(Nat.le_of_ble_eq_true rfl), (Nat.le_of_ble_eq_true rfl)⟩ ⟨(Nat.le_of_ble_eq_true rfl), (Nat.le_of_ble_eq_true rfl)⟩ [0, 0, 0, 0, 0, 0, 0] rfl 13 0 rfl rfl rfl rfl (Nat.le_of_ble_eq_true rfl) rfl (fun _ _ _ => rfl) dX12_mapped_20 (fun j8 u9 w10 => ?_)
      refine V_ws [(h0, oC 13 [.ref h1, .ref h2, .int (u9.2.1 0), .ref h3, .ref h4, .int (nI k5), .int (nI k6), .int p7, .int p8, .int p9, .int (nI k10), .int p11, .long q12, .ref h5, .ref h6, .int (nI k15), .int (nI k16)]), (h1, aI Y 3640 f0), (h2, aZ Y 2 f1), (h3, aZ Y 80 f3), (h4, aB Y 1600 f4), (h5, aI Y 200 f13), (h6, aI Y 800 f14)] rfl ?_
      have x11 := w10
      obtain rfl := x11
      refine V_if_ne_t 23 B 46 dX12_mapped_23 (by decide) (by decide +kernel) ?_
      refine V_iconst 46 B (v := 0) dX12_mapped_46 (by decide +kernel) ?_
      refine V_goto 47 B 60 dX12_mapped_47 (by decide) ?_
      exact V_iret 60 B dX12_mapped_60 (mkW [] [(u9.2.1 0)] [] [] [] []) trivial rfl
    ·
      have e12 := nI_toInt (show n4 < 2 ^ 31 by omega)
      have x13 : (gN f0 4) ≤ 4 := gN_le HI (by omega) (show bd 4 = (0, ((4 : Nat) : Int)) by decide +kernel)
      refine V_if_ne_t 11 B 18 dX12_mapped_11 (by decide) (by decide +kernel) ?_
      refine V_iconst 18 B (v := 0) dX12_mapped_18 (by decide +kernel) ?_
      refine V_iconst 19 B (v := 1) dX12_mapped_19 (by decide +kernel) ?_
      refine V_cvi 20 B (st := []) (As := [.int 0, .int 1]) (fun sz => rX12_throwsIf_0 l D Y h0 h1 h2 h3 h4 h5 h6 0 k5 k6 p7 p8 p9 k10 p11 q12 k15 k16 f0 f1 f3 f4 f13 f14 HI (by omega) HP 1 sz) glV_RX12_69 ⟨rfl, rfl⟩ ⟨(Nat.le_of_ble_eq_true rfl), (Nat.le_of_ble_eq_true rfl)⟩ ⟨(Nat.le_of_ble_eq_true rfl), (Nat.le_of_ble_eq_true rfl)⟩ [0, 0, 0, 0, 0, 0, 0] rfl 13 0 rfl rfl rfl rfl (Nat.le_of_ble_eq_true rfl) rfl (fun _ _ _ => rfl) dX12_mapped_20 (fun j14 u15 w16 => ?_)
      refine V_ws [(h0, oC 13 [.ref h1, .ref h2, .int (u15.2.1 0), .ref h3, .ref h4, .int (nI k5), .int (nI k6), .int p7, .int p8, .int p9, .int (nI k10), .int p11, .long q12, .ref h5, .ref h6, .int (nI k15), .int (nI k16)]), (h1, aI Y 3640 f0), (h2, aZ Y 2 f1), (h3, aZ Y 80 f3), (h4, aB Y 1600 f4), (h5, aI Y 200 f13), (h6, aI Y 800 f14)] rfl ?_
      have x17 := w16
      obtain rfl := x17
      refine V_if_ne_f 23 B 46 dX12_mapped_23 (by decide) (by decide +kernel) ?_
      refine V_aload_n 26 B dX12_mapped_26 0 rfl ?_
      refine V_iload_n 27 B dX12_mapped_27 2 rfl ?_
      refine V_csi 28 B (st := [.ref h0]) (As := [.int s1]) (fun sz => rX12_isKey l D Y s1 sz) glS_RX12_204 ⟨rfl, rfl⟩ ⟨(Nat.le_of_ble_eq_true rfl), (Nat.le_of_ble_eq_true rfl)⟩ ⟨(Nat.le_of_ble_eq_true rfl), (Nat.le_of_ble_eq_true rfl)⟩ [] rfl rfl (Nat.le_of_ble_eq_true rfl) rfl (fun _ _ _ => rfl) dX12_mapped_28 (fun j18 u19 w20 => ?_)
      refine V_ws [(h0, oC 13 [.ref h1, .ref h2, .int (u15.2.1 0), .ref h3, .ref h4, .int (nI k5), .int (nI k6), .int p7, .int p8, .int p9, .int (nI k10), .int p11, .long q12, .ref h5, .ref h6, .int (nI k15), .int (nI k16)]), (h1, aI Y 3640 f0), (h2, aZ Y 2 f1), (h3, aZ Y 80 f3), (h4, aB Y 1600 f4), (h5, aI Y 200 f13), (h6, aI Y 800 f14)] rfl ?_
      have x21 := w20
      rcases x21 with rfl | ⟨rfl, n22, rfl, x23⟩
      ·
        refine V_if_ne_f 31 B 38 dX12_mapped_31 (by decide) (by decide +kernel) ?_
        refine V_iconst 34 B (v := 1) dX12_mapped_34 (by decide +kernel) ?_
        refine V_goto 35 B 39 dX12_mapped_35 (by decide) ?_
        refine V_iconst 39 B (v := 2) dX12_mapped_39 (by decide +kernel) ?_
        refine V_cvi 40 B (st := []) (As := [.int 1, .int 2]) (fun sz => rX12_throwsIf_1 l D Y h0 h1 h2 h3 h4 h5 h6 (u15.2.1 0) k5 k6 p7 p8 p9 k10 p11 q12 k15 k16 f0 f1 f3 f4 f13 f14 HI (by omega) HP 2 sz) glV_RX12_69 ⟨rfl, rfl⟩ ⟨(Nat.le_of_ble_eq_true rfl), (Nat.le_of_ble_eq_true rfl)⟩ ⟨(Nat.le_of_ble_eq_true rfl), (Nat.le_of_ble_eq_true rfl)⟩ [0, 0, 0, 0, 0, 0, 0] rfl 13 0 rfl rfl rfl rfl (Nat.le_of_ble_eq_true rfl) rfl (fun _ _ _ => rfl) dX12_mapped_40 (fun j25 u26 w27 => ?_)
        refine V_ws [(h0, oC 13 [.ref h1, .ref h2, .int (u26.2.1 0), .ref h3, .ref h4, .int (nI k5), .int (nI k6), .int p7, .int p8, .int p9, .int (nI k10), .int p11, .long q12, .ref h5, .ref h6, .int (nI k15), .int (nI k16)]), (h1, aI Y 3640 f0), (h2, aZ Y 2 f1), (h3, aZ Y 80 f3), (h4, aB Y 1600 f4), (h5, aI Y 200 f13), (h6, aI Y 800 f14)] rfl ?_
        have x28 := w27
        obtain rfl := x28
        refine V_if_eq_f 43 B 50 dX12_mapped_43 (by decide) (by decide +kernel) ?_
        refine V_iconst 46 B (v := 0) dX12_mapped_46 (by decide +kernel) ?_
        refine V_goto 47 B 60 dX12_mapped_47 (by decide) ?_
        exact V_iret 60 B dX12_mapped_60 (mkW [] [(u26.2.1 0)] [] [] [] []) trivial rfl
      ·
        have e29 := nI_toInt (show n22 < 2 ^ 31 by omega)
        refine V_if_ne_t 31 B 38 dX12_mapped_31 (by decide) (by decide +kernel) ?_
        refine V_iconst 38 B (v := 0) dX12_mapped_38 (by decide +kernel) ?_
        refine V_iconst 39 B (v := 2) dX12_mapped_39 (by decide +kernel) ?_
        refine V_cvi 40 B (st := []) (As := [.int 0, .int 2]) (fun sz => rX12_throwsIf_0 l D Y h0 h1 h2 h3 h4 h5 h6 (u15.2.1 0) k5 k6 p7 p8 p9 k10 p11 q12 k15 k16 f0 f1 f3 f4 f13 f14 HI (by omega) HP 2 sz) glV_RX12_69 ⟨rfl, rfl⟩ ⟨(Nat.le_of_ble_eq_true rfl), (Nat.le_of_ble_eq_true rfl)⟩ ⟨(Nat.le_of_ble_eq_true rfl), (Nat.le_of_ble_eq_true rfl)⟩ [0, 0, 0, 0, 0, 0, 0] rfl 13 0 rfl rfl rfl rfl (Nat.le_of_ble_eq_true rfl) rfl (fun _ _ _ => rfl) dX12_mapped_40 (fun j30 u31 w32 => ?_)
        refine V_ws [(h0, oC 13 [.ref h1, .ref h2, .int (u31.2.1 0), .ref h3, .ref h4, .int (nI k5), .int (nI k6), .int p7, .int p8, .int p9, .int (nI k10), .int p11, .long q12, .ref h5, .ref h6, .int (nI k15), .int (nI k16)]), (h1, aI Y 3640 f0), (h2, aZ Y 2 f1), (h3, aZ Y 80 f3), (h4, aB Y 1600 f4), (h5, aI Y 200 f13), (h6, aI Y 800 f14)] rfl ?_
        have x33 := w32
        obtain rfl := x33
        refine V_if_eq_t 43 B 50 dX12_mapped_43 (by decide) (by decide +kernel) ?_
        refine V_aload_n 50 B dX12_mapped_50 0 rfl ?_
        refine V_iload_n 51 B dX12_mapped_51 1 rfl ?_
        refine V_iconst 52 B (v := 2) dX12_mapped_52 (by decide +kernel) ?_
        refine V_iload_n 53 B dX12_mapped_53 2 rfl ?_
        refine V_iadd 54 B (v := (nI (2 + n22))) dX12_mapped_54 (nI_addE (a := 2) (b := n22) (by omega)) ?_
        refine V_cvi 55 B (st := []) (As := [.int (nI n4), .int (nI (2 + n22))]) (fun sz => rX12_ofLayer l D Y h0 h1 h2 h3 h4 h5 h6 (u31.2.1 0) k5 k6 p7 p8 p9 k10 p11 q12 k15 k16 f0 f1 f3 f4 f13 f14 HI (by omega) HP n4 (2 + n22) (by omega) (by omega) sz) glV_RX12_193 ⟨rfl, rfl⟩ ⟨(Nat.le_of_ble_eq_true rfl), (Nat.le_of_ble_eq_true rfl)⟩ ⟨(Nat.le_of_ble_eq_true rfl), (Nat.le_of_ble_eq_true rfl)⟩ [0, 0, 0, 0, 0, 0, 0] rfl 13 0 rfl rfl rfl rfl (Nat.le_of_ble_eq_true rfl) rfl (fun _ _ _ => rfl) dX12_mapped_55 (fun j34 u35 w36 => ?_)
        refine V_ws [(h0, oC 13 [.ref h1, .ref h2, .int (u31.2.1 0), .ref h3, .ref h4, .int (nI k5), .int (nI k6), .int p7, .int p8, .int p9, .int (nI k10), .int p11, .long q12, .ref h5, .ref h6, .int (nI k15), .int (nI k16)]), (h1, aI Y 3640 f0), (h2, aZ Y 2 f1), (h3, aZ Y 80 f3), (h4, aB Y 1600 f4), (h5, aI Y 200 f13), (h6, aI Y 800 f14)] rfl ?_
        refine V_iconst 58 B (v := 1) dX12_mapped_58 (by decide +kernel) ?_
        refine V_isub 59 B dX12_mapped_59 rfl ?_
        refine V_nmi (fun j37 e38 => ?_)
        exact V_iret 60 B dX12_mapped_60 (mkW [] [(u31.2.1 0)] [] [] [] []) trivial rfl)
theorem dX12_hold_0 : decode cX12_hold 0 = .ok (.aload_n 0, 1) := by decide +kernel
theorem dX12_hold_1 : decode cX12_hold 1 = .ok (.iconst 0, 1) := by decide +kernel
theorem dX12_hold_2 : decode cX12_hold 2 = .ok (.putfield 38, 3) := by decide +kernel
theorem dX12_hold_5 : decode cX12_hold 5 = .ok (.aload_n 0, 1) := by decide +kernel
theorem dX12_hold_6 : decode cX12_hold 6 = .ok (.iload_n 1, 1) := by decide +kernel
theorem dX12_hold_7 : decode cX12_hold 7 = .ok (.i2l, 1) := by decide +kernel
theorem dX12_hold_8 : decode cX12_hold 8 = .ok (.lconst 0, 1) := by decide +kernel
theorem dX12_hold_9 : decode cX12_hold 9 = .ok (.ldc2_w 207, 3) := by decide +kernel
theorem dX12_hold_12 : decode cX12_hold 12 = .ok (.invokestatic 41, 3) := by decide +kernel
theorem dX12_hold_15 : decode cX12_hold 15 = .ok (.ifCond .ne 7, 3) := by decide +kernel
theorem dX12_hold_18 : decode cX12_hold 18 = .ok (.iconst 1, 1) := by decide +kernel
theorem dX12_hold_19 : decode cX12_hold 19 = .ok (.goto 4, 3) := by decide +kernel
theorem dX12_hold_23 : decode cX12_hold 23 = .ok (.iconst 1, 1) := by decide +kernel
theorem dX12_hold_24 : decode cX12_hold 24 = .ok (.invokevirtual 69, 3) := by decide +kernel
theorem dX12_hold_27 : decode cX12_hold 27 = .ok (.ifCond .eq 5, 3) := by decide +kernel
theorem dX12_hold_30 : decode cX12_hold 30 = .ok (.iconst 0, 1) := by decide +kernel
theorem dX12_hold_31 : decode cX12_hold 31 = .ok (.ireturn, 1) := by decide +kernel
theorem dX12_hold_22 : decode cX12_hold 22 = .ok (.iconst 0, 1) := by decide +kernel
theorem dX12_hold_32 : decode cX12_hold 32 = .ok (.aload_n 0, 1) := by decide +kernel
theorem dX12_hold_33 : decode cX12_hold 33 = .ok (.getfield 9, 3) := by decide +kernel
theorem dX12_hold_36 : decode cX12_hold 36 = .ok (.bipush 14, 2) := by decide +kernel
theorem dX12_hold_38 : decode cX12_hold 38 = .ok (.iaload, 1) := by decide +kernel
theorem dX12_hold_39 : decode cX12_hold 39 = .ok (.istore_n 2, 1) := by decide +kernel
theorem dX12_hold_40 : decode cX12_hold 40 = .ok (.aload_n 0, 1) := by decide +kernel
theorem dX12_hold_41 : decode cX12_hold 41 = .ok (.getfield 9, 3) := by decide +kernel
theorem dX12_hold_44 : decode cX12_hold 44 = .ok (.bipush 14, 2) := by decide +kernel
theorem dX12_hold_46 : decode cX12_hold 46 = .ok (.iload_n 1, 1) := by decide +kernel
theorem dX12_hold_47 : decode cX12_hold 47 = .ok (.iastore, 1) := by decide +kernel
theorem dX12_hold_48 : decode cX12_hold 48 = .ok (.iload_n 2, 1) := by decide +kernel
theorem dX12_hold_49 : decode cX12_hold 49 = .ok (.ireturn, 1) := by decide +kernel
set_option maxRecDepth 100000 in
set_option maxHeartbeats 4000000 in
theorem rX12_hold (l : Launch) (D : va_G) (Y : Nat → ClassId) (h0 : Nat) (h1 : Nat) (h2 : Nat) (h3 : Nat) (h4 : Nat) (h5 : Nat) (h6 : Nat) (p2 : Int32) (k5 : Nat) (k6 : Nat) (p7 : Int32) (p8 : Int32) (p9 : Int32) (k10 : Nat) (p11 : Int32) (q12 : Int64) (k15 : Nat) (k16 : Nat) (f0 : Nat → Int32) (f1 : Nat → Int32) (f3 : Nat → Int32) (f4 : Nat → Int32) (f13 : Nat → Int32) (f14 : Nat → Int32) (HI : INV f0) (HL : k5 ≤ 1600) (HP : PLV f13) (s0 : Int32)  (sz : Nat) : Met l yX12_hold (WSm yX12_hold cX12_hold 3 (some .int)) (mkR 1 0 0 25) (PreC D Y [.ref h0, .int s0] [(h0, oC 13 [.ref h1, .ref h2, .int p2, .ref h3, .ref h4, .int (nI k5), .int (nI k6), .int p7, .int p8, .int p9, .int (nI k10), .int p11, .long q12, .ref h5, .ref h6, .int (nI k15), .int (nI k16)]), (h1, aI Y 3640 f0), (h2, aZ Y 2 f1), (h3, aZ Y 80 f3), (h4, aB Y 1600 f4), (h5, aI Y 200 f13), (h6, aI Y 800 f14)] sz) (QI D (fun (r : Int32) (u : WU) => INV (u.2.2.2.1 0)) (fun (u : WU) => [(h0, oC 13 [.ref h1, .ref h2, .int (u.2.1 0), .ref h3, .ref h4, .int (nI k5), .int (nI k6), .int p7, .int p8, .int p9, .int (nI k10), .int p11, .long q12, .ref h5, .ref h6, .int (nI k15), .int (nI k16)]), (h1, aI Y 3640 (u.2.2.2.1 0)), (h2, aZ Y 2 f1), (h3, aZ Y 80 f3), (h4, aB Y 1600 f4), (h5, aI Y 200 f13), (h6, aI Y 800 f14)]) (va_A [(h0, oC 13 [.ref h1, .ref h2, .int p2, .ref h3, .ref h4, .int (nI k5), .int (nI k6), .int p7, .int p8, .int p9, .int (nI k10), .int p11, .long q12, .ref h5, .ref h6, .int (nI k15), .int (nI k16)]), (h1, aI Y 3640 f0), (h2, aZ Y 2 f1), (h3, aZ Y 80 f3), (h4, aB Y 1600 f4), (h5, aI Y 200 f13), (h6, aI Y 800 f14)] sz)) 0 0 (va_A [(h0, oC 13 [.ref h1, .ref h2, .int p2, .ref h3, .ref h4, .int (nI k5), .int (nI k6), .int p7, .int p8, .int p9, .int (nI k10), .int p11, .long q12, .ref h5, .ref h6, .int (nI k15), .int (nI k16)]), (h1, aI Y 3640 f0), (h2, aZ Y 2 f1), (h3, aZ Y 80 f3), (h4, aB Y 1600 f4), (h5, aI Y 200 f13), (h6, aI Y 800 f14)] sz) :=
  met_of (by decide +kernel) (Nat.le_of_ble_eq_true rfl) (fun p e s m args below meth c B hin hsz => by
    have B : VB p s m args meth c D Y (va_A [(h0, oC 13 [.ref h1, .ref h2, .int p2, .ref h3, .ref h4, .int (nI k5), .int (nI k6), .int p7, .int p8, .int p9, .int (nI k10), .int p11, .long q12, .ref h5, .ref h6, .int (nI k15), .int (nI k16)]), (h1, aI Y 3640 f0), (h2, aZ Y 2 f1), (h3, aZ Y 80 f3), (h4, aB Y 1600 f4), (h5, aI Y 200 f13), (h6, aI Y 800 f14)] sz) cX12_hold 3 RX12 (some .int) := B
    refine V_aload_n 0 B dX12_hold_0 0 rfl ?_
    refine V_iconst 1 B (v := 0) dX12_hold_1 (by decide +kernel) ?_
    refine V_put 2 B gp_RX12_38 0 rfl (Nat.le_of_ble_eq_true rfl) rfl rfl dX12_hold_2 [(h0, oC 13 [.ref h1, .ref h2, .int 0, .ref h3, .ref h4, .int (nI k5), .int (nI k6), .int p7, .int p8, .int p9, .int (nI k10), .int p11, .long q12, .ref h5, .ref h6, .int (nI k15), .int (nI k16)]), (h1, aI Y 3640 f0), (h2, aZ Y 2 f1), (h3, aZ Y 80 f3), (h4, aB Y 1600 f4), (h5, aI Y 200 f13), (h6, aI Y 800 f14)] rfl ?_
    refine V_aload_n 5 B dX12_hold_5 0 rfl ?_
    refine V_iload_n 6 B dX12_hold_6 1 rfl ?_
    refine V_i2l 7 B dX12_hold_7 rfl ?_
    refine V_nml (fun o0 e1 => ?_)
    have x2 : o0.toInt = s0.toInt := by rw [e1, Int32.toInt_toInt64]
    refine V_lconst 8 B (v := 0) dX12_hold_8 (by decide +kernel) ?_
    refine V_ldc2 9 B (v := 15) dX12_hold_9 (mT9 76 rfl rfl) ?_
    refine V_csi 12 B (st := [.ref h0]) (As := [.long o0, .long 0, .long 15]) (fun sz => rX12_inRange l D Y o0 0 15 sz) glS_RX12_41 ⟨rfl, rfl⟩ ⟨(Nat.le_of_ble_eq_true rfl), (Nat.le_of_ble_eq_true rfl)⟩ ⟨(Nat.le_of_ble_eq_true rfl), (Nat.le_of_ble_eq_true rfl)⟩ [] rfl rfl (Nat.le_of_ble_eq_true rfl) rfl (fun _ _ _ => rfl) dX12_hold_12 (fun j3 u4 w5 => ?_)
    refine V_ws [(h0, oC 13 [.ref h1, .ref h2, .int 0, .ref h3, .ref h4, .int (nI k5), .int (nI k6), .int p7, .int p8, .int p9, .int (nI k10), .int p11, .long q12, .ref h5, .ref h6, .int (nI k15), .int (nI k16)]), (h1, aI Y 3640 f0), (h2, aZ Y 2 f1), (h3, aZ Y 80 f3), (h4, aB Y 1600 f4), (h5, aI Y 200 f13), (h6, aI Y 800 f14)] rfl ?_
    rcases w5 with rfl | ⟨rfl, x6, x7⟩
    ·
      refine V_if_ne_f 15 B 22 dX12_hold_15 (by decide) (by decide +kernel) ?_
      refine V_iconst 18 B (v := 1) dX12_hold_18 (by decide +kernel) ?_
      refine V_goto 19 B 23 dX12_hold_19 (by decide) ?_
      refine V_iconst 23 B (v := 1) dX12_hold_23 (by decide +kernel) ?_
      refine V_cvi 24 B (st := []) (As := [.int 1, .int 1]) (fun sz => rX12_throwsIf_1 l D Y h0 h1 h2 h3 h4 h5 h6 0 k5 k6 p7 p8 p9 k10 p11 q12 k15 k16 f0 f1 f3 f4 f13 f14 HI (by omega) HP 1 sz) glV_RX12_69 ⟨rfl, rfl⟩ ⟨(Nat.le_of_ble_eq_true rfl), (Nat.le_of_ble_eq_true rfl)⟩ ⟨(Nat.le_of_ble_eq_true rfl), (Nat.le_of_ble_eq_true rfl)⟩ [0, 0, 0, 0, 0, 0, 0] rfl 13 0 rfl rfl rfl rfl (Nat.le_of_ble_eq_true rfl) rfl (fun _ _ _ => rfl) dX12_hold_24 (fun j8 u9 w10 => ?_)
      refine V_ws [(h0, oC 13 [.ref h1, .ref h2, .int (u9.2.1 0), .ref h3, .ref h4, .int (nI k5), .int (nI k6), .int p7, .int p8, .int p9, .int (nI k10), .int p11, .long q12, .ref h5, .ref h6, .int (nI k15), .int (nI k16)]), (h1, aI Y 3640 f0), (h2, aZ Y 2 f1), (h3, aZ Y 80 f3), (h4, aB Y 1600 f4), (h5, aI Y 200 f13), (h6, aI Y 800 f14)] rfl ?_
      have x11 := w10
      obtain rfl := x11
      refine V_if_eq_f 27 B 32 dX12_hold_27 (by decide) (by decide +kernel) ?_
      refine V_iconst 30 B (v := 0) dX12_hold_30 (by decide +kernel) ?_
      exact V_iret 31 B dX12_hold_31 (mkW [] [(u9.2.1 0)] [] [f0] [] []) HI rfl
    ·
      rw [show (0 : Int64).toInt = 0 by decide +kernel] at x6
      rw [show (15 : Int64).toInt = 15 by decide +kernel] at x7
      refine V_if_ne_t 15 B 22 dX12_hold_15 (by decide) (by decide +kernel) ?_
      refine V_iconst 22 B (v := 0) dX12_hold_22 (by decide +kernel) ?_
      refine V_iconst 23 B (v := 1) dX12_hold_23 (by decide +kernel) ?_
      refine V_cvi 24 B (st := []) (As := [.int 0, .int 1]) (fun sz => rX12_throwsIf_0 l D Y h0 h1 h2 h3 h4 h5 h6 0 k5 k6 p7 p8 p9 k10 p11 q12 k15 k16 f0 f1 f3 f4 f13 f14 HI (by omega) HP 1 sz) glV_RX12_69 ⟨rfl, rfl⟩ ⟨(Nat.le_of_ble_eq_true rfl), (Nat.le_of_ble_eq_true rfl)⟩ ⟨(Nat.le_of_ble_eq_true rfl), (Nat.le_of_ble_eq_true rfl)⟩ [0, 0, 0, 0, 0, 0, 0] rfl 13 0 rfl rfl rfl rfl (Nat.le_of_ble_eq_true rfl) rfl (fun _ _ _ => rfl) dX12_hold_24 (fun j12 u13 w14 => ?_)
      refine V_ws [(h0, oC 13 [.ref h1, .ref h2, .int (u13.2.1 0), .ref h3, .ref h4, .int (nI k5), .int (nI k6), .int p7, .int p8, .int p9, .int (nI k10), .int p11, .long q12, .ref h5, .ref h6, .int (nI k15), .int (nI k16)]), (h1, aI Y 3640 f0), (h2, aZ Y 2 f1), (h3, aZ Y 80 f3), (h4, aB Y 1600 f4), (h5, aI Y 200 f13), (h6, aI Y 800 f14)] rfl ?_
      have x15 := w14
      obtain rfl := x15
      refine V_if_eq_t 27 B 32 dX12_hold_27 (by decide) (by decide +kernel) ?_
      refine V_aload_n 32 B dX12_hold_32 0 rfl ?_
      refine V_get 33 B gf_RX12_9 0 rfl rfl dX12_hold_33 ?_
      refine V_bipush 36 B (v := 14) dX12_hold_36 (by decide +kernel) ?_
      refine V_iald 38 B (v := f0 (14)) 1 rfl (vpin _ _ (by decide +kernel)) dX12_hold_38 (by rfl) ?_
      refine V_nmi (fun j16 e17 => ?_)
      refine V_istore_n 39 B (lv2 := [(2, .int j16), (0, .ref h0), (1, .int s0)]) dX12_hold_39 (by decide) rfl ?_
      refine V_aload_n 40 B dX12_hold_40 1 rfl ?_
      refine V_get 41 B gf_RX12_9 0 rfl rfl dX12_hold_41 ?_
      refine V_bipush 44 B (v := 14) dX12_hold_44 (by decide +kernel) ?_
      refine V_iload_n 46 B dX12_hold_46 2 rfl ?_
      have hv18 : INV (upd f0 14 s0) := INV_free HI (show bd 14 = FREE by decide +kernel)
      refine V_iast 47 B 1 rfl (vpin _ _ (by decide +kernel)) dX12_hold_47 [(h0, oC 13 [.ref h1, .ref h2, .int (u13.2.1 0), .ref h3, .ref h4, .int (nI k5), .int (nI k6), .int p7, .int p8, .int p9, .int (nI k10), .int p11, .long q12, .ref h5, .ref h6, .int (nI k15), .int (nI k16)]), (h1, aI Y 3640 (upd f0 14 s0)), (h2, aZ Y 2 f1), (h3, aZ Y 80 f3), (h4, aB Y 1600 f4), (h5, aI Y 200 f13), (h6, aI Y 800 f14)] rfl ?_
      refine V_iload_n 48 B dX12_hold_48 0 rfl ?_
      exact V_iret 49 B dX12_hold_49 (mkW [] [(u13.2.1 0)] [] [(upd f0 14 s0)] [] []) hv18 rfl)
theorem dX12_madeBy_0 : decode cX12_madeBy 0 = .ok (.iload_n 1, 1) := by decide +kernel
theorem dX12_madeBy_1 : decode cX12_madeBy 1 = .ok (.istore_n 2, 1) := by decide +kernel
theorem dX12_madeBy_2 : decode cX12_madeBy 2 = .ok (.iconst 0, 1) := by decide +kernel
theorem dX12_madeBy_3 : decode cX12_madeBy 3 = .ok (.istore_n 3, 1) := by decide +kernel
theorem dX12_madeBy_4 : decode cX12_madeBy 4 = .ok (.iload_n 3, 1) := by decide +kernel
theorem dX12_madeBy_5 : decode cX12_madeBy 5 = .ok (.aload_n 0, 1) := by decide +kernel
theorem dX12_madeBy_6 : decode cX12_madeBy 6 = .ok (.getfield 9, 3) := by decide +kernel
theorem dX12_madeBy_9 : decode cX12_madeBy 9 = .ok (.iconst 4, 1) := by decide +kernel
theorem dX12_madeBy_10 : decode cX12_madeBy 10 = .ok (.iaload, 1) := by decide +kernel
theorem dX12_madeBy_11 : decode cX12_madeBy 11 = .ok (.if_icmp .ge 41, 3) := by decide +kernel
theorem dX12_madeBy_52 : decode cX12_madeBy 52 = .ok (.bipush 32, 2) := by decide +kernel
theorem dX12_madeBy_54 : decode cX12_madeBy 54 = .ok (.aload_n 0, 1) := by decide +kernel
theorem dX12_madeBy_55 : decode cX12_madeBy 55 = .ok (.getfield 9, 3) := by decide +kernel
theorem dX12_madeBy_58 : decode cX12_madeBy 58 = .ok (.bipush 14, 2) := by decide +kernel
theorem dX12_madeBy_60 : decode cX12_madeBy 60 = .ok (.iaload, 1) := by decide +kernel
theorem dX12_madeBy_61 : decode cX12_madeBy 61 = .ok (.imul, 1) := by decide +kernel
theorem dX12_madeBy_62 : decode cX12_madeBy 62 = .ok (.iload_n 2, 1) := by decide +kernel
theorem dX12_madeBy_63 : decode cX12_madeBy 63 = .ok (.iadd, 1) := by decide +kernel
theorem dX12_madeBy_64 : decode cX12_madeBy 64 = .ok (.ireturn, 1) := by decide +kernel
theorem dX12_madeBy_14 : decode cX12_madeBy 14 = .ok (.aload_n 0, 1) := by decide +kernel
theorem dX12_madeBy_15 : decode cX12_madeBy 15 = .ok (.iload_n 3, 1) := by decide +kernel
theorem dX12_madeBy_16 : decode cX12_madeBy 16 = .ok (.iconst 1, 1) := by decide +kernel
theorem dX12_madeBy_17 : decode cX12_madeBy 17 = .ok (.invokevirtual 193, 3) := by decide +kernel
theorem dX12_madeBy_20 : decode cX12_madeBy 20 = .ok (.iconst 1, 1) := by decide +kernel
theorem dX12_madeBy_21 : decode cX12_madeBy 21 = .ok (.if_icmp .ne 25, 3) := by decide +kernel
theorem dX12_madeBy_46 : decode cX12_madeBy 46 = .ok (.iinc 3 1, 3) := by decide +kernel
theorem dX12_madeBy_49 : decode cX12_madeBy 49 = .ok (.goto (-45), 3) := by decide +kernel
theorem dX12_madeBy_24 : decode cX12_madeBy 24 = .ok (.aload_n 0, 1) := by decide +kernel
theorem dX12_madeBy_25 : decode cX12_madeBy 25 = .ok (.iload_n 3, 1) := by decide +kernel
theorem dX12_madeBy_26 : decode cX12_madeBy 26 = .ok (.iconst 2, 1) := by decide +kernel
theorem dX12_madeBy_27 : decode cX12_madeBy 27 = .ok (.iload_n 1, 1) := by decide +kernel
theorem dX12_madeBy_28 : decode cX12_madeBy 28 = .ok (.iadd, 1) := by decide +kernel
theorem dX12_madeBy_29 : decode cX12_madeBy 29 = .ok (.invokevirtual 193, 3) := by decide +kernel
theorem dX12_madeBy_32 : decode cX12_madeBy 32 = .ok (.ifCond .le 14, 3) := by decide +kernel
theorem dX12_madeBy_35 : decode cX12_madeBy 35 = .ok (.aload_n 0, 1) := by decide +kernel
theorem dX12_madeBy_36 : decode cX12_madeBy 36 = .ok (.iload_n 3, 1) := by decide +kernel
theorem dX12_madeBy_37 : decode cX12_madeBy 37 = .ok (.iconst 2, 1) := by decide +kernel
theorem dX12_madeBy_38 : decode cX12_madeBy 38 = .ok (.iload_n 1, 1) := by decide +kernel
theorem dX12_madeBy_39 : decode cX12_madeBy 39 = .ok (.iadd, 1) := by decide +kernel
theorem dX12_madeBy_40 : decode cX12_madeBy 40 = .ok (.invokevirtual 193, 3) := by decide +kernel
theorem dX12_madeBy_43 : decode cX12_madeBy 43 = .ok (.iconst 1, 1) := by decide +kernel
theorem dX12_madeBy_44 : decode cX12_madeBy 44 = .ok (.isub, 1) := by decide +kernel
theorem dX12_madeBy_45 : decode cX12_madeBy 45 = .ok (.istore_n 2, 1) := by decide +kernel
set_option maxRecDepth 100000 in
set_option maxHeartbeats 4000000 in
theorem rX12_madeBy (l : Launch) (D : va_G) (Y : Nat → ClassId) (h0 : Nat) (h1 : Nat) (h2 : Nat) (h3 : Nat) (h4 : Nat) (h5 : Nat) (h6 : Nat) (p2 : Int32) (k5 : Nat) (k6 : Nat) (p7 : Int32) (p8 : Int32) (p9 : Int32) (k10 : Nat) (p11 : Int32) (q12 : Int64) (k15 : Nat) (k16 : Nat) (f0 : Nat → Int32) (f1 : Nat → Int32) (f3 : Nat → Int32) (f4 : Nat → Int32) (f13 : Nat → Int32) (f14 : Nat → Int32) (HI : INV f0) (HL : k5 ≤ 1600) (HP : PLV f13) (s0 : Nat) (hn0 : s0 < 26) (sz : Nat) : Met l yX12_madeBy (WSm yX12_madeBy cX12_madeBy 4 (some .int)) (mkR 1 0 0 22) (PreC D Y [.ref h0, .int (nI s0)] [(h0, oC 13 [.ref h1, .ref h2, .int p2, .ref h3, .ref h4, .int (nI k5), .int (nI k6), .int p7, .int p8, .int p9, .int (nI k10), .int p11, .long q12, .ref h5, .ref h6, .int (nI k15), .int (nI k16)]), (h1, aI Y 3640 f0), (h2, aZ Y 2 f1), (h3, aZ Y 80 f3), (h4, aB Y 1600 f4), (h5, aI Y 200 f13), (h6, aI Y 800 f14)] sz) (QI D (fun (r : Int32) (u : WU) => True) (fun (u : WU) => [(h0, oC 13 [.ref h1, .ref h2, .int p2, .ref h3, .ref h4, .int (nI k5), .int (nI k6), .int p7, .int p8, .int p9, .int (nI k10), .int p11, .long q12, .ref h5, .ref h6, .int (nI k15), .int (nI k16)]), (h1, aI Y 3640 f0), (h2, aZ Y 2 f1), (h3, aZ Y 80 f3), (h4, aB Y 1600 f4), (h5, aI Y 200 f13), (h6, aI Y 800 f14)]) (va_A [(h0, oC 13 [.ref h1, .ref h2, .int p2, .ref h3, .ref h4, .int (nI k5), .int (nI k6), .int p7, .int p8, .int p9, .int (nI k10), .int p11, .long q12, .ref h5, .ref h6, .int (nI k15), .int (nI k16)]), (h1, aI Y 3640 f0), (h2, aZ Y 2 f1), (h3, aZ Y 80 f3), (h4, aB Y 1600 f4), (h5, aI Y 200 f13), (h6, aI Y 800 f14)] sz)) 0 0 (va_A [(h0, oC 13 [.ref h1, .ref h2, .int p2, .ref h3, .ref h4, .int (nI k5), .int (nI k6), .int p7, .int p8, .int p9, .int (nI k10), .int p11, .long q12, .ref h5, .ref h6, .int (nI k15), .int (nI k16)]), (h1, aI Y 3640 f0), (h2, aZ Y 2 f1), (h3, aZ Y 80 f3), (h4, aB Y 1600 f4), (h5, aI Y 200 f13), (h6, aI Y 800 f14)] sz) :=
  met_of (by decide +kernel) (Nat.le_of_ble_eq_true rfl) (fun p e s m args below meth c B hin hsz => by
    have B : VB p s m args meth c D Y (va_A [(h0, oC 13 [.ref h1, .ref h2, .int p2, .ref h3, .ref h4, .int (nI k5), .int (nI k6), .int p7, .int p8, .int p9, .int (nI k10), .int p11, .long q12, .ref h5, .ref h6, .int (nI k15), .int (nI k16)]), (h1, aI Y 3640 f0), (h2, aZ Y 2 f1), (h3, aZ Y 80 f3), (h4, aB Y 1600 f4), (h5, aI Y 200 f13), (h6, aI Y 800 f14)] sz) cX12_madeBy 4 RX12 (some .int) := B
    refine V_iload_n 0 B dX12_madeBy_0 1 rfl ?_
    refine V_istore_n 1 B (lv2 := [(2, .int (nI s0)), (0, .ref h0), (1, .int (nI s0))]) dX12_madeBy_1 (by decide) rfl ?_
    refine V_iconst 2 B (v := 0) dX12_madeBy_2 (by decide +kernel) ?_
    refine V_istore_n 3 B (lv2 := [(3, .int 0), (2, .int (nI s0)), (0, .ref h0), (1, .int (nI s0))]) dX12_madeBy_3 (by decide) rfl ?_
    refine V_wloop (α := WU) (fun a => 100000 - (a.1 0)) (fun a => (a.1 0) ≤ 4000) (fun a => [(3, .int (nI (a.1 0))), (2, .int (a.2.1 0)), (0, .ref h0), (1, .int (nI s0))]) (fun a => [(h0, oC 13 [.ref h1, .ref h2, .int p2, .ref h3, .ref h4, .int (nI k5), .int (nI k6), .int p7, .int p8, .int p9, .int (nI k10), .int p11, .long q12, .ref h5, .ref h6, .int (nI k15), .int (nI k16)]), (h1, aI Y 3640 f0), (h2, aZ Y 2 f1), (h3, aZ Y 80 f3), (h4, aB Y 1600 f4), (h5, aI Y 200 f13), (h6, aI Y 800 f14)]) (mkW [0] [(nI s0)] [] [] [] []) (show 0 ≤ 4000 by omega) rfl rfl (fun a0 hI2 IH1 => ?_)
    refine V_lv [(3, .int (nI (a0.1 0))), (2, .int (a0.2.1 0)), (0, .ref h0), (1, .int (nI s0))] [0, 1, 2, 3] rfl ?_
    refine V_ws [(h0, oC 13 [.ref h1, .ref h2, .int p2, .ref h3, .ref h4, .int (nI k5), .int (nI k6), .int p7, .int p8, .int p9, .int (nI k10), .int p11, .long q12, .ref h5, .ref h6, .int (nI k15), .int (nI k16)]), (h1, aI Y 3640 f0), (h2, aZ Y 2 f1), (h3, aZ Y 80 f3), (h4, aB Y 1600 f4), (h5, aI Y 200 f13), (h6, aI Y 800 f14)] rfl ?_
    have x3 := hI2
    refine V_iload_n 4 B dX12_madeBy_4 0 rfl ?_
    refine V_aload_n 5 B dX12_madeBy_5 2 rfl ?_
    refine V_get 6 B gf_RX12_9 0 rfl rfl dX12_madeBy_6 ?_
    refine V_iconst 9 B (v := 4) dX12_madeBy_9 (by decide +kernel) ?_
    have x4 : (gN f0 4) ≤ 4 := gN_le HI (by omega) (show bd 4 = (0, ((4 : Nat) : Int)) by decide +kernel)
    refine V_iald 10 B (v := (nI (gN f0 4))) 1 rfl (vpin _ _ (by decide +kernel)) dX12_madeBy_10 (by show f0 4 = _; exact gN_eq HI (by omega) (show bd 4 = (0, ((4 : Nat) : Int)) by decide +kernel)) ?_
    refine V_icmp_ge 11 B 52 dX12_madeBy_11 (by decide) (fun kk5 => ?_) (fun kk5 => ?_)
    ·
      have x6 := n_le (a := (gN f0 4)) (b := (a0.1 0)) kk5 (by omega) (by omega)
      refine V_bipush 52 B (v := 32) dX12_madeBy_52 (by decide +kernel) ?_
      refine V_aload_n 54 B dX12_madeBy_54 2 rfl ?_
      refine V_get 55 B gf_RX12_9 0 rfl rfl dX12_madeBy_55 ?_
      refine V_bipush 58 B (v := 14) dX12_madeBy_58 (by decide +kernel) ?_
      refine V_iald 60 B (v := f0 (14)) 1 rfl (vpin _ _ (by decide +kernel)) dX12_madeBy_60 (by rfl) ?_
      refine V_nmi (fun j7 e8 => ?_)
      refine V_imul 61 B dX12_madeBy_61 rfl ?_
      refine V_nmi (fun j9 e10 => ?_)
      refine V_iload_n 62 B dX12_madeBy_62 1 rfl ?_
      refine V_iadd 63 B dX12_madeBy_63 rfl ?_
      refine V_nmi (fun j11 e12 => ?_)
      exact V_iret 64 B dX12_madeBy_64 (mkW [] [] [] [] [] []) trivial rfl
    ·
      have x13 := n_nle (a := (gN f0 4)) (b := (a0.1 0)) kk5 (by omega) (by omega)
      refine V_aload_n 14 B dX12_madeBy_14 2 rfl ?_
      refine V_iload_n 15 B dX12_madeBy_15 0 rfl ?_
      refine V_iconst 16 B (v := 1) dX12_madeBy_16 (by decide +kernel) ?_
      refine V_cvi 17 B (st := []) (As := [.int (nI (a0.1 0)), .int 1]) (fun sz => rX12_ofLayer l D Y h0 h1 h2 h3 h4 h5 h6 p2 k5 k6 p7 p8 p9 k10 p11 q12 k15 k16 f0 f1 f3 f4 f13 f14 HI (by omega) HP (a0.1 0) 1 (by omega) (by omega) sz) glV_RX12_193 ⟨rfl, rfl⟩ ⟨(Nat.le_of_ble_eq_true rfl), (Nat.le_of_ble_eq_true rfl)⟩ ⟨(Nat.le_of_ble_eq_true rfl), (Nat.le_of_ble_eq_true rfl)⟩ [0, 0, 0, 0, 0, 0, 0] rfl 13 0 rfl rfl rfl rfl (Nat.le_of_ble_eq_true rfl) rfl (fun _ _ _ => rfl) dX12_madeBy_17 (fun j14 u15 w16 => ?_)
      refine V_ws [(h0, oC 13 [.ref h1, .ref h2, .int p2, .ref h3, .ref h4, .int (nI k5), .int (nI k6), .int p7, .int p8, .int p9, .int (nI k10), .int p11, .long q12, .ref h5, .ref h6, .int (nI k15), .int (nI k16)]), (h1, aI Y 3640 f0), (h2, aZ Y 2 f1), (h3, aZ Y 80 f3), (h4, aB Y 1600 f4), (h5, aI Y 200 f13), (h6, aI Y 800 f14)] rfl ?_
      refine V_iconst 20 B (v := 1) dX12_madeBy_20 (by decide +kernel) ?_
      refine V_icmp_ne 21 B 46 dX12_madeBy_21 (by decide) (fun kk17 => ?_) (fun kk17 => ?_)
      ·
        have x18 := x_ne kk17
        rw [show (1 : Int32).toInt = 1 by decide +kernel] at x18
        refine V_iinc 46 B (v := (nI (1 + (a0.1 0)))) (lv2 := [(3, .int (nI (1 + (a0.1 0)))), (2, .int (a0.2.1 0)), (0, .ref h0), (1, .int (nI s0))]) dX12_madeBy_46 0 rfl (nI_addE (a := (a0.1 0)) (b := 1) (by omega)) (by decide) rfl ?_
        refine V_goto 49 B 4 dX12_madeBy_49 (by decide) ?_
        refine V_lv [(3, .int (nI (1 + (a0.1 0)))), (2, .int (a0.2.1 0)), (0, .ref h0), (1, .int (nI s0))] [0, 1, 2, 3] rfl ?_
        exact IH1 (mkW [1 + (a0.1 0)] [(a0.2.1 0)] [] [] [] []) (show 1 + (a0.1 0) ≤ 4000 by omega) (by show 100000 - (1 + (a0.1 0)) < 100000 - (a0.1 0); omega)
      ·
        obtain rfl : j14 = 1 := kk17
        have e20 : (1 : Int32).toInt = 1 := by decide +kernel
        refine V_aload_n 24 B dX12_madeBy_24 2 rfl ?_
        refine V_iload_n 25 B dX12_madeBy_25 0 rfl ?_
        refine V_iconst 26 B (v := 2) dX12_madeBy_26 (by decide +kernel) ?_
        refine V_iload_n 27 B dX12_madeBy_27 3 rfl ?_
        refine V_iadd 28 B (v := (nI (2 + s0))) dX12_madeBy_28 (nI_addE (a := 2) (b := s0) (by omega)) ?_
        refine V_cvi 29 B (st := []) (As := [.int (nI (a0.1 0)), .int (nI (2 + s0))]) (fun sz => rX12_ofLayer l D Y h0 h1 h2 h3 h4 h5 h6 p2 k5 k6 p7 p8 p9 k10 p11 q12 k15 k16 f0 f1 f3 f4 f13 f14 HI (by omega) HP (a0.1 0) (2 + s0) (by omega) (by omega) sz) glV_RX12_193 ⟨rfl, rfl⟩ ⟨(Nat.le_of_ble_eq_true rfl), (Nat.le_of_ble_eq_true rfl)⟩ ⟨(Nat.le_of_ble_eq_true rfl), (Nat.le_of_ble_eq_true rfl)⟩ [0, 0, 0, 0, 0, 0, 0] rfl 13 0 rfl rfl rfl rfl (Nat.le_of_ble_eq_true rfl) rfl (fun _ _ _ => rfl) dX12_madeBy_29 (fun j21 u22 w23 => ?_)
        refine V_ws [(h0, oC 13 [.ref h1, .ref h2, .int p2, .ref h3, .ref h4, .int (nI k5), .int (nI k6), .int p7, .int p8, .int p9, .int (nI k10), .int p11, .long q12, .ref h5, .ref h6, .int (nI k15), .int (nI k16)]), (h1, aI Y 3640 f0), (h2, aZ Y 2 f1), (h3, aZ Y 80 f3), (h4, aB Y 1600 f4), (h5, aI Y 200 f13), (h6, aI Y 800 f14)] rfl ?_
        refine V_if_le 32 B 46 dX12_madeBy_32 (by decide) (fun kk24 => ?_) (fun kk24 => ?_)
        ·
          have x25 := x_le kk24
          rw [show (0 : Int32).toInt = 0 by decide +kernel] at x25
          refine V_iinc 46 B (v := (nI (1 + (a0.1 0)))) (lv2 := [(3, .int (nI (1 + (a0.1 0)))), (2, .int (a0.2.1 0)), (0, .ref h0), (1, .int (nI s0))]) dX12_madeBy_46 0 rfl (nI_addE (a := (a0.1 0)) (b := 1) (by omega)) (by decide) rfl ?_
          refine V_goto 49 B 4 dX12_madeBy_49 (by decide) ?_
          refine V_lv [(3, .int (nI (1 + (a0.1 0)))), (2, .int (a0.2.1 0)), (0, .ref h0), (1, .int (nI s0))] [0, 1, 2, 3] rfl ?_
          exact IH1 (mkW [1 + (a0.1 0)] [(a0.2.1 0)] [] [] [] []) (show 1 + (a0.1 0) ≤ 4000 by omega) (by show 100000 - (1 + (a0.1 0)) < 100000 - (a0.1 0); omega)
        ·
          have x26 := x_nle kk24
          rw [show (0 : Int32).toInt = 0 by decide +kernel] at x26
          refine V_aload_n 35 B dX12_madeBy_35 2 rfl ?_
          refine V_iload_n 36 B dX12_madeBy_36 0 rfl ?_
          refine V_iconst 37 B (v := 2) dX12_madeBy_37 (by decide +kernel) ?_
          refine V_iload_n 38 B dX12_madeBy_38 3 rfl ?_
          refine V_iadd 39 B (v := (nI (2 + s0))) dX12_madeBy_39 (nI_addE (a := 2) (b := s0) (by omega)) ?_
          refine V_cvi 40 B (st := []) (As := [.int (nI (a0.1 0)), .int (nI (2 + s0))]) (fun sz => rX12_ofLayer l D Y h0 h1 h2 h3 h4 h5 h6 p2 k5 k6 p7 p8 p9 k10 p11 q12 k15 k16 f0 f1 f3 f4 f13 f14 HI (by omega) HP (a0.1 0) (2 + s0) (by omega) (by omega) sz) glV_RX12_193 ⟨rfl, rfl⟩ ⟨(Nat.le_of_ble_eq_true rfl), (Nat.le_of_ble_eq_true rfl)⟩ ⟨(Nat.le_of_ble_eq_true rfl), (Nat.le_of_ble_eq_true rfl)⟩ [0, 0, 0, 0, 0, 0, 0] rfl 13 0 rfl rfl rfl rfl (Nat.le_of_ble_eq_true rfl) rfl (fun _ _ _ => rfl) dX12_madeBy_40 (fun j27 u28 w29 => ?_)
          refine V_ws [(h0, oC 13 [.ref h1, .ref h2, .int p2, .ref h3, .ref h4, .int (nI k5), .int (nI k6), .int p7, .int p8, .int p9, .int (nI k10), .int p11, .long q12, .ref h5, .ref h6, .int (nI k15), .int (nI k16)]), (h1, aI Y 3640 f0), (h2, aZ Y 2 f1), (h3, aZ Y 80 f3), (h4, aB Y 1600 f4), (h5, aI Y 200 f13), (h6, aI Y 800 f14)] rfl ?_
          refine V_iconst 43 B (v := 1) dX12_madeBy_43 (by decide +kernel) ?_
          refine V_isub 44 B dX12_madeBy_44 rfl ?_
          refine V_nmi (fun j30 e31 => ?_)
          refine V_istore_n 45 B (lv2 := [(2, .int j30), (3, .int (nI (a0.1 0))), (0, .ref h0), (1, .int (nI s0))]) dX12_madeBy_45 (by decide) rfl ?_
          refine V_iinc 46 B (v := (nI (1 + (a0.1 0)))) (lv2 := [(3, .int (nI (1 + (a0.1 0)))), (2, .int j30), (0, .ref h0), (1, .int (nI s0))]) dX12_madeBy_46 1 rfl (nI_addE (a := (a0.1 0)) (b := 1) (by omega)) (by decide) rfl ?_
          refine V_goto 49 B 4 dX12_madeBy_49 (by decide) ?_
          refine V_lv [(3, .int (nI (1 + (a0.1 0)))), (2, .int j30), (0, .ref h0), (1, .int (nI s0))] [0, 1, 2, 3] rfl ?_
          exact IH1 (mkW [1 + (a0.1 0)] [j30] [] [] [] []) (show 1 + (a0.1 0) ≤ 4000 by omega) (by show 100000 - (1 + (a0.1 0)) < 100000 - (a0.1 0); omega))
theorem dX12_strokeOf_0 : decode cX12_strokeOf 0 = .ok (.aload_n 0, 1) := by decide +kernel
theorem dX12_strokeOf_1 : decode cX12_strokeOf 1 = .ok (.iconst 0, 1) := by decide +kernel
theorem dX12_strokeOf_2 : decode cX12_strokeOf 2 = .ok (.putfield 38, 3) := by decide +kernel
theorem dX12_strokeOf_5 : decode cX12_strokeOf 5 = .ok (.aload_n 0, 1) := by decide +kernel
theorem dX12_strokeOf_6 : decode cX12_strokeOf 6 = .ok (.iload_n 1, 1) := by decide +kernel
theorem dX12_strokeOf_7 : decode cX12_strokeOf 7 = .ok (.invokestatic 204, 3) := by decide +kernel
theorem dX12_strokeOf_10 : decode cX12_strokeOf 10 = .ok (.ifCond .ne 7, 3) := by decide +kernel
theorem dX12_strokeOf_13 : decode cX12_strokeOf 13 = .ok (.iconst 1, 1) := by decide +kernel
theorem dX12_strokeOf_14 : decode cX12_strokeOf 14 = .ok (.goto 4, 3) := by decide +kernel
theorem dX12_strokeOf_18 : decode cX12_strokeOf 18 = .ok (.iconst 1, 1) := by decide +kernel
theorem dX12_strokeOf_19 : decode cX12_strokeOf 19 = .ok (.invokevirtual 69, 3) := by decide +kernel
theorem dX12_strokeOf_22 : decode cX12_strokeOf 22 = .ok (.ifCond .eq 7, 3) := by decide +kernel
theorem dX12_strokeOf_25 : decode cX12_strokeOf 25 = .ok (.iconst 0, 1) := by decide +kernel
theorem dX12_strokeOf_26 : decode cX12_strokeOf 26 = .ok (.goto 21, 3) := by decide +kernel
theorem dX12_strokeOf_47 : decode cX12_strokeOf 47 = .ok (.ireturn, 1) := by decide +kernel
theorem dX12_strokeOf_17 : decode cX12_strokeOf 17 = .ok (.iconst 0, 1) := by decide +kernel
theorem dX12_strokeOf_29 : decode cX12_strokeOf 29 = .ok (.aload_n 0, 1) := by decide +kernel
theorem dX12_strokeOf_30 : decode cX12_strokeOf 30 = .ok (.iload_n 1, 1) := by decide +kernel
theorem dX12_strokeOf_31 : decode cX12_strokeOf 31 = .ok (.invokevirtual 209, 3) := by decide +kernel
theorem glV_RX12_209 : GLV RX12 209 yX12_layerOf RX12 cX12_layerOf 3 (some .int) 1 := ⟨⟨(mT9 81 rfl rfl), (mT9 83 rfl rfl), (mTs 64 rfl rfl), (mT1 13 rfl rfl), (mT9 84 rfl rfl)⟩, by decide +kernel⟩
theorem dX12_strokeOf_34 : decode cX12_strokeOf 34 = .ok (.iconst (-1), 1) := by decide +kernel
theorem dX12_strokeOf_35 : decode cX12_strokeOf 35 = .ok (.if_icmp .ne 11, 3) := by decide +kernel
theorem dX12_strokeOf_38 : decode cX12_strokeOf 38 = .ok (.aload_n 0, 1) := by decide +kernel
theorem dX12_strokeOf_39 : decode cX12_strokeOf 39 = .ok (.iload_n 1, 1) := by decide +kernel
theorem dX12_strokeOf_40 : decode cX12_strokeOf 40 = .ok (.invokevirtual 212, 3) := by decide +kernel
theorem glV_RX12_212 : GLV RX12 212 yX12_madeBy RX12 cX12_madeBy 4 (some .int) 1 := ⟨⟨(mT9 85 rfl rfl), (mT9 87 rfl rfl), (mTs 65 rfl rfl), (mT1 13 rfl rfl), (mT9 88 rfl rfl)⟩, by decide +kernel⟩
theorem dX12_strokeOf_43 : decode cX12_strokeOf 43 = .ok (.goto 4, 3) := by decide +kernel
theorem dX12_strokeOf_46 : decode cX12_strokeOf 46 = .ok (.iconst (-1), 1) := by decide +kernel
set_option maxRecDepth 100000 in
set_option maxHeartbeats 4000000 in
theorem rX12_strokeOf (l : Launch) (D : va_G) (Y : Nat → ClassId) (h0 : Nat) (h1 : Nat) (h2 : Nat) (h3 : Nat) (h4 : Nat) (h5 : Nat) (h6 : Nat) (p2 : Int32) (k5 : Nat) (k6 : Nat) (p7 : Int32) (p8 : Int32) (p9 : Int32) (k10 : Nat) (p11 : Int32) (q12 : Int64) (k15 : Nat) (k16 : Nat) (f0 : Nat → Int32) (f1 : Nat → Int32) (f3 : Nat → Int32) (f4 : Nat → Int32) (f13 : Nat → Int32) (f14 : Nat → Int32) (HI : INV f0) (HL : k5 ≤ 1600) (HP : PLV f13) (s0 : Int32)  (sz : Nat) : Met l yX12_strokeOf (WSm yX12_strokeOf cX12_strokeOf 2 (some .int)) (mkR 2 0 0 45) (PreC D Y [.ref h0, .int s0] [(h0, oC 13 [.ref h1, .ref h2, .int p2, .ref h3, .ref h4, .int (nI k5), .int (nI k6), .int p7, .int p8, .int p9, .int (nI k10), .int p11, .long q12, .ref h5, .ref h6, .int (nI k15), .int (nI k16)]), (h1, aI Y 3640 f0), (h2, aZ Y 2 f1), (h3, aZ Y 80 f3), (h4, aB Y 1600 f4), (h5, aI Y 200 f13), (h6, aI Y 800 f14)] sz) (QI D (fun (r : Int32) (u : WU) => True) (fun (u : WU) => [(h0, oC 13 [.ref h1, .ref h2, .int (u.2.1 0), .ref h3, .ref h4, .int (nI k5), .int (nI k6), .int p7, .int p8, .int p9, .int (nI k10), .int p11, .long q12, .ref h5, .ref h6, .int (nI k15), .int (nI k16)]), (h1, aI Y 3640 f0), (h2, aZ Y 2 f1), (h3, aZ Y 80 f3), (h4, aB Y 1600 f4), (h5, aI Y 200 f13), (h6, aI Y 800 f14)]) (va_A [(h0, oC 13 [.ref h1, .ref h2, .int p2, .ref h3, .ref h4, .int (nI k5), .int (nI k6), .int p7, .int p8, .int p9, .int (nI k10), .int p11, .long q12, .ref h5, .ref h6, .int (nI k15), .int (nI k16)]), (h1, aI Y 3640 f0), (h2, aZ Y 2 f1), (h3, aZ Y 80 f3), (h4, aB Y 1600 f4), (h5, aI Y 200 f13), (h6, aI Y 800 f14)] sz)) 0 0 (va_A [(h0, oC 13 [.ref h1, .ref h2, .int p2, .ref h3, .ref h4, .int (nI k5), .int (nI k6), .int p7, .int p8, .int p9, .int (nI k10), .int p11, .long q12, .ref h5, .ref h6, .int (nI k15), .int (nI k16)]), (h1, aI Y 3640 f0), (h2, aZ Y 2 f1), (h3, aZ Y 80 f3), (h4, aB Y 1600 f4), (h5, aI Y 200 f13), (h6, aI Y 800 f14)] sz) :=
  met_of (by decide +kernel) (Nat.le_of_ble_eq_true rfl) (fun p e s m args below meth c B hin hsz => by
    have B : VB p s m args meth c D Y (va_A [(h0, oC 13 [.ref h1, .ref h2, .int p2, .ref h3, .ref h4, .int (nI k5), .int (nI k6), .int p7, .int p8, .int p9, .int (nI k10), .int p11, .long q12, .ref h5, .ref h6, .int (nI k15), .int (nI k16)]), (h1, aI Y 3640 f0), (h2, aZ Y 2 f1), (h3, aZ Y 80 f3), (h4, aB Y 1600 f4), (h5, aI Y 200 f13), (h6, aI Y 800 f14)] sz) cX12_strokeOf 2 RX12 (some .int) := B
    refine V_aload_n 0 B dX12_strokeOf_0 0 rfl ?_
    refine V_iconst 1 B (v := 0) dX12_strokeOf_1 (by decide +kernel) ?_
    refine V_put 2 B gp_RX12_38 0 rfl (Nat.le_of_ble_eq_true rfl) rfl rfl dX12_strokeOf_2 [(h0, oC 13 [.ref h1, .ref h2, .int 0, .ref h3, .ref h4, .int (nI k5), .int (nI k6), .int p7, .int p8, .int p9, .int (nI k10), .int p11, .long q12, .ref h5, .ref h6, .int (nI k15), .int (nI k16)]), (h1, aI Y 3640 f0), (h2, aZ Y 2 f1), (h3, aZ Y 80 f3), (h4, aB Y 1600 f4), (h5, aI Y 200 f13), (h6, aI Y 800 f14)] rfl ?_
    refine V_aload_n 5 B dX12_strokeOf_5 0 rfl ?_
    refine V_iload_n 6 B dX12_strokeOf_6 1 rfl ?_
    refine V_csi 7 B (st := [.ref h0]) (As := [.int s0]) (fun sz => rX12_isKey l D Y s0 sz) glS_RX12_204 ⟨rfl, rfl⟩ ⟨(Nat.le_of_ble_eq_true rfl), (Nat.le_of_ble_eq_true rfl)⟩ ⟨(Nat.le_of_ble_eq_true rfl), (Nat.le_of_ble_eq_true rfl)⟩ [] rfl rfl (Nat.le_of_ble_eq_true rfl) rfl (fun _ _ _ => rfl) dX12_strokeOf_7 (fun j0 u1 w2 => ?_)
    refine V_ws [(h0, oC 13 [.ref h1, .ref h2, .int 0, .ref h3, .ref h4, .int (nI k5), .int (nI k6), .int p7, .int p8, .int p9, .int (nI k10), .int p11, .long q12, .ref h5, .ref h6, .int (nI k15), .int (nI k16)]), (h1, aI Y 3640 f0), (h2, aZ Y 2 f1), (h3, aZ Y 80 f3), (h4, aB Y 1600 f4), (h5, aI Y 200 f13), (h6, aI Y 800 f14)] rfl ?_
    have x3 := w2
    rcases x3 with rfl | ⟨rfl, n4, rfl, x5⟩
    ·
      refine V_if_ne_f 10 B 17 dX12_strokeOf_10 (by decide) (by decide +kernel) ?_
      refine V_iconst 13 B (v := 1) dX12_strokeOf_13 (by decide +kernel) ?_
      refine V_goto 14 B 18 dX12_strokeOf_14 (by decide) ?_
      refine V_iconst 18 B (v := 1) dX12_strokeOf_18 (by decide +kernel) ?_
      refine V_cvi 19 B (st := []) (As := [.int 1, .int 1]) (fun sz => rX12_throwsIf_1 l D Y h0 h1 h2 h3 h4 h5 h6 0 k5 k6 p7 p8 p9 k10 p11 q12 k15 k16 f0 f1 f3 f4 f13 f14 HI (by omega) HP 1 sz) glV_RX12_69 ⟨rfl, rfl⟩ ⟨(Nat.le_of_ble_eq_true rfl), (Nat.le_of_ble_eq_true rfl)⟩ ⟨(Nat.le_of_ble_eq_true rfl), (Nat.le_of_ble_eq_true rfl)⟩ [0, 0, 0, 0, 0, 0, 0] rfl 13 0 rfl rfl rfl rfl (Nat.le_of_ble_eq_true rfl) rfl (fun _ _ _ => rfl) dX12_strokeOf_19 (fun j7 u8 w9 => ?_)
      refine V_ws [(h0, oC 13 [.ref h1, .ref h2, .int (u8.2.1 0), .ref h3, .ref h4, .int (nI k5), .int (nI k6), .int p7, .int p8, .int p9, .int (nI k10), .int p11, .long q12, .ref h5, .ref h6, .int (nI k15), .int (nI k16)]), (h1, aI Y 3640 f0), (h2, aZ Y 2 f1), (h3, aZ Y 80 f3), (h4, aB Y 1600 f4), (h5, aI Y 200 f13), (h6, aI Y 800 f14)] rfl ?_
      have x10 := w9
      obtain rfl := x10
      refine V_if_eq_f 22 B 29 dX12_strokeOf_22 (by decide) (by decide +kernel) ?_
      refine V_iconst 25 B (v := 0) dX12_strokeOf_25 (by decide +kernel) ?_
      refine V_goto 26 B 47 dX12_strokeOf_26 (by decide) ?_
      exact V_iret 47 B dX12_strokeOf_47 (mkW [] [(u8.2.1 0)] [] [] [] []) trivial rfl
    ·
      have e11 := nI_toInt (show n4 < 2 ^ 31 by omega)
      refine V_if_ne_t 10 B 17 dX12_strokeOf_10 (by decide) (by decide +kernel) ?_
      refine V_iconst 17 B (v := 0) dX12_strokeOf_17 (by decide +kernel) ?_
      refine V_iconst 18 B (v := 1) dX12_strokeOf_18 (by decide +kernel) ?_
      refine V_cvi 19 B (st := []) (As := [.int 0, .int 1]) (fun sz => rX12_throwsIf_0 l D Y h0 h1 h2 h3 h4 h5 h6 0 k5 k6 p7 p8 p9 k10 p11 q12 k15 k16 f0 f1 f3 f4 f13 f14 HI (by omega) HP 1 sz) glV_RX12_69 ⟨rfl, rfl⟩ ⟨(Nat.le_of_ble_eq_true rfl), (Nat.le_of_ble_eq_true rfl)⟩ ⟨(Nat.le_of_ble_eq_true rfl), (Nat.le_of_ble_eq_true rfl)⟩ [0, 0, 0, 0, 0, 0, 0] rfl 13 0 rfl rfl rfl rfl (Nat.le_of_ble_eq_true rfl) rfl (fun _ _ _ => rfl) dX12_strokeOf_19 (fun j12 u13 w14 => ?_)
      refine V_ws [(h0, oC 13 [.ref h1, .ref h2, .int (u13.2.1 0), .ref h3, .ref h4, .int (nI k5), .int (nI k6), .int p7, .int p8, .int p9, .int (nI k10), .int p11, .long q12, .ref h5, .ref h6, .int (nI k15), .int (nI k16)]), (h1, aI Y 3640 f0), (h2, aZ Y 2 f1), (h3, aZ Y 80 f3), (h4, aB Y 1600 f4), (h5, aI Y 200 f13), (h6, aI Y 800 f14)] rfl ?_
      have x15 := w14
      obtain rfl := x15
      refine V_if_eq_t 22 B 29 dX12_strokeOf_22 (by decide) (by decide +kernel) ?_
      refine V_aload_n 29 B dX12_strokeOf_29 0 rfl ?_
      refine V_iload_n 30 B dX12_strokeOf_30 1 rfl ?_
      refine V_cvi 31 B (st := []) (As := [.int (nI n4)]) (fun sz => rX12_layerOf l D Y h0 h1 h2 h3 h4 h5 h6 (u13.2.1 0) k5 k6 p7 p8 p9 k10 p11 q12 k15 k16 f0 f1 f3 f4 f13 f14 HI (by omega) HP (nI n4) sz) glV_RX12_209 ⟨rfl, rfl⟩ ⟨(Nat.le_of_ble_eq_true rfl), (Nat.le_of_ble_eq_true rfl)⟩ ⟨(Nat.le_of_ble_eq_true rfl), (Nat.le_of_ble_eq_true rfl)⟩ [0, 0, 0, 0, 0, 0, 0] rfl 13 0 rfl rfl rfl rfl (Nat.le_of_ble_eq_true rfl) rfl (fun _ _ _ => rfl) dX12_strokeOf_31 (fun j16 u17 w18 => ?_)
      refine V_ws [(h0, oC 13 [.ref h1, .ref h2, .int (u13.2.1 0), .ref h3, .ref h4, .int (nI k5), .int (nI k6), .int p7, .int p8, .int p9, .int (nI k10), .int p11, .long q12, .ref h5, .ref h6, .int (nI k15), .int (nI k16)]), (h1, aI Y 3640 f0), (h2, aZ Y 2 f1), (h3, aZ Y 80 f3), (h4, aB Y 1600 f4), (h5, aI Y 200 f13), (h6, aI Y 800 f14)] rfl ?_
      have x19 := w18
      have x22 : (gN f0 4) ≤ 4 := gN_le HI (by omega) (show bd 4 = (0, ((4 : Nat) : Int)) by decide +kernel)
      rcases x19 with rfl | ⟨n20, rfl, x21⟩
      ·
        refine V_iconst 34 B (v := (-1)) dX12_strokeOf_34 (by decide +kernel) ?_
        refine V_icmp_ne_f 35 B 46 dX12_strokeOf_35 (by decide) (by decide +kernel) ?_
        refine V_aload_n 38 B dX12_strokeOf_38 0 rfl ?_
        refine V_iload_n 39 B dX12_strokeOf_39 1 rfl ?_
        refine V_cvi 40 B (st := []) (As := [.int (nI n4)]) (fun sz => rX12_madeBy l D Y h0 h1 h2 h3 h4 h5 h6 (u13.2.1 0) k5 k6 p7 p8 p9 k10 p11 q12 k15 k16 f0 f1 f3 f4 f13 f14 HI (by omega) HP n4 (by omega) sz) glV_RX12_212 ⟨rfl, rfl⟩ ⟨(Nat.le_of_ble_eq_true rfl), (Nat.le_of_ble_eq_true rfl)⟩ ⟨(Nat.le_of_ble_eq_true rfl), (Nat.le_of_ble_eq_true rfl)⟩ [0, 0, 0, 0, 0, 0, 0] rfl 13 0 rfl rfl rfl rfl (Nat.le_of_ble_eq_true rfl) rfl (fun _ _ _ => rfl) dX12_strokeOf_40 (fun j23 u24 w25 => ?_)
        refine V_ws [(h0, oC 13 [.ref h1, .ref h2, .int (u13.2.1 0), .ref h3, .ref h4, .int (nI k5), .int (nI k6), .int p7, .int p8, .int p9, .int (nI k10), .int p11, .long q12, .ref h5, .ref h6, .int (nI k15), .int (nI k16)]), (h1, aI Y 3640 f0), (h2, aZ Y 2 f1), (h3, aZ Y 80 f3), (h4, aB Y 1600 f4), (h5, aI Y 200 f13), (h6, aI Y 800 f14)] rfl ?_
        refine V_goto 43 B 47 dX12_strokeOf_43 (by decide) ?_
        exact V_iret 47 B dX12_strokeOf_47 (mkW [] [(u13.2.1 0)] [] [] [] []) trivial rfl
      ·
        refine V_iconst 34 B (v := (-1)) dX12_strokeOf_34 (by decide +kernel) ?_
        refine V_icmp_ne 35 B 46 dX12_strokeOf_35 (by decide) (fun kk26 => ?_) (fun kk26 => ?_)
        ·
          have x27 := x_ne kk26
          rw [nI_toInt (show n20 < 2 ^ 31 by omega)] at x27
          rw [show ((-1) : Int32).toInt = (-1) by decide +kernel] at x27
          refine V_iconst 46 B (v := (-1)) dX12_strokeOf_46 (by decide +kernel) ?_
          exact V_iret 47 B dX12_strokeOf_47 (mkW [] [(u13.2.1 0)] [] [] [] []) trivial rfl
        ·
          have x28 := x_eq kk26
          rw [nI_toInt (show n20 < 2 ^ 31 by omega)] at x28
          rw [show ((-1) : Int32).toInt = (-1) by decide +kernel] at x28
          refine V_aload_n 38 B dX12_strokeOf_38 0 rfl ?_
          refine V_iload_n 39 B dX12_strokeOf_39 1 rfl ?_
          refine V_cvi 40 B (st := []) (As := [.int (nI n4)]) (fun sz => rX12_madeBy l D Y h0 h1 h2 h3 h4 h5 h6 (u13.2.1 0) k5 k6 p7 p8 p9 k10 p11 q12 k15 k16 f0 f1 f3 f4 f13 f14 HI (by omega) HP n4 (by omega) sz) glV_RX12_212 ⟨rfl, rfl⟩ ⟨(Nat.le_of_ble_eq_true rfl), (Nat.le_of_ble_eq_true rfl)⟩ ⟨(Nat.le_of_ble_eq_true rfl), (Nat.le_of_ble_eq_true rfl)⟩ [0, 0, 0, 0, 0, 0, 0] rfl 13 0 rfl rfl rfl rfl (Nat.le_of_ble_eq_true rfl) rfl (fun _ _ _ => rfl) dX12_strokeOf_40 (fun j29 u30 w31 => ?_)
          refine V_ws [(h0, oC 13 [.ref h1, .ref h2, .int (u13.2.1 0), .ref h3, .ref h4, .int (nI k5), .int (nI k6), .int p7, .int p8, .int p9, .int (nI k10), .int p11, .long q12, .ref h5, .ref h6, .int (nI k15), .int (nI k16)]), (h1, aI Y 3640 f0), (h2, aZ Y 2 f1), (h3, aZ Y 80 f3), (h4, aB Y 1600 f4), (h5, aI Y 200 f13), (h6, aI Y 800 f14)] rfl ?_
          refine V_goto 43 B 47 dX12_strokeOf_43 (by decide) ?_
          exact V_iret 47 B dX12_strokeOf_47 (mkW [] [(u13.2.1 0)] [] [] [] []) trivial rfl)
theorem dX12_does_0 : decode cX12_does 0 = .ok (.aload_n 0, 1) := by decide +kernel
theorem dX12_does_1 : decode cX12_does 1 = .ok (.getfield 9, 3) := by decide +kernel
theorem dX12_does_4 : decode cX12_does 4 = .ok (.bipush 34, 2) := by decide +kernel
theorem dX12_does_6 : decode cX12_does 6 = .ok (.iconst 3, 1) := by decide +kernel
theorem dX12_does_7 : decode cX12_does 7 = .ok (.iload_n 1, 1) := by decide +kernel
theorem dX12_does_8 : decode cX12_does 8 = .ok (.imul, 1) := by decide +kernel
theorem dX12_does_9 : decode cX12_does 9 = .ok (.iadd, 1) := by decide +kernel
theorem dX12_does_10 : decode cX12_does 10 = .ok (.iconst 2, 1) := by decide +kernel
theorem dX12_does_11 : decode cX12_does 11 = .ok (.iadd, 1) := by decide +kernel
theorem dX12_does_12 : decode cX12_does 12 = .ok (.dup2, 1) := by decide +kernel
theorem dX12_does_13 : decode cX12_does 13 = .ok (.iaload, 1) := by decide +kernel
theorem dX12_does_14 : decode cX12_does 14 = .ok (.iconst 1, 1) := by decide +kernel
theorem dX12_does_15 : decode cX12_does 15 = .ok (.iadd, 1) := by decide +kernel
theorem dX12_does_16 : decode cX12_does 16 = .ok (.iastore, 1) := by decide +kernel
theorem dX12_does_17 : decode cX12_does 17 = .ok (.aload_n 0, 1) := by decide +kernel
theorem dX12_does_18 : decode cX12_does 18 = .ok (.getfield 9, 3) := by decide +kernel
theorem dX12_does_21 : decode cX12_does 21 = .ok (.bipush 11, 2) := by decide +kernel
theorem dX12_does_23 : decode cX12_does 23 = .ok (.iload_n 1, 1) := by decide +kernel
theorem dX12_does_24 : decode cX12_does 24 = .ok (.iastore, 1) := by decide +kernel
theorem dX12_does_25 : decode cX12_does 25 = .ok (.aload_n 0, 1) := by decide +kernel
theorem dX12_does_26 : decode cX12_does 26 = .ok (.iload_n 1, 1) := by decide +kernel
theorem dX12_does_27 : decode cX12_does 27 = .ok (.iconst 0, 1) := by decide +kernel
theorem dX12_does_28 : decode cX12_does 28 = .ok (.invokevirtual 102, 3) := by decide +kernel
theorem dX12_does_31 : decode cX12_does 31 = .ok (.istore_n 2, 1) := by decide +kernel
theorem dX12_does_32 : decode cX12_does 32 = .ok (.iload_n 2, 1) := by decide +kernel
theorem dX12_does_33 : decode cX12_does 33 = .ok (.iconst 1, 1) := by decide +kernel
theorem dX12_does_34 : decode cX12_does 34 = .ok (.if_icmp .ne 109, 3) := by decide +kernel
theorem dX12_does_143 : decode cX12_does 143 = .ok (.iload_n 2, 1) := by decide +kernel
theorem dX12_does_144 : decode cX12_does 144 = .ok (.iconst 2, 1) := by decide +kernel
theorem dX12_does_145 : decode cX12_does 145 = .ok (.if_icmp .ne 46, 3) := by decide +kernel
theorem dX12_does_191 : decode cX12_does 191 = .ok (.return_, 1) := by decide +kernel
theorem dX12_does_148 : decode cX12_does 148 = .ok (.aload_n 0, 1) := by decide +kernel
theorem dX12_does_149 : decode cX12_does 149 = .ok (.getfield 9, 3) := by decide +kernel
theorem dX12_does_152 : decode cX12_does 152 = .ok (.bipush 7, 2) := by decide +kernel
theorem dX12_does_154 : decode cX12_does 154 = .ok (.iaload, 1) := by decide +kernel
theorem dX12_does_155 : decode cX12_does 155 = .ok (.ifCond .le 36, 3) := by decide +kernel
theorem dX12_does_158 : decode cX12_does 158 = .ok (.aload_n 0, 1) := by decide +kernel
theorem dX12_does_159 : decode cX12_does 159 = .ok (.getfield 9, 3) := by decide +kernel
theorem dX12_does_162 : decode cX12_does 162 = .ok (.bipush 7, 2) := by decide +kernel
theorem dX12_does_164 : decode cX12_does 164 = .ok (.dup2, 1) := by decide +kernel
theorem dX12_does_165 : decode cX12_does 165 = .ok (.iaload, 1) := by decide +kernel
theorem dX12_does_166 : decode cX12_does 166 = .ok (.iconst 1, 1) := by decide +kernel
theorem dX12_does_167 : decode cX12_does 167 = .ok (.isub, 1) := by decide +kernel
theorem dX12_does_168 : decode cX12_does 168 = .ok (.iastore, 1) := by decide +kernel
theorem dX12_does_169 : decode cX12_does 169 = .ok (.aload_n 0, 1) := by decide +kernel
theorem dX12_does_170 : decode cX12_does 170 = .ok (.getfield 9, 3) := by decide +kernel
theorem dX12_does_173 : decode cX12_does 173 = .ok (.bipush 6, 2) := by decide +kernel
theorem dX12_does_175 : decode cX12_does 175 = .ok (.aload_n 0, 1) := by decide +kernel
theorem dX12_does_176 : decode cX12_does 176 = .ok (.getfield 9, 3) := by decide +kernel
theorem dX12_does_179 : decode cX12_does 179 = .ok (.bipush 22, 2) := by decide +kernel
theorem dX12_does_181 : decode cX12_does 181 = .ok (.aload_n 0, 1) := by decide +kernel
theorem dX12_does_182 : decode cX12_does 182 = .ok (.getfield 9, 3) := by decide +kernel
theorem dX12_does_185 : decode cX12_does 185 = .ok (.bipush 7, 2) := by decide +kernel
theorem dX12_does_187 : decode cX12_does 187 = .ok (.iaload, 1) := by decide +kernel
theorem dX12_does_188 : decode cX12_does 188 = .ok (.iadd, 1) := by decide +kernel
theorem dX12_does_189 : decode cX12_does 189 = .ok (.iaload, 1) := by decide +kernel
theorem dX12_makes_0 : decode cX12_makes 0 = .ok (.iconst 1, 1) := by decide +kernel
theorem dX12_makes_1 : decode cX12_makes 1 = .ok (.istore_n 2, 1) := by decide +kernel
theorem dX12_makes_2 : decode cX12_makes 2 = .ok (.iload_n 2, 1) := by decide +kernel
theorem dX12_pressed_0 : decode cX12_pressed 0 = .ok (.aload_n 0, 1) := by decide +kernel
theorem dX12_pressed_1 : decode cX12_pressed 1 = .ok (.iload_n 1, 1) := by decide +kernel
theorem dX12_pressed_2 : decode cX12_pressed 2 = .ok (.invokevirtual 209, 3) := by decide +kernel
theorem dX12_pressed_5 : decode cX12_pressed 5 = .ok (.istore_n 2, 1) := by decide +kernel
theorem dX12_pressed_6 : decode cX12_pressed 6 = .ok (.iload_n 2, 1) := by decide +kernel
theorem dX12_pressed_7 : decode cX12_pressed 7 = .ok (.iconst (-1), 1) := by decide +kernel
theorem dX12_pressed_8 : decode cX12_pressed 8 = .ok (.if_icmp .ne 13, 3) := by decide +kernel
theorem dX12_pressed_11 : decode cX12_pressed 11 = .ok (.aload_n 0, 1) := by decide +kernel
theorem dX12_pressed_12 : decode cX12_pressed 12 = .ok (.aload_n 0, 1) := by decide +kernel
theorem dX12_pressed_13 : decode cX12_pressed 13 = .ok (.iload_n 1, 1) := by decide +kernel
theorem dX12_pressed_14 : decode cX12_pressed 14 = .ok (.invokevirtual 212, 3) := by decide +kernel
theorem dX12_pressed_17 : decode cX12_pressed 17 = .ok (.invokevirtual 218, 3) := by decide +kernel
theorem dX12_press_0 : decode cX12_press 0 = .ok (.aload_n 0, 1) := by decide +kernel
theorem dX12_press_1 : decode cX12_press 1 = .ok (.iconst 0, 1) := by decide +kernel
theorem dX12_press_2 : decode cX12_press 2 = .ok (.putfield 38, 3) := by decide +kernel
theorem dX12_press_5 : decode cX12_press 5 = .ok (.aload_n 0, 1) := by decide +kernel
theorem dX12_press_6 : decode cX12_press 6 = .ok (.iload_n 1, 1) := by decide +kernel
theorem dX12_press_7 : decode cX12_press 7 = .ok (.invokestatic 204, 3) := by decide +kernel
theorem dX12_press_10 : decode cX12_press 10 = .ok (.ifCond .ne 7, 3) := by decide +kernel
theorem dX12_press_13 : decode cX12_press 13 = .ok (.iconst 1, 1) := by decide +kernel
theorem dX12_press_14 : decode cX12_press 14 = .ok (.goto 4, 3) := by decide +kernel
theorem dX12_press_18 : decode cX12_press 18 = .ok (.iconst 1, 1) := by decide +kernel
theorem dX12_press_19 : decode cX12_press 19 = .ok (.invokevirtual 69, 3) := by decide +kernel
theorem dX12_press_22 : decode cX12_press 22 = .ok (.ifCond .eq 7, 3) := by decide +kernel
theorem dX12_press_25 : decode cX12_press 25 = .ok (.iconst 0, 1) := by decide +kernel
theorem dX12_press_26 : decode cX12_press 26 = .ok (.goto 8, 3) := by decide +kernel
theorem dX12_press_34 : decode cX12_press 34 = .ok (.ireturn, 1) := by decide +kernel
theorem dX12_press_17 : decode cX12_press 17 = .ok (.iconst 0, 1) := by decide +kernel
theorem dX12_press_29 : decode cX12_press 29 = .ok (.aload_n 0, 1) := by decide +kernel
theorem dX12_press_30 : decode cX12_press 30 = .ok (.iload_n 1, 1) := by decide +kernel
theorem dX12_press_31 : decode cX12_press 31 = .ok (.invokevirtual 221, 3) := by decide +kernel
theorem dX12_release_0 : decode cX12_release 0 = .ok (.aload_n 0, 1) := by decide +kernel
theorem dX12_release_1 : decode cX12_release 1 = .ok (.iconst 0, 1) := by decide +kernel
theorem dX12_release_2 : decode cX12_release 2 = .ok (.putfield 38, 3) := by decide +kernel
theorem dX12_release_5 : decode cX12_release 5 = .ok (.aload_n 0, 1) := by decide +kernel
theorem dX12_release_6 : decode cX12_release 6 = .ok (.iload_n 1, 1) := by decide +kernel
theorem dX12_release_7 : decode cX12_release 7 = .ok (.invokestatic 204, 3) := by decide +kernel
theorem dX12_release_10 : decode cX12_release 10 = .ok (.ifCond .ne 7, 3) := by decide +kernel
theorem dX12_release_13 : decode cX12_release 13 = .ok (.iconst 1, 1) := by decide +kernel
theorem dX12_release_14 : decode cX12_release 14 = .ok (.goto 4, 3) := by decide +kernel
theorem dX12_release_18 : decode cX12_release 18 = .ok (.iconst 1, 1) := by decide +kernel
theorem dX12_release_19 : decode cX12_release 19 = .ok (.invokevirtual 69, 3) := by decide +kernel
theorem dX12_release_22 : decode cX12_release 22 = .ok (.ifCond .eq 5, 3) := by decide +kernel
theorem dX12_release_25 : decode cX12_release 25 = .ok (.iconst 0, 1) := by decide +kernel
theorem dX12_release_26 : decode cX12_release 26 = .ok (.ireturn, 1) := by decide +kernel
theorem dX12_release_17 : decode cX12_release 17 = .ok (.iconst 0, 1) := by decide +kernel
theorem dX12_release_27 : decode cX12_release 27 = .ok (.aload_n 0, 1) := by decide +kernel
theorem dX12_release_28 : decode cX12_release 28 = .ok (.iload_n 1, 1) := by decide +kernel
theorem dX12_release_29 : decode cX12_release 29 = .ok (.invokevirtual 209, 3) := by decide +kernel
theorem dX12_release_32 : decode cX12_release 32 = .ok (.istore_n 2, 1) := by decide +kernel
theorem dX12_release_33 : decode cX12_release 33 = .ok (.iload_n 2, 1) := by decide +kernel
theorem dX12_release_34 : decode cX12_release 34 = .ok (.iconst (-1), 1) := by decide +kernel
theorem dX12_release_35 : decode cX12_release 35 = .ok (.if_icmp .eq 12, 3) := by decide +kernel
theorem dX12_release_47 : decode cX12_release 47 = .ok (.iconst 0, 1) := by decide +kernel
theorem dX12_release_48 : decode cX12_release 48 = .ok (.ireturn, 1) := by decide +kernel
theorem dX12_release_38 : decode cX12_release 38 = .ok (.aload_n 0, 1) := by decide +kernel
theorem dX12_release_39 : decode cX12_release 39 = .ok (.iload_n 2, 1) := by decide +kernel
theorem dX12_release_40 : decode cX12_release 40 = .ok (.iconst 1, 1) := by decide +kernel
theorem dX12_release_41 : decode cX12_release 41 = .ok (.invokevirtual 193, 3) := by decide +kernel
theorem dX12_release_44 : decode cX12_release 44 = .ok (.ifCond .ne 5, 3) := by decide +kernel
theorem dX12_release_49 : decode cX12_release 49 = .ok (.aload_n 0, 1) := by decide +kernel
theorem dX12_release_50 : decode cX12_release 50 = .ok (.getfield 9, 3) := by decide +kernel
theorem dX12_release_53 : decode cX12_release 53 = .ok (.sipush 744, 3) := by decide +kernel
theorem dX12_release_56 : decode cX12_release 56 = .ok (.bipush 28, 2) := by decide +kernel
theorem dX12_release_58 : decode cX12_release 58 = .ok (.iload_n 2, 1) := by decide +kernel
theorem dX12_release_59 : decode cX12_release 59 = .ok (.imul, 1) := by decide +kernel
theorem dX12_release_60 : decode cX12_release 60 = .ok (.iadd, 1) := by decide +kernel
theorem dX12_release_61 : decode cX12_release 61 = .ok (.iconst 1, 1) := by decide +kernel
theorem dX12_release_62 : decode cX12_release 62 = .ok (.iadd, 1) := by decide +kernel
theorem dX12_release_63 : decode cX12_release 63 = .ok (.iconst 0, 1) := by decide +kernel
theorem dX12_release_64 : decode cX12_release 64 = .ok (.iastore, 1) := by decide +kernel
theorem rl15 : ∀ z0, z0 < 4 → bd (745 + 28 * z0) = FREE := by decide +kernel
theorem dX12_release_65 : decode cX12_release 65 = .ok (.iconst 1, 1) := by decide +kernel
theorem dX12_release_66 : decode cX12_release 66 = .ok (.ireturn, 1) := by decide +kernel
set_option maxRecDepth 100000 in
set_option maxHeartbeats 4000000 in
theorem rX12_release (l : Launch) (D : va_G) (Y : Nat → ClassId) (h0 : Nat) (h1 : Nat) (h2 : Nat) (h3 : Nat) (h4 : Nat) (h5 : Nat) (h6 : Nat) (p2 : Int32) (k5 : Nat) (k6 : Nat) (p7 : Int32) (p8 : Int32) (p9 : Int32) (k10 : Nat) (p11 : Int32) (q12 : Int64) (k15 : Nat) (k16 : Nat) (f0 : Nat → Int32) (f1 : Nat → Int32) (f3 : Nat → Int32) (f4 : Nat → Int32) (f13 : Nat → Int32) (f14 : Nat → Int32) (HI : INV f0) (HL : k5 ≤ 1600) (HP : PLV f13) (s0 : Int32)  (sz : Nat) : Met l yX12_release (WSm yX12_release cX12_release 3 (some .boolean)) (mkR 2 0 0 45) (PreC D Y [.ref h0, .int s0] [(h0, oC 13 [.ref h1, .ref h2, .int p2, .ref h3, .ref h4, .int (nI k5), .int (nI k6), .int p7, .int p8, .int p9, .int (nI k10), .int p11, .long q12, .ref h5, .ref h6, .int (nI k15), .int (nI k16)]), (h1, aI Y 3640 f0), (h2, aZ Y 2 f1), (h3, aZ Y 80 f3), (h4, aB Y 1600 f4), (h5, aI Y 200 f13), (h6, aI Y 800 f14)] sz) (QI D (fun (r : Int32) (u : WU) => (r = 0 ∨ r = 1) ∧ INV (u.2.2.2.1 0)) (fun (u : WU) => [(h0, oC 13 [.ref h1, .ref h2, .int (u.2.1 0), .ref h3, .ref h4, .int (nI k5), .int (nI k6), .int p7, .int p8, .int p9, .int (nI k10), .int p11, .long q12, .ref h5, .ref h6, .int (nI k15), .int (nI k16)]), (h1, aI Y 3640 (u.2.2.2.1 0)), (h2, aZ Y 2 f1), (h3, aZ Y 80 f3), (h4, aB Y 1600 f4), (h5, aI Y 200 f13), (h6, aI Y 800 f14)]) (va_A [(h0, oC 13 [.ref h1, .ref h2, .int p2, .ref h3, .ref h4, .int (nI k5), .int (nI k6), .int p7, .int p8, .int p9, .int (nI k10), .int p11, .long q12, .ref h5, .ref h6, .int (nI k15), .int (nI k16)]), (h1, aI Y 3640 f0), (h2, aZ Y 2 f1), (h3, aZ Y 80 f3), (h4, aB Y 1600 f4), (h5, aI Y 200 f13), (h6, aI Y 800 f14)] sz)) 0 0 (va_A [(h0, oC 13 [.ref h1, .ref h2, .int p2, .ref h3, .ref h4, .int (nI k5), .int (nI k6), .int p7, .int p8, .int p9, .int (nI k10), .int p11, .long q12, .ref h5, .ref h6, .int (nI k15), .int (nI k16)]), (h1, aI Y 3640 f0), (h2, aZ Y 2 f1), (h3, aZ Y 80 f3), (h4, aB Y 1600 f4), (h5, aI Y 200 f13), (h6, aI Y 800 f14)] sz) :=
  met_of (by decide +kernel) (Nat.le_of_ble_eq_true rfl) (fun p e s m args below meth c B hin hsz => by
    have B : VB p s m args meth c D Y (va_A [(h0, oC 13 [.ref h1, .ref h2, .int p2, .ref h3, .ref h4, .int (nI k5), .int (nI k6), .int p7, .int p8, .int p9, .int (nI k10), .int p11, .long q12, .ref h5, .ref h6, .int (nI k15), .int (nI k16)]), (h1, aI Y 3640 f0), (h2, aZ Y 2 f1), (h3, aZ Y 80 f3), (h4, aB Y 1600 f4), (h5, aI Y 200 f13), (h6, aI Y 800 f14)] sz) cX12_release 3 RX12 (some .boolean) := B
    refine V_aload_n 0 B dX12_release_0 0 rfl ?_
    refine V_iconst 1 B (v := 0) dX12_release_1 (by decide +kernel) ?_
    refine V_put 2 B gp_RX12_38 0 rfl (Nat.le_of_ble_eq_true rfl) rfl rfl dX12_release_2 [(h0, oC 13 [.ref h1, .ref h2, .int 0, .ref h3, .ref h4, .int (nI k5), .int (nI k6), .int p7, .int p8, .int p9, .int (nI k10), .int p11, .long q12, .ref h5, .ref h6, .int (nI k15), .int (nI k16)]), (h1, aI Y 3640 f0), (h2, aZ Y 2 f1), (h3, aZ Y 80 f3), (h4, aB Y 1600 f4), (h5, aI Y 200 f13), (h6, aI Y 800 f14)] rfl ?_
    refine V_aload_n 5 B dX12_release_5 0 rfl ?_
    refine V_iload_n 6 B dX12_release_6 1 rfl ?_
    refine V_csi 7 B (st := [.ref h0]) (As := [.int s0]) (fun sz => rX12_isKey l D Y s0 sz) glS_RX12_204 ⟨rfl, rfl⟩ ⟨(Nat.le_of_ble_eq_true rfl), (Nat.le_of_ble_eq_true rfl)⟩ ⟨(Nat.le_of_ble_eq_true rfl), (Nat.le_of_ble_eq_true rfl)⟩ [] rfl rfl (Nat.le_of_ble_eq_true rfl) rfl (fun _ _ _ => rfl) dX12_release_7 (fun j0 u1 w2 => ?_)
    refine V_ws [(h0, oC 13 [.ref h1, .ref h2, .int 0, .ref h3, .ref h4, .int (nI k5), .int (nI k6), .int p7, .int p8, .int p9, .int (nI k10), .int p11, .long q12, .ref h5, .ref h6, .int (nI k15), .int (nI k16)]), (h1, aI Y 3640 f0), (h2, aZ Y 2 f1), (h3, aZ Y 80 f3), (h4, aB Y 1600 f4), (h5, aI Y 200 f13), (h6, aI Y 800 f14)] rfl ?_
    have x3 := w2
    rcases x3 with rfl | ⟨rfl, n4, rfl, x5⟩
    ·
      refine V_if_ne_f 10 B 17 dX12_release_10 (by decide) (by decide +kernel) ?_
      refine V_iconst 13 B (v := 1) dX12_release_13 (by decide +kernel) ?_
      refine V_goto 14 B 18 dX12_release_14 (by decide) ?_
      refine V_iconst 18 B (v := 1) dX12_release_18 (by decide +kernel) ?_
      refine V_cvi 19 B (st := []) (As := [.int 1, .int 1]) (fun sz => rX12_throwsIf_1 l D Y h0 h1 h2 h3 h4 h5 h6 0 k5 k6 p7 p8 p9 k10 p11 q12 k15 k16 f0 f1 f3 f4 f13 f14 HI (by omega) HP 1 sz) glV_RX12_69 ⟨rfl, rfl⟩ ⟨(Nat.le_of_ble_eq_true rfl), (Nat.le_of_ble_eq_true rfl)⟩ ⟨(Nat.le_of_ble_eq_true rfl), (Nat.le_of_ble_eq_true rfl)⟩ [0, 0, 0, 0, 0, 0, 0] rfl 13 0 rfl rfl rfl rfl (Nat.le_of_ble_eq_true rfl) rfl (fun _ _ _ => rfl) dX12_release_19 (fun j7 u8 w9 => ?_)
      refine V_ws [(h0, oC 13 [.ref h1, .ref h2, .int (u8.2.1 0), .ref h3, .ref h4, .int (nI k5), .int (nI k6), .int p7, .int p8, .int p9, .int (nI k10), .int p11, .long q12, .ref h5, .ref h6, .int (nI k15), .int (nI k16)]), (h1, aI Y 3640 f0), (h2, aZ Y 2 f1), (h3, aZ Y 80 f3), (h4, aB Y 1600 f4), (h5, aI Y 200 f13), (h6, aI Y 800 f14)] rfl ?_
      have x10 := w9
      obtain rfl := x10
      refine V_if_eq_f 22 B 27 dX12_release_22 (by decide) (by decide +kernel) ?_
      refine V_iconst 25 B (v := 0) dX12_release_25 (by decide +kernel) ?_
      exact V_zret 26 B rfl dX12_release_26 (mkW [] [(u8.2.1 0)] [] [f0] [] []) ⟨(Or.inl rfl), HI⟩ rfl
    ·
      have e11 := nI_toInt (show n4 < 2 ^ 31 by omega)
      refine V_if_ne_t 10 B 17 dX12_release_10 (by decide) (by decide +kernel) ?_
      refine V_iconst 17 B (v := 0) dX12_release_17 (by decide +kernel) ?_
      refine V_iconst 18 B (v := 1) dX12_release_18 (by decide +kernel) ?_
      refine V_cvi 19 B (st := []) (As := [.int 0, .int 1]) (fun sz => rX12_throwsIf_0 l D Y h0 h1 h2 h3 h4 h5 h6 0 k5 k6 p7 p8 p9 k10 p11 q12 k15 k16 f0 f1 f3 f4 f13 f14 HI (by omega) HP 1 sz) glV_RX12_69 ⟨rfl, rfl⟩ ⟨(Nat.le_of_ble_eq_true rfl), (Nat.le_of_ble_eq_true rfl)⟩ ⟨(Nat.le_of_ble_eq_true rfl), (Nat.le_of_ble_eq_true rfl)⟩ [0, 0, 0, 0, 0, 0, 0] rfl 13 0 rfl rfl rfl rfl (Nat.le_of_ble_eq_true rfl) rfl (fun _ _ _ => rfl) dX12_release_19 (fun j12 u13 w14 => ?_)
      refine V_ws [(h0, oC 13 [.ref h1, .ref h2, .int (u13.2.1 0), .ref h3, .ref h4, .int (nI k5), .int (nI k6), .int p7, .int p8, .int p9, .int (nI k10), .int p11, .long q12, .ref h5, .ref h6, .int (nI k15), .int (nI k16)]), (h1, aI Y 3640 f0), (h2, aZ Y 2 f1), (h3, aZ Y 80 f3), (h4, aB Y 1600 f4), (h5, aI Y 200 f13), (h6, aI Y 800 f14)] rfl ?_
      have x15 := w14
      obtain rfl := x15
      refine V_if_eq_t 22 B 27 dX12_release_22 (by decide) (by decide +kernel) ?_
      refine V_aload_n 27 B dX12_release_27 0 rfl ?_
      refine V_iload_n 28 B dX12_release_28 1 rfl ?_
      refine V_cvi 29 B (st := []) (As := [.int (nI n4)]) (fun sz => rX12_layerOf l D Y h0 h1 h2 h3 h4 h5 h6 (u13.2.1 0) k5 k6 p7 p8 p9 k10 p11 q12 k15 k16 f0 f1 f3 f4 f13 f14 HI (by omega) HP (nI n4) sz) glV_RX12_209 ⟨rfl, rfl⟩ ⟨(Nat.le_of_ble_eq_true rfl), (Nat.le_of_ble_eq_true rfl)⟩ ⟨(Nat.le_of_ble_eq_true rfl), (Nat.le_of_ble_eq_true rfl)⟩ [0, 0, 0, 0, 0, 0, 0] rfl 13 0 rfl rfl rfl rfl (Nat.le_of_ble_eq_true rfl) rfl (fun _ _ _ => rfl) dX12_release_29 (fun j16 u17 w18 => ?_)
      refine V_ws [(h0, oC 13 [.ref h1, .ref h2, .int (u13.2.1 0), .ref h3, .ref h4, .int (nI k5), .int (nI k6), .int p7, .int p8, .int p9, .int (nI k10), .int p11, .long q12, .ref h5, .ref h6, .int (nI k15), .int (nI k16)]), (h1, aI Y 3640 f0), (h2, aZ Y 2 f1), (h3, aZ Y 80 f3), (h4, aB Y 1600 f4), (h5, aI Y 200 f13), (h6, aI Y 800 f14)] rfl ?_
      have x19 := w18
      have x22 : (gN f0 4) ≤ 4 := gN_le HI (by omega) (show bd 4 = (0, ((4 : Nat) : Int)) by decide +kernel)
      rcases x19 with rfl | ⟨n20, rfl, x21⟩
      ·
        refine V_istore_n 32 B (lv2 := [(2, .int (-1)), (0, .ref h0), (1, .int (nI n4))]) dX12_release_32 (by decide) rfl ?_
        refine V_iload_n 33 B dX12_release_33 0 rfl ?_
        refine V_iconst 34 B (v := (-1)) dX12_release_34 (by decide +kernel) ?_
        refine V_icmp_eq_t 35 B 47 dX12_release_35 (by decide) (by decide +kernel) ?_
        refine V_iconst 47 B (v := 0) dX12_release_47 (by decide +kernel) ?_
        exact V_zret 48 B rfl dX12_release_48 (mkW [] [(u13.2.1 0)] [] [f0] [] []) ⟨(Or.inl rfl), HI⟩ rfl
      ·
        refine V_istore_n 32 B (lv2 := [(2, .int (nI n20)), (0, .ref h0), (1, .int (nI n4))]) dX12_release_32 (by decide) rfl ?_
        refine V_iload_n 33 B dX12_release_33 0 rfl ?_
        refine V_iconst 34 B (v := (-1)) dX12_release_34 (by decide +kernel) ?_
        refine V_icmp_eq 35 B 47 dX12_release_35 (by decide) (fun kk23 => ?_) (fun kk23 => ?_)
        ·
          have x24 := x_eq kk23
          rw [nI_toInt (show n20 < 2 ^ 31 by omega)] at x24
          rw [show ((-1) : Int32).toInt = (-1) by decide +kernel] at x24
          refine V_iconst 47 B (v := 0) dX12_release_47 (by decide +kernel) ?_
          exact V_zret 48 B rfl dX12_release_48 (mkW [] [(u13.2.1 0)] [] [f0] [] []) ⟨(Or.inl rfl), HI⟩ rfl
        ·
          have x25 := x_ne kk23
          rw [nI_toInt (show n20 < 2 ^ 31 by omega)] at x25
          rw [show ((-1) : Int32).toInt = (-1) by decide +kernel] at x25
          refine V_aload_n 38 B dX12_release_38 1 rfl ?_
          refine V_iload_n 39 B dX12_release_39 0 rfl ?_
          refine V_iconst 40 B (v := 1) dX12_release_40 (by decide +kernel) ?_
          refine V_cvi 41 B (st := []) (As := [.int (nI n20), .int 1]) (fun sz => rX12_ofLayer l D Y h0 h1 h2 h3 h4 h5 h6 (u13.2.1 0) k5 k6 p7 p8 p9 k10 p11 q12 k15 k16 f0 f1 f3 f4 f13 f14 HI (by omega) HP n20 1 (by omega) (by omega) sz) glV_RX12_193 ⟨rfl, rfl⟩ ⟨(Nat.le_of_ble_eq_true rfl), (Nat.le_of_ble_eq_true rfl)⟩ ⟨(Nat.le_of_ble_eq_true rfl), (Nat.le_of_ble_eq_true rfl)⟩ [0, 0, 0, 0, 0, 0, 0] rfl 13 0 rfl rfl rfl rfl (Nat.le_of_ble_eq_true rfl) rfl (fun _ _ _ => rfl) dX12_release_41 (fun j26 u27 w28 => ?_)
          refine V_ws [(h0, oC 13 [.ref h1, .ref h2, .int (u13.2.1 0), .ref h3, .ref h4, .int (nI k5), .int (nI k6), .int p7, .int p8, .int p9, .int (nI k10), .int p11, .long q12, .ref h5, .ref h6, .int (nI k15), .int (nI k16)]), (h1, aI Y 3640 f0), (h2, aZ Y 2 f1), (h3, aZ Y 80 f3), (h4, aB Y 1600 f4), (h5, aI Y 200 f13), (h6, aI Y 800 f14)] rfl ?_
          refine V_if_ne 44 B 49 dX12_release_44 (by decide) (fun kk29 => ?_) (fun kk29 => ?_)
          ·
            have x30 := x_ne kk29
            rw [show (0 : Int32).toInt = 0 by decide +kernel] at x30
            refine V_aload_n 49 B dX12_release_49 1 rfl ?_
            refine V_get 50 B gf_RX12_9 0 rfl rfl dX12_release_50 ?_
            refine V_sipush 53 B (v := 744) dX12_release_53 (by decide +kernel) ?_
            refine V_bipush 56 B (v := 28) dX12_release_56 (by decide +kernel) ?_
            refine V_iload_n 58 B dX12_release_58 0 rfl ?_
            refine V_imul 59 B (v := (nI (28 * n20))) dX12_release_59 (nI_mulE (a := 28) (b := n20) (by omega)) ?_
            refine V_iadd 60 B (v := (nI (744 + 28 * n20))) dX12_release_60 (nI_addE (a := 744) (b := 28 * n20) (by omega)) ?_
            refine V_iconst 61 B (v := 1) dX12_release_61 (by decide +kernel) ?_
            refine V_iadd 62 B (v := (nI (745 + 28 * n20))) dX12_release_62 (nI_addE (a := 744 + 28 * n20) (b := 1) (by omega)) ?_
            refine V_iconst 63 B (v := 0) dX12_release_63 (by decide +kernel) ?_
            have hv31 : INV (upd f0 (745 + 28 * n20) 0) := INV_free HI (rl15 n20 (by omega))
            refine V_iast 64 B 1 rfl (vp_in_nI (n := 745 + 28 * n20) (by omega) (by decide)) dX12_release_64 [(h0, oC 13 [.ref h1, .ref h2, .int (u13.2.1 0), .ref h3, .ref h4, .int (nI k5), .int (nI k6), .int p7, .int p8, .int p9, .int (nI k10), .int p11, .long q12, .ref h5, .ref h6, .int (nI k15), .int (nI k16)]), (h1, aI Y 3640 (upd f0 (745 + 28 * n20) 0)), (h2, aZ Y 2 f1), (h3, aZ Y 80 f3), (h4, aB Y 1600 f4), (h5, aI Y 200 f13), (h6, aI Y 800 f14)] (by rw [nI_clamp (show 745 + 28 * n20 < 2 ^ 31 by omega)]; rfl) ?_
            refine V_iconst 65 B (v := 1) dX12_release_65 (by decide +kernel) ?_
            exact V_zret 66 B rfl dX12_release_66 (mkW [] [(u13.2.1 0)] [] [(upd f0 (745 + 28 * n20) 0)] [] []) ⟨(Or.inr rfl), hv31⟩ rfl
          ·
            obtain rfl : j26 = 0 := kk29
            have e33 : (0 : Int32).toInt = 0 := by decide +kernel
            refine V_iconst 47 B (v := 0) dX12_release_47 (by decide +kernel) ?_
            exact V_zret 48 B rfl dX12_release_48 (mkW [] [(u13.2.1 0)] [] [f0] [] []) ⟨(Or.inl rfl), HI⟩ rfl)
theorem dX12_type_0 : decode cX12_type 0 = .ok (.aload_n 0, 1) := by decide +kernel
theorem dX12_type_1 : decode cX12_type 1 = .ok (.iconst 0, 1) := by decide +kernel
theorem dX12_type_2 : decode cX12_type 2 = .ok (.putfield 38, 3) := by decide +kernel
theorem dX12_type_5 : decode cX12_type 5 = .ok (.aload_n 0, 1) := by decide +kernel
theorem dX12_type_6 : decode cX12_type 6 = .ok (.iload_n 1, 1) := by decide +kernel
theorem dX12_type_7 : decode cX12_type 7 = .ok (.invokestatic 65, 3) := by decide +kernel
theorem dX12_type_10 : decode cX12_type 10 = .ok (.ifCond .ne 7, 3) := by decide +kernel
theorem dX12_type_13 : decode cX12_type 13 = .ok (.iconst 1, 1) := by decide +kernel
theorem dX12_type_14 : decode cX12_type 14 = .ok (.goto 4, 3) := by decide +kernel
theorem dX12_type_18 : decode cX12_type 18 = .ok (.iconst 1, 1) := by decide +kernel
theorem dX12_type_19 : decode cX12_type 19 = .ok (.invokevirtual 69, 3) := by decide +kernel
theorem dX12_type_22 : decode cX12_type 22 = .ok (.ifCond .eq 7, 3) := by decide +kernel
theorem dX12_type_25 : decode cX12_type 25 = .ok (.iconst 0, 1) := by decide +kernel
theorem dX12_type_26 : decode cX12_type 26 = .ok (.goto 8, 3) := by decide +kernel
theorem dX12_type_34 : decode cX12_type 34 = .ok (.ireturn, 1) := by decide +kernel
theorem dX12_type_17 : decode cX12_type 17 = .ok (.iconst 0, 1) := by decide +kernel
theorem dX12_type_29 : decode cX12_type 29 = .ok (.aload_n 0, 1) := by decide +kernel
theorem dX12_type_30 : decode cX12_type 30 = .ok (.iload_n 1, 1) := by decide +kernel
theorem dX12_type_31 : decode cX12_type 31 = .ok (.invokevirtual 218, 3) := by decide +kernel
theorem dX12_typeDraft_0 : decode cX12_typeDraft 0 = .ok (.aload_n 0, 1) := by decide +kernel
theorem dX12_typeDraft_1 : decode cX12_typeDraft 1 = .ok (.iconst 0, 1) := by decide +kernel
theorem dX12_typeDraft_2 : decode cX12_typeDraft 2 = .ok (.putfield 38, 3) := by decide +kernel
theorem dX12_typeDraft_5 : decode cX12_typeDraft 5 = .ok (.iconst 0, 1) := by decide +kernel
theorem dX12_typeDraft_6 : decode cX12_typeDraft 6 = .ok (.istore_n 1, 1) := by decide +kernel
theorem dX12_typeDraft_7 : decode cX12_typeDraft 7 = .ok (.iconst 1, 1) := by decide +kernel
theorem dX12_typeDraft_8 : decode cX12_typeDraft 8 = .ok (.istore_n 2, 1) := by decide +kernel
theorem dX12_typeDraft_9 : decode cX12_typeDraft 9 = .ok (.iload_n 2, 1) := by decide +kernel
theorem dX12_typeDraft_10 : decode cX12_typeDraft 10 = .ok (.aload_n 0, 1) := by decide +kernel
theorem dX12_typeDraft_11 : decode cX12_typeDraft 11 = .ok (.getfield 9, 3) := by decide +kernel
theorem dX12_typeDraft_14 : decode cX12_typeDraft 14 = .ok (.sipush 3624, 3) := by decide +kernel
theorem dX12_typeDraft_17 : decode cX12_typeDraft 17 = .ok (.iaload, 1) := by decide +kernel
theorem dX12_typeDraft_18 : decode cX12_typeDraft 18 = .ok (.if_icmp .gt 35, 3) := by decide +kernel
theorem dX12_typeDraft_53 : decode cX12_typeDraft 53 = .ok (.iload_n 1, 1) := by decide +kernel
theorem dX12_typeDraft_54 : decode cX12_typeDraft 54 = .ok (.ireturn, 1) := by decide +kernel
theorem dX12_typeDraft_21 : decode cX12_typeDraft 21 = .ok (.iload_n 1, 1) := by decide +kernel
theorem dX12_typeDraft_22 : decode cX12_typeDraft 22 = .ok (.aload_n 0, 1) := by decide +kernel
theorem dX12_typeDraft_23 : decode cX12_typeDraft 23 = .ok (.aload_n 0, 1) := by decide +kernel
theorem dX12_typeDraft_24 : decode cX12_typeDraft 24 = .ok (.getfield 9, 3) := by decide +kernel
theorem dX12_typeDraft_27 : decode cX12_typeDraft 27 = .ok (.sipush 3624, 3) := by decide +kernel
theorem dX12_typeDraft_30 : decode cX12_typeDraft 30 = .ok (.iload_n 2, 1) := by decide +kernel
theorem dX12_typeDraft_31 : decode cX12_typeDraft 31 = .ok (.iadd, 1) := by decide +kernel
theorem dX12_typeDraft_32 : decode cX12_typeDraft 32 = .ok (.iaload, 1) := by decide +kernel
theorem dX12_typeDraft_33 : decode cX12_typeDraft 33 = .ok (.invokevirtual 218, 3) := by decide +kernel
theorem dX12_dropLate_0 : decode cX12_dropLate 0 = .ok (.aload_n 0, 1) := by decide +kernel
theorem dX12_dropLate_1 : decode cX12_dropLate 1 = .ok (.getfield 9, 3) := by decide +kernel
theorem dX12_dropLate_4 : decode cX12_dropLate 4 = .ok (.bipush 8, 2) := by decide +kernel
theorem dX12_dropLate_6 : decode cX12_dropLate 6 = .ok (.iaload, 1) := by decide +kernel
theorem dX12_dropLate_7 : decode cX12_dropLate 7 = .ok (.ifCond .eq 36, 3) := by decide +kernel
theorem dX12_dropLate_43 : decode cX12_dropLate 43 = .ok (.return_, 1) := by decide +kernel
theorem dX12_dropLate_10 : decode cX12_dropLate 10 = .ok (.aload_n 0, 1) := by decide +kernel
theorem dX12_dropLate_11 : decode cX12_dropLate 11 = .ok (.getfield 9, 3) := by decide +kernel
theorem dX12_dropLate_14 : decode cX12_dropLate 14 = .ok (.iconst 5, 1) := by decide +kernel
theorem dX12_dropLate_15 : decode cX12_dropLate 15 = .ok (.iaload, 1) := by decide +kernel
theorem dX12_dropLate_16 : decode cX12_dropLate 16 = .ok (.ifCond .eq 27, 3) := by decide +kernel
theorem dX12_dropLate_19 : decode cX12_dropLate 19 = .ok (.aload_n 0, 1) := by decide +kernel
theorem dX12_dropLate_20 : decode cX12_dropLate 20 = .ok (.getfield 9, 3) := by decide +kernel
theorem dX12_dropLate_23 : decode cX12_dropLate 23 = .ok (.bipush 9, 2) := by decide +kernel
theorem dX12_dropLate_25 : decode cX12_dropLate 25 = .ok (.iaload, 1) := by decide +kernel
theorem dX12_dropLate_26 : decode cX12_dropLate 26 = .ok (.aload_n 0, 1) := by decide +kernel
theorem dX12_dropLate_27 : decode cX12_dropLate 27 = .ok (.getfield 9, 3) := by decide +kernel
theorem dX12_dropLate_30 : decode cX12_dropLate 30 = .ok (.bipush 10, 2) := by decide +kernel
theorem dX12_dropLate_32 : decode cX12_dropLate 32 = .ok (.iaload, 1) := by decide +kernel
theorem dX12_dropLate_33 : decode cX12_dropLate 33 = .ok (.isub, 1) := by decide +kernel
theorem dX12_dropLate_34 : decode cX12_dropLate 34 = .ok (.aload_n 0, 1) := by decide +kernel
theorem dX12_dropLate_35 : decode cX12_dropLate 35 = .ok (.getfield 9, 3) := by decide +kernel
theorem dX12_dropLate_38 : decode cX12_dropLate 38 = .ok (.iconst 5, 1) := by decide +kernel
theorem dX12_dropLate_39 : decode cX12_dropLate 39 = .ok (.iaload, 1) := by decide +kernel
theorem dX12_dropLate_40 : decode cX12_dropLate 40 = .ok (.if_icmp .ge 4, 3) := by decide +kernel
theorem dX12_dropLate_44 : decode cX12_dropLate 44 = .ok (.aload_n 0, 1) := by decide +kernel
theorem dX12_dropLate_45 : decode cX12_dropLate 45 = .ok (.getfield 9, 3) := by decide +kernel
theorem dX12_dropLate_48 : decode cX12_dropLate 48 = .ok (.bipush 8, 2) := by decide +kernel
theorem dX12_dropLate_50 : decode cX12_dropLate 50 = .ok (.iconst 0, 1) := by decide +kernel
theorem dX12_dropLate_51 : decode cX12_dropLate 51 = .ok (.iastore, 1) := by decide +kernel
theorem dX12_dropLate_52 : decode cX12_dropLate 52 = .ok (.aload_n 0, 1) := by decide +kernel
theorem dX12_dropLate_53 : decode cX12_dropLate 53 = .ok (.getfield 9, 3) := by decide +kernel
theorem dX12_dropLate_56 : decode cX12_dropLate 56 = .ok (.bipush 12, 2) := by decide +kernel
theorem dX12_dropLate_58 : decode cX12_dropLate 58 = .ok (.dup2, 1) := by decide +kernel
theorem dX12_dropLate_59 : decode cX12_dropLate 59 = .ok (.iaload, 1) := by decide +kernel
theorem dX12_dropLate_60 : decode cX12_dropLate 60 = .ok (.iconst 1, 1) := by decide +kernel
theorem dX12_dropLate_61 : decode cX12_dropLate 61 = .ok (.iadd, 1) := by decide +kernel
theorem dX12_dropLate_62 : decode cX12_dropLate 62 = .ok (.iastore, 1) := by decide +kernel
theorem dX12_dropLate_63 : decode cX12_dropLate 63 = .ok (.return_, 1) := by decide +kernel
set_option maxRecDepth 100000 in
set_option maxHeartbeats 4000000 in
theorem rX12_dropLate (l : Launch) (D : va_G) (Y : Nat → ClassId) (h0 : Nat) (h1 : Nat) (h2 : Nat) (h3 : Nat) (h4 : Nat) (h5 : Nat) (h6 : Nat) (p2 : Int32) (k5 : Nat) (k6 : Nat) (p7 : Int32) (p8 : Int32) (p9 : Int32) (k10 : Nat) (p11 : Int32) (q12 : Int64) (k15 : Nat) (k16 : Nat) (f0 : Nat → Int32) (f1 : Nat → Int32) (f3 : Nat → Int32) (f4 : Nat → Int32) (f13 : Nat → Int32) (f14 : Nat → Int32) (HI : INV f0) (HL : k5 ≤ 1600) (HP : PLV f13)   (sz : Nat) : Met l yX12_dropLate (WSm yX12_dropLate cX12_dropLate 1 none) (mkR 0 0 0 0) (PreC D Y [.ref h0] [(h0, oC 13 [.ref h1, .ref h2, .int p2, .ref h3, .ref h4, .int (nI k5), .int (nI k6), .int p7, .int p8, .int p9, .int (nI k10), .int p11, .long q12, .ref h5, .ref h6, .int (nI k15), .int (nI k16)]), (h1, aI Y 3640 f0), (h2, aZ Y 2 f1), (h3, aZ Y 80 f3), (h4, aB Y 1600 f4), (h5, aI Y 200 f13), (h6, aI Y 800 f14)] sz) (QV D (fun (u : WU) => INV (u.2.2.2.1 0)) (fun (u : WU) => [(h0, oC 13 [.ref h1, .ref h2, .int p2, .ref h3, .ref h4, .int (nI k5), .int (nI k6), .int p7, .int p8, .int p9, .int (nI k10), .int p11, .long q12, .ref h5, .ref h6, .int (nI k15), .int (nI k16)]), (h1, aI Y 3640 (u.2.2.2.1 0)), (h2, aZ Y 2 f1), (h3, aZ Y 80 f3), (h4, aB Y 1600 f4), (h5, aI Y 200 f13), (h6, aI Y 800 f14)]) (va_A [(h0, oC 13 [.ref h1, .ref h2, .int p2, .ref h3, .ref h4, .int (nI k5), .int (nI k6), .int p7, .int p8, .int p9, .int (nI k10), .int p11, .long q12, .ref h5, .ref h6, .int (nI k15), .int (nI k16)]), (h1, aI Y 3640 f0), (h2, aZ Y 2 f1), (h3, aZ Y 80 f3), (h4, aB Y 1600 f4), (h5, aI Y 200 f13), (h6, aI Y 800 f14)] sz)) 0 0 (va_A [(h0, oC 13 [.ref h1, .ref h2, .int p2, .ref h3, .ref h4, .int (nI k5), .int (nI k6), .int p7, .int p8, .int p9, .int (nI k10), .int p11, .long q12, .ref h5, .ref h6, .int (nI k15), .int (nI k16)]), (h1, aI Y 3640 f0), (h2, aZ Y 2 f1), (h3, aZ Y 80 f3), (h4, aB Y 1600 f4), (h5, aI Y 200 f13), (h6, aI Y 800 f14)] sz) :=
  met_of (by decide +kernel) (Nat.le_of_ble_eq_true rfl) (fun p e s m args below meth c B hin hsz => by
    have B : VB p s m args meth c D Y (va_A [(h0, oC 13 [.ref h1, .ref h2, .int p2, .ref h3, .ref h4, .int (nI k5), .int (nI k6), .int p7, .int p8, .int p9, .int (nI k10), .int p11, .long q12, .ref h5, .ref h6, .int (nI k15), .int (nI k16)]), (h1, aI Y 3640 f0), (h2, aZ Y 2 f1), (h3, aZ Y 80 f3), (h4, aB Y 1600 f4), (h5, aI Y 200 f13), (h6, aI Y 800 f14)] sz) cX12_dropLate 1 RX12 none := B
    refine V_aload_n 0 B dX12_dropLate_0 0 rfl ?_
    refine V_get 1 B gf_RX12_9 0 rfl rfl dX12_dropLate_1 ?_
    refine V_bipush 4 B (v := 8) dX12_dropLate_4 (by decide +kernel) ?_
    have x0 : (gN f0 8) ≤ 3 := gN_le HI (by omega) (show bd 8 = (0, ((3 : Nat) : Int)) by decide +kernel)
    refine V_iald 6 B (v := (nI (gN f0 8))) 1 rfl (vpin _ _ (by decide +kernel)) dX12_dropLate_6 (by show f0 8 = _; exact gN_eq HI (by omega) (show bd 8 = (0, ((3 : Nat) : Int)) by decide +kernel)) ?_
    refine V_if_eq 7 B 43 dX12_dropLate_7 (by decide) (fun kk1 => ?_) (fun kk1 => ?_)
    ·
      have x2 := n_eq (a := (gN f0 8)) (b := 0) kk1 (by omega) (by omega)
      exact V_vret 43 B dX12_dropLate_43 (mkW [] [] [] [f0] [] []) HI rfl
    ·
      have x3 := n_ne (a := (gN f0 8)) (b := 0) kk1
      refine V_aload_n 10 B dX12_dropLate_10 0 rfl ?_
      refine V_get 11 B gf_RX12_9 0 rfl rfl dX12_dropLate_11 ?_
      refine V_iconst 14 B (v := 5) dX12_dropLate_14 (by decide +kernel) ?_
      refine V_iald 15 B (v := f0 (5)) 1 rfl (vpin _ _ (by decide +kernel)) dX12_dropLate_15 (by rfl) ?_
      refine V_nmi (fun j4 e5 => ?_)
      refine V_if_eq 16 B 43 dX12_dropLate_16 (by decide) (fun kk6 => ?_) (fun kk6 => ?_)
      ·
        obtain rfl : j4 = 0 := kk6
        have e8 : (0 : Int32).toInt = 0 := by decide +kernel
        exact V_vret 43 B dX12_dropLate_43 (mkW [] [] [] [f0] [] []) HI rfl
      ·
        have x9 := x_ne kk6
        rw [show (0 : Int32).toInt = 0 by decide +kernel] at x9
        refine V_aload_n 19 B dX12_dropLate_19 0 rfl ?_
        refine V_get 20 B gf_RX12_9 0 rfl rfl dX12_dropLate_20 ?_
        refine V_bipush 23 B (v := 9) dX12_dropLate_23 (by decide +kernel) ?_
        refine V_iald 25 B (v := f0 (9)) 1 rfl (vpin _ _ (by decide +kernel)) dX12_dropLate_25 (by rfl) ?_
        refine V_nmi (fun j10 e11 => ?_)
        refine V_aload_n 26 B dX12_dropLate_26 0 rfl ?_
        refine V_get 27 B gf_RX12_9 0 rfl rfl dX12_dropLate_27 ?_
        refine V_bipush 30 B (v := 10) dX12_dropLate_30 (by decide +kernel) ?_
        refine V_iald 32 B (v := f0 (10)) 1 rfl (vpin _ _ (by decide +kernel)) dX12_dropLate_32 (by rfl) ?_
        refine V_nmi (fun j12 e13 => ?_)
        refine V_isub 33 B dX12_dropLate_33 rfl ?_
        refine V_nmi (fun j14 e15 => ?_)
        refine V_aload_n 34 B dX12_dropLate_34 0 rfl ?_
        refine V_get 35 B gf_RX12_9 0 rfl rfl dX12_dropLate_35 ?_
        refine V_iconst 38 B (v := 5) dX12_dropLate_38 (by decide +kernel) ?_
        refine V_iald 39 B (v := f0 (5)) 1 rfl (vpin _ _ (by decide +kernel)) dX12_dropLate_39 (by rfl) ?_
        refine V_nmi (fun j16 e17 => ?_)
        refine V_icmp_ge 40 B 44 dX12_dropLate_40 (by decide) (fun kk18 => ?_) (fun kk18 => ?_)
        ·
          have x19 := x_le kk18
          refine V_aload_n 44 B dX12_dropLate_44 0 rfl ?_
          refine V_get 45 B gf_RX12_9 0 rfl rfl dX12_dropLate_45 ?_
          refine V_bipush 48 B (v := 8) dX12_dropLate_48 (by decide +kernel) ?_
          refine V_iconst 50 B (v := 0) dX12_dropLate_50 (by decide +kernel) ?_
          have hv20 : INV (upd f0 8 0) := INV_nat (v := 0) HI (show bd 8 = (0, ((3 : Nat) : Int)) by decide +kernel) (by omega) (by decide)
          refine V_iast 51 B 1 rfl (vpin _ _ (by decide +kernel)) dX12_dropLate_51 [(h0, oC 13 [.ref h1, .ref h2, .int p2, .ref h3, .ref h4, .int (nI k5), .int (nI k6), .int p7, .int p8, .int p9, .int (nI k10), .int p11, .long q12, .ref h5, .ref h6, .int (nI k15), .int (nI k16)]), (h1, aI Y 3640 (upd f0 8 0)), (h2, aZ Y 2 f1), (h3, aZ Y 80 f3), (h4, aB Y 1600 f4), (h5, aI Y 200 f13), (h6, aI Y 800 f14)] rfl ?_
          refine V_aload_n 52 B dX12_dropLate_52 0 rfl ?_
          refine V_get 53 B gf_RX12_9 0 rfl rfl dX12_dropLate_53 ?_
          refine V_bipush 56 B (v := 12) dX12_dropLate_56 (by decide +kernel) ?_
          refine V_dup2_11 58 B dX12_dropLate_58 rfl rfl ?_
          refine V_iald 59 B (v := f0 (12)) 1 rfl (vpin _ _ (by decide +kernel)) dX12_dropLate_59 (by show (upd f0 8 0) 12 = _; rw [upd_ne (by omega)]) ?_
          refine V_nmi (fun j21 e22 => ?_)
          refine V_iconst 60 B (v := 1) dX12_dropLate_60 (by decide +kernel) ?_
          refine V_iadd 61 B dX12_dropLate_61 rfl ?_
          refine V_nmi (fun j23 e24 => ?_)
          have hv25 : INV (upd (upd f0 8 0) 12 j23) := INV_free hv20 (show bd 12 = FREE by decide +kernel)
          refine V_iast 62 B 1 rfl (vpin _ _ (by decide +kernel)) dX12_dropLate_62 [(h0, oC 13 [.ref h1, .ref h2, .int p2, .ref h3, .ref h4, .int (nI k5), .int (nI k6), .int p7, .int p8, .int p9, .int (nI k10), .int p11, .long q12, .ref h5, .ref h6, .int (nI k15), .int (nI k16)]), (h1, aI Y 3640 (upd (upd f0 8 0) 12 j23)), (h2, aZ Y 2 f1), (h3, aZ Y 80 f3), (h4, aB Y 1600 f4), (h5, aI Y 200 f13), (h6, aI Y 800 f14)] rfl ?_
          exact V_vret 63 B dX12_dropLate_63 (mkW [] [] [] [(upd (upd f0 8 0) 12 j23)] [] []) hv25 rfl
        ·
          have x26 := x_nle kk18
          exact V_vret 43 B dX12_dropLate_43 (mkW [] [] [] [f0] [] []) HI rfl)
