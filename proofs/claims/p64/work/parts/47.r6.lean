theorem dX12_isReached_0 : decode cX12_isReached 0 = .ok (.iconst 0, 1) := by decide +kernel
theorem dX12_isReached_1 : decode cX12_isReached 1 = .ok (.istore_n 3, 1) := by decide +kernel
theorem dX12_isReached_2 : decode cX12_isReached 2 = .ok (.iload_n 3, 1) := by decide +kernel
theorem dX12_isReached_3 : decode cX12_isReached 3 = .ok (.aload_n 0, 1) := by decide +kernel
theorem dX12_isReached_4 : decode cX12_isReached 4 = .ok (.getfield 9, 3) := by decide +kernel
theorem dX12_isReached_7 : decode cX12_isReached 7 = .ok (.iconst 3, 1) := by decide +kernel
theorem dX12_isReached_8 : decode cX12_isReached 8 = .ok (.iaload, 1) := by decide +kernel
theorem dX12_isReached_9 : decode cX12_isReached 9 = .ok (.if_icmp .ge 29, 3) := by decide +kernel
theorem dX12_isReached_38 : decode cX12_isReached 38 = .ok (.iconst 0, 1) := by decide +kernel
theorem dX12_isReached_39 : decode cX12_isReached 39 = .ok (.ireturn, 1) := by decide +kernel
theorem dX12_isReached_12 : decode cX12_isReached 12 = .ok (.aload_n 0, 1) := by decide +kernel
theorem dX12_isReached_13 : decode cX12_isReached 13 = .ok (.iload_n 3, 1) := by decide +kernel
theorem dX12_isReached_14 : decode cX12_isReached 14 = .ok (.invokevirtual 96, 3) := by decide +kernel
theorem dX12_isReached_17 : decode cX12_isReached 17 = .ok (.iload_n 2, 1) := by decide +kernel
theorem dX12_isReached_18 : decode cX12_isReached 18 = .ok (.if_icmp .ne 14, 3) := by decide +kernel
theorem dX12_isReached_32 : decode cX12_isReached 32 = .ok (.iinc 3 1, 3) := by decide +kernel
theorem dX12_isReached_35 : decode cX12_isReached 35 = .ok (.goto (-33), 3) := by decide +kernel
theorem dX12_isReached_21 : decode cX12_isReached 21 = .ok (.aload_n 0, 1) := by decide +kernel
theorem dX12_isReached_22 : decode cX12_isReached 22 = .ok (.iload_n 1, 1) := by decide +kernel
theorem dX12_isReached_23 : decode cX12_isReached 23 = .ok (.iload_n 3, 1) := by decide +kernel
theorem dX12_isReached_24 : decode cX12_isReached 24 = .ok (.invokevirtual 154, 3) := by decide +kernel
theorem dX12_isReached_27 : decode cX12_isReached 27 = .ok (.ifCond .eq 5, 3) := by decide +kernel
theorem dX12_isReached_30 : decode cX12_isReached 30 = .ok (.iconst 1, 1) := by decide +kernel
theorem dX12_isReached_31 : decode cX12_isReached 31 = .ok (.ireturn, 1) := by decide +kernel
set_option maxRecDepth 100000 in
set_option maxHeartbeats 4000000 in
theorem rX12_isReached (l : Launch) (D : va_G) (Y : Nat → ClassId) (h0 : Nat) (h1 : Nat) (h2 : Nat) (h3 : Nat) (h4 : Nat) (h5 : Nat) (h6 : Nat) (p2 : Int32) (k5 : Nat) (k6 : Nat) (p7 : Int32) (p8 : Int32) (p9 : Int32) (k10 : Nat) (p11 : Int32) (q12 : Int64) (k15 : Nat) (k16 : Nat) (f0 : Nat → Int32) (f1 : Nat → Int32) (f3 : Nat → Int32) (f4 : Nat → Int32) (f13 : Nat → Int32) (f14 : Nat → Int32) (ph : Nat → Int32) (HI : INV ph f0) (HL : k5 ≤ 1600) (HP : PLV f13) (s0 : Int32) (s1 : Int32) (hm0 : -1 ≤ s0.toInt ∧ s0.toInt ≤ 5) (sz : Nat) : Met l yX12_isReached (WSm yX12_isReached cX12_isReached 4 (some .boolean)) (mkR 5 0 0 113) (PreC D Y [.ref h0, .int s0, .int s1] [(h0, oC 13 [.ref h1, .ref h2, .int p2, .ref h3, .ref h4, .int (nI k5), .int (nI k6), .int p7, .int p8, .int p9, .int (nI k10), .int p11, .long q12, .ref h5, .ref h6, .int (nI k15), .int (nI k16)]), (h1, aI Y 3640 f0), (h2, aZ Y 2 f1), (h3, aZ Y 80 f3), (h4, aB Y 1600 f4), (h5, aI Y 200 f13), (h6, aI Y 800 f14)] sz) (QI D (fun (r : Int32) (u : WU) => (r = 0 ∨ r = 1)) (fun (u : WU) => [(h0, oC 13 [.ref h1, .ref h2, .int p2, .ref h3, .ref h4, .int (nI k5), .int (nI k6), .int p7, .int p8, .int p9, .int (nI k10), .int p11, .long q12, .ref h5, .ref h6, .int (nI k15), .int (nI k16)]), (h1, aI Y 3640 f0), (h2, aZ Y 2 f1), (h3, aZ Y 80 f3), (h4, aB Y 1600 f4), (h5, aI Y 200 f13), (h6, aI Y 800 f14)]) (va_A [(h0, oC 13 [.ref h1, .ref h2, .int p2, .ref h3, .ref h4, .int (nI k5), .int (nI k6), .int p7, .int p8, .int p9, .int (nI k10), .int p11, .long q12, .ref h5, .ref h6, .int (nI k15), .int (nI k16)]), (h1, aI Y 3640 f0), (h2, aZ Y 2 f1), (h3, aZ Y 80 f3), (h4, aB Y 1600 f4), (h5, aI Y 200 f13), (h6, aI Y 800 f14)] sz)) 0 0 (va_A [(h0, oC 13 [.ref h1, .ref h2, .int p2, .ref h3, .ref h4, .int (nI k5), .int (nI k6), .int p7, .int p8, .int p9, .int (nI k10), .int p11, .long q12, .ref h5, .ref h6, .int (nI k15), .int (nI k16)]), (h1, aI Y 3640 f0), (h2, aZ Y 2 f1), (h3, aZ Y 80 f3), (h4, aB Y 1600 f4), (h5, aI Y 200 f13), (h6, aI Y 800 f14)] sz) :=
  met_of  (by decide +kernel) (Nat.le_of_ble_eq_true rfl) (fun p e s m args below meth c B hin hsz => by
    have B : VB p s m args meth c D Y (va_A [(h0, oC 13 [.ref h1, .ref h2, .int p2, .ref h3, .ref h4, .int (nI k5), .int (nI k6), .int p7, .int p8, .int p9, .int (nI k10), .int p11, .long q12, .ref h5, .ref h6, .int (nI k15), .int (nI k16)]), (h1, aI Y 3640 f0), (h2, aZ Y 2 f1), (h3, aZ Y 80 f3), (h4, aB Y 1600 f4), (h5, aI Y 200 f13), (h6, aI Y 800 f14)] sz) cX12_isReached 4 RX12 (some .boolean) := B
    refine V_iconst 0 B (v := 0) dX12_isReached_0 (by decide +kernel) ?_
    refine V_istore_n 1 B (lv2 := [(3, .int 0), (0, .ref h0), (1, .int s0), (2, .int s1)]) dX12_isReached_1 (by decide) rfl ?_
    refine V_wloop (α := WU) (fun a => 100000 - (a.1 0)) (fun a => (a.1 0) ≤ 4000) (fun a => [(3, .int (nI (a.1 0))), (0, .ref h0), (1, .int s0), (2, .int s1)]) (fun a => [(h0, oC 13 [.ref h1, .ref h2, .int p2, .ref h3, .ref h4, .int (nI k5), .int (nI k6), .int p7, .int p8, .int p9, .int (nI k10), .int p11, .long q12, .ref h5, .ref h6, .int (nI k15), .int (nI k16)]), (h1, aI Y 3640 f0), (h2, aZ Y 2 f1), (h3, aZ Y 80 f3), (h4, aB Y 1600 f4), (h5, aI Y 200 f13), (h6, aI Y 800 f14)]) (mkW [0] [] [] [] [] []) (show 0 ≤ 4000 by omega) rfl rfl (fun a0 hI2 IH1 => ?_)
    refine V_lv [(3, .int (nI (a0.1 0))), (0, .ref h0), (1, .int s0), (2, .int s1)] [0, 1, 2, 3] rfl ?_
    refine V_ws [(h0, oC 13 [.ref h1, .ref h2, .int p2, .ref h3, .ref h4, .int (nI k5), .int (nI k6), .int p7, .int p8, .int p9, .int (nI k10), .int p11, .long q12, .ref h5, .ref h6, .int (nI k15), .int (nI k16)]), (h1, aI Y 3640 f0), (h2, aZ Y 2 f1), (h3, aZ Y 80 f3), (h4, aB Y 1600 f4), (h5, aI Y 200 f13), (h6, aI Y 800 f14)] rfl ?_
    have x3 := hI2
    refine V_iload_n 2 B dX12_isReached_2 0 rfl ?_
    refine V_aload_n 3 B dX12_isReached_3 1 rfl ?_
    refine V_get 4 B gf_RX12_9 0 rfl rfl dX12_isReached_4 ?_
    refine V_iconst 7 B (v := 3) dX12_isReached_7 (by decide +kernel) ?_
    have x4 : (gN f0 3) ≤ 80 := gN_le HI (by omega) (show bd 3 = (0, ((80 : Nat) : Int)) by decide +kernel)
    refine V_iald 8 B (v := (nI (gN f0 3))) 1 rfl (vpin _ _ (by decide +kernel)) dX12_isReached_8 (by show f0 3 = _; exact gN_eq HI (by omega) (show bd 3 = (0, ((80 : Nat) : Int)) by decide +kernel)) ?_
    refine V_icmp_ge 9 B 38 dX12_isReached_9 (by decide) (fun kk5 => ?_) (fun kk5 => ?_)
    ·
      have x6 := n_le (a := (gN f0 3)) (b := (a0.1 0)) kk5 (by omega) (by omega)
      refine V_iconst 38 B (v := 0) dX12_isReached_38 (by decide +kernel) ?_
      exact V_zret 39 B rfl dX12_isReached_39 (mkW [] [] [] [] [] []) (Or.inl rfl) rfl
    ·
      have x7 := n_nle (a := (gN f0 3)) (b := (a0.1 0)) kk5 (by omega) (by omega)
      refine V_aload_n 12 B dX12_isReached_12 1 rfl ?_
      refine V_iload_n 13 B dX12_isReached_13 0 rfl ?_
      refine V_cvi 14 B (st := []) (As := [.int (nI (a0.1 0))]) (fun sz => rX12_commandOf l D Y h0 h1 h2 h3 h4 h5 h6 p2 k5 k6 p7 p8 p9 k10 p11 q12 k15 k16 f0 f1 f3 f4 f13 f14 ph HI (by omega) HP (a0.1 0) (by omega) sz) glV_RX12_96 ⟨rfl, rfl⟩ ⟨(Nat.le_of_ble_eq_true rfl), (Nat.le_of_ble_eq_true rfl)⟩ ⟨(Nat.le_of_ble_eq_true rfl), (Nat.le_of_ble_eq_true rfl)⟩ [0, 0, 0, 0, 0, 0, 0] rfl 13 0 rfl rfl rfl rfl (Nat.le_of_ble_eq_true rfl) rfl (fun _ _ _ => rfl) dX12_isReached_14 (fun j8 u9 w10 => ?_)
      refine V_ws [(h0, oC 13 [.ref h1, .ref h2, .int p2, .ref h3, .ref h4, .int (nI k5), .int (nI k6), .int p7, .int p8, .int p9, .int (nI k10), .int p11, .long q12, .ref h5, .ref h6, .int (nI k15), .int (nI k16)]), (h1, aI Y 3640 f0), (h2, aZ Y 2 f1), (h3, aZ Y 80 f3), (h4, aB Y 1600 f4), (h5, aI Y 200 f13), (h6, aI Y 800 f14)] rfl ?_
      have x11 := w10
      clear w10
      obtain rfl := x11
      have x12 : (gN f0 (185 + 7 * (a0.1 0))) ≤ 39 := gN_le HI (by omega) (rl2 (a0.1 0) (by omega))
      refine V_iload_n 17 B dX12_isReached_17 3 rfl ?_
      refine V_icmp_ne 18 B 32 dX12_isReached_18 (by decide) (fun kk13 => ?_) (fun kk13 => ?_)
      ·
        have x14 := x_ne kk13
        rw [nI_toInt (show (gN f0 (185 + 7 * (a0.1 0))) < 2 ^ 31 by omega)] at x14
        refine V_iinc 32 B (v := (nI (1 + (a0.1 0)))) (lv2 := [(3, .int (nI (1 + (a0.1 0)))), (0, .ref h0), (1, .int s0), (2, .int s1)]) dX12_isReached_32 0 rfl (nI_addE (a := (a0.1 0)) (b := 1) (by omega)) (by decide) rfl ?_
        refine V_goto 35 B 2 dX12_isReached_35 (by decide) ?_
        refine V_lv [(3, .int (nI (1 + (a0.1 0)))), (0, .ref h0), (1, .int s0), (2, .int s1)] [0, 1, 2, 3] rfl ?_
        exact IH1 (mkW [1 + (a0.1 0)] [] [] [] [] []) (show 1 + (a0.1 0) ≤ 4000 by omega) (by show 100000 - (1 + (a0.1 0)) < 100000 - (a0.1 0); omega)
      ·
        have x15 := x_eq kk13
        rw [nI_toInt (show (gN f0 (185 + 7 * (a0.1 0))) < 2 ^ 31 by omega)] at x15
        refine V_aload_n 21 B dX12_isReached_21 1 rfl ?_
        refine V_iload_n 22 B dX12_isReached_22 2 rfl ?_
        refine V_iload_n 23 B dX12_isReached_23 0 rfl ?_
        refine V_cvi 24 B (st := []) (As := [.int s0, .int (nI (a0.1 0))]) (fun sz => rX12_isVisible l D Y h0 h1 h2 h3 h4 h5 h6 p2 k5 k6 p7 p8 p9 k10 p11 q12 k15 k16 f0 f1 f3 f4 f13 f14 ph HI (by omega) HP s0 (a0.1 0) (by omega) (by omega) sz) glV_RX12_154 ⟨rfl, rfl⟩ ⟨(Nat.le_of_ble_eq_true rfl), (Nat.le_of_ble_eq_true rfl)⟩ ⟨(Nat.le_of_ble_eq_true rfl), (Nat.le_of_ble_eq_true rfl)⟩ [0, 0, 0, 0, 0, 0, 0] rfl 13 0 rfl rfl rfl rfl (Nat.le_of_ble_eq_true rfl) rfl (fun _ _ _ => rfl) dX12_isReached_24 (fun j16 u17 w18 => ?_)
        refine V_ws [(h0, oC 13 [.ref h1, .ref h2, .int p2, .ref h3, .ref h4, .int (nI k5), .int (nI k6), .int p7, .int p8, .int p9, .int (nI k10), .int p11, .long q12, .ref h5, .ref h6, .int (nI k15), .int (nI k16)]), (h1, aI Y 3640 f0), (h2, aZ Y 2 f1), (h3, aZ Y 80 f3), (h4, aB Y 1600 f4), (h5, aI Y 200 f13), (h6, aI Y 800 f14)] rfl ?_
        have x19 := w18
        clear w18
        rcases x19 with ⟨rfl, x20⟩ | ⟨rfl, x20⟩
        ·
          refine V_if_eq_t 27 B 32 dX12_isReached_27 (by decide) (by decide +kernel) ?_
          refine V_iinc 32 B (v := (nI (1 + (a0.1 0)))) (lv2 := [(3, .int (nI (1 + (a0.1 0)))), (0, .ref h0), (1, .int s0), (2, .int s1)]) dX12_isReached_32 0 rfl (nI_addE (a := (a0.1 0)) (b := 1) (by omega)) (by decide) rfl ?_
          refine V_goto 35 B 2 dX12_isReached_35 (by decide) ?_
          refine V_lv [(3, .int (nI (1 + (a0.1 0)))), (0, .ref h0), (1, .int s0), (2, .int s1)] [0, 1, 2, 3] rfl ?_
          exact IH1 (mkW [1 + (a0.1 0)] [] [] [] [] []) (show 1 + (a0.1 0) ≤ 4000 by omega) (by show 100000 - (1 + (a0.1 0)) < 100000 - (a0.1 0); omega)
        ·
          refine V_if_eq_f 27 B 32 dX12_isReached_27 (by decide) (by decide +kernel) ?_
          refine V_iconst 30 B (v := 1) dX12_isReached_30 (by decide +kernel) ?_
          exact V_zret 31 B rfl dX12_isReached_31 (mkW [] [] [] [] [] []) (Or.inr rfl) rfl)
theorem dX12_reachable_0 : decode cX12_reachable 0 = .ok (.aload_n 0, 1) := by decide +kernel
theorem dX12_reachable_1 : decode cX12_reachable 1 = .ok (.iconst 0, 1) := by decide +kernel
theorem dX12_reachable_2 : decode cX12_reachable 2 = .ok (.putfield 38, 3) := by decide +kernel
theorem dX12_reachable_5 : decode cX12_reachable 5 = .ok (.aload_n 0, 1) := by decide +kernel
theorem dX12_reachable_6 : decode cX12_reachable 6 = .ok (.aload_n 0, 1) := by decide +kernel
theorem dX12_reachable_7 : decode cX12_reachable 7 = .ok (.iload_n 1, 1) := by decide +kernel
theorem dX12_reachable_8 : decode cX12_reachable 8 = .ok (.invokevirtual 91, 3) := by decide +kernel
theorem dX12_reachable_11 : decode cX12_reachable 11 = .ok (.ifCond .ne 7, 3) := by decide +kernel
theorem dX12_reachable_14 : decode cX12_reachable 14 = .ok (.iconst 1, 1) := by decide +kernel
theorem dX12_reachable_15 : decode cX12_reachable 15 = .ok (.goto 4, 3) := by decide +kernel
theorem dX12_reachable_19 : decode cX12_reachable 19 = .ok (.iconst 1, 1) := by decide +kernel
theorem dX12_reachable_20 : decode cX12_reachable 20 = .ok (.invokevirtual 69, 3) := by decide +kernel
theorem dX12_reachable_23 : decode cX12_reachable 23 = .ok (.ifCond .eq 5, 3) := by decide +kernel
theorem dX12_reachable_26 : decode cX12_reachable 26 = .ok (.iconst 0, 1) := by decide +kernel
theorem dX12_reachable_27 : decode cX12_reachable 27 = .ok (.ireturn, 1) := by decide +kernel
theorem dX12_reachable_18 : decode cX12_reachable 18 = .ok (.iconst 0, 1) := by decide +kernel
theorem dX12_reachable_28 : decode cX12_reachable 28 = .ok (.iconst 0, 1) := by decide +kernel
theorem dX12_reachable_29 : decode cX12_reachable 29 = .ok (.istore_n 2, 1) := by decide +kernel
theorem dX12_reachable_30 : decode cX12_reachable 30 = .ok (.iconst 0, 1) := by decide +kernel
theorem dX12_reachable_31 : decode cX12_reachable 31 = .ok (.istore_n 3, 1) := by decide +kernel
theorem dX12_reachable_32 : decode cX12_reachable 32 = .ok (.iload_n 3, 1) := by decide +kernel
theorem dX12_reachable_33 : decode cX12_reachable 33 = .ok (.aload_n 0, 1) := by decide +kernel
theorem dX12_reachable_34 : decode cX12_reachable 34 = .ok (.getfield 9, 3) := by decide +kernel
theorem dX12_reachable_37 : decode cX12_reachable 37 = .ok (.iconst 1, 1) := by decide +kernel
theorem dX12_reachable_38 : decode cX12_reachable 38 = .ok (.iaload, 1) := by decide +kernel
theorem dX12_reachable_39 : decode cX12_reachable 39 = .ok (.if_icmp .ge 26, 3) := by decide +kernel
theorem dX12_reachable_65 : decode cX12_reachable 65 = .ok (.iload_n 2, 1) := by decide +kernel
theorem dX12_reachable_66 : decode cX12_reachable 66 = .ok (.ireturn, 1) := by decide +kernel
theorem dX12_reachable_42 : decode cX12_reachable 42 = .ok (.iload_n 2, 1) := by decide +kernel
theorem dX12_reachable_43 : decode cX12_reachable 43 = .ok (.aload_n 0, 1) := by decide +kernel
theorem dX12_reachable_44 : decode cX12_reachable 44 = .ok (.iload_n 1, 1) := by decide +kernel
theorem dX12_reachable_45 : decode cX12_reachable 45 = .ok (.iload_n 3, 1) := by decide +kernel
theorem dX12_reachable_46 : decode cX12_reachable 46 = .ok (.invokevirtual 169, 3) := by decide +kernel
theorem glV_RX12_169 : GLV RX12 169 yX12_isReached RX12 cX12_isReached 4 (some .boolean) 2 := ⟨⟨(mT8 212 rfl rfl), (mT8 214 rfl rfl), (mTs 58 rfl rfl), (mT1 13 rfl rfl), (mT8 215 rfl rfl)⟩, by decide +kernel⟩
theorem dX12_reachable_49 : decode cX12_reachable 49 = .ok (.ifCond .eq 7, 3) := by decide +kernel
theorem dX12_reachable_56 : decode cX12_reachable 56 = .ok (.iconst 0, 1) := by decide +kernel
theorem dX12_reachable_57 : decode cX12_reachable 57 = .ok (.iadd, 1) := by decide +kernel
theorem dX12_reachable_58 : decode cX12_reachable 58 = .ok (.istore_n 2, 1) := by decide +kernel
theorem dX12_reachable_59 : decode cX12_reachable 59 = .ok (.iinc 3 1, 3) := by decide +kernel
theorem dX12_reachable_62 : decode cX12_reachable 62 = .ok (.goto (-30), 3) := by decide +kernel
theorem dX12_reachable_52 : decode cX12_reachable 52 = .ok (.iconst 1, 1) := by decide +kernel
theorem dX12_reachable_53 : decode cX12_reachable 53 = .ok (.goto 4, 3) := by decide +kernel
set_option maxRecDepth 100000 in
set_option maxHeartbeats 4000000 in
theorem rX12_reachable (l : Launch) (D : va_G) (Y : Nat → ClassId) (h0 : Nat) (h1 : Nat) (h2 : Nat) (h3 : Nat) (h4 : Nat) (h5 : Nat) (h6 : Nat) (p2 : Int32) (k5 : Nat) (k6 : Nat) (p7 : Int32) (p8 : Int32) (p9 : Int32) (k10 : Nat) (p11 : Int32) (q12 : Int64) (k15 : Nat) (k16 : Nat) (f0 : Nat → Int32) (f1 : Nat → Int32) (f3 : Nat → Int32) (f4 : Nat → Int32) (f13 : Nat → Int32) (f14 : Nat → Int32) (ph : Nat → Int32) (HI : INV ph f0) (HL : k5 ≤ 1600) (HP : PLV f13) (s0 : Int32)  (sz : Nat) : Met l yX12_reachable (WSm yX12_reachable cX12_reachable 4 (some .int)) (mkR 6 0 0 136) (PreC D Y [.ref h0, .int s0] [(h0, oC 13 [.ref h1, .ref h2, .int p2, .ref h3, .ref h4, .int (nI k5), .int (nI k6), .int p7, .int p8, .int p9, .int (nI k10), .int p11, .long q12, .ref h5, .ref h6, .int (nI k15), .int (nI k16)]), (h1, aI Y 3640 f0), (h2, aZ Y 2 f1), (h3, aZ Y 80 f3), (h4, aB Y 1600 f4), (h5, aI Y 200 f13), (h6, aI Y 800 f14)] sz) (QI D (fun (r : Int32) (u : WU) => True) (fun (u : WU) => [(h0, oC 13 [.ref h1, .ref h2, .int (u.2.1 0), .ref h3, .ref h4, .int (nI k5), .int (nI k6), .int p7, .int p8, .int p9, .int (nI k10), .int p11, .long q12, .ref h5, .ref h6, .int (nI k15), .int (nI k16)]), (h1, aI Y 3640 f0), (h2, aZ Y 2 f1), (h3, aZ Y 80 f3), (h4, aB Y 1600 f4), (h5, aI Y 200 f13), (h6, aI Y 800 f14)]) (va_A [(h0, oC 13 [.ref h1, .ref h2, .int p2, .ref h3, .ref h4, .int (nI k5), .int (nI k6), .int p7, .int p8, .int p9, .int (nI k10), .int p11, .long q12, .ref h5, .ref h6, .int (nI k15), .int (nI k16)]), (h1, aI Y 3640 f0), (h2, aZ Y 2 f1), (h3, aZ Y 80 f3), (h4, aB Y 1600 f4), (h5, aI Y 200 f13), (h6, aI Y 800 f14)] sz)) 0 0 (va_A [(h0, oC 13 [.ref h1, .ref h2, .int p2, .ref h3, .ref h4, .int (nI k5), .int (nI k6), .int p7, .int p8, .int p9, .int (nI k10), .int p11, .long q12, .ref h5, .ref h6, .int (nI k15), .int (nI k16)]), (h1, aI Y 3640 f0), (h2, aZ Y 2 f1), (h3, aZ Y 80 f3), (h4, aB Y 1600 f4), (h5, aI Y 200 f13), (h6, aI Y 800 f14)] sz) :=
  met_of  (by decide +kernel) (Nat.le_of_ble_eq_true rfl) (fun p e s m args below meth c B hin hsz => by
    have B : VB p s m args meth c D Y (va_A [(h0, oC 13 [.ref h1, .ref h2, .int p2, .ref h3, .ref h4, .int (nI k5), .int (nI k6), .int p7, .int p8, .int p9, .int (nI k10), .int p11, .long q12, .ref h5, .ref h6, .int (nI k15), .int (nI k16)]), (h1, aI Y 3640 f0), (h2, aZ Y 2 f1), (h3, aZ Y 80 f3), (h4, aB Y 1600 f4), (h5, aI Y 200 f13), (h6, aI Y 800 f14)] sz) cX12_reachable 4 RX12 (some .int) := B
    refine V_aload_n 0 B dX12_reachable_0 0 rfl ?_
    refine V_iconst 1 B (v := 0) dX12_reachable_1 (by decide +kernel) ?_
    refine V_put 2 B gp_RX12_38 0 rfl (Nat.le_of_ble_eq_true rfl) rfl rfl dX12_reachable_2 [(h0, oC 13 [.ref h1, .ref h2, .int 0, .ref h3, .ref h4, .int (nI k5), .int (nI k6), .int p7, .int p8, .int p9, .int (nI k10), .int p11, .long q12, .ref h5, .ref h6, .int (nI k15), .int (nI k16)]), (h1, aI Y 3640 f0), (h2, aZ Y 2 f1), (h3, aZ Y 80 f3), (h4, aB Y 1600 f4), (h5, aI Y 200 f13), (h6, aI Y 800 f14)] rfl ?_
    refine V_aload_n 5 B dX12_reachable_5 0 rfl ?_
    refine V_aload_n 6 B dX12_reachable_6 0 rfl ?_
    refine V_iload_n 7 B dX12_reachable_7 1 rfl ?_
    refine V_cvi 8 B (st := [.ref h0]) (As := [.int s0]) (fun sz => rX12_isMode l D Y h0 h1 h2 h3 h4 h5 h6 0 k5 k6 p7 p8 p9 k10 p11 q12 k15 k16 f0 f1 f3 f4 f13 f14 ph HI (by omega) HP s0 sz) glV_RX12_91 ⟨rfl, rfl⟩ ⟨(Nat.le_of_ble_eq_true rfl), (Nat.le_of_ble_eq_true rfl)⟩ ⟨(Nat.le_of_ble_eq_true rfl), (Nat.le_of_ble_eq_true rfl)⟩ [0, 0, 0, 0, 0, 0, 0] rfl 13 0 rfl rfl rfl rfl (Nat.le_of_ble_eq_true rfl) rfl (fun _ _ _ => rfl) dX12_reachable_8 (fun j0 u1 w2 => ?_)
    refine V_ws [(h0, oC 13 [.ref h1, .ref h2, .int 0, .ref h3, .ref h4, .int (nI k5), .int (nI k6), .int p7, .int p8, .int p9, .int (nI k10), .int p11, .long q12, .ref h5, .ref h6, .int (nI k15), .int (nI k16)]), (h1, aI Y 3640 f0), (h2, aZ Y 2 f1), (h3, aZ Y 80 f3), (h4, aB Y 1600 f4), (h5, aI Y 200 f13), (h6, aI Y 800 f14)] rfl ?_
    have x3 := w2
    clear w2
    have x7 : (gN f0 0) ≤ 6 := gN_le HI (by omega) (show bd 0 = (0, ((6 : Nat) : Int)) by decide +kernel)
    rcases x3 with rfl | ⟨rfl, n4, rfl, x6⟩
    ·
      refine V_if_ne_f 11 B 18 dX12_reachable_11 (by decide) (by decide +kernel) ?_
      refine V_iconst 14 B (v := 1) dX12_reachable_14 (by decide +kernel) ?_
      refine V_goto 15 B 19 dX12_reachable_15 (by decide) ?_
      refine V_iconst 19 B (v := 1) dX12_reachable_19 (by decide +kernel) ?_
      refine V_cvi 20 B (st := []) (As := [.int 1, .int 1]) (fun sz => rX12_throwsIf_1 l D Y h0 h1 h2 h3 h4 h5 h6 0 k5 k6 p7 p8 p9 k10 p11 q12 k15 k16 f0 f1 f3 f4 f13 f14 ph HI (by omega) HP 1 sz) glV_RX12_69 ⟨rfl, rfl⟩ ⟨(Nat.le_of_ble_eq_true rfl), (Nat.le_of_ble_eq_true rfl)⟩ ⟨(Nat.le_of_ble_eq_true rfl), (Nat.le_of_ble_eq_true rfl)⟩ [0, 0, 0, 0, 0, 0, 0] rfl 13 0 rfl rfl rfl rfl (Nat.le_of_ble_eq_true rfl) rfl (fun _ _ _ => rfl) dX12_reachable_20 (fun j8 u9 w10 => ?_)
      refine V_ws [(h0, oC 13 [.ref h1, .ref h2, .int (u9.2.1 0), .ref h3, .ref h4, .int (nI k5), .int (nI k6), .int p7, .int p8, .int p9, .int (nI k10), .int p11, .long q12, .ref h5, .ref h6, .int (nI k15), .int (nI k16)]), (h1, aI Y 3640 f0), (h2, aZ Y 2 f1), (h3, aZ Y 80 f3), (h4, aB Y 1600 f4), (h5, aI Y 200 f13), (h6, aI Y 800 f14)] rfl ?_
      have x11 := w10
      clear w10
      obtain rfl := x11
      refine V_if_eq_f 23 B 28 dX12_reachable_23 (by decide) (by decide +kernel) ?_
      refine V_iconst 26 B (v := 0) dX12_reachable_26 (by decide +kernel) ?_
      exact V_iret 27 B dX12_reachable_27 (mkW [] [(u9.2.1 0)] [] [] [] []) trivial rfl
    ·
      have e12 := nI_toInt (show n4 < 2 ^ 31 by omega)
      have x13 : (gN f0 0) ≤ 6 := gN_le HI (by omega) (show bd 0 = (0, ((6 : Nat) : Int)) by decide +kernel)
      refine V_if_ne_t 11 B 18 dX12_reachable_11 (by decide) (by decide +kernel) ?_
      refine V_iconst 18 B (v := 0) dX12_reachable_18 (by decide +kernel) ?_
      refine V_iconst 19 B (v := 1) dX12_reachable_19 (by decide +kernel) ?_
      refine V_cvi 20 B (st := []) (As := [.int 0, .int 1]) (fun sz => rX12_throwsIf_0 l D Y h0 h1 h2 h3 h4 h5 h6 0 k5 k6 p7 p8 p9 k10 p11 q12 k15 k16 f0 f1 f3 f4 f13 f14 ph HI (by omega) HP 1 sz) glV_RX12_69 ⟨rfl, rfl⟩ ⟨(Nat.le_of_ble_eq_true rfl), (Nat.le_of_ble_eq_true rfl)⟩ ⟨(Nat.le_of_ble_eq_true rfl), (Nat.le_of_ble_eq_true rfl)⟩ [0, 0, 0, 0, 0, 0, 0] rfl 13 0 rfl rfl rfl rfl (Nat.le_of_ble_eq_true rfl) rfl (fun _ _ _ => rfl) dX12_reachable_20 (fun j14 u15 w16 => ?_)
      refine V_ws [(h0, oC 13 [.ref h1, .ref h2, .int (u15.2.1 0), .ref h3, .ref h4, .int (nI k5), .int (nI k6), .int p7, .int p8, .int p9, .int (nI k10), .int p11, .long q12, .ref h5, .ref h6, .int (nI k15), .int (nI k16)]), (h1, aI Y 3640 f0), (h2, aZ Y 2 f1), (h3, aZ Y 80 f3), (h4, aB Y 1600 f4), (h5, aI Y 200 f13), (h6, aI Y 800 f14)] rfl ?_
      have x17 := w16
      clear w16
      obtain rfl := x17
      refine V_if_eq_t 23 B 28 dX12_reachable_23 (by decide) (by decide +kernel) ?_
      refine V_iconst 28 B (v := 0) dX12_reachable_28 (by decide +kernel) ?_
      refine V_istore_n 29 B (lv2 := [(2, .int 0), (0, .ref h0), (1, .int (nI n4))]) dX12_reachable_29 (by decide) rfl ?_
      refine V_iconst 30 B (v := 0) dX12_reachable_30 (by decide +kernel) ?_
      refine V_istore_n 31 B (lv2 := [(3, .int 0), (2, .int 0), (0, .ref h0), (1, .int (nI n4))]) dX12_reachable_31 (by decide) rfl ?_
      refine V_wloop (α := WU) (fun a => 100000 - (a.1 0)) (fun a => (a.1 0) ≤ 4000) (fun a => [(3, .int (nI (a.1 0))), (2, .int (a.2.1 0)), (0, .ref h0), (1, .int (nI n4))]) (fun a => [(h0, oC 13 [.ref h1, .ref h2, .int (u15.2.1 0), .ref h3, .ref h4, .int (nI k5), .int (nI k6), .int p7, .int p8, .int p9, .int (nI k10), .int p11, .long q12, .ref h5, .ref h6, .int (nI k15), .int (nI k16)]), (h1, aI Y 3640 f0), (h2, aZ Y 2 f1), (h3, aZ Y 80 f3), (h4, aB Y 1600 f4), (h5, aI Y 200 f13), (h6, aI Y 800 f14)]) (mkW [0] [0] [] [] [] []) (show 0 ≤ 4000 by omega) rfl rfl (fun a18 hI20 IH19 => ?_)
      refine V_lv [(3, .int (nI (a18.1 0))), (2, .int (a18.2.1 0)), (0, .ref h0), (1, .int (nI n4))] [0, 1, 2, 3] rfl ?_
      refine V_ws [(h0, oC 13 [.ref h1, .ref h2, .int (u15.2.1 0), .ref h3, .ref h4, .int (nI k5), .int (nI k6), .int p7, .int p8, .int p9, .int (nI k10), .int p11, .long q12, .ref h5, .ref h6, .int (nI k15), .int (nI k16)]), (h1, aI Y 3640 f0), (h2, aZ Y 2 f1), (h3, aZ Y 80 f3), (h4, aB Y 1600 f4), (h5, aI Y 200 f13), (h6, aI Y 800 f14)] rfl ?_
      have x21 := hI20
      refine V_iload_n 32 B dX12_reachable_32 0 rfl ?_
      refine V_aload_n 33 B dX12_reachable_33 2 rfl ?_
      refine V_get 34 B gf_RX12_9 0 rfl rfl dX12_reachable_34 ?_
      refine V_iconst 37 B (v := 1) dX12_reachable_37 (by decide +kernel) ?_
      have x22 : (gN f0 1) ≤ 40 := gN_le HI (by omega) (show bd 1 = (0, ((40 : Nat) : Int)) by decide +kernel)
      refine V_iald 38 B (v := (nI (gN f0 1))) 1 rfl (vpin _ _ (by decide +kernel)) dX12_reachable_38 (by show f0 1 = _; exact gN_eq HI (by omega) (show bd 1 = (0, ((40 : Nat) : Int)) by decide +kernel)) ?_
      refine V_icmp_ge 39 B 65 dX12_reachable_39 (by decide) (fun kk23 => ?_) (fun kk23 => ?_)
      ·
        have x24 := n_le (a := (gN f0 1)) (b := (a18.1 0)) kk23 (by omega) (by omega)
        refine V_iload_n 65 B dX12_reachable_65 1 rfl ?_
        exact V_iret 66 B dX12_reachable_66 (mkW [] [(u15.2.1 0)] [] [] [] []) trivial rfl
      ·
        have x25 := n_nle (a := (gN f0 1)) (b := (a18.1 0)) kk23 (by omega) (by omega)
        refine V_iload_n 42 B dX12_reachable_42 1 rfl ?_
        refine V_aload_n 43 B dX12_reachable_43 2 rfl ?_
        refine V_iload_n 44 B dX12_reachable_44 3 rfl ?_
        refine V_iload_n 45 B dX12_reachable_45 0 rfl ?_
        refine V_cvi 46 B (st := [.int (a18.2.1 0)]) (As := [.int (nI n4), .int (nI (a18.1 0))]) (fun sz => rX12_isReached l D Y h0 h1 h2 h3 h4 h5 h6 (u15.2.1 0) k5 k6 p7 p8 p9 k10 p11 q12 k15 k16 f0 f1 f3 f4 f13 f14 ph HI (by omega) HP (nI n4) (nI (a18.1 0)) (by rw [nI_toInt (show n4 < 2 ^ 31 by omega)]; omega) sz) glV_RX12_169 ⟨rfl, rfl⟩ ⟨(Nat.le_of_ble_eq_true rfl), (Nat.le_of_ble_eq_true rfl)⟩ ⟨(Nat.le_of_ble_eq_true rfl), (Nat.le_of_ble_eq_true rfl)⟩ [0, 0, 0, 0, 0, 0, 0] rfl 13 0 rfl rfl rfl rfl (Nat.le_of_ble_eq_true rfl) rfl (fun _ _ _ => rfl) dX12_reachable_46 (fun j26 u27 w28 => ?_)
        refine V_ws [(h0, oC 13 [.ref h1, .ref h2, .int (u15.2.1 0), .ref h3, .ref h4, .int (nI k5), .int (nI k6), .int p7, .int p8, .int p9, .int (nI k10), .int p11, .long q12, .ref h5, .ref h6, .int (nI k15), .int (nI k16)]), (h1, aI Y 3640 f0), (h2, aZ Y 2 f1), (h3, aZ Y 80 f3), (h4, aB Y 1600 f4), (h5, aI Y 200 f13), (h6, aI Y 800 f14)] rfl ?_
        have x29 := w28
        clear w28
        rcases x29 with rfl | rfl
        ·
          refine V_if_eq_t 49 B 56 dX12_reachable_49 (by decide) (by decide +kernel) ?_
          refine V_iconst 56 B (v := 0) dX12_reachable_56 (by decide +kernel) ?_
          refine V_iadd 57 B (v := (a18.2.1 0)) dX12_reachable_57 (Int32.add_zero _) ?_
          refine V_istore_n 58 B (lv2 := [(2, .int (a18.2.1 0)), (3, .int (nI (a18.1 0))), (0, .ref h0), (1, .int (nI n4))]) dX12_reachable_58 (by decide) rfl ?_
          refine V_iinc 59 B (v := (nI (1 + (a18.1 0)))) (lv2 := [(3, .int (nI (1 + (a18.1 0)))), (2, .int (a18.2.1 0)), (0, .ref h0), (1, .int (nI n4))]) dX12_reachable_59 1 rfl (nI_addE (a := (a18.1 0)) (b := 1) (by omega)) (by decide) rfl ?_
          refine V_goto 62 B 32 dX12_reachable_62 (by decide) ?_
          refine V_lv [(3, .int (nI (1 + (a18.1 0)))), (2, .int (a18.2.1 0)), (0, .ref h0), (1, .int (nI n4))] [0, 1, 2, 3] rfl ?_
          exact IH19 (mkW [1 + (a18.1 0)] [(a18.2.1 0)] [] [] [] []) (show 1 + (a18.1 0) ≤ 4000 by omega) (by show 100000 - (1 + (a18.1 0)) < 100000 - (a18.1 0); omega)
        ·
          refine V_if_eq_f 49 B 56 dX12_reachable_49 (by decide) (by decide +kernel) ?_
          refine V_iconst 52 B (v := 1) dX12_reachable_52 (by decide +kernel) ?_
          refine V_goto 53 B 57 dX12_reachable_53 (by decide) ?_
          refine V_iadd 57 B dX12_reachable_57 rfl ?_
          refine V_nmi (fun j30 e31 => ?_)
          refine V_istore_n 58 B (lv2 := [(2, .int j30), (3, .int (nI (a18.1 0))), (0, .ref h0), (1, .int (nI n4))]) dX12_reachable_58 (by decide) rfl ?_
          refine V_iinc 59 B (v := (nI (1 + (a18.1 0)))) (lv2 := [(3, .int (nI (1 + (a18.1 0)))), (2, .int j30), (0, .ref h0), (1, .int (nI n4))]) dX12_reachable_59 1 rfl (nI_addE (a := (a18.1 0)) (b := 1) (by omega)) (by decide) rfl ?_
          refine V_goto 62 B 32 dX12_reachable_62 (by decide) ?_
          refine V_lv [(3, .int (nI (1 + (a18.1 0)))), (2, .int j30), (0, .ref h0), (1, .int (nI n4))] [0, 1, 2, 3] rfl ?_
          exact IH19 (mkW [1 + (a18.1 0)] [j30] [] [] [] []) (show 1 + (a18.1 0) ≤ 4000 by omega) (by show 100000 - (1 + (a18.1 0)) < 100000 - (a18.1 0); omega))
theorem dX12_unreachable_0 : decode cX12_unreachable 0 = .ok (.aload_n 0, 1) := by decide +kernel
theorem dX12_unreachable_1 : decode cX12_unreachable 1 = .ok (.iconst 0, 1) := by decide +kernel
theorem dX12_unreachable_2 : decode cX12_unreachable 2 = .ok (.putfield 38, 3) := by decide +kernel
theorem dX12_unreachable_5 : decode cX12_unreachable 5 = .ok (.iconst 0, 1) := by decide +kernel
theorem dX12_unreachable_6 : decode cX12_unreachable 6 = .ok (.istore_n 1, 1) := by decide +kernel
theorem dX12_unreachable_7 : decode cX12_unreachable 7 = .ok (.iconst 0, 1) := by decide +kernel
theorem dX12_unreachable_8 : decode cX12_unreachable 8 = .ok (.istore_n 2, 1) := by decide +kernel
theorem dX12_unreachable_9 : decode cX12_unreachable 9 = .ok (.iload_n 2, 1) := by decide +kernel
theorem dX12_unreachable_10 : decode cX12_unreachable 10 = .ok (.aload_n 0, 1) := by decide +kernel
theorem dX12_unreachable_11 : decode cX12_unreachable 11 = .ok (.getfield 9, 3) := by decide +kernel
theorem dX12_unreachable_14 : decode cX12_unreachable 14 = .ok (.iconst 1, 1) := by decide +kernel
theorem dX12_unreachable_15 : decode cX12_unreachable 15 = .ok (.iaload, 1) := by decide +kernel
theorem dX12_unreachable_16 : decode cX12_unreachable 16 = .ok (.if_icmp .ge 53, 3) := by decide +kernel
theorem dX12_unreachable_69 : decode cX12_unreachable 69 = .ok (.iload_n 1, 1) := by decide +kernel
theorem dX12_unreachable_70 : decode cX12_unreachable 70 = .ok (.ireturn, 1) := by decide +kernel
theorem dX12_unreachable_19 : decode cX12_unreachable 19 = .ok (.iconst 0, 1) := by decide +kernel
theorem dX12_unreachable_20 : decode cX12_unreachable 20 = .ok (.istore_n 3, 1) := by decide +kernel
theorem dX12_unreachable_21 : decode cX12_unreachable 21 = .ok (.iconst 0, 1) := by decide +kernel
theorem dX12_unreachable_22 : decode cX12_unreachable 22 = .ok (.istore 4, 2) := by decide +kernel
theorem dX12_unreachable_24 : decode cX12_unreachable 24 = .ok (.iload 4, 2) := by decide +kernel
theorem dX12_unreachable_26 : decode cX12_unreachable 26 = .ok (.aload_n 0, 1) := by decide +kernel
theorem dX12_unreachable_27 : decode cX12_unreachable 27 = .ok (.getfield 9, 3) := by decide +kernel
theorem dX12_unreachable_30 : decode cX12_unreachable 30 = .ok (.iconst 0, 1) := by decide +kernel
theorem dX12_unreachable_31 : decode cX12_unreachable 31 = .ok (.iaload, 1) := by decide +kernel
theorem dX12_unreachable_32 : decode cX12_unreachable 32 = .ok (.if_icmp .ge 19, 3) := by decide +kernel
theorem dX12_unreachable_51 : decode cX12_unreachable 51 = .ok (.iload_n 1, 1) := by decide +kernel
theorem dX12_unreachable_52 : decode cX12_unreachable 52 = .ok (.iload_n 3, 1) := by decide +kernel
theorem dX12_unreachable_53 : decode cX12_unreachable 53 = .ok (.ifCond .eq 7, 3) := by decide +kernel
theorem dX12_unreachable_60 : decode cX12_unreachable 60 = .ok (.iconst 1, 1) := by decide +kernel
theorem dX12_unreachable_61 : decode cX12_unreachable 61 = .ok (.iadd, 1) := by decide +kernel
theorem dX12_unreachable_62 : decode cX12_unreachable 62 = .ok (.istore_n 1, 1) := by decide +kernel
theorem dX12_unreachable_63 : decode cX12_unreachable 63 = .ok (.iinc 2 1, 3) := by decide +kernel
theorem dX12_unreachable_66 : decode cX12_unreachable 66 = .ok (.goto (-57), 3) := by decide +kernel
theorem dX12_unreachable_56 : decode cX12_unreachable 56 = .ok (.iconst 0, 1) := by decide +kernel
theorem dX12_unreachable_57 : decode cX12_unreachable 57 = .ok (.goto 4, 3) := by decide +kernel
theorem dX12_unreachable_35 : decode cX12_unreachable 35 = .ok (.iload_n 3, 1) := by decide +kernel
theorem dX12_unreachable_36 : decode cX12_unreachable 36 = .ok (.aload_n 0, 1) := by decide +kernel
theorem dX12_unreachable_37 : decode cX12_unreachable 37 = .ok (.iload 4, 2) := by decide +kernel
theorem dX12_unreachable_39 : decode cX12_unreachable 39 = .ok (.iload_n 2, 1) := by decide +kernel
theorem dX12_unreachable_40 : decode cX12_unreachable 40 = .ok (.invokevirtual 169, 3) := by decide +kernel
theorem dX12_unreachable_43 : decode cX12_unreachable 43 = .ok (.ior, 1) := by decide +kernel
theorem dX12_unreachable_44 : decode cX12_unreachable 44 = .ok (.istore_n 3, 1) := by decide +kernel
theorem dX12_unreachable_45 : decode cX12_unreachable 45 = .ok (.iinc 4 1, 3) := by decide +kernel
theorem dX12_unreachable_48 : decode cX12_unreachable 48 = .ok (.goto (-24), 3) := by decide +kernel
set_option maxRecDepth 100000 in
set_option maxHeartbeats 4000000 in
theorem rX12_unreachable (l : Launch) (D : va_G) (Y : Nat → ClassId) (h0 : Nat) (h1 : Nat) (h2 : Nat) (h3 : Nat) (h4 : Nat) (h5 : Nat) (h6 : Nat) (p2 : Int32) (k5 : Nat) (k6 : Nat) (p7 : Int32) (p8 : Int32) (p9 : Int32) (k10 : Nat) (p11 : Int32) (q12 : Int64) (k15 : Nat) (k16 : Nat) (f0 : Nat → Int32) (f1 : Nat → Int32) (f3 : Nat → Int32) (f4 : Nat → Int32) (f13 : Nat → Int32) (f14 : Nat → Int32) (ph : Nat → Int32) (HI : INV ph f0) (HL : k5 ≤ 1600) (HP : PLV f13)   (sz : Nat) : Met l yX12_unreachable (WSm yX12_unreachable cX12_unreachable 5 (some .int)) (mkR 6 0 0 136) (PreC D Y [.ref h0] [(h0, oC 13 [.ref h1, .ref h2, .int p2, .ref h3, .ref h4, .int (nI k5), .int (nI k6), .int p7, .int p8, .int p9, .int (nI k10), .int p11, .long q12, .ref h5, .ref h6, .int (nI k15), .int (nI k16)]), (h1, aI Y 3640 f0), (h2, aZ Y 2 f1), (h3, aZ Y 80 f3), (h4, aB Y 1600 f4), (h5, aI Y 200 f13), (h6, aI Y 800 f14)] sz) (QI D (fun (r : Int32) (u : WU) => True) (fun (u : WU) => [(h0, oC 13 [.ref h1, .ref h2, .int (u.2.1 0), .ref h3, .ref h4, .int (nI k5), .int (nI k6), .int p7, .int p8, .int p9, .int (nI k10), .int p11, .long q12, .ref h5, .ref h6, .int (nI k15), .int (nI k16)]), (h1, aI Y 3640 f0), (h2, aZ Y 2 f1), (h3, aZ Y 80 f3), (h4, aB Y 1600 f4), (h5, aI Y 200 f13), (h6, aI Y 800 f14)]) (va_A [(h0, oC 13 [.ref h1, .ref h2, .int p2, .ref h3, .ref h4, .int (nI k5), .int (nI k6), .int p7, .int p8, .int p9, .int (nI k10), .int p11, .long q12, .ref h5, .ref h6, .int (nI k15), .int (nI k16)]), (h1, aI Y 3640 f0), (h2, aZ Y 2 f1), (h3, aZ Y 80 f3), (h4, aB Y 1600 f4), (h5, aI Y 200 f13), (h6, aI Y 800 f14)] sz)) 0 0 (va_A [(h0, oC 13 [.ref h1, .ref h2, .int p2, .ref h3, .ref h4, .int (nI k5), .int (nI k6), .int p7, .int p8, .int p9, .int (nI k10), .int p11, .long q12, .ref h5, .ref h6, .int (nI k15), .int (nI k16)]), (h1, aI Y 3640 f0), (h2, aZ Y 2 f1), (h3, aZ Y 80 f3), (h4, aB Y 1600 f4), (h5, aI Y 200 f13), (h6, aI Y 800 f14)] sz) :=
  met_of  (by decide +kernel) (Nat.le_of_ble_eq_true rfl) (fun p e s m args below meth c B hin hsz => by
    have B : VB p s m args meth c D Y (va_A [(h0, oC 13 [.ref h1, .ref h2, .int p2, .ref h3, .ref h4, .int (nI k5), .int (nI k6), .int p7, .int p8, .int p9, .int (nI k10), .int p11, .long q12, .ref h5, .ref h6, .int (nI k15), .int (nI k16)]), (h1, aI Y 3640 f0), (h2, aZ Y 2 f1), (h3, aZ Y 80 f3), (h4, aB Y 1600 f4), (h5, aI Y 200 f13), (h6, aI Y 800 f14)] sz) cX12_unreachable 5 RX12 (some .int) := B
    refine V_aload_n 0 B dX12_unreachable_0 0 rfl ?_
    refine V_iconst 1 B (v := 0) dX12_unreachable_1 (by decide +kernel) ?_
    refine V_put 2 B gp_RX12_38 0 rfl (Nat.le_of_ble_eq_true rfl) rfl rfl dX12_unreachable_2 [(h0, oC 13 [.ref h1, .ref h2, .int 0, .ref h3, .ref h4, .int (nI k5), .int (nI k6), .int p7, .int p8, .int p9, .int (nI k10), .int p11, .long q12, .ref h5, .ref h6, .int (nI k15), .int (nI k16)]), (h1, aI Y 3640 f0), (h2, aZ Y 2 f1), (h3, aZ Y 80 f3), (h4, aB Y 1600 f4), (h5, aI Y 200 f13), (h6, aI Y 800 f14)] rfl ?_
    refine V_iconst 5 B (v := 0) dX12_unreachable_5 (by decide +kernel) ?_
    refine V_istore_n 6 B (lv2 := [(1, .int 0), (0, .ref h0)]) dX12_unreachable_6 (by decide) rfl ?_
    refine V_iconst 7 B (v := 0) dX12_unreachable_7 (by decide +kernel) ?_
    refine V_istore_n 8 B (lv2 := [(2, .int 0), (1, .int 0), (0, .ref h0)]) dX12_unreachable_8 (by decide) rfl ?_
    refine V_wloop (α := WU) (fun a => 100000 - (a.1 0)) (fun a => (a.1 0) ≤ 4000) (fun a => [(2, .int (nI (a.1 0))), (1, .int (a.2.1 0)), (0, .ref h0)]) (fun a => [(h0, oC 13 [.ref h1, .ref h2, .int 0, .ref h3, .ref h4, .int (nI k5), .int (nI k6), .int p7, .int p8, .int p9, .int (nI k10), .int p11, .long q12, .ref h5, .ref h6, .int (nI k15), .int (nI k16)]), (h1, aI Y 3640 f0), (h2, aZ Y 2 f1), (h3, aZ Y 80 f3), (h4, aB Y 1600 f4), (h5, aI Y 200 f13), (h6, aI Y 800 f14)]) (mkW [0] [0] [] [] [] []) (show 0 ≤ 4000 by omega) rfl rfl (fun a0 hI2 IH1 => ?_)
    refine V_lv [(2, .int (nI (a0.1 0))), (1, .int (a0.2.1 0)), (0, .ref h0)] [0, 1, 2] rfl ?_
    refine V_ws [(h0, oC 13 [.ref h1, .ref h2, .int 0, .ref h3, .ref h4, .int (nI k5), .int (nI k6), .int p7, .int p8, .int p9, .int (nI k10), .int p11, .long q12, .ref h5, .ref h6, .int (nI k15), .int (nI k16)]), (h1, aI Y 3640 f0), (h2, aZ Y 2 f1), (h3, aZ Y 80 f3), (h4, aB Y 1600 f4), (h5, aI Y 200 f13), (h6, aI Y 800 f14)] rfl ?_
    have x3 := hI2
    refine V_iload_n 9 B dX12_unreachable_9 0 rfl ?_
    refine V_aload_n 10 B dX12_unreachable_10 2 rfl ?_
    refine V_get 11 B gf_RX12_9 0 rfl rfl dX12_unreachable_11 ?_
    refine V_iconst 14 B (v := 1) dX12_unreachable_14 (by decide +kernel) ?_
    have x4 : (gN f0 1) ≤ 40 := gN_le HI (by omega) (show bd 1 = (0, ((40 : Nat) : Int)) by decide +kernel)
    refine V_iald 15 B (v := (nI (gN f0 1))) 1 rfl (vpin _ _ (by decide +kernel)) dX12_unreachable_15 (by show f0 1 = _; exact gN_eq HI (by omega) (show bd 1 = (0, ((40 : Nat) : Int)) by decide +kernel)) ?_
    refine V_icmp_ge 16 B 69 dX12_unreachable_16 (by decide) (fun kk5 => ?_) (fun kk5 => ?_)
    ·
      have x6 := n_le (a := (gN f0 1)) (b := (a0.1 0)) kk5 (by omega) (by omega)
      refine V_iload_n 69 B dX12_unreachable_69 1 rfl ?_
      exact V_iret 70 B dX12_unreachable_70 (mkW [] [0] [] [] [] []) trivial rfl
    ·
      have x7 := n_nle (a := (gN f0 1)) (b := (a0.1 0)) kk5 (by omega) (by omega)
      refine V_iconst 19 B (v := 0) dX12_unreachable_19 (by decide +kernel) ?_
      refine V_istore_n 20 B (lv2 := [(3, .int 0), (2, .int (nI (a0.1 0))), (1, .int (a0.2.1 0)), (0, .ref h0)]) dX12_unreachable_20 (by decide) rfl ?_
      refine V_iconst 21 B (v := 0) dX12_unreachable_21 (by decide +kernel) ?_
      refine V_istore 22 B (lv2 := [(4, .int 0), (3, .int 0), (2, .int (nI (a0.1 0))), (1, .int (a0.2.1 0)), (0, .ref h0)]) dX12_unreachable_22 (by decide) rfl ?_
      refine V_wloop (α := WU) (fun a => 100000 - (a.1 0)) (fun a => (a.1 0) ≤ 4000) (fun a => [(4, .int (nI (a.1 0))), (3, .int (a.2.1 0)), (2, .int (nI (a0.1 0))), (1, .int (a0.2.1 0)), (0, .ref h0)]) (fun a => [(h0, oC 13 [.ref h1, .ref h2, .int 0, .ref h3, .ref h4, .int (nI k5), .int (nI k6), .int p7, .int p8, .int p9, .int (nI k10), .int p11, .long q12, .ref h5, .ref h6, .int (nI k15), .int (nI k16)]), (h1, aI Y 3640 f0), (h2, aZ Y 2 f1), (h3, aZ Y 80 f3), (h4, aB Y 1600 f4), (h5, aI Y 200 f13), (h6, aI Y 800 f14)]) (mkW [0] [0] [] [] [] []) (show 0 ≤ 4000 by omega) rfl rfl (fun a8 hI10 IH9 => ?_)
      refine V_lv [(4, .int (nI (a8.1 0))), (3, .int (a8.2.1 0)), (2, .int (nI (a0.1 0))), (1, .int (a0.2.1 0)), (0, .ref h0)] [0, 1, 2, 3, 4] rfl ?_
      refine V_ws [(h0, oC 13 [.ref h1, .ref h2, .int 0, .ref h3, .ref h4, .int (nI k5), .int (nI k6), .int p7, .int p8, .int p9, .int (nI k10), .int p11, .long q12, .ref h5, .ref h6, .int (nI k15), .int (nI k16)]), (h1, aI Y 3640 f0), (h2, aZ Y 2 f1), (h3, aZ Y 80 f3), (h4, aB Y 1600 f4), (h5, aI Y 200 f13), (h6, aI Y 800 f14)] rfl ?_
      have x11 := hI10
      refine V_iload 24 B dX12_unreachable_24 0 rfl ?_
      refine V_aload_n 26 B dX12_unreachable_26 4 rfl ?_
      refine V_get 27 B gf_RX12_9 0 rfl rfl dX12_unreachable_27 ?_
      refine V_iconst 30 B (v := 0) dX12_unreachable_30 (by decide +kernel) ?_
      have x12 : (gN f0 0) ≤ 6 := gN_le HI (by omega) (show bd 0 = (0, ((6 : Nat) : Int)) by decide +kernel)
      refine V_iald 31 B (v := (nI (gN f0 0))) 1 rfl (vpin _ _ (by decide +kernel)) dX12_unreachable_31 (by show f0 0 = _; exact gN_eq HI (by omega) (show bd 0 = (0, ((6 : Nat) : Int)) by decide +kernel)) ?_
      refine V_icmp_ge 32 B 51 dX12_unreachable_32 (by decide) (fun kk13 => ?_) (fun kk13 => ?_)
      ·
        have x14 := n_le (a := (gN f0 0)) (b := (a8.1 0)) kk13 (by omega) (by omega)
        refine V_iload_n 51 B dX12_unreachable_51 3 rfl ?_
        refine V_iload_n 52 B dX12_unreachable_52 1 rfl ?_
        refine V_if_eq 53 B 60 dX12_unreachable_53 (by decide) (fun kk15 => ?_) (fun kk15 => ?_)
        ·
          have x16 := x_eq kk15
          rw [show (0 : Int32).toInt = 0 by decide +kernel] at x16
          refine V_iconst 60 B (v := 1) dX12_unreachable_60 (by decide +kernel) ?_
          refine V_iadd 61 B dX12_unreachable_61 rfl ?_
          refine V_nmi (fun j17 e18 => ?_)
          refine V_istore_n 62 B (lv2 := [(1, .int j17), (4, .int (nI (a8.1 0))), (3, .int (a8.2.1 0)), (2, .int (nI (a0.1 0))), (0, .ref h0)]) dX12_unreachable_62 (by decide) rfl ?_
          refine V_iinc 63 B (v := (nI (1 + (a0.1 0)))) (lv2 := [(2, .int (nI (1 + (a0.1 0)))), (1, .int j17), (4, .int (nI (a8.1 0))), (3, .int (a8.2.1 0)), (0, .ref h0)]) dX12_unreachable_63 3 rfl (nI_addE (a := (a0.1 0)) (b := 1) (by omega)) (by decide) rfl ?_
          refine V_goto 66 B 9 dX12_unreachable_66 (by decide) ?_
          refine V_lv [(2, .int (nI (1 + (a0.1 0)))), (1, .int j17), (0, .ref h0)] [0, 1, 4] rfl ?_
          exact IH1 (mkW [1 + (a0.1 0)] [j17] [] [] [] []) (show 1 + (a0.1 0) ≤ 4000 by omega) (by show 100000 - (1 + (a0.1 0)) < 100000 - (a0.1 0); omega)
        ·
          have x19 := x_ne kk15
          rw [show (0 : Int32).toInt = 0 by decide +kernel] at x19
          refine V_iconst 56 B (v := 0) dX12_unreachable_56 (by decide +kernel) ?_
          refine V_goto 57 B 61 dX12_unreachable_57 (by decide) ?_
          refine V_iadd 61 B (v := (a0.2.1 0)) dX12_unreachable_61 (Int32.add_zero _) ?_
          refine V_istore_n 62 B (lv2 := [(1, .int (a0.2.1 0)), (4, .int (nI (a8.1 0))), (3, .int (a8.2.1 0)), (2, .int (nI (a0.1 0))), (0, .ref h0)]) dX12_unreachable_62 (by decide) rfl ?_
          refine V_iinc 63 B (v := (nI (1 + (a0.1 0)))) (lv2 := [(2, .int (nI (1 + (a0.1 0)))), (1, .int (a0.2.1 0)), (4, .int (nI (a8.1 0))), (3, .int (a8.2.1 0)), (0, .ref h0)]) dX12_unreachable_63 3 rfl (nI_addE (a := (a0.1 0)) (b := 1) (by omega)) (by decide) rfl ?_
          refine V_goto 66 B 9 dX12_unreachable_66 (by decide) ?_
          refine V_lv [(2, .int (nI (1 + (a0.1 0)))), (1, .int (a0.2.1 0)), (0, .ref h0)] [0, 1, 4] rfl ?_
          exact IH1 (mkW [1 + (a0.1 0)] [(a0.2.1 0)] [] [] [] []) (show 1 + (a0.1 0) ≤ 4000 by omega) (by show 100000 - (1 + (a0.1 0)) < 100000 - (a0.1 0); omega)
      ·
        have x20 := n_nle (a := (gN f0 0)) (b := (a8.1 0)) kk13 (by omega) (by omega)
        refine V_iload_n 35 B dX12_unreachable_35 1 rfl ?_
        refine V_aload_n 36 B dX12_unreachable_36 4 rfl ?_
        refine V_iload 37 B dX12_unreachable_37 0 rfl ?_
        refine V_iload_n 39 B dX12_unreachable_39 2 rfl ?_
        refine V_cvi 40 B (st := [.int (a8.2.1 0)]) (As := [.int (nI (a8.1 0)), .int (nI (a0.1 0))]) (fun sz => rX12_isReached l D Y h0 h1 h2 h3 h4 h5 h6 0 k5 k6 p7 p8 p9 k10 p11 q12 k15 k16 f0 f1 f3 f4 f13 f14 ph HI (by omega) HP (nI (a8.1 0)) (nI (a0.1 0)) (by rw [nI_toInt (show (a8.1 0) < 2 ^ 31 by omega)]; omega) sz) glV_RX12_169 ⟨rfl, rfl⟩ ⟨(Nat.le_of_ble_eq_true rfl), (Nat.le_of_ble_eq_true rfl)⟩ ⟨(Nat.le_of_ble_eq_true rfl), (Nat.le_of_ble_eq_true rfl)⟩ [0, 0, 0, 0, 0, 0, 0] rfl 13 0 rfl rfl rfl rfl (Nat.le_of_ble_eq_true rfl) rfl (fun _ _ _ => rfl) dX12_unreachable_40 (fun j21 u22 w23 => ?_)
        refine V_ws [(h0, oC 13 [.ref h1, .ref h2, .int 0, .ref h3, .ref h4, .int (nI k5), .int (nI k6), .int p7, .int p8, .int p9, .int (nI k10), .int p11, .long q12, .ref h5, .ref h6, .int (nI k15), .int (nI k16)]), (h1, aI Y 3640 f0), (h2, aZ Y 2 f1), (h3, aZ Y 80 f3), (h4, aB Y 1600 f4), (h5, aI Y 200 f13), (h6, aI Y 800 f14)] rfl ?_
        have x24 := w23
        clear w23
        rcases x24 with rfl | rfl
        ·
          refine V_ior 43 B dX12_unreachable_43 rfl ?_
          refine V_nmi (fun j25 e26 => ?_)
          refine V_istore_n 44 B (lv2 := [(3, .int j25), (4, .int (nI (a8.1 0))), (2, .int (nI (a0.1 0))), (1, .int (a0.2.1 0)), (0, .ref h0)]) dX12_unreachable_44 (by decide) rfl ?_
          refine V_iinc 45 B (v := (nI (1 + (a8.1 0)))) (lv2 := [(4, .int (nI (1 + (a8.1 0)))), (3, .int j25), (2, .int (nI (a0.1 0))), (1, .int (a0.2.1 0)), (0, .ref h0)]) dX12_unreachable_45 1 rfl (nI_addE (a := (a8.1 0)) (b := 1) (by omega)) (by decide) rfl ?_
          refine V_goto 48 B 24 dX12_unreachable_48 (by decide) ?_
          refine V_lv [(4, .int (nI (1 + (a8.1 0)))), (3, .int j25), (2, .int (nI (a0.1 0))), (1, .int (a0.2.1 0)), (0, .ref h0)] [0, 1, 2, 3, 4] rfl ?_
          exact IH9 (mkW [1 + (a8.1 0)] [j25] [] [] [] []) (show 1 + (a8.1 0) ≤ 4000 by omega) (by show 100000 - (1 + (a8.1 0)) < 100000 - (a8.1 0); omega)
        ·
          refine V_ior 43 B dX12_unreachable_43 rfl ?_
          refine V_nmi (fun j27 e28 => ?_)
          refine V_istore_n 44 B (lv2 := [(3, .int j27), (4, .int (nI (a8.1 0))), (2, .int (nI (a0.1 0))), (1, .int (a0.2.1 0)), (0, .ref h0)]) dX12_unreachable_44 (by decide) rfl ?_
          refine V_iinc 45 B (v := (nI (1 + (a8.1 0)))) (lv2 := [(4, .int (nI (1 + (a8.1 0)))), (3, .int j27), (2, .int (nI (a0.1 0))), (1, .int (a0.2.1 0)), (0, .ref h0)]) dX12_unreachable_45 1 rfl (nI_addE (a := (a8.1 0)) (b := 1) (by omega)) (by decide) rfl ?_
          refine V_goto 48 B 24 dX12_unreachable_48 (by decide) ?_
          refine V_lv [(4, .int (nI (1 + (a8.1 0)))), (3, .int j27), (2, .int (nI (a0.1 0))), (1, .int (a0.2.1 0)), (0, .ref h0)] [0, 1, 2, 3, 4] rfl ?_
          exact IH9 (mkW [1 + (a8.1 0)] [j27] [] [] [] []) (show 1 + (a8.1 0) ≤ 4000 by omega) (by show 100000 - (1 + (a8.1 0)) < 100000 - (a8.1 0); omega))
theorem dX12_prefixes_0 : decode cX12_prefixes 0 = .ok (.aload_n 0, 1) := by decide +kernel
theorem dX12_prefixes_1 : decode cX12_prefixes 1 = .ok (.iconst 0, 1) := by decide +kernel
theorem dX12_prefixes_2 : decode cX12_prefixes 2 = .ok (.putfield 38, 3) := by decide +kernel
theorem dX12_prefixes_5 : decode cX12_prefixes 5 = .ok (.aload_n 0, 1) := by decide +kernel
theorem dX12_prefixes_6 : decode cX12_prefixes 6 = .ok (.aload_n 0, 1) := by decide +kernel
theorem dX12_prefixes_7 : decode cX12_prefixes 7 = .ok (.iload_n 1, 1) := by decide +kernel
theorem dX12_prefixes_8 : decode cX12_prefixes 8 = .ok (.invokevirtual 91, 3) := by decide +kernel
theorem dX12_prefixes_11 : decode cX12_prefixes 11 = .ok (.ifCond .ne 7, 3) := by decide +kernel
theorem dX12_prefixes_14 : decode cX12_prefixes 14 = .ok (.iconst 1, 1) := by decide +kernel
theorem dX12_prefixes_15 : decode cX12_prefixes 15 = .ok (.goto 4, 3) := by decide +kernel
theorem dX12_prefixes_19 : decode cX12_prefixes 19 = .ok (.iconst 1, 1) := by decide +kernel
theorem dX12_prefixes_20 : decode cX12_prefixes 20 = .ok (.invokevirtual 69, 3) := by decide +kernel
theorem dX12_prefixes_23 : decode cX12_prefixes 23 = .ok (.ifCond .eq 5, 3) := by decide +kernel
theorem dX12_prefixes_26 : decode cX12_prefixes 26 = .ok (.iconst 0, 1) := by decide +kernel
theorem dX12_prefixes_27 : decode cX12_prefixes 27 = .ok (.ireturn, 1) := by decide +kernel
theorem dX12_prefixes_18 : decode cX12_prefixes 18 = .ok (.iconst 0, 1) := by decide +kernel
theorem dX12_prefixes_28 : decode cX12_prefixes 28 = .ok (.iconst 0, 1) := by decide +kernel
theorem dX12_prefixes_29 : decode cX12_prefixes 29 = .ok (.istore_n 2, 1) := by decide +kernel
theorem dX12_prefixes_30 : decode cX12_prefixes 30 = .ok (.iconst 0, 1) := by decide +kernel
theorem dX12_prefixes_31 : decode cX12_prefixes 31 = .ok (.istore_n 3, 1) := by decide +kernel
theorem dX12_prefixes_32 : decode cX12_prefixes 32 = .ok (.iload_n 3, 1) := by decide +kernel
theorem dX12_prefixes_33 : decode cX12_prefixes 33 = .ok (.aload_n 0, 1) := by decide +kernel
theorem dX12_prefixes_34 : decode cX12_prefixes 34 = .ok (.getfield 9, 3) := by decide +kernel
theorem dX12_prefixes_37 : decode cX12_prefixes 37 = .ok (.iconst 3, 1) := by decide +kernel
theorem dX12_prefixes_38 : decode cX12_prefixes 38 = .ok (.iaload, 1) := by decide +kernel
theorem dX12_prefixes_39 : decode cX12_prefixes 39 = .ok (.if_icmp .ge 102, 3) := by decide +kernel
theorem dX12_prefixes_141 : decode cX12_prefixes 141 = .ok (.iload_n 2, 1) := by decide +kernel
theorem dX12_prefixes_142 : decode cX12_prefixes 142 = .ok (.ireturn, 1) := by decide +kernel
theorem dX12_prefixes_42 : decode cX12_prefixes 42 = .ok (.aload_n 0, 1) := by decide +kernel
theorem dX12_prefixes_43 : decode cX12_prefixes 43 = .ok (.iload_n 1, 1) := by decide +kernel
theorem dX12_prefixes_44 : decode cX12_prefixes 44 = .ok (.iload_n 3, 1) := by decide +kernel
theorem dX12_prefixes_45 : decode cX12_prefixes 45 = .ok (.invokevirtual 154, 3) := by decide +kernel
theorem dX12_prefixes_48 : decode cX12_prefixes 48 = .ok (.ifCond .ne 6, 3) := by decide +kernel
theorem dX12_prefixes_51 : decode cX12_prefixes 51 = .ok (.goto 84, 3) := by decide +kernel
theorem dX12_prefixes_135 : decode cX12_prefixes 135 = .ok (.iinc 3 1, 3) := by decide +kernel
theorem dX12_prefixes_138 : decode cX12_prefixes 138 = .ok (.goto (-106), 3) := by decide +kernel
theorem dX12_prefixes_54 : decode cX12_prefixes 54 = .ok (.iconst 0, 1) := by decide +kernel
theorem dX12_prefixes_55 : decode cX12_prefixes 55 = .ok (.istore 4, 2) := by decide +kernel
theorem dX12_prefixes_57 : decode cX12_prefixes 57 = .ok (.iconst 0, 1) := by decide +kernel
theorem dX12_prefixes_58 : decode cX12_prefixes 58 = .ok (.istore 5, 2) := by decide +kernel
theorem dX12_prefixes_60 : decode cX12_prefixes 60 = .ok (.iload 5, 2) := by decide +kernel
theorem dX12_prefixes_62 : decode cX12_prefixes 62 = .ok (.iload_n 3, 1) := by decide +kernel
theorem dX12_prefixes_63 : decode cX12_prefixes 63 = .ok (.if_icmp .ge 57, 3) := by decide +kernel
theorem dX12_prefixes_120 : decode cX12_prefixes 120 = .ok (.iload_n 2, 1) := by decide +kernel
theorem dX12_prefixes_121 : decode cX12_prefixes 121 = .ok (.aload_n 0, 1) := by decide +kernel
theorem dX12_prefixes_122 : decode cX12_prefixes 122 = .ok (.getfield 9, 3) := by decide +kernel
theorem dX12_prefixes_125 : decode cX12_prefixes 125 = .ok (.iload_n 3, 1) := by decide +kernel
theorem dX12_prefixes_126 : decode cX12_prefixes 126 = .ok (.invokestatic 85, 3) := by decide +kernel
theorem dX12_prefixes_129 : decode cX12_prefixes 129 = .ok (.iaload, 1) := by decide +kernel
theorem rl11 : ∀ z0, z0 < 80 → bd (186 + 7 * z0) = (0, ((4 : Nat) : Int)) := by decide +kernel
theorem dX12_prefixes_130 : decode cX12_prefixes 130 = .ok (.iload 4, 2) := by decide +kernel
theorem dX12_prefixes_132 : decode cX12_prefixes 132 = .ok (.isub, 1) := by decide +kernel
theorem dX12_prefixes_133 : decode cX12_prefixes 133 = .ok (.iadd, 1) := by decide +kernel
theorem dX12_prefixes_134 : decode cX12_prefixes 134 = .ok (.istore_n 2, 1) := by decide +kernel
theorem dX12_prefixes_66 : decode cX12_prefixes 66 = .ok (.aload_n 0, 1) := by decide +kernel
theorem dX12_prefixes_67 : decode cX12_prefixes 67 = .ok (.iload_n 1, 1) := by decide +kernel
theorem dX12_prefixes_68 : decode cX12_prefixes 68 = .ok (.iload 5, 2) := by decide +kernel
theorem dX12_prefixes_70 : decode cX12_prefixes 70 = .ok (.invokevirtual 154, 3) := by decide +kernel
theorem dX12_prefixes_73 : decode cX12_prefixes 73 = .ok (.ifCond .eq 41, 3) := by decide +kernel
theorem dX12_prefixes_114 : decode cX12_prefixes 114 = .ok (.iinc 5 1, 3) := by decide +kernel
theorem dX12_prefixes_117 : decode cX12_prefixes 117 = .ok (.goto (-57), 3) := by decide +kernel
theorem dX12_prefixes_76 : decode cX12_prefixes 76 = .ok (.iload 4, 2) := by decide +kernel
theorem dX12_prefixes_78 : decode cX12_prefixes 78 = .ok (.aload_n 0, 1) := by decide +kernel
theorem dX12_prefixes_79 : decode cX12_prefixes 79 = .ok (.iload 5, 2) := by decide +kernel
theorem dX12_prefixes_81 : decode cX12_prefixes 81 = .ok (.invokestatic 85, 3) := by decide +kernel
theorem dX12_prefixes_84 : decode cX12_prefixes 84 = .ok (.iload_n 3, 1) := by decide +kernel
theorem dX12_prefixes_85 : decode cX12_prefixes 85 = .ok (.invokestatic 85, 3) := by decide +kernel
theorem dX12_prefixes_88 : decode cX12_prefixes 88 = .ok (.invokevirtual 62, 3) := by decide +kernel
theorem rl12 : ∀ z0, z0 < 79 → SQ (186 + 7 * z0) := by unfold SQ; decide +kernel
theorem rl13 : ∀ z0, z0 < 79 → bd (186 + 7 * z0) = (0, ((4 : Nat) : Int)) := by decide +kernel
theorem dX12_prefixes_91 : decode cX12_prefixes 91 = .ok (.if_icmp .ge 19, 3) := by decide +kernel
theorem dX12_prefixes_110 : decode cX12_prefixes 110 = .ok (.iload 4, 2) := by decide +kernel
theorem dX12_prefixes_112 : decode cX12_prefixes 112 = .ok (.istore 4, 2) := by decide +kernel
theorem dX12_prefixes_94 : decode cX12_prefixes 94 = .ok (.aload_n 0, 1) := by decide +kernel
theorem dX12_prefixes_95 : decode cX12_prefixes 95 = .ok (.iload 5, 2) := by decide +kernel
theorem dX12_prefixes_97 : decode cX12_prefixes 97 = .ok (.invokestatic 85, 3) := by decide +kernel
theorem dX12_prefixes_100 : decode cX12_prefixes 100 = .ok (.iload_n 3, 1) := by decide +kernel
theorem dX12_prefixes_101 : decode cX12_prefixes 101 = .ok (.invokestatic 85, 3) := by decide +kernel
theorem dX12_prefixes_104 : decode cX12_prefixes 104 = .ok (.invokevirtual 62, 3) := by decide +kernel
theorem dX12_prefixes_107 : decode cX12_prefixes 107 = .ok (.goto 5, 3) := by decide +kernel
set_option maxRecDepth 100000 in
set_option maxHeartbeats 4000000 in
theorem rX12_prefixes (l : Launch) (D : va_G) (Y : Nat → ClassId) (h0 : Nat) (h1 : Nat) (h2 : Nat) (h3 : Nat) (h4 : Nat) (h5 : Nat) (h6 : Nat) (p2 : Int32) (k5 : Nat) (k6 : Nat) (p7 : Int32) (p8 : Int32) (p9 : Int32) (k10 : Nat) (p11 : Int32) (q12 : Int64) (k15 : Nat) (k16 : Nat) (f0 : Nat → Int32) (f1 : Nat → Int32) (f3 : Nat → Int32) (f4 : Nat → Int32) (f13 : Nat → Int32) (f14 : Nat → Int32) (ph : Nat → Int32) (HI : INV ph f0) (HL : k5 ≤ 1600) (HP : PLV f13) (s0 : Int32)  (sz : Nat) : Met l yX12_prefixes (WSm yX12_prefixes cX12_prefixes 6 (some .int)) (mkR 5 0 0 113) (PreC D Y [.ref h0, .int s0] [(h0, oC 13 [.ref h1, .ref h2, .int p2, .ref h3, .ref h4, .int (nI k5), .int (nI k6), .int p7, .int p8, .int p9, .int (nI k10), .int p11, .long q12, .ref h5, .ref h6, .int (nI k15), .int (nI k16)]), (h1, aI Y 3640 f0), (h2, aZ Y 2 f1), (h3, aZ Y 80 f3), (h4, aB Y 1600 f4), (h5, aI Y 200 f13), (h6, aI Y 800 f14)] sz) (QI D (fun (r : Int32) (u : WU) => True) (fun (u : WU) => [(h0, oC 13 [.ref h1, .ref h2, .int (u.2.1 0), .ref h3, .ref h4, .int (nI k5), .int (nI k6), .int p7, .int p8, .int p9, .int (nI k10), .int p11, .long q12, .ref h5, .ref h6, .int (nI k15), .int (nI k16)]), (h1, aI Y 3640 f0), (h2, aZ Y 2 f1), (h3, aZ Y 80 f3), (h4, aB Y 1600 f4), (h5, aI Y 200 f13), (h6, aI Y 800 f14)]) (va_A [(h0, oC 13 [.ref h1, .ref h2, .int p2, .ref h3, .ref h4, .int (nI k5), .int (nI k6), .int p7, .int p8, .int p9, .int (nI k10), .int p11, .long q12, .ref h5, .ref h6, .int (nI k15), .int (nI k16)]), (h1, aI Y 3640 f0), (h2, aZ Y 2 f1), (h3, aZ Y 80 f3), (h4, aB Y 1600 f4), (h5, aI Y 200 f13), (h6, aI Y 800 f14)] sz)) 0 0 (va_A [(h0, oC 13 [.ref h1, .ref h2, .int p2, .ref h3, .ref h4, .int (nI k5), .int (nI k6), .int p7, .int p8, .int p9, .int (nI k10), .int p11, .long q12, .ref h5, .ref h6, .int (nI k15), .int (nI k16)]), (h1, aI Y 3640 f0), (h2, aZ Y 2 f1), (h3, aZ Y 80 f3), (h4, aB Y 1600 f4), (h5, aI Y 200 f13), (h6, aI Y 800 f14)] sz) :=
  met_of  (by decide +kernel) (Nat.le_of_ble_eq_true rfl) (fun p e s m args below meth c B hin hsz => by
    have B : VB p s m args meth c D Y (va_A [(h0, oC 13 [.ref h1, .ref h2, .int p2, .ref h3, .ref h4, .int (nI k5), .int (nI k6), .int p7, .int p8, .int p9, .int (nI k10), .int p11, .long q12, .ref h5, .ref h6, .int (nI k15), .int (nI k16)]), (h1, aI Y 3640 f0), (h2, aZ Y 2 f1), (h3, aZ Y 80 f3), (h4, aB Y 1600 f4), (h5, aI Y 200 f13), (h6, aI Y 800 f14)] sz) cX12_prefixes 6 RX12 (some .int) := B
    refine V_aload_n 0 B dX12_prefixes_0 0 rfl ?_
    refine V_iconst 1 B (v := 0) dX12_prefixes_1 (by decide +kernel) ?_
    refine V_put 2 B gp_RX12_38 0 rfl (Nat.le_of_ble_eq_true rfl) rfl rfl dX12_prefixes_2 [(h0, oC 13 [.ref h1, .ref h2, .int 0, .ref h3, .ref h4, .int (nI k5), .int (nI k6), .int p7, .int p8, .int p9, .int (nI k10), .int p11, .long q12, .ref h5, .ref h6, .int (nI k15), .int (nI k16)]), (h1, aI Y 3640 f0), (h2, aZ Y 2 f1), (h3, aZ Y 80 f3), (h4, aB Y 1600 f4), (h5, aI Y 200 f13), (h6, aI Y 800 f14)] rfl ?_
    refine V_aload_n 5 B dX12_prefixes_5 0 rfl ?_
    refine V_aload_n 6 B dX12_prefixes_6 0 rfl ?_
    refine V_iload_n 7 B dX12_prefixes_7 1 rfl ?_
    refine V_cvi 8 B (st := [.ref h0]) (As := [.int s0]) (fun sz => rX12_isMode l D Y h0 h1 h2 h3 h4 h5 h6 0 k5 k6 p7 p8 p9 k10 p11 q12 k15 k16 f0 f1 f3 f4 f13 f14 ph HI (by omega) HP s0 sz) glV_RX12_91 ⟨rfl, rfl⟩ ⟨(Nat.le_of_ble_eq_true rfl), (Nat.le_of_ble_eq_true rfl)⟩ ⟨(Nat.le_of_ble_eq_true rfl), (Nat.le_of_ble_eq_true rfl)⟩ [0, 0, 0, 0, 0, 0, 0] rfl 13 0 rfl rfl rfl rfl (Nat.le_of_ble_eq_true rfl) rfl (fun _ _ _ => rfl) dX12_prefixes_8 (fun j0 u1 w2 => ?_)
    refine V_ws [(h0, oC 13 [.ref h1, .ref h2, .int 0, .ref h3, .ref h4, .int (nI k5), .int (nI k6), .int p7, .int p8, .int p9, .int (nI k10), .int p11, .long q12, .ref h5, .ref h6, .int (nI k15), .int (nI k16)]), (h1, aI Y 3640 f0), (h2, aZ Y 2 f1), (h3, aZ Y 80 f3), (h4, aB Y 1600 f4), (h5, aI Y 200 f13), (h6, aI Y 800 f14)] rfl ?_
    have x3 := w2
    clear w2
    have x7 : (gN f0 0) ≤ 6 := gN_le HI (by omega) (show bd 0 = (0, ((6 : Nat) : Int)) by decide +kernel)
    rcases x3 with rfl | ⟨rfl, n4, rfl, x6⟩
    ·
      refine V_if_ne_f 11 B 18 dX12_prefixes_11 (by decide) (by decide +kernel) ?_
      refine V_iconst 14 B (v := 1) dX12_prefixes_14 (by decide +kernel) ?_
      refine V_goto 15 B 19 dX12_prefixes_15 (by decide) ?_
      refine V_iconst 19 B (v := 1) dX12_prefixes_19 (by decide +kernel) ?_
      refine V_cvi 20 B (st := []) (As := [.int 1, .int 1]) (fun sz => rX12_throwsIf_1 l D Y h0 h1 h2 h3 h4 h5 h6 0 k5 k6 p7 p8 p9 k10 p11 q12 k15 k16 f0 f1 f3 f4 f13 f14 ph HI (by omega) HP 1 sz) glV_RX12_69 ⟨rfl, rfl⟩ ⟨(Nat.le_of_ble_eq_true rfl), (Nat.le_of_ble_eq_true rfl)⟩ ⟨(Nat.le_of_ble_eq_true rfl), (Nat.le_of_ble_eq_true rfl)⟩ [0, 0, 0, 0, 0, 0, 0] rfl 13 0 rfl rfl rfl rfl (Nat.le_of_ble_eq_true rfl) rfl (fun _ _ _ => rfl) dX12_prefixes_20 (fun j8 u9 w10 => ?_)
      refine V_ws [(h0, oC 13 [.ref h1, .ref h2, .int (u9.2.1 0), .ref h3, .ref h4, .int (nI k5), .int (nI k6), .int p7, .int p8, .int p9, .int (nI k10), .int p11, .long q12, .ref h5, .ref h6, .int (nI k15), .int (nI k16)]), (h1, aI Y 3640 f0), (h2, aZ Y 2 f1), (h3, aZ Y 80 f3), (h4, aB Y 1600 f4), (h5, aI Y 200 f13), (h6, aI Y 800 f14)] rfl ?_
      have x11 := w10
      clear w10
      obtain rfl := x11
      refine V_if_eq_f 23 B 28 dX12_prefixes_23 (by decide) (by decide +kernel) ?_
      refine V_iconst 26 B (v := 0) dX12_prefixes_26 (by decide +kernel) ?_
      exact V_iret 27 B dX12_prefixes_27 (mkW [] [(u9.2.1 0)] [] [] [] []) trivial rfl
    ·
      have e12 := nI_toInt (show n4 < 2 ^ 31 by omega)
      have x13 : (gN f0 0) ≤ 6 := gN_le HI (by omega) (show bd 0 = (0, ((6 : Nat) : Int)) by decide +kernel)
      refine V_if_ne_t 11 B 18 dX12_prefixes_11 (by decide) (by decide +kernel) ?_
      refine V_iconst 18 B (v := 0) dX12_prefixes_18 (by decide +kernel) ?_
      refine V_iconst 19 B (v := 1) dX12_prefixes_19 (by decide +kernel) ?_
      refine V_cvi 20 B (st := []) (As := [.int 0, .int 1]) (fun sz => rX12_throwsIf_0 l D Y h0 h1 h2 h3 h4 h5 h6 0 k5 k6 p7 p8 p9 k10 p11 q12 k15 k16 f0 f1 f3 f4 f13 f14 ph HI (by omega) HP 1 sz) glV_RX12_69 ⟨rfl, rfl⟩ ⟨(Nat.le_of_ble_eq_true rfl), (Nat.le_of_ble_eq_true rfl)⟩ ⟨(Nat.le_of_ble_eq_true rfl), (Nat.le_of_ble_eq_true rfl)⟩ [0, 0, 0, 0, 0, 0, 0] rfl 13 0 rfl rfl rfl rfl (Nat.le_of_ble_eq_true rfl) rfl (fun _ _ _ => rfl) dX12_prefixes_20 (fun j14 u15 w16 => ?_)
      refine V_ws [(h0, oC 13 [.ref h1, .ref h2, .int (u15.2.1 0), .ref h3, .ref h4, .int (nI k5), .int (nI k6), .int p7, .int p8, .int p9, .int (nI k10), .int p11, .long q12, .ref h5, .ref h6, .int (nI k15), .int (nI k16)]), (h1, aI Y 3640 f0), (h2, aZ Y 2 f1), (h3, aZ Y 80 f3), (h4, aB Y 1600 f4), (h5, aI Y 200 f13), (h6, aI Y 800 f14)] rfl ?_
      have x17 := w16
      clear w16
      obtain rfl := x17
      refine V_if_eq_t 23 B 28 dX12_prefixes_23 (by decide) (by decide +kernel) ?_
      refine V_iconst 28 B (v := 0) dX12_prefixes_28 (by decide +kernel) ?_
      refine V_istore_n 29 B (lv2 := [(2, .int 0), (0, .ref h0), (1, .int (nI n4))]) dX12_prefixes_29 (by decide) rfl ?_
      refine V_iconst 30 B (v := 0) dX12_prefixes_30 (by decide +kernel) ?_
      refine V_istore_n 31 B (lv2 := [(3, .int 0), (2, .int 0), (0, .ref h0), (1, .int (nI n4))]) dX12_prefixes_31 (by decide) rfl ?_
      refine V_wloop (α := WU) (fun a => 100000 - (a.1 0)) (fun a => (a.1 0) ≤ 4000) (fun a => [(3, .int (nI (a.1 0))), (2, .int (a.2.1 0)), (0, .ref h0), (1, .int (nI n4))]) (fun a => [(h0, oC 13 [.ref h1, .ref h2, .int (u15.2.1 0), .ref h3, .ref h4, .int (nI k5), .int (nI k6), .int p7, .int p8, .int p9, .int (nI k10), .int p11, .long q12, .ref h5, .ref h6, .int (nI k15), .int (nI k16)]), (h1, aI Y 3640 f0), (h2, aZ Y 2 f1), (h3, aZ Y 80 f3), (h4, aB Y 1600 f4), (h5, aI Y 200 f13), (h6, aI Y 800 f14)]) (mkW [0] [0] [] [] [] []) (show 0 ≤ 4000 by omega) rfl rfl (fun a18 hI20 IH19 => ?_)
      refine V_lv [(3, .int (nI (a18.1 0))), (2, .int (a18.2.1 0)), (0, .ref h0), (1, .int (nI n4))] [0, 1, 2, 3] rfl ?_
      refine V_ws [(h0, oC 13 [.ref h1, .ref h2, .int (u15.2.1 0), .ref h3, .ref h4, .int (nI k5), .int (nI k6), .int p7, .int p8, .int p9, .int (nI k10), .int p11, .long q12, .ref h5, .ref h6, .int (nI k15), .int (nI k16)]), (h1, aI Y 3640 f0), (h2, aZ Y 2 f1), (h3, aZ Y 80 f3), (h4, aB Y 1600 f4), (h5, aI Y 200 f13), (h6, aI Y 800 f14)] rfl ?_
      have x21 := hI20
      refine V_iload_n 32 B dX12_prefixes_32 0 rfl ?_
      refine V_aload_n 33 B dX12_prefixes_33 2 rfl ?_
      refine V_get 34 B gf_RX12_9 0 rfl rfl dX12_prefixes_34 ?_
      refine V_iconst 37 B (v := 3) dX12_prefixes_37 (by decide +kernel) ?_
      have x22 : (gN f0 3) ≤ 80 := gN_le HI (by omega) (show bd 3 = (0, ((80 : Nat) : Int)) by decide +kernel)
      refine V_iald 38 B (v := (nI (gN f0 3))) 1 rfl (vpin _ _ (by decide +kernel)) dX12_prefixes_38 (by show f0 3 = _; exact gN_eq HI (by omega) (show bd 3 = (0, ((80 : Nat) : Int)) by decide +kernel)) ?_
      refine V_icmp_ge 39 B 141 dX12_prefixes_39 (by decide) (fun kk23 => ?_) (fun kk23 => ?_)
      ·
        have x24 := n_le (a := (gN f0 3)) (b := (a18.1 0)) kk23 (by omega) (by omega)
        refine V_iload_n 141 B dX12_prefixes_141 1 rfl ?_
        exact V_iret 142 B dX12_prefixes_142 (mkW [] [(u15.2.1 0)] [] [] [] []) trivial rfl
      ·
        have x25 := n_nle (a := (gN f0 3)) (b := (a18.1 0)) kk23 (by omega) (by omega)
        refine V_aload_n 42 B dX12_prefixes_42 2 rfl ?_
        refine V_iload_n 43 B dX12_prefixes_43 3 rfl ?_
        refine V_iload_n 44 B dX12_prefixes_44 0 rfl ?_
        refine V_cvi 45 B (st := []) (As := [.int (nI n4), .int (nI (a18.1 0))]) (fun sz => rX12_isVisible l D Y h0 h1 h2 h3 h4 h5 h6 (u15.2.1 0) k5 k6 p7 p8 p9 k10 p11 q12 k15 k16 f0 f1 f3 f4 f13 f14 ph HI (by omega) HP (nI n4) (a18.1 0) (by rw [nI_toInt (show n4 < 2 ^ 31 by omega)]; omega) (by omega) sz) glV_RX12_154 ⟨rfl, rfl⟩ ⟨(Nat.le_of_ble_eq_true rfl), (Nat.le_of_ble_eq_true rfl)⟩ ⟨(Nat.le_of_ble_eq_true rfl), (Nat.le_of_ble_eq_true rfl)⟩ [0, 0, 0, 0, 0, 0, 0] rfl 13 0 rfl rfl rfl rfl (Nat.le_of_ble_eq_true rfl) rfl (fun _ _ _ => rfl) dX12_prefixes_45 (fun j26 u27 w28 => ?_)
        refine V_ws [(h0, oC 13 [.ref h1, .ref h2, .int (u15.2.1 0), .ref h3, .ref h4, .int (nI k5), .int (nI k6), .int p7, .int p8, .int p9, .int (nI k10), .int p11, .long q12, .ref h5, .ref h6, .int (nI k15), .int (nI k16)]), (h1, aI Y 3640 f0), (h2, aZ Y 2 f1), (h3, aZ Y 80 f3), (h4, aB Y 1600 f4), (h5, aI Y 200 f13), (h6, aI Y 800 f14)] rfl ?_
        have x29 := w28
        clear w28
        rcases x29 with ⟨rfl, x30⟩ | ⟨rfl, x30⟩
        ·
          refine V_if_ne_f 48 B 54 dX12_prefixes_48 (by decide) (by decide +kernel) ?_
          refine V_goto 51 B 135 dX12_prefixes_51 (by decide) ?_
          refine V_iinc 135 B (v := (nI (1 + (a18.1 0)))) (lv2 := [(3, .int (nI (1 + (a18.1 0)))), (2, .int (a18.2.1 0)), (0, .ref h0), (1, .int (nI n4))]) dX12_prefixes_135 0 rfl (nI_addE (a := (a18.1 0)) (b := 1) (by omega)) (by decide) rfl ?_
          refine V_goto 138 B 32 dX12_prefixes_138 (by decide) ?_
          refine V_lv [(3, .int (nI (1 + (a18.1 0)))), (2, .int (a18.2.1 0)), (0, .ref h0), (1, .int (nI n4))] [0, 1, 2, 3] rfl ?_
          exact IH19 (mkW [1 + (a18.1 0)] [(a18.2.1 0)] [] [] [] []) (show 1 + (a18.1 0) ≤ 4000 by omega) (by show 100000 - (1 + (a18.1 0)) < 100000 - (a18.1 0); omega)
        ·
          refine V_if_ne_t 48 B 54 dX12_prefixes_48 (by decide) (by decide +kernel) ?_
          refine V_iconst 54 B (v := 0) dX12_prefixes_54 (by decide +kernel) ?_
          refine V_istore 55 B (lv2 := [(4, .int 0), (3, .int (nI (a18.1 0))), (2, .int (a18.2.1 0)), (0, .ref h0), (1, .int (nI n4))]) dX12_prefixes_55 (by decide) rfl ?_
          refine V_iconst 57 B (v := 0) dX12_prefixes_57 (by decide +kernel) ?_
          refine V_istore 58 B (lv2 := [(5, .int 0), (4, .int 0), (3, .int (nI (a18.1 0))), (2, .int (a18.2.1 0)), (0, .ref h0), (1, .int (nI n4))]) dX12_prefixes_58 (by decide) rfl ?_
          refine V_wloop (α := WU) (fun a => 100000 - (a.1 0)) (fun a => (a.1 0) ≤ 4000) (fun a => [(5, .int (nI (a.1 0))), (4, .int (a.2.1 0)), (3, .int (nI (a18.1 0))), (2, .int (a18.2.1 0)), (0, .ref h0), (1, .int (nI n4))]) (fun a => [(h0, oC 13 [.ref h1, .ref h2, .int (u15.2.1 0), .ref h3, .ref h4, .int (nI k5), .int (nI k6), .int p7, .int p8, .int p9, .int (nI k10), .int p11, .long q12, .ref h5, .ref h6, .int (nI k15), .int (nI k16)]), (h1, aI Y 3640 f0), (h2, aZ Y 2 f1), (h3, aZ Y 80 f3), (h4, aB Y 1600 f4), (h5, aI Y 200 f13), (h6, aI Y 800 f14)]) (mkW [0] [0] [] [] [] []) (show 0 ≤ 4000 by omega) rfl rfl (fun a31 hI33 IH32 => ?_)
          refine V_lv [(5, .int (nI (a31.1 0))), (4, .int (a31.2.1 0)), (3, .int (nI (a18.1 0))), (2, .int (a18.2.1 0)), (0, .ref h0), (1, .int (nI n4))] [0, 1, 2, 3, 4, 5] rfl ?_
          refine V_ws [(h0, oC 13 [.ref h1, .ref h2, .int (u15.2.1 0), .ref h3, .ref h4, .int (nI k5), .int (nI k6), .int p7, .int p8, .int p9, .int (nI k10), .int p11, .long q12, .ref h5, .ref h6, .int (nI k15), .int (nI k16)]), (h1, aI Y 3640 f0), (h2, aZ Y 2 f1), (h3, aZ Y 80 f3), (h4, aB Y 1600 f4), (h5, aI Y 200 f13), (h6, aI Y 800 f14)] rfl ?_
          have x34 := hI33
          refine V_iload 60 B dX12_prefixes_60 0 rfl ?_
          refine V_iload_n 62 B dX12_prefixes_62 2 rfl ?_
          refine V_icmp_ge 63 B 120 dX12_prefixes_63 (by decide) (fun kk35 => ?_) (fun kk35 => ?_)
          ·
            have x36 := n_le (a := (a18.1 0)) (b := (a31.1 0)) kk35 (by omega) (by omega)
            refine V_iload_n 120 B dX12_prefixes_120 3 rfl ?_
            refine V_aload_n 121 B dX12_prefixes_121 4 rfl ?_
            refine V_get 122 B gf_RX12_9 0 rfl rfl dX12_prefixes_122 ?_
            refine V_iload_n 125 B dX12_prefixes_125 2 rfl ?_
            refine V_csi 126 B (st := [.ref h1, .int (a18.2.1 0)]) (As := [.int (nI (a18.1 0))]) (fun sz => rX12_sequenceOf l D Y (a18.1 0) (by omega) sz) glS_RX12_85 ⟨rfl, rfl⟩ ⟨(Nat.le_of_ble_eq_true rfl), (Nat.le_of_ble_eq_true rfl)⟩ ⟨(Nat.le_of_ble_eq_true rfl), (Nat.le_of_ble_eq_true rfl)⟩ [] rfl rfl (Nat.le_of_ble_eq_true rfl) rfl (fun _ _ _ => rfl) dX12_prefixes_126 (fun j37 u38 w39 => ?_)
            refine V_ws [(h0, oC 13 [.ref h1, .ref h2, .int (u15.2.1 0), .ref h3, .ref h4, .int (nI k5), .int (nI k6), .int p7, .int p8, .int p9, .int (nI k10), .int p11, .long q12, .ref h5, .ref h6, .int (nI k15), .int (nI k16)]), (h1, aI Y 3640 f0), (h2, aZ Y 2 f1), (h3, aZ Y 80 f3), (h4, aB Y 1600 f4), (h5, aI Y 200 f13), (h6, aI Y 800 f14)] rfl ?_
            have x40 := w39
            clear w39
            obtain rfl := x40
            have x41 : (gN f0 (186 + 7 * (a18.1 0))) ≤ 4 := gN_le HI (by omega) (rl11 (a18.1 0) (by omega))
            refine V_iald 129 B (v := (nI ((gN f0 (186 + 7 * (a18.1 0)))))) 1 rfl (vp_in_nI (n := 186 + 7 * (a18.1 0)) (by omega) (by decide)) dX12_prefixes_129 (by rw [nI_clamp (show 186 + 7 * (a18.1 0) < 2 ^ 31 by omega)]; exact gN_eq HI (by omega) (rl11 (a18.1 0) (by omega))) ?_
            refine V_iload 130 B dX12_prefixes_130 1 rfl ?_
            refine V_isub 132 B dX12_prefixes_132 rfl ?_
            refine V_nmi (fun j42 e43 => ?_)
            refine V_iadd 133 B dX12_prefixes_133 rfl ?_
            refine V_nmi (fun j44 e45 => ?_)
            refine V_istore_n 134 B (lv2 := [(2, .int j44), (5, .int (nI (a31.1 0))), (4, .int (a31.2.1 0)), (3, .int (nI (a18.1 0))), (0, .ref h0), (1, .int (nI n4))]) dX12_prefixes_134 (by decide) rfl ?_
            refine V_iinc 135 B (v := (nI (1 + (a18.1 0)))) (lv2 := [(3, .int (nI (1 + (a18.1 0)))), (2, .int j44), (5, .int (nI (a31.1 0))), (4, .int (a31.2.1 0)), (0, .ref h0), (1, .int (nI n4))]) dX12_prefixes_135 3 rfl (nI_addE (a := (a18.1 0)) (b := 1) (by omega)) (by decide) rfl ?_
            refine V_goto 138 B 32 dX12_prefixes_138 (by decide) ?_
            refine V_lv [(3, .int (nI (1 + (a18.1 0)))), (2, .int j44), (0, .ref h0), (1, .int (nI n4))] [0, 1, 4, 5] rfl ?_
            exact IH19 (mkW [1 + (a18.1 0)] [j44] [] [] [] []) (show 1 + (a18.1 0) ≤ 4000 by omega) (by show 100000 - (1 + (a18.1 0)) < 100000 - (a18.1 0); omega)
          ·
            have x46 := n_nle (a := (a18.1 0)) (b := (a31.1 0)) kk35 (by omega) (by omega)
            refine V_aload_n 66 B dX12_prefixes_66 4 rfl ?_
            refine V_iload_n 67 B dX12_prefixes_67 5 rfl ?_
            refine V_iload 68 B dX12_prefixes_68 0 rfl ?_
            refine V_cvi 70 B (st := []) (As := [.int (nI n4), .int (nI (a31.1 0))]) (fun sz => rX12_isVisible l D Y h0 h1 h2 h3 h4 h5 h6 (u15.2.1 0) k5 k6 p7 p8 p9 k10 p11 q12 k15 k16 f0 f1 f3 f4 f13 f14 ph HI (by omega) HP (nI n4) (a31.1 0) (by rw [nI_toInt (show n4 < 2 ^ 31 by omega)]; omega) (by omega) sz) glV_RX12_154 ⟨rfl, rfl⟩ ⟨(Nat.le_of_ble_eq_true rfl), (Nat.le_of_ble_eq_true rfl)⟩ ⟨(Nat.le_of_ble_eq_true rfl), (Nat.le_of_ble_eq_true rfl)⟩ [0, 0, 0, 0, 0, 0, 0] rfl 13 0 rfl rfl rfl rfl (Nat.le_of_ble_eq_true rfl) rfl (fun _ _ _ => rfl) dX12_prefixes_70 (fun j47 u48 w49 => ?_)
            refine V_ws [(h0, oC 13 [.ref h1, .ref h2, .int (u15.2.1 0), .ref h3, .ref h4, .int (nI k5), .int (nI k6), .int p7, .int p8, .int p9, .int (nI k10), .int p11, .long q12, .ref h5, .ref h6, .int (nI k15), .int (nI k16)]), (h1, aI Y 3640 f0), (h2, aZ Y 2 f1), (h3, aZ Y 80 f3), (h4, aB Y 1600 f4), (h5, aI Y 200 f13), (h6, aI Y 800 f14)] rfl ?_
            have x50 := w49
            clear w49
            rcases x50 with ⟨rfl, x51⟩ | ⟨rfl, x51⟩
            ·
              refine V_if_eq_t 73 B 114 dX12_prefixes_73 (by decide) (by decide +kernel) ?_
              refine V_iinc 114 B (v := (nI (1 + (a31.1 0)))) (lv2 := [(5, .int (nI (1 + (a31.1 0)))), (4, .int (a31.2.1 0)), (3, .int (nI (a18.1 0))), (2, .int (a18.2.1 0)), (0, .ref h0), (1, .int (nI n4))]) dX12_prefixes_114 0 rfl (nI_addE (a := (a31.1 0)) (b := 1) (by omega)) (by decide) rfl ?_
              refine V_goto 117 B 60 dX12_prefixes_117 (by decide) ?_
              refine V_lv [(5, .int (nI (1 + (a31.1 0)))), (4, .int (a31.2.1 0)), (3, .int (nI (a18.1 0))), (2, .int (a18.2.1 0)), (0, .ref h0), (1, .int (nI n4))] [0, 1, 2, 3, 4, 5] rfl ?_
              exact IH32 (mkW [1 + (a31.1 0)] [(a31.2.1 0)] [] [] [] []) (show 1 + (a31.1 0) ≤ 4000 by omega) (by show 100000 - (1 + (a31.1 0)) < 100000 - (a31.1 0); omega)
            ·
              refine V_if_eq_f 73 B 114 dX12_prefixes_73 (by decide) (by decide +kernel) ?_
              refine V_iload 76 B dX12_prefixes_76 1 rfl ?_
              refine V_aload_n 78 B dX12_prefixes_78 4 rfl ?_
              refine V_iload 79 B dX12_prefixes_79 0 rfl ?_
              refine V_csi 81 B (st := [.ref h0, .int (a31.2.1 0)]) (As := [.int (nI (a31.1 0))]) (fun sz => rX12_sequenceOf l D Y (a31.1 0) (by omega) sz) glS_RX12_85 ⟨rfl, rfl⟩ ⟨(Nat.le_of_ble_eq_true rfl), (Nat.le_of_ble_eq_true rfl)⟩ ⟨(Nat.le_of_ble_eq_true rfl), (Nat.le_of_ble_eq_true rfl)⟩ [] rfl rfl (Nat.le_of_ble_eq_true rfl) rfl (fun _ _ _ => rfl) dX12_prefixes_81 (fun j52 u53 w54 => ?_)
              refine V_ws [(h0, oC 13 [.ref h1, .ref h2, .int (u15.2.1 0), .ref h3, .ref h4, .int (nI k5), .int (nI k6), .int p7, .int p8, .int p9, .int (nI k10), .int p11, .long q12, .ref h5, .ref h6, .int (nI k15), .int (nI k16)]), (h1, aI Y 3640 f0), (h2, aZ Y 2 f1), (h3, aZ Y 80 f3), (h4, aB Y 1600 f4), (h5, aI Y 200 f13), (h6, aI Y 800 f14)] rfl ?_
              have x55 := w54
              clear w54
              obtain rfl := x55
              refine V_iload_n 84 B dX12_prefixes_84 2 rfl ?_
              refine V_csi 85 B (st := [.int (nI (186 + 7 * (a31.1 0))), .ref h0, .int (a31.2.1 0)]) (As := [.int (nI (a18.1 0))]) (fun sz => rX12_sequenceOf l D Y (a18.1 0) (by omega) sz) glS_RX12_85 ⟨rfl, rfl⟩ ⟨(Nat.le_of_ble_eq_true rfl), (Nat.le_of_ble_eq_true rfl)⟩ ⟨(Nat.le_of_ble_eq_true rfl), (Nat.le_of_ble_eq_true rfl)⟩ [] rfl rfl (Nat.le_of_ble_eq_true rfl) rfl (fun _ _ _ => rfl) dX12_prefixes_85 (fun j56 u57 w58 => ?_)
              refine V_ws [(h0, oC 13 [.ref h1, .ref h2, .int (u15.2.1 0), .ref h3, .ref h4, .int (nI k5), .int (nI k6), .int p7, .int p8, .int p9, .int (nI k10), .int p11, .long q12, .ref h5, .ref h6, .int (nI k15), .int (nI k16)]), (h1, aI Y 3640 f0), (h2, aZ Y 2 f1), (h3, aZ Y 80 f3), (h4, aB Y 1600 f4), (h5, aI Y 200 f13), (h6, aI Y 800 f14)] rfl ?_
              have x59 := w58
              clear w58
              obtain rfl := x59
              refine V_cvi 88 B (st := [.int (a31.2.1 0)]) (As := [.int (nI (186 + 7 * (a31.1 0))), .int (nI (186 + 7 * (a18.1 0)))]) (fun sz => rX12_commonOf l D Y h0 h1 h2 h3 h4 h5 h6 (u15.2.1 0) k5 k6 p7 p8 p9 k10 p11 q12 k15 k16 f0 f1 f3 f4 f13 f14 ph HI (by omega) HP (186 + 7 * (a31.1 0)) (186 + 7 * (a18.1 0)) (rl12 (a31.1 0) (by omega)) (rl5 (a18.1 0) (by omega)) sz) glV_RX12_62 ⟨rfl, rfl⟩ ⟨(Nat.le_of_ble_eq_true rfl), (Nat.le_of_ble_eq_true rfl)⟩ ⟨(Nat.le_of_ble_eq_true rfl), (Nat.le_of_ble_eq_true rfl)⟩ [0, 0, 0, 0, 0, 0, 0] rfl 13 0 rfl rfl rfl rfl (Nat.le_of_ble_eq_true rfl) rfl (fun _ _ _ => rfl) dX12_prefixes_88 (fun j60 u61 w62 => ?_)
              refine V_ws [(h0, oC 13 [.ref h1, .ref h2, .int (u15.2.1 0), .ref h3, .ref h4, .int (nI k5), .int (nI k6), .int p7, .int p8, .int p9, .int (nI k10), .int p11, .long q12, .ref h5, .ref h6, .int (nI k15), .int (nI k16)]), (h1, aI Y 3640 f0), (h2, aZ Y 2 f1), (h3, aZ Y 80 f3), (h4, aB Y 1600 f4), (h5, aI Y 200 f13), (h6, aI Y 800 f14)] rfl ?_
              have x63 := w62
              clear w62
              obtain rfl := x63
              have x64 := kmV_le f0 (186 + 7 * (a31.1 0)) (186 + 7 * (a18.1 0))
              have x65 : gN f0 (186 + 7 * (a31.1 0)) ≤ 4 := gN_le HI (by omega) (rl13 (a31.1 0) (by omega))
              have x66 : gN f0 (186 + 7 * (a18.1 0)) ≤ 4 := gN_le HI (by omega) (rl11 (a18.1 0) (by omega))
              refine V_icmp_ge 91 B 110 dX12_prefixes_91 (by decide) (fun kk67 => ?_) (fun kk67 => ?_)
              ·
                have x68 := x_le kk67
                rw [nI_toInt (show (kmV f0 (186 + 7 * (a31.1 0)) (186 + 7 * (a18.1 0))) < 2 ^ 31 by omega)] at x68
                refine V_iload 110 B dX12_prefixes_110 1 rfl ?_
                refine V_istore 112 B (lv2 := [(4, .int (a31.2.1 0)), (5, .int (nI (a31.1 0))), (3, .int (nI (a18.1 0))), (2, .int (a18.2.1 0)), (0, .ref h0), (1, .int (nI n4))]) dX12_prefixes_112 (by decide) rfl ?_
                refine V_iinc 114 B (v := (nI (1 + (a31.1 0)))) (lv2 := [(5, .int (nI (1 + (a31.1 0)))), (4, .int (a31.2.1 0)), (3, .int (nI (a18.1 0))), (2, .int (a18.2.1 0)), (0, .ref h0), (1, .int (nI n4))]) dX12_prefixes_114 1 rfl (nI_addE (a := (a31.1 0)) (b := 1) (by omega)) (by decide) rfl ?_
                refine V_goto 117 B 60 dX12_prefixes_117 (by decide) ?_
                refine V_lv [(5, .int (nI (1 + (a31.1 0)))), (4, .int (a31.2.1 0)), (3, .int (nI (a18.1 0))), (2, .int (a18.2.1 0)), (0, .ref h0), (1, .int (nI n4))] [0, 1, 2, 3, 4, 5] rfl ?_
                exact IH32 (mkW [1 + (a31.1 0)] [(a31.2.1 0)] [] [] [] []) (show 1 + (a31.1 0) ≤ 4000 by omega) (by show 100000 - (1 + (a31.1 0)) < 100000 - (a31.1 0); omega)
              ·
                have x69 := x_nle kk67
                rw [nI_toInt (show (kmV f0 (186 + 7 * (a31.1 0)) (186 + 7 * (a18.1 0))) < 2 ^ 31 by omega)] at x69
                refine V_aload_n 94 B dX12_prefixes_94 4 rfl ?_
                refine V_iload 95 B dX12_prefixes_95 0 rfl ?_
                refine V_csi 97 B (st := [.ref h0]) (As := [.int (nI (a31.1 0))]) (fun sz => rX12_sequenceOf l D Y (a31.1 0) (by omega) sz) glS_RX12_85 ⟨rfl, rfl⟩ ⟨(Nat.le_of_ble_eq_true rfl), (Nat.le_of_ble_eq_true rfl)⟩ ⟨(Nat.le_of_ble_eq_true rfl), (Nat.le_of_ble_eq_true rfl)⟩ [] rfl rfl (Nat.le_of_ble_eq_true rfl) rfl (fun _ _ _ => rfl) dX12_prefixes_97 (fun j70 u71 w72 => ?_)
                refine V_ws [(h0, oC 13 [.ref h1, .ref h2, .int (u15.2.1 0), .ref h3, .ref h4, .int (nI k5), .int (nI k6), .int p7, .int p8, .int p9, .int (nI k10), .int p11, .long q12, .ref h5, .ref h6, .int (nI k15), .int (nI k16)]), (h1, aI Y 3640 f0), (h2, aZ Y 2 f1), (h3, aZ Y 80 f3), (h4, aB Y 1600 f4), (h5, aI Y 200 f13), (h6, aI Y 800 f14)] rfl ?_
                have x73 := w72
                clear w72
                obtain rfl := x73
                refine V_iload_n 100 B dX12_prefixes_100 2 rfl ?_
                refine V_csi 101 B (st := [.int (nI (186 + 7 * (a31.1 0))), .ref h0]) (As := [.int (nI (a18.1 0))]) (fun sz => rX12_sequenceOf l D Y (a18.1 0) (by omega) sz) glS_RX12_85 ⟨rfl, rfl⟩ ⟨(Nat.le_of_ble_eq_true rfl), (Nat.le_of_ble_eq_true rfl)⟩ ⟨(Nat.le_of_ble_eq_true rfl), (Nat.le_of_ble_eq_true rfl)⟩ [] rfl rfl (Nat.le_of_ble_eq_true rfl) rfl (fun _ _ _ => rfl) dX12_prefixes_101 (fun j74 u75 w76 => ?_)
                refine V_ws [(h0, oC 13 [.ref h1, .ref h2, .int (u15.2.1 0), .ref h3, .ref h4, .int (nI k5), .int (nI k6), .int p7, .int p8, .int p9, .int (nI k10), .int p11, .long q12, .ref h5, .ref h6, .int (nI k15), .int (nI k16)]), (h1, aI Y 3640 f0), (h2, aZ Y 2 f1), (h3, aZ Y 80 f3), (h4, aB Y 1600 f4), (h5, aI Y 200 f13), (h6, aI Y 800 f14)] rfl ?_
                have x77 := w76
                clear w76
                obtain rfl := x77
                refine V_cvi 104 B (st := []) (As := [.int (nI (186 + 7 * (a31.1 0))), .int (nI (186 + 7 * (a18.1 0)))]) (fun sz => rX12_commonOf l D Y h0 h1 h2 h3 h4 h5 h6 (u15.2.1 0) k5 k6 p7 p8 p9 k10 p11 q12 k15 k16 f0 f1 f3 f4 f13 f14 ph HI (by omega) HP (186 + 7 * (a31.1 0)) (186 + 7 * (a18.1 0)) (rl12 (a31.1 0) (by omega)) (rl5 (a18.1 0) (by omega)) sz) glV_RX12_62 ⟨rfl, rfl⟩ ⟨(Nat.le_of_ble_eq_true rfl), (Nat.le_of_ble_eq_true rfl)⟩ ⟨(Nat.le_of_ble_eq_true rfl), (Nat.le_of_ble_eq_true rfl)⟩ [0, 0, 0, 0, 0, 0, 0] rfl 13 0 rfl rfl rfl rfl (Nat.le_of_ble_eq_true rfl) rfl (fun _ _ _ => rfl) dX12_prefixes_104 (fun j78 u79 w80 => ?_)
                refine V_ws [(h0, oC 13 [.ref h1, .ref h2, .int (u15.2.1 0), .ref h3, .ref h4, .int (nI k5), .int (nI k6), .int p7, .int p8, .int p9, .int (nI k10), .int p11, .long q12, .ref h5, .ref h6, .int (nI k15), .int (nI k16)]), (h1, aI Y 3640 f0), (h2, aZ Y 2 f1), (h3, aZ Y 80 f3), (h4, aB Y 1600 f4), (h5, aI Y 200 f13), (h6, aI Y 800 f14)] rfl ?_
                have x81 := w80
                clear w80
                obtain rfl := x81
                have x82 := kmV_le f0 (186 + 7 * (a31.1 0)) (186 + 7 * (a18.1 0))
                have x83 : gN f0 (186 + 7 * (a31.1 0)) ≤ 4 := gN_le HI (by omega) (rl13 (a31.1 0) (by omega))
                have x84 : gN f0 (186 + 7 * (a18.1 0)) ≤ 4 := gN_le HI (by omega) (rl11 (a18.1 0) (by omega))
                refine V_goto 107 B 112 dX12_prefixes_107 (by decide) ?_
                refine V_istore 112 B (lv2 := [(4, .int (nI ((kmV f0 (186 + 7 * (a31.1 0)) (186 + 7 * (a18.1 0)))))), (5, .int (nI (a31.1 0))), (3, .int (nI (a18.1 0))), (2, .int (a18.2.1 0)), (0, .ref h0), (1, .int (nI n4))]) dX12_prefixes_112 (by decide) rfl ?_
                refine V_iinc 114 B (v := (nI (1 + (a31.1 0)))) (lv2 := [(5, .int (nI (1 + (a31.1 0)))), (4, .int (nI ((kmV f0 (186 + 7 * (a31.1 0)) (186 + 7 * (a18.1 0)))))), (3, .int (nI (a18.1 0))), (2, .int (a18.2.1 0)), (0, .ref h0), (1, .int (nI n4))]) dX12_prefixes_114 1 rfl (nI_addE (a := (a31.1 0)) (b := 1) (by omega)) (by decide) rfl ?_
                refine V_goto 117 B 60 dX12_prefixes_117 (by decide) ?_
                refine V_lv [(5, .int (nI (1 + (a31.1 0)))), (4, .int (nI ((kmV f0 (186 + 7 * (a31.1 0)) (186 + 7 * (a18.1 0)))))), (3, .int (nI (a18.1 0))), (2, .int (a18.2.1 0)), (0, .ref h0), (1, .int (nI n4))] [0, 1, 2, 3, 4, 5] rfl ?_
                exact IH32 (mkW [1 + (a31.1 0)] [(nI ((kmV f0 (186 + 7 * (a31.1 0)) (186 + 7 * (a18.1 0)))))] [] [] [] []) (show 1 + (a31.1 0) ≤ 4000 by omega) (by show 100000 - (1 + (a31.1 0)) < 100000 - (a31.1 0); omega))
theorem dX12_bestOf_0 : decode cX12_bestOf 0 = .ok (.iconst (-1), 1) := by decide +kernel
theorem dX12_bestOf_1 : decode cX12_bestOf 1 = .ok (.istore_n 3, 1) := by decide +kernel
theorem dX12_bestOf_2 : decode cX12_bestOf 2 = .ok (.iconst 0, 1) := by decide +kernel
theorem dX12_bestOf_3 : decode cX12_bestOf 3 = .ok (.istore 4, 2) := by decide +kernel
theorem dX12_bestOf_5 : decode cX12_bestOf 5 = .ok (.iload 4, 2) := by decide +kernel
theorem dX12_bestOf_7 : decode cX12_bestOf 7 = .ok (.aload_n 0, 1) := by decide +kernel
theorem dX12_bestOf_8 : decode cX12_bestOf 8 = .ok (.getfield 9, 3) := by decide +kernel
theorem dX12_bestOf_11 : decode cX12_bestOf 11 = .ok (.iconst 3, 1) := by decide +kernel
theorem dX12_bestOf_12 : decode cX12_bestOf 12 = .ok (.iaload, 1) := by decide +kernel
theorem dX12_bestOf_13 : decode cX12_bestOf 13 = .ok (.if_icmp .ge 60, 3) := by decide +kernel
theorem dX12_bestOf_73 : decode cX12_bestOf 73 = .ok (.iload_n 3, 1) := by decide +kernel
theorem dX12_bestOf_74 : decode cX12_bestOf 74 = .ok (.ireturn, 1) := by decide +kernel
theorem dX12_bestOf_16 : decode cX12_bestOf 16 = .ok (.aload_n 0, 1) := by decide +kernel
theorem dX12_bestOf_17 : decode cX12_bestOf 17 = .ok (.iload 4, 2) := by decide +kernel
theorem dX12_bestOf_19 : decode cX12_bestOf 19 = .ok (.invokevirtual 96, 3) := by decide +kernel
theorem dX12_bestOf_22 : decode cX12_bestOf 22 = .ok (.iload_n 2, 1) := by decide +kernel
theorem dX12_bestOf_23 : decode cX12_bestOf 23 = .ok (.if_icmp .ne 44, 3) := by decide +kernel
theorem dX12_bestOf_67 : decode cX12_bestOf 67 = .ok (.iinc 4 1, 3) := by decide +kernel
theorem dX12_bestOf_70 : decode cX12_bestOf 70 = .ok (.goto (-65), 3) := by decide +kernel
theorem dX12_bestOf_26 : decode cX12_bestOf 26 = .ok (.iload_n 3, 1) := by decide +kernel
theorem dX12_bestOf_27 : decode cX12_bestOf 27 = .ok (.iconst (-1), 1) := by decide +kernel
theorem dX12_bestOf_28 : decode cX12_bestOf 28 = .ok (.if_icmp .eq 23, 3) := by decide +kernel
theorem dX12_bestOf_51 : decode cX12_bestOf 51 = .ok (.aload_n 0, 1) := by decide +kernel
theorem dX12_bestOf_52 : decode cX12_bestOf 52 = .ok (.iload_n 1, 1) := by decide +kernel
theorem dX12_bestOf_53 : decode cX12_bestOf 53 = .ok (.iload 4, 2) := by decide +kernel
theorem dX12_bestOf_55 : decode cX12_bestOf 55 = .ok (.invokevirtual 154, 3) := by decide +kernel
theorem dX12_bestOf_58 : decode cX12_bestOf 58 = .ok (.ifCond .ne 6, 3) := by decide +kernel
theorem dX12_bestOf_61 : decode cX12_bestOf 61 = .ok (.goto 6, 3) := by decide +kernel
theorem dX12_bestOf_64 : decode cX12_bestOf 64 = .ok (.iload 4, 2) := by decide +kernel
theorem dX12_bestOf_66 : decode cX12_bestOf 66 = .ok (.istore_n 3, 1) := by decide +kernel
theorem dX12_bestOf_31 : decode cX12_bestOf 31 = .ok (.aload_n 0, 1) := by decide +kernel
theorem dX12_bestOf_32 : decode cX12_bestOf 32 = .ok (.iload 4, 2) := by decide +kernel
theorem dX12_bestOf_34 : decode cX12_bestOf 34 = .ok (.invokestatic 85, 3) := by decide +kernel
theorem dX12_bestOf_37 : decode cX12_bestOf 37 = .ok (.invokevirtual 76, 3) := by decide +kernel
theorem dX12_bestOf_40 : decode cX12_bestOf 40 = .ok (.aload_n 0, 1) := by decide +kernel
theorem dX12_bestOf_41 : decode cX12_bestOf 41 = .ok (.iload_n 3, 1) := by decide +kernel
theorem dX12_bestOf_42 : decode cX12_bestOf 42 = .ok (.invokestatic 85, 3) := by decide +kernel
theorem dX12_bestOf_45 : decode cX12_bestOf 45 = .ok (.invokevirtual 76, 3) := by decide +kernel
theorem dX12_bestOf_48 : decode cX12_bestOf 48 = .ok (.if_icmp .ge 19, 3) := by decide +kernel
set_option maxRecDepth 100000 in
set_option maxHeartbeats 4000000 in
theorem rX12_bestOf (l : Launch) (D : va_G) (Y : Nat → ClassId) (h0 : Nat) (h1 : Nat) (h2 : Nat) (h3 : Nat) (h4 : Nat) (h5 : Nat) (h6 : Nat) (p2 : Int32) (k5 : Nat) (k6 : Nat) (p7 : Int32) (p8 : Int32) (p9 : Int32) (k10 : Nat) (p11 : Int32) (q12 : Int64) (k15 : Nat) (k16 : Nat) (f0 : Nat → Int32) (f1 : Nat → Int32) (f3 : Nat → Int32) (f4 : Nat → Int32) (f13 : Nat → Int32) (f14 : Nat → Int32) (ph : Nat → Int32) (HI : INV ph f0) (HL : k5 ≤ 1600) (HP : PLV f13) (s0 : Int32) (s1 : Int32) (hm0 : -1 ≤ s0.toInt ∧ s0.toInt ≤ 5) (sz : Nat) : Met l yX12_bestOf (WSm yX12_bestOf cX12_bestOf 5 (some .int)) (mkR 5 0 0 113) (PreC D Y [.ref h0, .int s0, .int s1] [(h0, oC 13 [.ref h1, .ref h2, .int p2, .ref h3, .ref h4, .int (nI k5), .int (nI k6), .int p7, .int p8, .int p9, .int (nI k10), .int p11, .long q12, .ref h5, .ref h6, .int (nI k15), .int (nI k16)]), (h1, aI Y 3640 f0), (h2, aZ Y 2 f1), (h3, aZ Y 80 f3), (h4, aB Y 1600 f4), (h5, aI Y 200 f13), (h6, aI Y 800 f14)] sz) (QI D (fun (r : Int32) (u : WU) => (r = -1 ∨ ∃ b : Nat, r = nI b ∧ b < gN f0 3)) (fun (u : WU) => [(h0, oC 13 [.ref h1, .ref h2, .int p2, .ref h3, .ref h4, .int (nI k5), .int (nI k6), .int p7, .int p8, .int p9, .int (nI k10), .int p11, .long q12, .ref h5, .ref h6, .int (nI k15), .int (nI k16)]), (h1, aI Y 3640 f0), (h2, aZ Y 2 f1), (h3, aZ Y 80 f3), (h4, aB Y 1600 f4), (h5, aI Y 200 f13), (h6, aI Y 800 f14)]) (va_A [(h0, oC 13 [.ref h1, .ref h2, .int p2, .ref h3, .ref h4, .int (nI k5), .int (nI k6), .int p7, .int p8, .int p9, .int (nI k10), .int p11, .long q12, .ref h5, .ref h6, .int (nI k15), .int (nI k16)]), (h1, aI Y 3640 f0), (h2, aZ Y 2 f1), (h3, aZ Y 80 f3), (h4, aB Y 1600 f4), (h5, aI Y 200 f13), (h6, aI Y 800 f14)] sz)) 0 0 (va_A [(h0, oC 13 [.ref h1, .ref h2, .int p2, .ref h3, .ref h4, .int (nI k5), .int (nI k6), .int p7, .int p8, .int p9, .int (nI k10), .int p11, .long q12, .ref h5, .ref h6, .int (nI k15), .int (nI k16)]), (h1, aI Y 3640 f0), (h2, aZ Y 2 f1), (h3, aZ Y 80 f3), (h4, aB Y 1600 f4), (h5, aI Y 200 f13), (h6, aI Y 800 f14)] sz) :=
  met_of  (by decide +kernel) (Nat.le_of_ble_eq_true rfl) (fun p e s m args below meth c B hin hsz => by
    have B : VB p s m args meth c D Y (va_A [(h0, oC 13 [.ref h1, .ref h2, .int p2, .ref h3, .ref h4, .int (nI k5), .int (nI k6), .int p7, .int p8, .int p9, .int (nI k10), .int p11, .long q12, .ref h5, .ref h6, .int (nI k15), .int (nI k16)]), (h1, aI Y 3640 f0), (h2, aZ Y 2 f1), (h3, aZ Y 80 f3), (h4, aB Y 1600 f4), (h5, aI Y 200 f13), (h6, aI Y 800 f14)] sz) cX12_bestOf 5 RX12 (some .int) := B
    refine V_iconst 0 B (v := (-1)) dX12_bestOf_0 (by decide +kernel) ?_
    refine V_istore_n 1 B (lv2 := [(3, .int (-1)), (0, .ref h0), (1, .int s0), (2, .int s1)]) dX12_bestOf_1 (by decide) rfl ?_
    refine V_iconst 2 B (v := 0) dX12_bestOf_2 (by decide +kernel) ?_
    refine V_istore 3 B (lv2 := [(4, .int 0), (3, .int (-1)), (0, .ref h0), (1, .int s0), (2, .int s1)]) dX12_bestOf_3 (by decide) rfl ?_
    refine V_wloop (α := WU) (fun a => 100000 - (a.1 0)) (fun a => (a.1 0) ≤ 4000 ∧ ((a.2.1 0) = -1 ∨ ∃ j9 : Nat, (a.2.1 0) = nI j9 ∧ j9 < gN f0 3)) (fun a => [(4, .int (nI (a.1 0))), (3, .int (a.2.1 0)), (0, .ref h0), (1, .int s0), (2, .int s1)]) (fun a => [(h0, oC 13 [.ref h1, .ref h2, .int p2, .ref h3, .ref h4, .int (nI k5), .int (nI k6), .int p7, .int p8, .int p9, .int (nI k10), .int p11, .long q12, .ref h5, .ref h6, .int (nI k15), .int (nI k16)]), (h1, aI Y 3640 f0), (h2, aZ Y 2 f1), (h3, aZ Y 80 f3), (h4, aB Y 1600 f4), (h5, aI Y 200 f13), (h6, aI Y 800 f14)]) (mkW [0] [(-1)] [] [] [] []) ⟨(show 0 ≤ 4000 by omega), (Or.inl rfl)⟩ rfl rfl (fun a0 hI2 IH1 => ?_)
    refine V_lv [(4, .int (nI (a0.1 0))), (3, .int (a0.2.1 0)), (0, .ref h0), (1, .int s0), (2, .int s1)] [0, 1, 2, 3, 4] rfl ?_
    refine V_ws [(h0, oC 13 [.ref h1, .ref h2, .int p2, .ref h3, .ref h4, .int (nI k5), .int (nI k6), .int p7, .int p8, .int p9, .int (nI k10), .int p11, .long q12, .ref h5, .ref h6, .int (nI k15), .int (nI k16)]), (h1, aI Y 3640 f0), (h2, aZ Y 2 f1), (h3, aZ Y 80 f3), (h4, aB Y 1600 f4), (h5, aI Y 200 f13), (h6, aI Y 800 f14)] rfl ?_
    obtain ⟨x3, x4⟩ := hI2
    rcases x4 with e5 | ⟨n6, e5, x7⟩
    ·
      refine V_lv [(4, .int (nI (a0.1 0))), (3, .int (-1)), (0, .ref h0), (1, .int s0), (2, .int s1)] [0, 1, 2, 3, 4] (by rw [e5]; rfl) ?_
      have x8 : (gN f0 3) ≤ 80 := gN_le HI (by omega) (show bd 3 = (0, ((80 : Nat) : Int)) by decide +kernel)
      refine V_iload 5 B dX12_bestOf_5 0 rfl ?_
      refine V_aload_n 7 B dX12_bestOf_7 2 rfl ?_
      refine V_get 8 B gf_RX12_9 0 rfl rfl dX12_bestOf_8 ?_
      refine V_iconst 11 B (v := 3) dX12_bestOf_11 (by decide +kernel) ?_
      have x9 : (gN f0 3) ≤ 80 := gN_le HI (by omega) (show bd 3 = (0, ((80 : Nat) : Int)) by decide +kernel)
      refine V_iald 12 B (v := (nI (gN f0 3))) 1 rfl (vpin _ _ (by decide +kernel)) dX12_bestOf_12 (by show f0 3 = _; exact gN_eq HI (by omega) (show bd 3 = (0, ((80 : Nat) : Int)) by decide +kernel)) ?_
      refine V_icmp_ge 13 B 73 dX12_bestOf_13 (by decide) (fun kk10 => ?_) (fun kk10 => ?_)
      ·
        have x11 := n_le (a := (gN f0 3)) (b := (a0.1 0)) kk10 (by omega) (by omega)
        refine V_iload_n 73 B dX12_bestOf_73 1 rfl ?_
        exact V_iret 74 B dX12_bestOf_74 (mkW [] [] [] [] [] []) (Or.inl rfl) rfl
      ·
        have x12 := n_nle (a := (gN f0 3)) (b := (a0.1 0)) kk10 (by omega) (by omega)
        refine V_aload_n 16 B dX12_bestOf_16 2 rfl ?_
        refine V_iload 17 B dX12_bestOf_17 0 rfl ?_
        refine V_cvi 19 B (st := []) (As := [.int (nI (a0.1 0))]) (fun sz => rX12_commandOf l D Y h0 h1 h2 h3 h4 h5 h6 p2 k5 k6 p7 p8 p9 k10 p11 q12 k15 k16 f0 f1 f3 f4 f13 f14 ph HI (by omega) HP (a0.1 0) (by omega) sz) glV_RX12_96 ⟨rfl, rfl⟩ ⟨(Nat.le_of_ble_eq_true rfl), (Nat.le_of_ble_eq_true rfl)⟩ ⟨(Nat.le_of_ble_eq_true rfl), (Nat.le_of_ble_eq_true rfl)⟩ [0, 0, 0, 0, 0, 0, 0] rfl 13 0 rfl rfl rfl rfl (Nat.le_of_ble_eq_true rfl) rfl (fun _ _ _ => rfl) dX12_bestOf_19 (fun j13 u14 w15 => ?_)
        refine V_ws [(h0, oC 13 [.ref h1, .ref h2, .int p2, .ref h3, .ref h4, .int (nI k5), .int (nI k6), .int p7, .int p8, .int p9, .int (nI k10), .int p11, .long q12, .ref h5, .ref h6, .int (nI k15), .int (nI k16)]), (h1, aI Y 3640 f0), (h2, aZ Y 2 f1), (h3, aZ Y 80 f3), (h4, aB Y 1600 f4), (h5, aI Y 200 f13), (h6, aI Y 800 f14)] rfl ?_
        have x16 := w15
        clear w15
        obtain rfl := x16
        have x17 : (gN f0 (185 + 7 * (a0.1 0))) ≤ 39 := gN_le HI (by omega) (rl2 (a0.1 0) (by omega))
        refine V_iload_n 22 B dX12_bestOf_22 4 rfl ?_
        refine V_icmp_ne 23 B 67 dX12_bestOf_23 (by decide) (fun kk18 => ?_) (fun kk18 => ?_)
        ·
          have x19 := x_ne kk18
          rw [nI_toInt (show (gN f0 (185 + 7 * (a0.1 0))) < 2 ^ 31 by omega)] at x19
          refine V_iinc 67 B (v := (nI (1 + (a0.1 0)))) (lv2 := [(4, .int (nI (1 + (a0.1 0)))), (3, .int (-1)), (0, .ref h0), (1, .int s0), (2, .int s1)]) dX12_bestOf_67 0 rfl (nI_addE (a := (a0.1 0)) (b := 1) (by omega)) (by decide) rfl ?_
          refine V_goto 70 B 5 dX12_bestOf_70 (by decide) ?_
          refine V_lv [(4, .int (nI (1 + (a0.1 0)))), (3, .int (-1)), (0, .ref h0), (1, .int s0), (2, .int s1)] [0, 1, 2, 3, 4] rfl ?_
          exact IH1 (mkW [1 + (a0.1 0)] [(-1)] [] [] [] []) ⟨(show 1 + (a0.1 0) ≤ 4000 by omega), (Or.inl rfl)⟩ (by show 100000 - (1 + (a0.1 0)) < 100000 - (a0.1 0); omega)
        ·
          have x20 := x_eq kk18
          rw [nI_toInt (show (gN f0 (185 + 7 * (a0.1 0))) < 2 ^ 31 by omega)] at x20
          refine V_iload_n 26 B dX12_bestOf_26 1 rfl ?_
          refine V_iconst 27 B (v := (-1)) dX12_bestOf_27 (by decide +kernel) ?_
          refine V_icmp_eq_t 28 B 51 dX12_bestOf_28 (by decide) (by decide +kernel) ?_
          refine V_aload_n 51 B dX12_bestOf_51 2 rfl ?_
          refine V_iload_n 52 B dX12_bestOf_52 3 rfl ?_
          refine V_iload 53 B dX12_bestOf_53 0 rfl ?_
          refine V_cvi 55 B (st := []) (As := [.int s0, .int (nI (a0.1 0))]) (fun sz => rX12_isVisible l D Y h0 h1 h2 h3 h4 h5 h6 p2 k5 k6 p7 p8 p9 k10 p11 q12 k15 k16 f0 f1 f3 f4 f13 f14 ph HI (by omega) HP s0 (a0.1 0) (by omega) (by omega) sz) glV_RX12_154 ⟨rfl, rfl⟩ ⟨(Nat.le_of_ble_eq_true rfl), (Nat.le_of_ble_eq_true rfl)⟩ ⟨(Nat.le_of_ble_eq_true rfl), (Nat.le_of_ble_eq_true rfl)⟩ [0, 0, 0, 0, 0, 0, 0] rfl 13 0 rfl rfl rfl rfl (Nat.le_of_ble_eq_true rfl) rfl (fun _ _ _ => rfl) dX12_bestOf_55 (fun j21 u22 w23 => ?_)
          refine V_ws [(h0, oC 13 [.ref h1, .ref h2, .int p2, .ref h3, .ref h4, .int (nI k5), .int (nI k6), .int p7, .int p8, .int p9, .int (nI k10), .int p11, .long q12, .ref h5, .ref h6, .int (nI k15), .int (nI k16)]), (h1, aI Y 3640 f0), (h2, aZ Y 2 f1), (h3, aZ Y 80 f3), (h4, aB Y 1600 f4), (h5, aI Y 200 f13), (h6, aI Y 800 f14)] rfl ?_
          have x24 := w23
          clear w23
          rcases x24 with ⟨rfl, x25⟩ | ⟨rfl, x25⟩
          ·
            refine V_if_ne_f 58 B 64 dX12_bestOf_58 (by decide) (by decide +kernel) ?_
            refine V_goto 61 B 67 dX12_bestOf_61 (by decide) ?_
            refine V_iinc 67 B (v := (nI (1 + (a0.1 0)))) (lv2 := [(4, .int (nI (1 + (a0.1 0)))), (3, .int (-1)), (0, .ref h0), (1, .int s0), (2, .int s1)]) dX12_bestOf_67 0 rfl (nI_addE (a := (a0.1 0)) (b := 1) (by omega)) (by decide) rfl ?_
            refine V_goto 70 B 5 dX12_bestOf_70 (by decide) ?_
            refine V_lv [(4, .int (nI (1 + (a0.1 0)))), (3, .int (-1)), (0, .ref h0), (1, .int s0), (2, .int s1)] [0, 1, 2, 3, 4] rfl ?_
            exact IH1 (mkW [1 + (a0.1 0)] [(-1)] [] [] [] []) ⟨(show 1 + (a0.1 0) ≤ 4000 by omega), (Or.inl rfl)⟩ (by show 100000 - (1 + (a0.1 0)) < 100000 - (a0.1 0); omega)
          ·
            refine V_if_ne_t 58 B 64 dX12_bestOf_58 (by decide) (by decide +kernel) ?_
            refine V_iload 64 B dX12_bestOf_64 0 rfl ?_
            refine V_istore_n 66 B (lv2 := [(3, .int (nI (a0.1 0))), (4, .int (nI (a0.1 0))), (0, .ref h0), (1, .int s0), (2, .int s1)]) dX12_bestOf_66 (by decide) rfl ?_
            refine V_iinc 67 B (v := (nI (1 + (a0.1 0)))) (lv2 := [(4, .int (nI (1 + (a0.1 0)))), (3, .int (nI (a0.1 0))), (0, .ref h0), (1, .int s0), (2, .int s1)]) dX12_bestOf_67 1 rfl (nI_addE (a := (a0.1 0)) (b := 1) (by omega)) (by decide) rfl ?_
            refine V_goto 70 B 5 dX12_bestOf_70 (by decide) ?_
            refine V_lv [(4, .int (nI (1 + (a0.1 0)))), (3, .int (nI (a0.1 0))), (0, .ref h0), (1, .int s0), (2, .int s1)] [0, 1, 2, 3, 4] rfl ?_
            exact IH1 (mkW [1 + (a0.1 0)] [(nI (a0.1 0))] [] [] [] []) ⟨(show 1 + (a0.1 0) ≤ 4000 by omega), (Or.inr ⟨(a0.1 0), rfl, (show (a0.1 0) < gN f0 3 by omega)⟩)⟩ (by show 100000 - (1 + (a0.1 0)) < 100000 - (a0.1 0); omega)
    ·
      refine V_lv [(4, .int (nI (a0.1 0))), (3, .int (nI n6)), (0, .ref h0), (1, .int s0), (2, .int s1)] [0, 1, 2, 3, 4] (by rw [e5]; rfl) ?_
      have x26 : (gN f0 3) ≤ 80 := gN_le HI (by omega) (show bd 3 = (0, ((80 : Nat) : Int)) by decide +kernel)
      refine V_iload 5 B dX12_bestOf_5 0 rfl ?_
      refine V_aload_n 7 B dX12_bestOf_7 2 rfl ?_
      refine V_get 8 B gf_RX12_9 0 rfl rfl dX12_bestOf_8 ?_
      refine V_iconst 11 B (v := 3) dX12_bestOf_11 (by decide +kernel) ?_
      have x27 : (gN f0 3) ≤ 80 := gN_le HI (by omega) (show bd 3 = (0, ((80 : Nat) : Int)) by decide +kernel)
      refine V_iald 12 B (v := (nI (gN f0 3))) 1 rfl (vpin _ _ (by decide +kernel)) dX12_bestOf_12 (by show f0 3 = _; exact gN_eq HI (by omega) (show bd 3 = (0, ((80 : Nat) : Int)) by decide +kernel)) ?_
      refine V_icmp_ge 13 B 73 dX12_bestOf_13 (by decide) (fun kk28 => ?_) (fun kk28 => ?_)
      ·
        have x29 := n_le (a := (gN f0 3)) (b := (a0.1 0)) kk28 (by omega) (by omega)
        refine V_iload_n 73 B dX12_bestOf_73 1 rfl ?_
        exact V_iret 74 B dX12_bestOf_74 (mkW [] [] [] [] [] []) (Or.inr ⟨n6, rfl, by omega⟩) rfl
      ·
        have x30 := n_nle (a := (gN f0 3)) (b := (a0.1 0)) kk28 (by omega) (by omega)
        refine V_aload_n 16 B dX12_bestOf_16 2 rfl ?_
        refine V_iload 17 B dX12_bestOf_17 0 rfl ?_
        refine V_cvi 19 B (st := []) (As := [.int (nI (a0.1 0))]) (fun sz => rX12_commandOf l D Y h0 h1 h2 h3 h4 h5 h6 p2 k5 k6 p7 p8 p9 k10 p11 q12 k15 k16 f0 f1 f3 f4 f13 f14 ph HI (by omega) HP (a0.1 0) (by omega) sz) glV_RX12_96 ⟨rfl, rfl⟩ ⟨(Nat.le_of_ble_eq_true rfl), (Nat.le_of_ble_eq_true rfl)⟩ ⟨(Nat.le_of_ble_eq_true rfl), (Nat.le_of_ble_eq_true rfl)⟩ [0, 0, 0, 0, 0, 0, 0] rfl 13 0 rfl rfl rfl rfl (Nat.le_of_ble_eq_true rfl) rfl (fun _ _ _ => rfl) dX12_bestOf_19 (fun j31 u32 w33 => ?_)
        refine V_ws [(h0, oC 13 [.ref h1, .ref h2, .int p2, .ref h3, .ref h4, .int (nI k5), .int (nI k6), .int p7, .int p8, .int p9, .int (nI k10), .int p11, .long q12, .ref h5, .ref h6, .int (nI k15), .int (nI k16)]), (h1, aI Y 3640 f0), (h2, aZ Y 2 f1), (h3, aZ Y 80 f3), (h4, aB Y 1600 f4), (h5, aI Y 200 f13), (h6, aI Y 800 f14)] rfl ?_
        have x34 := w33
        clear w33
        obtain rfl := x34
        have x35 : (gN f0 (185 + 7 * (a0.1 0))) ≤ 39 := gN_le HI (by omega) (rl2 (a0.1 0) (by omega))
        refine V_iload_n 22 B dX12_bestOf_22 4 rfl ?_
        refine V_icmp_ne 23 B 67 dX12_bestOf_23 (by decide) (fun kk36 => ?_) (fun kk36 => ?_)
        ·
          have x37 := x_ne kk36
          rw [nI_toInt (show (gN f0 (185 + 7 * (a0.1 0))) < 2 ^ 31 by omega)] at x37
          refine V_iinc 67 B (v := (nI (1 + (a0.1 0)))) (lv2 := [(4, .int (nI (1 + (a0.1 0)))), (3, .int (nI n6)), (0, .ref h0), (1, .int s0), (2, .int s1)]) dX12_bestOf_67 0 rfl (nI_addE (a := (a0.1 0)) (b := 1) (by omega)) (by decide) rfl ?_
          refine V_goto 70 B 5 dX12_bestOf_70 (by decide) ?_
          refine V_lv [(4, .int (nI (1 + (a0.1 0)))), (3, .int (nI n6)), (0, .ref h0), (1, .int s0), (2, .int s1)] [0, 1, 2, 3, 4] rfl ?_
          exact IH1 (mkW [1 + (a0.1 0)] [(nI n6)] [] [] [] []) ⟨(show 1 + (a0.1 0) ≤ 4000 by omega), (Or.inr ⟨n6, rfl, (show n6 < gN f0 3 by omega)⟩)⟩ (by show 100000 - (1 + (a0.1 0)) < 100000 - (a0.1 0); omega)
        ·
          have x38 := x_eq kk36
          rw [nI_toInt (show (gN f0 (185 + 7 * (a0.1 0))) < 2 ^ 31 by omega)] at x38
          refine V_iload_n 26 B dX12_bestOf_26 1 rfl ?_
          refine V_iconst 27 B (v := (-1)) dX12_bestOf_27 (by decide +kernel) ?_
          refine V_icmp_eq_f 28 B 51 dX12_bestOf_28 (by decide) (fun z => by have z2 := x_eq z; rw [nI_toInt (show n6 < 2 ^ 31 by omega), show ((-1) : Int32).toInt = (-1) by decide +kernel] at z2; omega) ?_
          refine V_aload_n 31 B dX12_bestOf_31 2 rfl ?_
          refine V_iload 32 B dX12_bestOf_32 0 rfl ?_
          refine V_csi 34 B (st := [.ref h0]) (As := [.int (nI (a0.1 0))]) (fun sz => rX12_sequenceOf l D Y (a0.1 0) (by omega) sz) glS_RX12_85 ⟨rfl, rfl⟩ ⟨(Nat.le_of_ble_eq_true rfl), (Nat.le_of_ble_eq_true rfl)⟩ ⟨(Nat.le_of_ble_eq_true rfl), (Nat.le_of_ble_eq_true rfl)⟩ [] rfl rfl (Nat.le_of_ble_eq_true rfl) rfl (fun _ _ _ => rfl) dX12_bestOf_34 (fun j40 u41 w42 => ?_)
          refine V_ws [(h0, oC 13 [.ref h1, .ref h2, .int p2, .ref h3, .ref h4, .int (nI k5), .int (nI k6), .int p7, .int p8, .int p9, .int (nI k10), .int p11, .long q12, .ref h5, .ref h6, .int (nI k15), .int (nI k16)]), (h1, aI Y 3640 f0), (h2, aZ Y 2 f1), (h3, aZ Y 80 f3), (h4, aB Y 1600 f4), (h5, aI Y 200 f13), (h6, aI Y 800 f14)] rfl ?_
          have x43 := w42
          clear w42
          obtain rfl := x43
          refine V_cvi 37 B (st := []) (As := [.int (nI (186 + 7 * (a0.1 0)))]) (fun sz => rX12_costOf l D Y h0 h1 h2 h3 h4 h5 h6 p2 k5 k6 p7 p8 p9 k10 p11 q12 k15 k16 f0 f1 f3 f4 f13 f14 ph HI (by omega) HP (186 + 7 * (a0.1 0)) (rl5 (a0.1 0) (by omega)) sz) glV_RX12_76 ⟨rfl, rfl⟩ ⟨(Nat.le_of_ble_eq_true rfl), (Nat.le_of_ble_eq_true rfl)⟩ ⟨(Nat.le_of_ble_eq_true rfl), (Nat.le_of_ble_eq_true rfl)⟩ [0, 0, 0, 0, 0, 0, 0] rfl 13 0 rfl rfl rfl rfl (Nat.le_of_ble_eq_true rfl) rfl (fun _ _ _ => rfl) dX12_bestOf_37 (fun j44 u45 w46 => ?_)
          refine V_ws [(h0, oC 13 [.ref h1, .ref h2, .int p2, .ref h3, .ref h4, .int (nI k5), .int (nI k6), .int p7, .int p8, .int p9, .int (nI k10), .int p11, .long q12, .ref h5, .ref h6, .int (nI k15), .int (nI k16)]), (h1, aI Y 3640 f0), (h2, aZ Y 2 f1), (h3, aZ Y 80 f3), (h4, aB Y 1600 f4), (h5, aI Y 200 f13), (h6, aI Y 800 f14)] rfl ?_
          refine V_aload_n 40 B dX12_bestOf_40 2 rfl ?_
          refine V_iload_n 41 B dX12_bestOf_41 1 rfl ?_
          refine V_csi 42 B (st := [.ref h0, .int j44]) (As := [.int (nI n6)]) (fun sz => rX12_sequenceOf l D Y n6 (by omega) sz) glS_RX12_85 ⟨rfl, rfl⟩ ⟨(Nat.le_of_ble_eq_true rfl), (Nat.le_of_ble_eq_true rfl)⟩ ⟨(Nat.le_of_ble_eq_true rfl), (Nat.le_of_ble_eq_true rfl)⟩ [] rfl rfl (Nat.le_of_ble_eq_true rfl) rfl (fun _ _ _ => rfl) dX12_bestOf_42 (fun j47 u48 w49 => ?_)
          refine V_ws [(h0, oC 13 [.ref h1, .ref h2, .int p2, .ref h3, .ref h4, .int (nI k5), .int (nI k6), .int p7, .int p8, .int p9, .int (nI k10), .int p11, .long q12, .ref h5, .ref h6, .int (nI k15), .int (nI k16)]), (h1, aI Y 3640 f0), (h2, aZ Y 2 f1), (h3, aZ Y 80 f3), (h4, aB Y 1600 f4), (h5, aI Y 200 f13), (h6, aI Y 800 f14)] rfl ?_
          have x50 := w49
          clear w49
          obtain rfl := x50
          refine V_cvi 45 B (st := [.int j44]) (As := [.int (nI (186 + 7 * n6))]) (fun sz => rX12_costOf l D Y h0 h1 h2 h3 h4 h5 h6 p2 k5 k6 p7 p8 p9 k10 p11 q12 k15 k16 f0 f1 f3 f4 f13 f14 ph HI (by omega) HP (186 + 7 * n6) (rl5 n6 (by omega)) sz) glV_RX12_76 ⟨rfl, rfl⟩ ⟨(Nat.le_of_ble_eq_true rfl), (Nat.le_of_ble_eq_true rfl)⟩ ⟨(Nat.le_of_ble_eq_true rfl), (Nat.le_of_ble_eq_true rfl)⟩ [0, 0, 0, 0, 0, 0, 0] rfl 13 0 rfl rfl rfl rfl (Nat.le_of_ble_eq_true rfl) rfl (fun _ _ _ => rfl) dX12_bestOf_45 (fun j51 u52 w53 => ?_)
          refine V_ws [(h0, oC 13 [.ref h1, .ref h2, .int p2, .ref h3, .ref h4, .int (nI k5), .int (nI k6), .int p7, .int p8, .int p9, .int (nI k10), .int p11, .long q12, .ref h5, .ref h6, .int (nI k15), .int (nI k16)]), (h1, aI Y 3640 f0), (h2, aZ Y 2 f1), (h3, aZ Y 80 f3), (h4, aB Y 1600 f4), (h5, aI Y 200 f13), (h6, aI Y 800 f14)] rfl ?_
          refine V_icmp_ge 48 B 67 dX12_bestOf_48 (by decide) (fun kk54 => ?_) (fun kk54 => ?_)
          ·
            have x55 := x_le kk54
            refine V_iinc 67 B (v := (nI (1 + (a0.1 0)))) (lv2 := [(4, .int (nI (1 + (a0.1 0)))), (3, .int (nI n6)), (0, .ref h0), (1, .int s0), (2, .int s1)]) dX12_bestOf_67 0 rfl (nI_addE (a := (a0.1 0)) (b := 1) (by omega)) (by decide) rfl ?_
            refine V_goto 70 B 5 dX12_bestOf_70 (by decide) ?_
            refine V_lv [(4, .int (nI (1 + (a0.1 0)))), (3, .int (nI n6)), (0, .ref h0), (1, .int s0), (2, .int s1)] [0, 1, 2, 3, 4] rfl ?_
            exact IH1 (mkW [1 + (a0.1 0)] [(nI n6)] [] [] [] []) ⟨(show 1 + (a0.1 0) ≤ 4000 by omega), (Or.inr ⟨n6, rfl, (show n6 < gN f0 3 by omega)⟩)⟩ (by show 100000 - (1 + (a0.1 0)) < 100000 - (a0.1 0); omega)
          ·
            have x56 := x_nle kk54
            refine V_aload_n 51 B dX12_bestOf_51 2 rfl ?_
            refine V_iload_n 52 B dX12_bestOf_52 3 rfl ?_
            refine V_iload 53 B dX12_bestOf_53 0 rfl ?_
            refine V_cvi 55 B (st := []) (As := [.int s0, .int (nI (a0.1 0))]) (fun sz => rX12_isVisible l D Y h0 h1 h2 h3 h4 h5 h6 p2 k5 k6 p7 p8 p9 k10 p11 q12 k15 k16 f0 f1 f3 f4 f13 f14 ph HI (by omega) HP s0 (a0.1 0) (by omega) (by omega) sz) glV_RX12_154 ⟨rfl, rfl⟩ ⟨(Nat.le_of_ble_eq_true rfl), (Nat.le_of_ble_eq_true rfl)⟩ ⟨(Nat.le_of_ble_eq_true rfl), (Nat.le_of_ble_eq_true rfl)⟩ [0, 0, 0, 0, 0, 0, 0] rfl 13 0 rfl rfl rfl rfl (Nat.le_of_ble_eq_true rfl) rfl (fun _ _ _ => rfl) dX12_bestOf_55 (fun j57 u58 w59 => ?_)
            refine V_ws [(h0, oC 13 [.ref h1, .ref h2, .int p2, .ref h3, .ref h4, .int (nI k5), .int (nI k6), .int p7, .int p8, .int p9, .int (nI k10), .int p11, .long q12, .ref h5, .ref h6, .int (nI k15), .int (nI k16)]), (h1, aI Y 3640 f0), (h2, aZ Y 2 f1), (h3, aZ Y 80 f3), (h4, aB Y 1600 f4), (h5, aI Y 200 f13), (h6, aI Y 800 f14)] rfl ?_
            have x60 := w59
            clear w59
            rcases x60 with ⟨rfl, x61⟩ | ⟨rfl, x61⟩
            ·
              refine V_if_ne_f 58 B 64 dX12_bestOf_58 (by decide) (by decide +kernel) ?_
              refine V_goto 61 B 67 dX12_bestOf_61 (by decide) ?_
              refine V_iinc 67 B (v := (nI (1 + (a0.1 0)))) (lv2 := [(4, .int (nI (1 + (a0.1 0)))), (3, .int (nI n6)), (0, .ref h0), (1, .int s0), (2, .int s1)]) dX12_bestOf_67 0 rfl (nI_addE (a := (a0.1 0)) (b := 1) (by omega)) (by decide) rfl ?_
              refine V_goto 70 B 5 dX12_bestOf_70 (by decide) ?_
              refine V_lv [(4, .int (nI (1 + (a0.1 0)))), (3, .int (nI n6)), (0, .ref h0), (1, .int s0), (2, .int s1)] [0, 1, 2, 3, 4] rfl ?_
              exact IH1 (mkW [1 + (a0.1 0)] [(nI n6)] [] [] [] []) ⟨(show 1 + (a0.1 0) ≤ 4000 by omega), (Or.inr ⟨n6, rfl, (show n6 < gN f0 3 by omega)⟩)⟩ (by show 100000 - (1 + (a0.1 0)) < 100000 - (a0.1 0); omega)
            ·
              refine V_if_ne_t 58 B 64 dX12_bestOf_58 (by decide) (by decide +kernel) ?_
              refine V_iload 64 B dX12_bestOf_64 0 rfl ?_
              refine V_istore_n 66 B (lv2 := [(3, .int (nI (a0.1 0))), (4, .int (nI (a0.1 0))), (0, .ref h0), (1, .int s0), (2, .int s1)]) dX12_bestOf_66 (by decide) rfl ?_
              refine V_iinc 67 B (v := (nI (1 + (a0.1 0)))) (lv2 := [(4, .int (nI (1 + (a0.1 0)))), (3, .int (nI (a0.1 0))), (0, .ref h0), (1, .int s0), (2, .int s1)]) dX12_bestOf_67 1 rfl (nI_addE (a := (a0.1 0)) (b := 1) (by omega)) (by decide) rfl ?_
              refine V_goto 70 B 5 dX12_bestOf_70 (by decide) ?_
              refine V_lv [(4, .int (nI (1 + (a0.1 0)))), (3, .int (nI (a0.1 0))), (0, .ref h0), (1, .int s0), (2, .int s1)] [0, 1, 2, 3, 4] rfl ?_
              exact IH1 (mkW [1 + (a0.1 0)] [(nI (a0.1 0))] [] [] [] []) ⟨(show 1 + (a0.1 0) ≤ 4000 by omega), (Or.inr ⟨(a0.1 0), rfl, (show (a0.1 0) < gN f0 3 by omega)⟩)⟩ (by show 100000 - (1 + (a0.1 0)) < 100000 - (a0.1 0); omega))
theorem dX12_bestFor_0 : decode cX12_bestFor 0 = .ok (.aload_n 0, 1) := by decide +kernel
theorem dX12_bestFor_1 : decode cX12_bestFor 1 = .ok (.iconst 0, 1) := by decide +kernel
theorem dX12_bestFor_2 : decode cX12_bestFor 2 = .ok (.putfield 38, 3) := by decide +kernel
theorem dX12_bestFor_5 : decode cX12_bestFor 5 = .ok (.aload_n 0, 1) := by decide +kernel
theorem dX12_bestFor_6 : decode cX12_bestFor 6 = .ok (.aload_n 0, 1) := by decide +kernel
theorem dX12_bestFor_7 : decode cX12_bestFor 7 = .ok (.iload_n 1, 1) := by decide +kernel
theorem dX12_bestFor_8 : decode cX12_bestFor 8 = .ok (.invokevirtual 91, 3) := by decide +kernel
theorem dX12_bestFor_11 : decode cX12_bestFor 11 = .ok (.ifCond .eq 11, 3) := by decide +kernel
theorem dX12_bestFor_22 : decode cX12_bestFor 22 = .ok (.iconst 1, 1) := by decide +kernel
theorem dX12_bestFor_23 : decode cX12_bestFor 23 = .ok (.goto 4, 3) := by decide +kernel
theorem dX12_bestFor_27 : decode cX12_bestFor 27 = .ok (.iconst 1, 1) := by decide +kernel
theorem dX12_bestFor_28 : decode cX12_bestFor 28 = .ok (.invokevirtual 69, 3) := by decide +kernel
theorem dX12_bestFor_31 : decode cX12_bestFor 31 = .ok (.ifCond .eq 7, 3) := by decide +kernel
theorem dX12_bestFor_34 : decode cX12_bestFor 34 = .ok (.iconst 0, 1) := by decide +kernel
theorem dX12_bestFor_35 : decode cX12_bestFor 35 = .ok (.goto 9, 3) := by decide +kernel
theorem dX12_bestFor_44 : decode cX12_bestFor 44 = .ok (.ireturn, 1) := by decide +kernel
theorem dX12_bestFor_14 : decode cX12_bestFor 14 = .ok (.aload_n 0, 1) := by decide +kernel
theorem dX12_bestFor_15 : decode cX12_bestFor 15 = .ok (.iload_n 2, 1) := by decide +kernel
theorem dX12_bestFor_16 : decode cX12_bestFor 16 = .ok (.invokevirtual 99, 3) := by decide +kernel
theorem dX12_bestFor_19 : decode cX12_bestFor 19 = .ok (.ifCond .ne 7, 3) := by decide +kernel
theorem dX12_bestFor_26 : decode cX12_bestFor 26 = .ok (.iconst 0, 1) := by decide +kernel
theorem dX12_bestFor_38 : decode cX12_bestFor 38 = .ok (.aload_n 0, 1) := by decide +kernel
theorem dX12_bestFor_39 : decode cX12_bestFor 39 = .ok (.iload_n 1, 1) := by decide +kernel
theorem dX12_bestFor_40 : decode cX12_bestFor 40 = .ok (.iload_n 2, 1) := by decide +kernel
theorem dX12_bestFor_41 : decode cX12_bestFor 41 = .ok (.invokevirtual 172, 3) := by decide +kernel
theorem glV_RX12_172 : GLV RX12 172 yX12_bestOf RX12 cX12_bestOf 5 (some .int) 2 := ⟨⟨(mT8 228 rfl rfl), (mT8 230 rfl rfl), (mTs 59 rfl rfl), (mT1 13 rfl rfl), (mT8 231 rfl rfl)⟩, by decide +kernel⟩
set_option maxRecDepth 100000 in
set_option maxHeartbeats 4000000 in
theorem rX12_bestFor (l : Launch) (D : va_G) (Y : Nat → ClassId) (h0 : Nat) (h1 : Nat) (h2 : Nat) (h3 : Nat) (h4 : Nat) (h5 : Nat) (h6 : Nat) (p2 : Int32) (k5 : Nat) (k6 : Nat) (p7 : Int32) (p8 : Int32) (p9 : Int32) (k10 : Nat) (p11 : Int32) (q12 : Int64) (k15 : Nat) (k16 : Nat) (f0 : Nat → Int32) (f1 : Nat → Int32) (f3 : Nat → Int32) (f4 : Nat → Int32) (f13 : Nat → Int32) (f14 : Nat → Int32) (ph : Nat → Int32) (HI : INV ph f0) (HL : k5 ≤ 1600) (HP : PLV f13) (s0 : Int32) (s1 : Int32)  (sz : Nat) : Met l yX12_bestFor (WSm yX12_bestFor cX12_bestFor 3 (some .int)) (mkR 6 0 0 137) (PreC D Y [.ref h0, .int s0, .int s1] [(h0, oC 13 [.ref h1, .ref h2, .int p2, .ref h3, .ref h4, .int (nI k5), .int (nI k6), .int p7, .int p8, .int p9, .int (nI k10), .int p11, .long q12, .ref h5, .ref h6, .int (nI k15), .int (nI k16)]), (h1, aI Y 3640 f0), (h2, aZ Y 2 f1), (h3, aZ Y 80 f3), (h4, aB Y 1600 f4), (h5, aI Y 200 f13), (h6, aI Y 800 f14)] sz) (QI D (fun (r : Int32) (u : WU) => True) (fun (u : WU) => [(h0, oC 13 [.ref h1, .ref h2, .int (u.2.1 0), .ref h3, .ref h4, .int (nI k5), .int (nI k6), .int p7, .int p8, .int p9, .int (nI k10), .int p11, .long q12, .ref h5, .ref h6, .int (nI k15), .int (nI k16)]), (h1, aI Y 3640 f0), (h2, aZ Y 2 f1), (h3, aZ Y 80 f3), (h4, aB Y 1600 f4), (h5, aI Y 200 f13), (h6, aI Y 800 f14)]) (va_A [(h0, oC 13 [.ref h1, .ref h2, .int p2, .ref h3, .ref h4, .int (nI k5), .int (nI k6), .int p7, .int p8, .int p9, .int (nI k10), .int p11, .long q12, .ref h5, .ref h6, .int (nI k15), .int (nI k16)]), (h1, aI Y 3640 f0), (h2, aZ Y 2 f1), (h3, aZ Y 80 f3), (h4, aB Y 1600 f4), (h5, aI Y 200 f13), (h6, aI Y 800 f14)] sz)) 0 0 (va_A [(h0, oC 13 [.ref h1, .ref h2, .int p2, .ref h3, .ref h4, .int (nI k5), .int (nI k6), .int p7, .int p8, .int p9, .int (nI k10), .int p11, .long q12, .ref h5, .ref h6, .int (nI k15), .int (nI k16)]), (h1, aI Y 3640 f0), (h2, aZ Y 2 f1), (h3, aZ Y 80 f3), (h4, aB Y 1600 f4), (h5, aI Y 200 f13), (h6, aI Y 800 f14)] sz) :=
  met_of  (by decide +kernel) (Nat.le_of_ble_eq_true rfl) (fun p e s m args below meth c B hin hsz => by
    have B : VB p s m args meth c D Y (va_A [(h0, oC 13 [.ref h1, .ref h2, .int p2, .ref h3, .ref h4, .int (nI k5), .int (nI k6), .int p7, .int p8, .int p9, .int (nI k10), .int p11, .long q12, .ref h5, .ref h6, .int (nI k15), .int (nI k16)]), (h1, aI Y 3640 f0), (h2, aZ Y 2 f1), (h3, aZ Y 80 f3), (h4, aB Y 1600 f4), (h5, aI Y 200 f13), (h6, aI Y 800 f14)] sz) cX12_bestFor 3 RX12 (some .int) := B
    refine V_aload_n 0 B dX12_bestFor_0 0 rfl ?_
    refine V_iconst 1 B (v := 0) dX12_bestFor_1 (by decide +kernel) ?_
    refine V_put 2 B gp_RX12_38 0 rfl (Nat.le_of_ble_eq_true rfl) rfl rfl dX12_bestFor_2 [(h0, oC 13 [.ref h1, .ref h2, .int 0, .ref h3, .ref h4, .int (nI k5), .int (nI k6), .int p7, .int p8, .int p9, .int (nI k10), .int p11, .long q12, .ref h5, .ref h6, .int (nI k15), .int (nI k16)]), (h1, aI Y 3640 f0), (h2, aZ Y 2 f1), (h3, aZ Y 80 f3), (h4, aB Y 1600 f4), (h5, aI Y 200 f13), (h6, aI Y 800 f14)] rfl ?_
    refine V_aload_n 5 B dX12_bestFor_5 0 rfl ?_
    refine V_aload_n 6 B dX12_bestFor_6 0 rfl ?_
    refine V_iload_n 7 B dX12_bestFor_7 1 rfl ?_
    refine V_cvi 8 B (st := [.ref h0]) (As := [.int s0]) (fun sz => rX12_isMode l D Y h0 h1 h2 h3 h4 h5 h6 0 k5 k6 p7 p8 p9 k10 p11 q12 k15 k16 f0 f1 f3 f4 f13 f14 ph HI (by omega) HP s0 sz) glV_RX12_91 ⟨rfl, rfl⟩ ⟨(Nat.le_of_ble_eq_true rfl), (Nat.le_of_ble_eq_true rfl)⟩ ⟨(Nat.le_of_ble_eq_true rfl), (Nat.le_of_ble_eq_true rfl)⟩ [0, 0, 0, 0, 0, 0, 0] rfl 13 0 rfl rfl rfl rfl (Nat.le_of_ble_eq_true rfl) rfl (fun _ _ _ => rfl) dX12_bestFor_8 (fun j0 u1 w2 => ?_)
    refine V_ws [(h0, oC 13 [.ref h1, .ref h2, .int 0, .ref h3, .ref h4, .int (nI k5), .int (nI k6), .int p7, .int p8, .int p9, .int (nI k10), .int p11, .long q12, .ref h5, .ref h6, .int (nI k15), .int (nI k16)]), (h1, aI Y 3640 f0), (h2, aZ Y 2 f1), (h3, aZ Y 80 f3), (h4, aB Y 1600 f4), (h5, aI Y 200 f13), (h6, aI Y 800 f14)] rfl ?_
    have x3 := w2
    clear w2
    have x7 : (gN f0 0) ≤ 6 := gN_le HI (by omega) (show bd 0 = (0, ((6 : Nat) : Int)) by decide +kernel)
    rcases x3 with rfl | ⟨rfl, n4, rfl, x6⟩
    ·
      refine V_if_eq_t 11 B 22 dX12_bestFor_11 (by decide) (by decide +kernel) ?_
      refine V_iconst 22 B (v := 1) dX12_bestFor_22 (by decide +kernel) ?_
      refine V_goto 23 B 27 dX12_bestFor_23 (by decide) ?_
      refine V_iconst 27 B (v := 1) dX12_bestFor_27 (by decide +kernel) ?_
      refine V_cvi 28 B (st := []) (As := [.int 1, .int 1]) (fun sz => rX12_throwsIf_1 l D Y h0 h1 h2 h3 h4 h5 h6 0 k5 k6 p7 p8 p9 k10 p11 q12 k15 k16 f0 f1 f3 f4 f13 f14 ph HI (by omega) HP 1 sz) glV_RX12_69 ⟨rfl, rfl⟩ ⟨(Nat.le_of_ble_eq_true rfl), (Nat.le_of_ble_eq_true rfl)⟩ ⟨(Nat.le_of_ble_eq_true rfl), (Nat.le_of_ble_eq_true rfl)⟩ [0, 0, 0, 0, 0, 0, 0] rfl 13 0 rfl rfl rfl rfl (Nat.le_of_ble_eq_true rfl) rfl (fun _ _ _ => rfl) dX12_bestFor_28 (fun j8 u9 w10 => ?_)
      refine V_ws [(h0, oC 13 [.ref h1, .ref h2, .int (u9.2.1 0), .ref h3, .ref h4, .int (nI k5), .int (nI k6), .int p7, .int p8, .int p9, .int (nI k10), .int p11, .long q12, .ref h5, .ref h6, .int (nI k15), .int (nI k16)]), (h1, aI Y 3640 f0), (h2, aZ Y 2 f1), (h3, aZ Y 80 f3), (h4, aB Y 1600 f4), (h5, aI Y 200 f13), (h6, aI Y 800 f14)] rfl ?_
      have x11 := w10
      clear w10
      obtain rfl := x11
      refine V_if_eq_f 31 B 38 dX12_bestFor_31 (by decide) (by decide +kernel) ?_
      refine V_iconst 34 B (v := 0) dX12_bestFor_34 (by decide +kernel) ?_
      refine V_goto 35 B 44 dX12_bestFor_35 (by decide) ?_
      exact V_iret 44 B dX12_bestFor_44 (mkW [] [(u9.2.1 0)] [] [] [] []) trivial rfl
    ·
      have e12 := nI_toInt (show n4 < 2 ^ 31 by omega)
      have x13 : (gN f0 0) ≤ 6 := gN_le HI (by omega) (show bd 0 = (0, ((6 : Nat) : Int)) by decide +kernel)
      refine V_if_eq_f 11 B 22 dX12_bestFor_11 (by decide) (by decide +kernel) ?_
      refine V_aload_n 14 B dX12_bestFor_14 0 rfl ?_
      refine V_iload_n 15 B dX12_bestFor_15 2 rfl ?_
      refine V_cvi 16 B (st := [.ref h0]) (As := [.int s1]) (fun sz => rX12_isCommand l D Y h0 h1 h2 h3 h4 h5 h6 0 k5 k6 p7 p8 p9 k10 p11 q12 k15 k16 f0 f1 f3 f4 f13 f14 ph HI (by omega) HP s1 sz) glV_RX12_99 ⟨rfl, rfl⟩ ⟨(Nat.le_of_ble_eq_true rfl), (Nat.le_of_ble_eq_true rfl)⟩ ⟨(Nat.le_of_ble_eq_true rfl), (Nat.le_of_ble_eq_true rfl)⟩ [0, 0, 0, 0, 0, 0, 0] rfl 13 0 rfl rfl rfl rfl (Nat.le_of_ble_eq_true rfl) rfl (fun _ _ _ => rfl) dX12_bestFor_16 (fun j14 u15 w16 => ?_)
      refine V_ws [(h0, oC 13 [.ref h1, .ref h2, .int 0, .ref h3, .ref h4, .int (nI k5), .int (nI k6), .int p7, .int p8, .int p9, .int (nI k10), .int p11, .long q12, .ref h5, .ref h6, .int (nI k15), .int (nI k16)]), (h1, aI Y 3640 f0), (h2, aZ Y 2 f1), (h3, aZ Y 80 f3), (h4, aB Y 1600 f4), (h5, aI Y 200 f13), (h6, aI Y 800 f14)] rfl ?_
      have x17 := w16
      clear w16
      have x21 : (gN f0 1) ≤ 40 := gN_le HI (by omega) (show bd 1 = (0, ((40 : Nat) : Int)) by decide +kernel)
      rcases x17 with rfl | ⟨rfl, n18, rfl, x20⟩
      ·
        refine V_if_ne_f 19 B 26 dX12_bestFor_19 (by decide) (by decide +kernel) ?_
        refine V_iconst 22 B (v := 1) dX12_bestFor_22 (by decide +kernel) ?_
        refine V_goto 23 B 27 dX12_bestFor_23 (by decide) ?_
        refine V_iconst 27 B (v := 1) dX12_bestFor_27 (by decide +kernel) ?_
        refine V_cvi 28 B (st := []) (As := [.int 1, .int 1]) (fun sz => rX12_throwsIf_1 l D Y h0 h1 h2 h3 h4 h5 h6 0 k5 k6 p7 p8 p9 k10 p11 q12 k15 k16 f0 f1 f3 f4 f13 f14 ph HI (by omega) HP 1 sz) glV_RX12_69 ⟨rfl, rfl⟩ ⟨(Nat.le_of_ble_eq_true rfl), (Nat.le_of_ble_eq_true rfl)⟩ ⟨(Nat.le_of_ble_eq_true rfl), (Nat.le_of_ble_eq_true rfl)⟩ [0, 0, 0, 0, 0, 0, 0] rfl 13 0 rfl rfl rfl rfl (Nat.le_of_ble_eq_true rfl) rfl (fun _ _ _ => rfl) dX12_bestFor_28 (fun j22 u23 w24 => ?_)
        refine V_ws [(h0, oC 13 [.ref h1, .ref h2, .int (u23.2.1 0), .ref h3, .ref h4, .int (nI k5), .int (nI k6), .int p7, .int p8, .int p9, .int (nI k10), .int p11, .long q12, .ref h5, .ref h6, .int (nI k15), .int (nI k16)]), (h1, aI Y 3640 f0), (h2, aZ Y 2 f1), (h3, aZ Y 80 f3), (h4, aB Y 1600 f4), (h5, aI Y 200 f13), (h6, aI Y 800 f14)] rfl ?_
        have x25 := w24
        clear w24
        obtain rfl := x25
        refine V_if_eq_f 31 B 38 dX12_bestFor_31 (by decide) (by decide +kernel) ?_
        refine V_iconst 34 B (v := 0) dX12_bestFor_34 (by decide +kernel) ?_
        refine V_goto 35 B 44 dX12_bestFor_35 (by decide) ?_
        exact V_iret 44 B dX12_bestFor_44 (mkW [] [(u23.2.1 0)] [] [] [] []) trivial rfl
      ·
        have e26 := nI_toInt (show n18 < 2 ^ 31 by omega)
        have x27 : (gN f0 1) ≤ 40 := gN_le HI (by omega) (show bd 1 = (0, ((40 : Nat) : Int)) by decide +kernel)
        refine V_if_ne_t 19 B 26 dX12_bestFor_19 (by decide) (by decide +kernel) ?_
        refine V_iconst 26 B (v := 0) dX12_bestFor_26 (by decide +kernel) ?_
        refine V_iconst 27 B (v := 1) dX12_bestFor_27 (by decide +kernel) ?_
        refine V_cvi 28 B (st := []) (As := [.int 0, .int 1]) (fun sz => rX12_throwsIf_0 l D Y h0 h1 h2 h3 h4 h5 h6 0 k5 k6 p7 p8 p9 k10 p11 q12 k15 k16 f0 f1 f3 f4 f13 f14 ph HI (by omega) HP 1 sz) glV_RX12_69 ⟨rfl, rfl⟩ ⟨(Nat.le_of_ble_eq_true rfl), (Nat.le_of_ble_eq_true rfl)⟩ ⟨(Nat.le_of_ble_eq_true rfl), (Nat.le_of_ble_eq_true rfl)⟩ [0, 0, 0, 0, 0, 0, 0] rfl 13 0 rfl rfl rfl rfl (Nat.le_of_ble_eq_true rfl) rfl (fun _ _ _ => rfl) dX12_bestFor_28 (fun j28 u29 w30 => ?_)
        refine V_ws [(h0, oC 13 [.ref h1, .ref h2, .int (u29.2.1 0), .ref h3, .ref h4, .int (nI k5), .int (nI k6), .int p7, .int p8, .int p9, .int (nI k10), .int p11, .long q12, .ref h5, .ref h6, .int (nI k15), .int (nI k16)]), (h1, aI Y 3640 f0), (h2, aZ Y 2 f1), (h3, aZ Y 80 f3), (h4, aB Y 1600 f4), (h5, aI Y 200 f13), (h6, aI Y 800 f14)] rfl ?_
        have x31 := w30
        clear w30
        obtain rfl := x31
        refine V_if_eq_t 31 B 38 dX12_bestFor_31 (by decide) (by decide +kernel) ?_
        refine V_aload_n 38 B dX12_bestFor_38 0 rfl ?_
        refine V_iload_n 39 B dX12_bestFor_39 1 rfl ?_
        refine V_iload_n 40 B dX12_bestFor_40 2 rfl ?_
        refine V_cvi 41 B (st := []) (As := [.int (nI n4), .int (nI n18)]) (fun sz => rX12_bestOf l D Y h0 h1 h2 h3 h4 h5 h6 (u29.2.1 0) k5 k6 p7 p8 p9 k10 p11 q12 k15 k16 f0 f1 f3 f4 f13 f14 ph HI (by omega) HP (nI n4) (nI n18) (by rw [nI_toInt (show n4 < 2 ^ 31 by omega)]; omega) sz) glV_RX12_172 ⟨rfl, rfl⟩ ⟨(Nat.le_of_ble_eq_true rfl), (Nat.le_of_ble_eq_true rfl)⟩ ⟨(Nat.le_of_ble_eq_true rfl), (Nat.le_of_ble_eq_true rfl)⟩ [0, 0, 0, 0, 0, 0, 0] rfl 13 0 rfl rfl rfl rfl (Nat.le_of_ble_eq_true rfl) rfl (fun _ _ _ => rfl) dX12_bestFor_41 (fun j32 u33 w34 => ?_)
        refine V_ws [(h0, oC 13 [.ref h1, .ref h2, .int (u29.2.1 0), .ref h3, .ref h4, .int (nI k5), .int (nI k6), .int p7, .int p8, .int p9, .int (nI k10), .int p11, .long q12, .ref h5, .ref h6, .int (nI k15), .int (nI k16)]), (h1, aI Y 3640 f0), (h2, aZ Y 2 f1), (h3, aZ Y 80 f3), (h4, aB Y 1600 f4), (h5, aI Y 200 f13), (h6, aI Y 800 f14)] rfl ?_
        have x35 := w34
        clear w34
        have x38 : (gN f0 3) ≤ 80 := gN_le HI (by omega) (show bd 3 = (0, ((80 : Nat) : Int)) by decide +kernel)
        rcases x35 with rfl | ⟨n36, rfl, x37⟩
        ·
          exact V_iret 44 B dX12_bestFor_44 (mkW [] [(u29.2.1 0)] [] [] [] []) trivial rfl
        ·
          exact V_iret 44 B dX12_bestFor_44 (mkW [] [(u29.2.1 0)] [] [] [] []) trivial rfl)
theorem dX12_effort_0 : decode cX12_effort 0 = .ok (.aload_n 0, 1) := by decide +kernel
theorem dX12_effort_1 : decode cX12_effort 1 = .ok (.iconst 0, 1) := by decide +kernel
theorem dX12_effort_2 : decode cX12_effort 2 = .ok (.putfield 38, 3) := by decide +kernel
theorem dX12_effort_5 : decode cX12_effort 5 = .ok (.aload_n 0, 1) := by decide +kernel
theorem dX12_effort_6 : decode cX12_effort 6 = .ok (.aload_n 0, 1) := by decide +kernel
theorem dX12_effort_7 : decode cX12_effort 7 = .ok (.iload_n 1, 1) := by decide +kernel
theorem dX12_effort_8 : decode cX12_effort 8 = .ok (.invokevirtual 91, 3) := by decide +kernel
theorem dX12_effort_11 : decode cX12_effort 11 = .ok (.ifCond .ne 7, 3) := by decide +kernel
theorem dX12_effort_14 : decode cX12_effort 14 = .ok (.iconst 1, 1) := by decide +kernel
theorem dX12_effort_15 : decode cX12_effort 15 = .ok (.goto 4, 3) := by decide +kernel
theorem dX12_effort_19 : decode cX12_effort 19 = .ok (.iconst 1, 1) := by decide +kernel
theorem dX12_effort_20 : decode cX12_effort 20 = .ok (.invokevirtual 69, 3) := by decide +kernel
theorem dX12_effort_23 : decode cX12_effort 23 = .ok (.ifCond .eq 5, 3) := by decide +kernel
theorem dX12_effort_26 : decode cX12_effort 26 = .ok (.lconst 0, 1) := by decide +kernel
theorem dX12_effort_27 : decode cX12_effort 27 = .ok (.lreturn, 1) := by decide +kernel
theorem dX12_effort_18 : decode cX12_effort 18 = .ok (.iconst 0, 1) := by decide +kernel
theorem dX12_effort_28 : decode cX12_effort 28 = .ok (.lconst 0, 1) := by decide +kernel
theorem dX12_effort_29 : decode cX12_effort 29 = .ok (.lstore_n 2, 1) := by decide +kernel
theorem dX12_effort_30 : decode cX12_effort 30 = .ok (.iconst 0, 1) := by decide +kernel
theorem dX12_effort_31 : decode cX12_effort 31 = .ok (.istore 4, 2) := by decide +kernel
theorem dX12_effort_33 : decode cX12_effort 33 = .ok (.iload 4, 2) := by decide +kernel
theorem dX12_effort_35 : decode cX12_effort 35 = .ok (.aload_n 0, 1) := by decide +kernel
theorem dX12_effort_36 : decode cX12_effort 36 = .ok (.getfield 9, 3) := by decide +kernel
theorem dX12_effort_39 : decode cX12_effort 39 = .ok (.iconst 1, 1) := by decide +kernel
theorem dX12_effort_40 : decode cX12_effort 40 = .ok (.iaload, 1) := by decide +kernel
theorem dX12_effort_41 : decode cX12_effort 41 = .ok (.if_icmp .ge 46, 3) := by decide +kernel
theorem dX12_effort_87 : decode cX12_effort 87 = .ok (.lload_n 2, 1) := by decide +kernel
theorem dX12_effort_88 : decode cX12_effort 88 = .ok (.lreturn, 1) := by decide +kernel
theorem dX12_effort_44 : decode cX12_effort 44 = .ok (.aload_n 0, 1) := by decide +kernel
theorem dX12_effort_45 : decode cX12_effort 45 = .ok (.iload_n 1, 1) := by decide +kernel
theorem dX12_effort_46 : decode cX12_effort 46 = .ok (.iload 4, 2) := by decide +kernel
theorem dX12_effort_48 : decode cX12_effort 48 = .ok (.invokevirtual 172, 3) := by decide +kernel
theorem dX12_effort_51 : decode cX12_effort 51 = .ok (.istore 5, 2) := by decide +kernel
theorem dX12_effort_53 : decode cX12_effort 53 = .ok (.iload 5, 2) := by decide +kernel
theorem dX12_effort_55 : decode cX12_effort 55 = .ok (.iconst (-1), 1) := by decide +kernel
theorem dX12_effort_56 : decode cX12_effort 56 = .ok (.if_icmp .eq 25, 3) := by decide +kernel
theorem dX12_effort_81 : decode cX12_effort 81 = .ok (.iinc 4 1, 3) := by decide +kernel
theorem dX12_effort_84 : decode cX12_effort 84 = .ok (.goto (-51), 3) := by decide +kernel
theorem dX12_effort_59 : decode cX12_effort 59 = .ok (.lload_n 2, 1) := by decide +kernel
theorem dX12_effort_60 : decode cX12_effort 60 = .ok (.aload_n 0, 1) := by decide +kernel
theorem dX12_effort_61 : decode cX12_effort 61 = .ok (.iload 5, 2) := by decide +kernel
theorem dX12_effort_63 : decode cX12_effort 63 = .ok (.invokestatic 85, 3) := by decide +kernel
theorem dX12_effort_66 : decode cX12_effort 66 = .ok (.invokevirtual 76, 3) := by decide +kernel
theorem dX12_effort_69 : decode cX12_effort 69 = .ok (.i2l, 1) := by decide +kernel
theorem dX12_effort_70 : decode cX12_effort 70 = .ok (.aload_n 0, 1) := by decide +kernel
theorem dX12_effort_71 : decode cX12_effort 71 = .ok (.iload 4, 2) := by decide +kernel
theorem dX12_effort_73 : decode cX12_effort 73 = .ok (.iconst 2, 1) := by decide +kernel
theorem dX12_effort_74 : decode cX12_effort 74 = .ok (.invokevirtual 102, 3) := by decide +kernel
theorem dX12_effort_77 : decode cX12_effort 77 = .ok (.i2l, 1) := by decide +kernel
theorem dX12_effort_78 : decode cX12_effort 78 = .ok (.lmul, 1) := by decide +kernel
theorem dX12_effort_79 : decode cX12_effort 79 = .ok (.ladd, 1) := by decide +kernel
theorem dX12_effort_80 : decode cX12_effort 80 = .ok (.lstore_n 2, 1) := by decide +kernel
set_option maxRecDepth 100000 in
set_option maxHeartbeats 4000000 in
theorem rX12_effort (l : Launch) (D : va_G) (Y : Nat → ClassId) (h0 : Nat) (h1 : Nat) (h2 : Nat) (h3 : Nat) (h4 : Nat) (h5 : Nat) (h6 : Nat) (p2 : Int32) (k5 : Nat) (k6 : Nat) (p7 : Int32) (p8 : Int32) (p9 : Int32) (k10 : Nat) (p11 : Int32) (q12 : Int64) (k15 : Nat) (k16 : Nat) (f0 : Nat → Int32) (f1 : Nat → Int32) (f3 : Nat → Int32) (f4 : Nat → Int32) (f13 : Nat → Int32) (f14 : Nat → Int32) (ph : Nat → Int32) (HI : INV ph f0) (HL : k5 ≤ 1600) (HP : PLV f13) (s0 : Int32)  (sz : Nat) : Met l yX12_effort (WSm yX12_effort cX12_effort 6 (some .long)) (mkR 6 0 0 137) (PreC D Y [.ref h0, .int s0] [(h0, oC 13 [.ref h1, .ref h2, .int p2, .ref h3, .ref h4, .int (nI k5), .int (nI k6), .int p7, .int p8, .int p9, .int (nI k10), .int p11, .long q12, .ref h5, .ref h6, .int (nI k15), .int (nI k16)]), (h1, aI Y 3640 f0), (h2, aZ Y 2 f1), (h3, aZ Y 80 f3), (h4, aB Y 1600 f4), (h5, aI Y 200 f13), (h6, aI Y 800 f14)] sz) (QJ D (fun (r : Int64) (u : WU) => True) (fun (u : WU) => [(h0, oC 13 [.ref h1, .ref h2, .int (u.2.1 0), .ref h3, .ref h4, .int (nI k5), .int (nI k6), .int p7, .int p8, .int p9, .int (nI k10), .int p11, .long q12, .ref h5, .ref h6, .int (nI k15), .int (nI k16)]), (h1, aI Y 3640 f0), (h2, aZ Y 2 f1), (h3, aZ Y 80 f3), (h4, aB Y 1600 f4), (h5, aI Y 200 f13), (h6, aI Y 800 f14)]) (va_A [(h0, oC 13 [.ref h1, .ref h2, .int p2, .ref h3, .ref h4, .int (nI k5), .int (nI k6), .int p7, .int p8, .int p9, .int (nI k10), .int p11, .long q12, .ref h5, .ref h6, .int (nI k15), .int (nI k16)]), (h1, aI Y 3640 f0), (h2, aZ Y 2 f1), (h3, aZ Y 80 f3), (h4, aB Y 1600 f4), (h5, aI Y 200 f13), (h6, aI Y 800 f14)] sz)) 0 0 (va_A [(h0, oC 13 [.ref h1, .ref h2, .int p2, .ref h3, .ref h4, .int (nI k5), .int (nI k6), .int p7, .int p8, .int p9, .int (nI k10), .int p11, .long q12, .ref h5, .ref h6, .int (nI k15), .int (nI k16)]), (h1, aI Y 3640 f0), (h2, aZ Y 2 f1), (h3, aZ Y 80 f3), (h4, aB Y 1600 f4), (h5, aI Y 200 f13), (h6, aI Y 800 f14)] sz) :=
  met_of  (by decide +kernel) (Nat.le_of_ble_eq_true rfl) (fun p e s m args below meth c B hin hsz => by
    have B : VB p s m args meth c D Y (va_A [(h0, oC 13 [.ref h1, .ref h2, .int p2, .ref h3, .ref h4, .int (nI k5), .int (nI k6), .int p7, .int p8, .int p9, .int (nI k10), .int p11, .long q12, .ref h5, .ref h6, .int (nI k15), .int (nI k16)]), (h1, aI Y 3640 f0), (h2, aZ Y 2 f1), (h3, aZ Y 80 f3), (h4, aB Y 1600 f4), (h5, aI Y 200 f13), (h6, aI Y 800 f14)] sz) cX12_effort 6 RX12 (some .long) := B
    refine V_aload_n 0 B dX12_effort_0 0 rfl ?_
    refine V_iconst 1 B (v := 0) dX12_effort_1 (by decide +kernel) ?_
    refine V_put 2 B gp_RX12_38 0 rfl (Nat.le_of_ble_eq_true rfl) rfl rfl dX12_effort_2 [(h0, oC 13 [.ref h1, .ref h2, .int 0, .ref h3, .ref h4, .int (nI k5), .int (nI k6), .int p7, .int p8, .int p9, .int (nI k10), .int p11, .long q12, .ref h5, .ref h6, .int (nI k15), .int (nI k16)]), (h1, aI Y 3640 f0), (h2, aZ Y 2 f1), (h3, aZ Y 80 f3), (h4, aB Y 1600 f4), (h5, aI Y 200 f13), (h6, aI Y 800 f14)] rfl ?_
    refine V_aload_n 5 B dX12_effort_5 0 rfl ?_
    refine V_aload_n 6 B dX12_effort_6 0 rfl ?_
    refine V_iload_n 7 B dX12_effort_7 1 rfl ?_
    refine V_cvi 8 B (st := [.ref h0]) (As := [.int s0]) (fun sz => rX12_isMode l D Y h0 h1 h2 h3 h4 h5 h6 0 k5 k6 p7 p8 p9 k10 p11 q12 k15 k16 f0 f1 f3 f4 f13 f14 ph HI (by omega) HP s0 sz) glV_RX12_91 ⟨rfl, rfl⟩ ⟨(Nat.le_of_ble_eq_true rfl), (Nat.le_of_ble_eq_true rfl)⟩ ⟨(Nat.le_of_ble_eq_true rfl), (Nat.le_of_ble_eq_true rfl)⟩ [0, 0, 0, 0, 0, 0, 0] rfl 13 0 rfl rfl rfl rfl (Nat.le_of_ble_eq_true rfl) rfl (fun _ _ _ => rfl) dX12_effort_8 (fun j0 u1 w2 => ?_)
    refine V_ws [(h0, oC 13 [.ref h1, .ref h2, .int 0, .ref h3, .ref h4, .int (nI k5), .int (nI k6), .int p7, .int p8, .int p9, .int (nI k10), .int p11, .long q12, .ref h5, .ref h6, .int (nI k15), .int (nI k16)]), (h1, aI Y 3640 f0), (h2, aZ Y 2 f1), (h3, aZ Y 80 f3), (h4, aB Y 1600 f4), (h5, aI Y 200 f13), (h6, aI Y 800 f14)] rfl ?_
    have x3 := w2
    clear w2
    have x7 : (gN f0 0) ≤ 6 := gN_le HI (by omega) (show bd 0 = (0, ((6 : Nat) : Int)) by decide +kernel)
    rcases x3 with rfl | ⟨rfl, n4, rfl, x6⟩
    ·
      refine V_if_ne_f 11 B 18 dX12_effort_11 (by decide) (by decide +kernel) ?_
      refine V_iconst 14 B (v := 1) dX12_effort_14 (by decide +kernel) ?_
      refine V_goto 15 B 19 dX12_effort_15 (by decide) ?_
      refine V_iconst 19 B (v := 1) dX12_effort_19 (by decide +kernel) ?_
      refine V_cvi 20 B (st := []) (As := [.int 1, .int 1]) (fun sz => rX12_throwsIf_1 l D Y h0 h1 h2 h3 h4 h5 h6 0 k5 k6 p7 p8 p9 k10 p11 q12 k15 k16 f0 f1 f3 f4 f13 f14 ph HI (by omega) HP 1 sz) glV_RX12_69 ⟨rfl, rfl⟩ ⟨(Nat.le_of_ble_eq_true rfl), (Nat.le_of_ble_eq_true rfl)⟩ ⟨(Nat.le_of_ble_eq_true rfl), (Nat.le_of_ble_eq_true rfl)⟩ [0, 0, 0, 0, 0, 0, 0] rfl 13 0 rfl rfl rfl rfl (Nat.le_of_ble_eq_true rfl) rfl (fun _ _ _ => rfl) dX12_effort_20 (fun j8 u9 w10 => ?_)
      refine V_ws [(h0, oC 13 [.ref h1, .ref h2, .int (u9.2.1 0), .ref h3, .ref h4, .int (nI k5), .int (nI k6), .int p7, .int p8, .int p9, .int (nI k10), .int p11, .long q12, .ref h5, .ref h6, .int (nI k15), .int (nI k16)]), (h1, aI Y 3640 f0), (h2, aZ Y 2 f1), (h3, aZ Y 80 f3), (h4, aB Y 1600 f4), (h5, aI Y 200 f13), (h6, aI Y 800 f14)] rfl ?_
      have x11 := w10
      clear w10
      obtain rfl := x11
      refine V_if_eq_f 23 B 28 dX12_effort_23 (by decide) (by decide +kernel) ?_
      refine V_lconst 26 B (v := 0) dX12_effort_26 (by decide +kernel) ?_
      exact V_lret 27 B dX12_effort_27 (mkW [] [(u9.2.1 0)] [] [] [] []) trivial rfl
    ·
      have e12 := nI_toInt (show n4 < 2 ^ 31 by omega)
      have x13 : (gN f0 0) ≤ 6 := gN_le HI (by omega) (show bd 0 = (0, ((6 : Nat) : Int)) by decide +kernel)
      refine V_if_ne_t 11 B 18 dX12_effort_11 (by decide) (by decide +kernel) ?_
      refine V_iconst 18 B (v := 0) dX12_effort_18 (by decide +kernel) ?_
      refine V_iconst 19 B (v := 1) dX12_effort_19 (by decide +kernel) ?_
      refine V_cvi 20 B (st := []) (As := [.int 0, .int 1]) (fun sz => rX12_throwsIf_0 l D Y h0 h1 h2 h3 h4 h5 h6 0 k5 k6 p7 p8 p9 k10 p11 q12 k15 k16 f0 f1 f3 f4 f13 f14 ph HI (by omega) HP 1 sz) glV_RX12_69 ⟨rfl, rfl⟩ ⟨(Nat.le_of_ble_eq_true rfl), (Nat.le_of_ble_eq_true rfl)⟩ ⟨(Nat.le_of_ble_eq_true rfl), (Nat.le_of_ble_eq_true rfl)⟩ [0, 0, 0, 0, 0, 0, 0] rfl 13 0 rfl rfl rfl rfl (Nat.le_of_ble_eq_true rfl) rfl (fun _ _ _ => rfl) dX12_effort_20 (fun j14 u15 w16 => ?_)
      refine V_ws [(h0, oC 13 [.ref h1, .ref h2, .int (u15.2.1 0), .ref h3, .ref h4, .int (nI k5), .int (nI k6), .int p7, .int p8, .int p9, .int (nI k10), .int p11, .long q12, .ref h5, .ref h6, .int (nI k15), .int (nI k16)]), (h1, aI Y 3640 f0), (h2, aZ Y 2 f1), (h3, aZ Y 80 f3), (h4, aB Y 1600 f4), (h5, aI Y 200 f13), (h6, aI Y 800 f14)] rfl ?_
      have x17 := w16
      clear w16
      obtain rfl := x17
      refine V_if_eq_t 23 B 28 dX12_effort_23 (by decide) (by decide +kernel) ?_
      refine V_lconst 28 B (v := 0) dX12_effort_28 (by decide +kernel) ?_
      refine V_lstore_n 29 B (lv2 := [(2, .long 0), (0, .ref h0), (1, .int (nI n4))]) dX12_effort_29 (by decide) rfl ?_
      refine V_iconst 30 B (v := 0) dX12_effort_30 (by decide +kernel) ?_
      refine V_istore 31 B (lv2 := [(4, .int 0), (2, .long 0), (0, .ref h0), (1, .int (nI n4))]) dX12_effort_31 (by decide) rfl ?_
      refine V_wloop (α := WU) (fun a => 100000 - (a.1 0)) (fun a => (a.1 0) ≤ 4000) (fun a => [(4, .int (nI (a.1 0))), (2, .long (a.2.2.1 0)), (0, .ref h0), (1, .int (nI n4))]) (fun a => [(h0, oC 13 [.ref h1, .ref h2, .int (u15.2.1 0), .ref h3, .ref h4, .int (nI k5), .int (nI k6), .int p7, .int p8, .int p9, .int (nI k10), .int p11, .long q12, .ref h5, .ref h6, .int (nI k15), .int (nI k16)]), (h1, aI Y 3640 f0), (h2, aZ Y 2 f1), (h3, aZ Y 80 f3), (h4, aB Y 1600 f4), (h5, aI Y 200 f13), (h6, aI Y 800 f14)]) (mkW [0] [] [0] [] [] []) (show 0 ≤ 4000 by omega) rfl rfl (fun a18 hI20 IH19 => ?_)
      refine V_lv [(4, .int (nI (a18.1 0))), (2, .long (a18.2.2.1 0)), (0, .ref h0), (1, .int (nI n4))] [0, 1, 2, 3] rfl ?_
      refine V_ws [(h0, oC 13 [.ref h1, .ref h2, .int (u15.2.1 0), .ref h3, .ref h4, .int (nI k5), .int (nI k6), .int p7, .int p8, .int p9, .int (nI k10), .int p11, .long q12, .ref h5, .ref h6, .int (nI k15), .int (nI k16)]), (h1, aI Y 3640 f0), (h2, aZ Y 2 f1), (h3, aZ Y 80 f3), (h4, aB Y 1600 f4), (h5, aI Y 200 f13), (h6, aI Y 800 f14)] rfl ?_
      have x21 := hI20
      refine V_iload 33 B dX12_effort_33 0 rfl ?_
      refine V_aload_n 35 B dX12_effort_35 2 rfl ?_
      refine V_get 36 B gf_RX12_9 0 rfl rfl dX12_effort_36 ?_
      refine V_iconst 39 B (v := 1) dX12_effort_39 (by decide +kernel) ?_
      have x22 : (gN f0 1) ≤ 40 := gN_le HI (by omega) (show bd 1 = (0, ((40 : Nat) : Int)) by decide +kernel)
      refine V_iald 40 B (v := (nI (gN f0 1))) 1 rfl (vpin _ _ (by decide +kernel)) dX12_effort_40 (by show f0 1 = _; exact gN_eq HI (by omega) (show bd 1 = (0, ((40 : Nat) : Int)) by decide +kernel)) ?_
      refine V_icmp_ge 41 B 87 dX12_effort_41 (by decide) (fun kk23 => ?_) (fun kk23 => ?_)
      ·
        have x24 := n_le (a := (gN f0 1)) (b := (a18.1 0)) kk23 (by omega) (by omega)
        refine V_lload_n 87 B dX12_effort_87 1 rfl ?_
        exact V_lret 88 B dX12_effort_88 (mkW [] [(u15.2.1 0)] [] [] [] []) trivial rfl
      ·
        have x25 := n_nle (a := (gN f0 1)) (b := (a18.1 0)) kk23 (by omega) (by omega)
        refine V_aload_n 44 B dX12_effort_44 2 rfl ?_
        refine V_iload_n 45 B dX12_effort_45 3 rfl ?_
        refine V_iload 46 B dX12_effort_46 0 rfl ?_
        refine V_cvi 48 B (st := []) (As := [.int (nI n4), .int (nI (a18.1 0))]) (fun sz => rX12_bestOf l D Y h0 h1 h2 h3 h4 h5 h6 (u15.2.1 0) k5 k6 p7 p8 p9 k10 p11 q12 k15 k16 f0 f1 f3 f4 f13 f14 ph HI (by omega) HP (nI n4) (nI (a18.1 0)) (by rw [nI_toInt (show n4 < 2 ^ 31 by omega)]; omega) sz) glV_RX12_172 ⟨rfl, rfl⟩ ⟨(Nat.le_of_ble_eq_true rfl), (Nat.le_of_ble_eq_true rfl)⟩ ⟨(Nat.le_of_ble_eq_true rfl), (Nat.le_of_ble_eq_true rfl)⟩ [0, 0, 0, 0, 0, 0, 0] rfl 13 0 rfl rfl rfl rfl (Nat.le_of_ble_eq_true rfl) rfl (fun _ _ _ => rfl) dX12_effort_48 (fun j26 u27 w28 => ?_)
        refine V_ws [(h0, oC 13 [.ref h1, .ref h2, .int (u15.2.1 0), .ref h3, .ref h4, .int (nI k5), .int (nI k6), .int p7, .int p8, .int p9, .int (nI k10), .int p11, .long q12, .ref h5, .ref h6, .int (nI k15), .int (nI k16)]), (h1, aI Y 3640 f0), (h2, aZ Y 2 f1), (h3, aZ Y 80 f3), (h4, aB Y 1600 f4), (h5, aI Y 200 f13), (h6, aI Y 800 f14)] rfl ?_
        have x29 := w28
        clear w28
        have x32 : (gN f0 3) ≤ 80 := gN_le HI (by omega) (show bd 3 = (0, ((80 : Nat) : Int)) by decide +kernel)
        rcases x29 with rfl | ⟨n30, rfl, x31⟩
        ·
          refine V_istore 51 B (lv2 := [(5, .int (-1)), (4, .int (nI (a18.1 0))), (2, .long (a18.2.2.1 0)), (0, .ref h0), (1, .int (nI n4))]) dX12_effort_51 (by decide) rfl ?_
          refine V_iload 53 B dX12_effort_53 0 rfl ?_
          refine V_iconst 55 B (v := (-1)) dX12_effort_55 (by decide +kernel) ?_
          refine V_icmp_eq_t 56 B 81 dX12_effort_56 (by decide) (by decide +kernel) ?_
          refine V_iinc 81 B (v := (nI (1 + (a18.1 0)))) (lv2 := [(4, .int (nI (1 + (a18.1 0)))), (5, .int (-1)), (2, .long (a18.2.2.1 0)), (0, .ref h0), (1, .int (nI n4))]) dX12_effort_81 1 rfl (nI_addE (a := (a18.1 0)) (b := 1) (by omega)) (by decide) rfl ?_
          refine V_goto 84 B 33 dX12_effort_84 (by decide) ?_
          refine V_lv [(4, .int (nI (1 + (a18.1 0)))), (2, .long (a18.2.2.1 0)), (0, .ref h0), (1, .int (nI n4))] [0, 2, 3, 4] rfl ?_
          exact IH19 (mkW [1 + (a18.1 0)] [] [(a18.2.2.1 0)] [] [] []) (show 1 + (a18.1 0) ≤ 4000 by omega) (by show 100000 - (1 + (a18.1 0)) < 100000 - (a18.1 0); omega)
        ·
          refine V_istore 51 B (lv2 := [(5, .int (nI n30)), (4, .int (nI (a18.1 0))), (2, .long (a18.2.2.1 0)), (0, .ref h0), (1, .int (nI n4))]) dX12_effort_51 (by decide) rfl ?_
          refine V_iload 53 B dX12_effort_53 0 rfl ?_
          refine V_iconst 55 B (v := (-1)) dX12_effort_55 (by decide +kernel) ?_
          refine V_icmp_eq_f 56 B 81 dX12_effort_56 (by decide) (fun z => by have z2 := x_eq z; rw [nI_toInt (show n30 < 2 ^ 31 by omega), show ((-1) : Int32).toInt = (-1) by decide +kernel] at z2; omega) ?_
          refine V_lload_n 59 B dX12_effort_59 2 rfl ?_
          refine V_aload_n 60 B dX12_effort_60 3 rfl ?_
          refine V_iload 61 B dX12_effort_61 0 rfl ?_
          refine V_csi 63 B (st := [.ref h0, .long (a18.2.2.1 0)]) (As := [.int (nI n30)]) (fun sz => rX12_sequenceOf l D Y n30 (by omega) sz) glS_RX12_85 ⟨rfl, rfl⟩ ⟨(Nat.le_of_ble_eq_true rfl), (Nat.le_of_ble_eq_true rfl)⟩ ⟨(Nat.le_of_ble_eq_true rfl), (Nat.le_of_ble_eq_true rfl)⟩ [] rfl rfl (Nat.le_of_ble_eq_true rfl) rfl (fun _ _ _ => rfl) dX12_effort_63 (fun j34 u35 w36 => ?_)
          refine V_ws [(h0, oC 13 [.ref h1, .ref h2, .int (u15.2.1 0), .ref h3, .ref h4, .int (nI k5), .int (nI k6), .int p7, .int p8, .int p9, .int (nI k10), .int p11, .long q12, .ref h5, .ref h6, .int (nI k15), .int (nI k16)]), (h1, aI Y 3640 f0), (h2, aZ Y 2 f1), (h3, aZ Y 80 f3), (h4, aB Y 1600 f4), (h5, aI Y 200 f13), (h6, aI Y 800 f14)] rfl ?_
          have x37 := w36
          clear w36
          obtain rfl := x37
          refine V_cvi 66 B (st := [.long (a18.2.2.1 0)]) (As := [.int (nI (186 + 7 * n30))]) (fun sz => rX12_costOf l D Y h0 h1 h2 h3 h4 h5 h6 (u15.2.1 0) k5 k6 p7 p8 p9 k10 p11 q12 k15 k16 f0 f1 f3 f4 f13 f14 ph HI (by omega) HP (186 + 7 * n30) (rl5 n30 (by omega)) sz) glV_RX12_76 ⟨rfl, rfl⟩ ⟨(Nat.le_of_ble_eq_true rfl), (Nat.le_of_ble_eq_true rfl)⟩ ⟨(Nat.le_of_ble_eq_true rfl), (Nat.le_of_ble_eq_true rfl)⟩ [0, 0, 0, 0, 0, 0, 0] rfl 13 0 rfl rfl rfl rfl (Nat.le_of_ble_eq_true rfl) rfl (fun _ _ _ => rfl) dX12_effort_66 (fun j38 u39 w40 => ?_)
          refine V_ws [(h0, oC 13 [.ref h1, .ref h2, .int (u15.2.1 0), .ref h3, .ref h4, .int (nI k5), .int (nI k6), .int p7, .int p8, .int p9, .int (nI k10), .int p11, .long q12, .ref h5, .ref h6, .int (nI k15), .int (nI k16)]), (h1, aI Y 3640 f0), (h2, aZ Y 2 f1), (h3, aZ Y 80 f3), (h4, aB Y 1600 f4), (h5, aI Y 200 f13), (h6, aI Y 800 f14)] rfl ?_
          refine V_i2l 69 B dX12_effort_69 rfl ?_
          refine V_nml (fun o41 e42 => ?_)
          have x43 : o41.toInt = j38.toInt := by rw [e42, Int32.toInt_toInt64]
          refine V_aload_n 70 B dX12_effort_70 3 rfl ?_
          refine V_iload 71 B dX12_effort_71 1 rfl ?_
          refine V_iconst 73 B (v := 2) dX12_effort_73 (by decide +kernel) ?_
          refine V_cvi 74 B (st := [.long o41, .long (a18.2.2.1 0)]) (As := [.int (nI (a18.1 0)), .int 2]) (fun sz => rX12_ofCommand l D Y h0 h1 h2 h3 h4 h5 h6 (u15.2.1 0) k5 k6 p7 p8 p9 k10 p11 q12 k15 k16 f0 f1 f3 f4 f13 f14 ph HI (by omega) HP (a18.1 0) 2 (by omega) (by omega) sz) glV_RX12_102 ⟨rfl, rfl⟩ ⟨(Nat.le_of_ble_eq_true rfl), (Nat.le_of_ble_eq_true rfl)⟩ ⟨(Nat.le_of_ble_eq_true rfl), (Nat.le_of_ble_eq_true rfl)⟩ [0, 0, 0, 0, 0, 0, 0] rfl 13 0 rfl rfl rfl rfl (Nat.le_of_ble_eq_true rfl) rfl (fun _ _ _ => rfl) dX12_effort_74 (fun j44 u45 w46 => ?_)
          refine V_ws [(h0, oC 13 [.ref h1, .ref h2, .int (u15.2.1 0), .ref h3, .ref h4, .int (nI k5), .int (nI k6), .int p7, .int p8, .int p9, .int (nI k10), .int p11, .long q12, .ref h5, .ref h6, .int (nI k15), .int (nI k16)]), (h1, aI Y 3640 f0), (h2, aZ Y 2 f1), (h3, aZ Y 80 f3), (h4, aB Y 1600 f4), (h5, aI Y 200 f13), (h6, aI Y 800 f14)] rfl ?_
          have x47 := w46
          clear w46
          refine V_i2l 77 B dX12_effort_77 rfl ?_
          refine V_nml (fun o48 e49 => ?_)
          have x50 : o48.toInt = j44.toInt := by rw [e49, Int32.toInt_toInt64]
          refine V_lmul 78 B dX12_effort_78 rfl ?_
          refine V_nml (fun o51 e52 => ?_)
          refine V_ladd 79 B dX12_effort_79 rfl ?_
          refine V_nml (fun o53 e54 => ?_)
          refine V_lstore_n 80 B (lv2 := [(2, .long o53), (5, .int (nI n30)), (4, .int (nI (a18.1 0))), (0, .ref h0), (1, .int (nI n4))]) dX12_effort_80 (by decide) rfl ?_
          refine V_iinc 81 B (v := (nI (1 + (a18.1 0)))) (lv2 := [(4, .int (nI (1 + (a18.1 0)))), (2, .long o53), (5, .int (nI n30)), (0, .ref h0), (1, .int (nI n4))]) dX12_effort_81 2 rfl (nI_addE (a := (a18.1 0)) (b := 1) (by omega)) (by decide) rfl ?_
          refine V_goto 84 B 33 dX12_effort_84 (by decide) ?_
          refine V_lv [(4, .int (nI (1 + (a18.1 0)))), (2, .long o53), (0, .ref h0), (1, .int (nI n4))] [0, 1, 3, 4] rfl ?_
          exact IH19 (mkW [1 + (a18.1 0)] [] [o53] [] [] []) (show 1 + (a18.1 0) ≤ 4000 by omega) (by show 100000 - (1 + (a18.1 0)) < 100000 - (a18.1 0); omega))
