theorem dX12_clashIn_0 : decode cX12_clashIn 0 = .ok (.iconst 0, 1) := by decide +kernel
theorem dX12_clashIn_1 : decode cX12_clashIn 1 = .ok (.istore 4, 2) := by decide +kernel
theorem dX12_clashIn_3 : decode cX12_clashIn 3 = .ok (.iload 4, 2) := by decide +kernel
theorem dX12_clashIn_5 : decode cX12_clashIn 5 = .ok (.aload_n 0, 1) := by decide +kernel
theorem dX12_clashIn_6 : decode cX12_clashIn 6 = .ok (.getfield 9, 3) := by decide +kernel
theorem dX12_clashIn_9 : decode cX12_clashIn 9 = .ok (.iconst 3, 1) := by decide +kernel
theorem dX12_clashIn_10 : decode cX12_clashIn 10 = .ok (.iaload, 1) := by decide +kernel
theorem dX12_clashIn_11 : decode cX12_clashIn 11 = .ok (.if_icmp .ge 46, 3) := by decide +kernel
theorem dX12_clashIn_57 : decode cX12_clashIn 57 = .ok (.iconst (-1), 1) := by decide +kernel
theorem dX12_clashIn_58 : decode cX12_clashIn 58 = .ok (.ireturn, 1) := by decide +kernel
theorem dX12_clashIn_14 : decode cX12_clashIn 14 = .ok (.iload 4, 2) := by decide +kernel
theorem dX12_clashIn_16 : decode cX12_clashIn 16 = .ok (.iload_n 3, 1) := by decide +kernel
theorem dX12_clashIn_17 : decode cX12_clashIn 17 = .ok (.if_icmp .eq 34, 3) := by decide +kernel
theorem dX12_clashIn_51 : decode cX12_clashIn 51 = .ok (.iinc 4 1, 3) := by decide +kernel
theorem dX12_clashIn_54 : decode cX12_clashIn 54 = .ok (.goto (-51), 3) := by decide +kernel
theorem dX12_clashIn_20 : decode cX12_clashIn 20 = .ok (.iload_n 1, 1) := by decide +kernel
theorem dX12_clashIn_21 : decode cX12_clashIn 21 = .ok (.iconst (-1), 1) := by decide +kernel
theorem dX12_clashIn_22 : decode cX12_clashIn 22 = .ok (.if_icmp .eq 13, 3) := by decide +kernel
theorem dX12_clashIn_35 : decode cX12_clashIn 35 = .ok (.aload_n 0, 1) := by decide +kernel
theorem dX12_clashIn_36 : decode cX12_clashIn 36 = .ok (.iload 4, 2) := by decide +kernel
theorem dX12_clashIn_38 : decode cX12_clashIn 38 = .ok (.invokestatic 85, 3) := by decide +kernel
theorem dX12_clashIn_41 : decode cX12_clashIn 41 = .ok (.iload_n 2, 1) := by decide +kernel
theorem dX12_clashIn_42 : decode cX12_clashIn 42 = .ok (.invokevirtual 111, 3) := by decide +kernel
theorem dX12_clashIn_45 : decode cX12_clashIn 45 = .ok (.ifCond .eq 6, 3) := by decide +kernel
theorem dX12_clashIn_48 : decode cX12_clashIn 48 = .ok (.iload 4, 2) := by decide +kernel
theorem dX12_clashIn_50 : decode cX12_clashIn 50 = .ok (.ireturn, 1) := by decide +kernel
theorem dX12_clashIn_25 : decode cX12_clashIn 25 = .ok (.aload_n 0, 1) := by decide +kernel
theorem dX12_clashIn_26 : decode cX12_clashIn 26 = .ok (.iload 4, 2) := by decide +kernel
theorem dX12_clashIn_28 : decode cX12_clashIn 28 = .ok (.invokevirtual 115, 3) := by decide +kernel
theorem glV_RX12_115 : GLV RX12 115 yX12_modeOf RX12 cX12_modeOf 2 (some .int) 1 := ⟨⟨(mT8 74 rfl rfl), (mT8 76 rfl rfl), (mTs 41 rfl rfl), (mT1 13 rfl rfl), (mT8 77 rfl rfl)⟩, by decide +kernel⟩
theorem dX12_clashIn_31 : decode cX12_clashIn 31 = .ok (.iload_n 1, 1) := by decide +kernel
theorem dX12_clashIn_32 : decode cX12_clashIn 32 = .ok (.if_icmp .ne 19, 3) := by decide +kernel
set_option maxRecDepth 100000 in
set_option maxHeartbeats 4000000 in
theorem rX12_clashIn (l : Launch) (D : va_G) (Y : Nat → ClassId) (h0 : Nat) (h1 : Nat) (h2 : Nat) (h3 : Nat) (h4 : Nat) (h5 : Nat) (h6 : Nat) (p2 : Int32) (k5 : Nat) (k6 : Nat) (p7 : Int32) (p8 : Int32) (p9 : Int32) (k10 : Nat) (p11 : Int32) (q12 : Int64) (k15 : Nat) (k16 : Nat) (f0 : Nat → Int32) (f1 : Nat → Int32) (f3 : Nat → Int32) (f4 : Nat → Int32) (f13 : Nat → Int32) (f14 : Nat → Int32) (ph : Nat → Int32) (HI : INV ph f0) (HL : k5 ≤ 1600) (HP : PLV f13) (s0 : Int32) (s1 : Nat) (s2 : Int32) (hs1 : SQ s1) (sz : Nat) : Met l yX12_clashIn (WSm yX12_clashIn cX12_clashIn 5 (some .int)) (mkR 3 0 0 66) (PreC D Y [.ref h0, .int s0, .int (nI s1), .int s2] [(h0, oC 13 [.ref h1, .ref h2, .int p2, .ref h3, .ref h4, .int (nI k5), .int (nI k6), .int p7, .int p8, .int p9, .int (nI k10), .int p11, .long q12, .ref h5, .ref h6, .int (nI k15), .int (nI k16)]), (h1, aI Y 3640 f0), (h2, aZ Y 2 f1), (h3, aZ Y 80 f3), (h4, aB Y 1600 f4), (h5, aI Y 200 f13), (h6, aI Y 800 f14)] sz) (QI D (fun (r : Int32) (u : WU) => ((r = -1 ∧ CLI f0 s0 s2 (gN f0 3) s1) ∨ ∃ b : Nat, r = nI b ∧ b < gN f0 3 ∧ CL f0 s0 b s1)) (fun (u : WU) => [(h0, oC 13 [.ref h1, .ref h2, .int p2, .ref h3, .ref h4, .int (nI k5), .int (nI k6), .int p7, .int p8, .int p9, .int (nI k10), .int p11, .long q12, .ref h5, .ref h6, .int (nI k15), .int (nI k16)]), (h1, aI Y 3640 f0), (h2, aZ Y 2 f1), (h3, aZ Y 80 f3), (h4, aB Y 1600 f4), (h5, aI Y 200 f13), (h6, aI Y 800 f14)]) (va_A [(h0, oC 13 [.ref h1, .ref h2, .int p2, .ref h3, .ref h4, .int (nI k5), .int (nI k6), .int p7, .int p8, .int p9, .int (nI k10), .int p11, .long q12, .ref h5, .ref h6, .int (nI k15), .int (nI k16)]), (h1, aI Y 3640 f0), (h2, aZ Y 2 f1), (h3, aZ Y 80 f3), (h4, aB Y 1600 f4), (h5, aI Y 200 f13), (h6, aI Y 800 f14)] sz)) 0 0 (va_A [(h0, oC 13 [.ref h1, .ref h2, .int p2, .ref h3, .ref h4, .int (nI k5), .int (nI k6), .int p7, .int p8, .int p9, .int (nI k10), .int p11, .long q12, .ref h5, .ref h6, .int (nI k15), .int (nI k16)]), (h1, aI Y 3640 f0), (h2, aZ Y 2 f1), (h3, aZ Y 80 f3), (h4, aB Y 1600 f4), (h5, aI Y 200 f13), (h6, aI Y 800 f14)] sz) :=
  met_of  (by decide +kernel) (Nat.le_of_ble_eq_true rfl) (fun p e s m args below meth c B hin hsz => by
    have B : VB p s m args meth c D Y (va_A [(h0, oC 13 [.ref h1, .ref h2, .int p2, .ref h3, .ref h4, .int (nI k5), .int (nI k6), .int p7, .int p8, .int p9, .int (nI k10), .int p11, .long q12, .ref h5, .ref h6, .int (nI k15), .int (nI k16)]), (h1, aI Y 3640 f0), (h2, aZ Y 2 f1), (h3, aZ Y 80 f3), (h4, aB Y 1600 f4), (h5, aI Y 200 f13), (h6, aI Y 800 f14)] sz) cX12_clashIn 5 RX12 (some .int) := B
    have hq_s1 := hs1.1
    refine V_iconst 0 B (v := 0) dX12_clashIn_0 (by decide +kernel) ?_
    refine V_istore 1 B (lv2 := [(4, .int 0), (0, .ref h0), (1, .int s0), (2, .int (nI s1)), (3, .int s2)]) dX12_clashIn_1 (by decide) rfl ?_
    refine V_wloop (α := WU) (fun a => 100000 - (a.1 0)) (fun a => (a.1 0) ≤ 80 ∧ CLI f0 s0 s2 (a.1 0) s1) (fun a => [(4, .int (nI (a.1 0))), (0, .ref h0), (1, .int s0), (2, .int (nI s1)), (3, .int s2)]) (fun a => [(h0, oC 13 [.ref h1, .ref h2, .int p2, .ref h3, .ref h4, .int (nI k5), .int (nI k6), .int p7, .int p8, .int p9, .int (nI k10), .int p11, .long q12, .ref h5, .ref h6, .int (nI k15), .int (nI k16)]), (h1, aI Y 3640 f0), (h2, aZ Y 2 f1), (h3, aZ Y 80 f3), (h4, aB Y 1600 f4), (h5, aI Y 200 f13), (h6, aI Y 800 f14)]) (mkW [0] [] [] [] [] []) ⟨(show 0 ≤ 80 by omega), (fun _ _ h => absurd h (Nat.not_lt_zero _))⟩ rfl rfl (fun a0 hI2 IH1 => ?_)
    refine V_lv [(4, .int (nI (a0.1 0))), (0, .ref h0), (1, .int s0), (2, .int (nI s1)), (3, .int s2)] [0, 1, 2, 3, 4] rfl ?_
    refine V_ws [(h0, oC 13 [.ref h1, .ref h2, .int p2, .ref h3, .ref h4, .int (nI k5), .int (nI k6), .int p7, .int p8, .int p9, .int (nI k10), .int p11, .long q12, .ref h5, .ref h6, .int (nI k15), .int (nI k16)]), (h1, aI Y 3640 f0), (h2, aZ Y 2 f1), (h3, aZ Y 80 f3), (h4, aB Y 1600 f4), (h5, aI Y 200 f13), (h6, aI Y 800 f14)] rfl ?_
    obtain ⟨x3, x4⟩ := hI2
    refine V_iload 3 B dX12_clashIn_3 0 rfl ?_
    refine V_aload_n 5 B dX12_clashIn_5 1 rfl ?_
    refine V_get 6 B gf_RX12_9 0 rfl rfl dX12_clashIn_6 ?_
    refine V_iconst 9 B (v := 3) dX12_clashIn_9 (by decide +kernel) ?_
    have x5 : (gN f0 3) ≤ 80 := gN_le HI (by omega) (show bd 3 = (0, ((80 : Nat) : Int)) by decide +kernel)
    refine V_iald 10 B (v := (nI (gN f0 3))) 1 rfl (vpin _ _ (by decide +kernel)) dX12_clashIn_10 (by show f0 3 = _; exact gN_eq HI (by omega) (show bd 3 = (0, ((80 : Nat) : Int)) by decide +kernel)) ?_
    refine V_icmp_ge 11 B 57 dX12_clashIn_11 (by decide) (fun kk6 => ?_) (fun kk6 => ?_)
    ·
      have x7 := n_le (a := (gN f0 3)) (b := (a0.1 0)) kk6 (by omega) (by omega)
      refine V_iconst 57 B (v := (-1)) dX12_clashIn_57 (by decide +kernel) ?_
      exact V_iret 58 B dX12_clashIn_58 (mkW [] [] [] [] [] []) (Or.inl ⟨rfl, fun e b h => x4 e b (by omega)⟩) rfl
    ·
      have x8 := n_nle (a := (gN f0 3)) (b := (a0.1 0)) kk6 (by omega) (by omega)
      refine V_iload 14 B dX12_clashIn_14 0 rfl ?_
      refine V_iload_n 16 B dX12_clashIn_16 4 rfl ?_
      refine V_icmp_eq 17 B 51 dX12_clashIn_17 (by decide) (fun kk9 => ?_) (fun kk9 => ?_)
      ·
        have x10 := x_eq kk9
        rw [nI_toInt (show (a0.1 0) < 2 ^ 31 by omega)] at x10
        refine V_iinc 51 B (v := (nI (1 + (a0.1 0)))) (lv2 := [(4, .int (nI (1 + (a0.1 0)))), (0, .ref h0), (1, .int s0), (2, .int (nI s1)), (3, .int s2)]) dX12_clashIn_51 0 rfl (nI_addE (a := (a0.1 0)) (b := 1) (by omega)) (by decide) rfl ?_
        refine V_goto 54 B 3 dX12_clashIn_54 (by decide) ?_
        refine V_lv [(4, .int (nI (1 + (a0.1 0)))), (0, .ref h0), (1, .int s0), (2, .int (nI s1)), (3, .int s2)] [0, 1, 2, 3, 4] rfl ?_
        exact IH1 (mkW [1 + (a0.1 0)] [] [] [] [] []) ⟨(show 1 + (a0.1 0) ≤ 80 by omega), (cl_but x4 kk9 (by omega))⟩ (by show 100000 - (1 + (a0.1 0)) < 100000 - (a0.1 0); omega)
      ·
        have x11 := x_ne kk9
        rw [nI_toInt (show (a0.1 0) < 2 ^ 31 by omega)] at x11
        refine V_iload_n 20 B dX12_clashIn_20 2 rfl ?_
        refine V_iconst 21 B (v := (-1)) dX12_clashIn_21 (by decide +kernel) ?_
        refine V_icmp_eq 22 B 35 dX12_clashIn_22 (by decide) (fun kk12 => ?_) (fun kk12 => ?_)
        ·
          obtain rfl : s0 = (-1) := kk12
          have e14 : ((-1) : Int32).toInt = (-1) := by decide +kernel
          refine V_aload_n 35 B dX12_clashIn_35 1 rfl ?_
          refine V_iload 36 B dX12_clashIn_36 0 rfl ?_
          refine V_csi 38 B (st := [.ref h0]) (As := [.int (nI (a0.1 0))]) (fun sz => rX12_sequenceOf l D Y (a0.1 0) (by omega) sz) glS_RX12_85 ⟨rfl, rfl⟩ ⟨(Nat.le_of_ble_eq_true rfl), (Nat.le_of_ble_eq_true rfl)⟩ ⟨(Nat.le_of_ble_eq_true rfl), (Nat.le_of_ble_eq_true rfl)⟩ [] rfl rfl (Nat.le_of_ble_eq_true rfl) rfl (fun _ _ _ => rfl) dX12_clashIn_38 (fun j15 u16 w17 => ?_)
          refine V_ws [(h0, oC 13 [.ref h1, .ref h2, .int p2, .ref h3, .ref h4, .int (nI k5), .int (nI k6), .int p7, .int p8, .int p9, .int (nI k10), .int p11, .long q12, .ref h5, .ref h6, .int (nI k15), .int (nI k16)]), (h1, aI Y 3640 f0), (h2, aZ Y 2 f1), (h3, aZ Y 80 f3), (h4, aB Y 1600 f4), (h5, aI Y 200 f13), (h6, aI Y 800 f14)] rfl ?_
          have x18 := w17
          clear w17
          obtain rfl := x18
          refine V_iload_n 41 B dX12_clashIn_41 3 rfl ?_
          refine V_cvi 42 B (st := []) (As := [.int (nI (186 + 7 * (a0.1 0))), .int (nI s1)]) (fun sz => rX12_doClash l D Y h0 h1 h2 h3 h4 h5 h6 p2 k5 k6 p7 p8 p9 k10 p11 q12 k15 k16 f0 f1 f3 f4 f13 f14 ph HI (by omega) HP (186 + 7 * (a0.1 0)) s1 (rl5 (a0.1 0) (by omega)) hs1 sz) glV_RX12_111 ⟨rfl, rfl⟩ ⟨(Nat.le_of_ble_eq_true rfl), (Nat.le_of_ble_eq_true rfl)⟩ ⟨(Nat.le_of_ble_eq_true rfl), (Nat.le_of_ble_eq_true rfl)⟩ [0, 0, 0, 0, 0, 0, 0] rfl 13 0 rfl rfl rfl rfl (Nat.le_of_ble_eq_true rfl) rfl (fun _ _ _ => rfl) dX12_clashIn_42 (fun j19 u20 w21 => ?_)
          refine V_ws [(h0, oC 13 [.ref h1, .ref h2, .int p2, .ref h3, .ref h4, .int (nI k5), .int (nI k6), .int p7, .int p8, .int p9, .int (nI k10), .int p11, .long q12, .ref h5, .ref h6, .int (nI k15), .int (nI k16)]), (h1, aI Y 3640 f0), (h2, aZ Y 2 f1), (h3, aZ Y 80 f3), (h4, aB Y 1600 f4), (h5, aI Y 200 f13), (h6, aI Y 800 f14)] rfl ?_
          have x22 := w21
          clear w21
          rcases x22 with ⟨rfl, x23⟩ | ⟨rfl, x23⟩
          ·
            refine V_if_eq_t 45 B 51 dX12_clashIn_45 (by decide) (by decide +kernel) ?_
            refine V_iinc 51 B (v := (nI (1 + (a0.1 0)))) (lv2 := [(4, .int (nI (1 + (a0.1 0)))), (0, .ref h0), (1, .int (-1)), (2, .int (nI s1)), (3, .int s2)]) dX12_clashIn_51 0 rfl (nI_addE (a := (a0.1 0)) (b := 1) (by omega)) (by decide) rfl ?_
            refine V_goto 54 B 3 dX12_clashIn_54 (by decide) ?_
            refine V_lv [(4, .int (nI (1 + (a0.1 0)))), (0, .ref h0), (1, .int (-1)), (2, .int (nI s1)), (3, .int s2)] [0, 1, 2, 3, 4] rfl ?_
            exact IH1 (mkW [1 + (a0.1 0)] [] [] [] [] []) ⟨(show 1 + (a0.1 0) ≤ 80 by omega), (cl_dc x4 x23)⟩ (by show 100000 - (1 + (a0.1 0)) < 100000 - (a0.1 0); omega)
          ·
            refine V_if_eq_f 45 B 51 dX12_clashIn_45 (by decide) (by decide +kernel) ?_
            refine V_iload 48 B dX12_clashIn_48 0 rfl ?_
            exact V_iret 50 B dX12_clashIn_50 (mkW [] [] [] [] [] []) (Or.inr ⟨(a0.1 0), rfl, by omega, Or.inl rfl, x23⟩) rfl
        ·
          have x24 := x_ne kk12
          rw [show ((-1) : Int32).toInt = (-1) by decide +kernel] at x24
          refine V_aload_n 25 B dX12_clashIn_25 1 rfl ?_
          refine V_iload 26 B dX12_clashIn_26 0 rfl ?_
          refine V_cvi 28 B (st := []) (As := [.int (nI (a0.1 0))]) (fun sz => rX12_modeOf l D Y h0 h1 h2 h3 h4 h5 h6 p2 k5 k6 p7 p8 p9 k10 p11 q12 k15 k16 f0 f1 f3 f4 f13 f14 ph HI (by omega) HP (a0.1 0) (by omega) sz) glV_RX12_115 ⟨rfl, rfl⟩ ⟨(Nat.le_of_ble_eq_true rfl), (Nat.le_of_ble_eq_true rfl)⟩ ⟨(Nat.le_of_ble_eq_true rfl), (Nat.le_of_ble_eq_true rfl)⟩ [0, 0, 0, 0, 0, 0, 0] rfl 13 0 rfl rfl rfl rfl (Nat.le_of_ble_eq_true rfl) rfl (fun _ _ _ => rfl) dX12_clashIn_28 (fun j25 u26 w27 => ?_)
          refine V_ws [(h0, oC 13 [.ref h1, .ref h2, .int p2, .ref h3, .ref h4, .int (nI k5), .int (nI k6), .int p7, .int p8, .int p9, .int (nI k10), .int p11, .long q12, .ref h5, .ref h6, .int (nI k15), .int (nI k16)]), (h1, aI Y 3640 f0), (h2, aZ Y 2 f1), (h3, aZ Y 80 f3), (h4, aB Y 1600 f4), (h5, aI Y 200 f13), (h6, aI Y 800 f14)] rfl ?_
          have x28 := w27
          clear w27
          refine V_iload_n 31 B dX12_clashIn_31 2 rfl ?_
          refine V_icmp_ne 32 B 51 dX12_clashIn_32 (by decide) (fun kk29 => ?_) (fun kk29 => ?_)
          ·
            have x30 := x_ne kk29
            refine V_iinc 51 B (v := (nI (1 + (a0.1 0)))) (lv2 := [(4, .int (nI (1 + (a0.1 0)))), (0, .ref h0), (1, .int s0), (2, .int (nI s1)), (3, .int s2)]) dX12_clashIn_51 0 rfl (nI_addE (a := (a0.1 0)) (b := 1) (by omega)) (by decide) rfl ?_
            refine V_goto 54 B 3 dX12_clashIn_54 (by decide) ?_
            refine V_lv [(4, .int (nI (1 + (a0.1 0)))), (0, .ref h0), (1, .int s0), (2, .int (nI s1)), (3, .int s2)] [0, 1, 2, 3, 4] rfl ?_
            exact IH1 (mkW [1 + (a0.1 0)] [] [] [] [] []) ⟨(show 1 + (a0.1 0) ≤ 80 by omega), (cl_mode x4 kk12 (fun z => kk29 (by rw [x28]; exact z)))⟩ (by show 100000 - (1 + (a0.1 0)) < 100000 - (a0.1 0); omega)
          ·
            have x31 := x_eq kk29
            refine V_aload_n 35 B dX12_clashIn_35 1 rfl ?_
            refine V_iload 36 B dX12_clashIn_36 0 rfl ?_
            refine V_csi 38 B (st := [.ref h0]) (As := [.int (nI (a0.1 0))]) (fun sz => rX12_sequenceOf l D Y (a0.1 0) (by omega) sz) glS_RX12_85 ⟨rfl, rfl⟩ ⟨(Nat.le_of_ble_eq_true rfl), (Nat.le_of_ble_eq_true rfl)⟩ ⟨(Nat.le_of_ble_eq_true rfl), (Nat.le_of_ble_eq_true rfl)⟩ [] rfl rfl (Nat.le_of_ble_eq_true rfl) rfl (fun _ _ _ => rfl) dX12_clashIn_38 (fun j32 u33 w34 => ?_)
            refine V_ws [(h0, oC 13 [.ref h1, .ref h2, .int p2, .ref h3, .ref h4, .int (nI k5), .int (nI k6), .int p7, .int p8, .int p9, .int (nI k10), .int p11, .long q12, .ref h5, .ref h6, .int (nI k15), .int (nI k16)]), (h1, aI Y 3640 f0), (h2, aZ Y 2 f1), (h3, aZ Y 80 f3), (h4, aB Y 1600 f4), (h5, aI Y 200 f13), (h6, aI Y 800 f14)] rfl ?_
            have x35 := w34
            clear w34
            obtain rfl := x35
            refine V_iload_n 41 B dX12_clashIn_41 3 rfl ?_
            refine V_cvi 42 B (st := []) (As := [.int (nI (186 + 7 * (a0.1 0))), .int (nI s1)]) (fun sz => rX12_doClash l D Y h0 h1 h2 h3 h4 h5 h6 p2 k5 k6 p7 p8 p9 k10 p11 q12 k15 k16 f0 f1 f3 f4 f13 f14 ph HI (by omega) HP (186 + 7 * (a0.1 0)) s1 (rl5 (a0.1 0) (by omega)) hs1 sz) glV_RX12_111 ⟨rfl, rfl⟩ ⟨(Nat.le_of_ble_eq_true rfl), (Nat.le_of_ble_eq_true rfl)⟩ ⟨(Nat.le_of_ble_eq_true rfl), (Nat.le_of_ble_eq_true rfl)⟩ [0, 0, 0, 0, 0, 0, 0] rfl 13 0 rfl rfl rfl rfl (Nat.le_of_ble_eq_true rfl) rfl (fun _ _ _ => rfl) dX12_clashIn_42 (fun j36 u37 w38 => ?_)
            refine V_ws [(h0, oC 13 [.ref h1, .ref h2, .int p2, .ref h3, .ref h4, .int (nI k5), .int (nI k6), .int p7, .int p8, .int p9, .int (nI k10), .int p11, .long q12, .ref h5, .ref h6, .int (nI k15), .int (nI k16)]), (h1, aI Y 3640 f0), (h2, aZ Y 2 f1), (h3, aZ Y 80 f3), (h4, aB Y 1600 f4), (h5, aI Y 200 f13), (h6, aI Y 800 f14)] rfl ?_
            have x39 := w38
            clear w38
            rcases x39 with ⟨rfl, x40⟩ | ⟨rfl, x40⟩
            ·
              refine V_if_eq_t 45 B 51 dX12_clashIn_45 (by decide) (by decide +kernel) ?_
              refine V_iinc 51 B (v := (nI (1 + (a0.1 0)))) (lv2 := [(4, .int (nI (1 + (a0.1 0)))), (0, .ref h0), (1, .int s0), (2, .int (nI s1)), (3, .int s2)]) dX12_clashIn_51 0 rfl (nI_addE (a := (a0.1 0)) (b := 1) (by omega)) (by decide) rfl ?_
              refine V_goto 54 B 3 dX12_clashIn_54 (by decide) ?_
              refine V_lv [(4, .int (nI (1 + (a0.1 0)))), (0, .ref h0), (1, .int s0), (2, .int (nI s1)), (3, .int s2)] [0, 1, 2, 3, 4] rfl ?_
              exact IH1 (mkW [1 + (a0.1 0)] [] [] [] [] []) ⟨(show 1 + (a0.1 0) ≤ 80 by omega), (cl_dc x4 x40)⟩ (by show 100000 - (1 + (a0.1 0)) < 100000 - (a0.1 0); omega)
            ·
              refine V_if_eq_f 45 B 51 dX12_clashIn_45 (by decide) (by decide +kernel) ?_
              refine V_iload 48 B dX12_clashIn_48 0 rfl ?_
              exact V_iret 50 B dX12_clashIn_50 (mkW [] [] [] [] [] []) (Or.inr ⟨(a0.1 0), rfl, by omega, Or.inr (by rw [← x28]; exact kk29), x40⟩) rfl)
theorem dX12_canBind_0 : decode cX12_canBind 0 = .ok (.aload_n 0, 1) := by decide +kernel
theorem dX12_canBind_1 : decode cX12_canBind 1 = .ok (.iload_n 2, 1) := by decide +kernel
theorem dX12_canBind_2 : decode cX12_canBind 2 = .ok (.invokevirtual 118, 3) := by decide +kernel
theorem glV_RX12_118 : GLV RX12 118 yX12_clashesReserved RX12 cX12_clashesReserved 4 (some .boolean) 1 := ⟨⟨(mT8 108 rfl rfl), (mT8 110 rfl rfl), (mTs 46 rfl rfl), (mT1 13 rfl rfl), (mT8 111 rfl rfl)⟩, by decide +kernel⟩
theorem dX12_canBind_5 : decode cX12_canBind 5 = .ok (.ifCond .ne 18, 3) := by decide +kernel
theorem dX12_canBind_8 : decode cX12_canBind 8 = .ok (.aload_n 0, 1) := by decide +kernel
theorem dX12_canBind_9 : decode cX12_canBind 9 = .ok (.iload_n 1, 1) := by decide +kernel
theorem dX12_canBind_10 : decode cX12_canBind 10 = .ok (.iload_n 2, 1) := by decide +kernel
theorem dX12_canBind_11 : decode cX12_canBind 11 = .ok (.iconst (-1), 1) := by decide +kernel
theorem dX12_canBind_12 : decode cX12_canBind 12 = .ok (.invokevirtual 121, 3) := by decide +kernel
theorem glV_RX12_121 : GLV RX12 121 yX12_clashIn RX12 cX12_clashIn 5 (some .int) 3 := ⟨⟨(mT8 70 rfl rfl), (mT8 72 rfl rfl), (mTs 40 rfl rfl), (mT1 13 rfl rfl), (mT8 73 rfl rfl)⟩, by decide +kernel⟩
theorem dX12_canBind_15 : decode cX12_canBind 15 = .ok (.iconst (-1), 1) := by decide +kernel
theorem dX12_canBind_16 : decode cX12_canBind 16 = .ok (.if_icmp .ne 7, 3) := by decide +kernel
theorem dX12_canBind_19 : decode cX12_canBind 19 = .ok (.iconst 1, 1) := by decide +kernel
theorem dX12_canBind_20 : decode cX12_canBind 20 = .ok (.goto 4, 3) := by decide +kernel
theorem dX12_canBind_24 : decode cX12_canBind 24 = .ok (.ireturn, 1) := by decide +kernel
theorem dX12_canBind_23 : decode cX12_canBind 23 = .ok (.iconst 0, 1) := by decide +kernel
set_option maxRecDepth 100000 in
set_option maxHeartbeats 4000000 in
theorem rX12_canBind (l : Launch) (D : va_G) (Y : Nat → ClassId) (h0 : Nat) (h1 : Nat) (h2 : Nat) (h3 : Nat) (h4 : Nat) (h5 : Nat) (h6 : Nat) (p2 : Int32) (k5 : Nat) (k6 : Nat) (p7 : Int32) (p8 : Int32) (p9 : Int32) (k10 : Nat) (p11 : Int32) (q12 : Int64) (k15 : Nat) (k16 : Nat) (f0 : Nat → Int32) (f1 : Nat → Int32) (f3 : Nat → Int32) (f4 : Nat → Int32) (f13 : Nat → Int32) (f14 : Nat → Int32) (ph : Nat → Int32) (HI : INV ph f0) (HL : k5 ≤ 1600) (HP : PLV f13) (s0 : Int32) (s1 : Nat) (hs1 : SQ s1) (sz : Nat) : Met l yX12_canBind (WSm yX12_canBind cX12_canBind 3 (some .boolean)) (mkR 4 0 0 90) (PreC D Y [.ref h0, .int s0, .int (nI s1)] [(h0, oC 13 [.ref h1, .ref h2, .int p2, .ref h3, .ref h4, .int (nI k5), .int (nI k6), .int p7, .int p8, .int p9, .int (nI k10), .int p11, .long q12, .ref h5, .ref h6, .int (nI k15), .int (nI k16)]), (h1, aI Y 3640 f0), (h2, aZ Y 2 f1), (h3, aZ Y 80 f3), (h4, aB Y 1600 f4), (h5, aI Y 200 f13), (h6, aI Y 800 f14)] sz) (QI D (fun (r : Int32) (u : WU) => (r = 0 ∨ r = 1)) (fun (u : WU) => [(h0, oC 13 [.ref h1, .ref h2, .int p2, .ref h3, .ref h4, .int (nI k5), .int (nI k6), .int p7, .int p8, .int p9, .int (nI k10), .int p11, .long q12, .ref h5, .ref h6, .int (nI k15), .int (nI k16)]), (h1, aI Y 3640 f0), (h2, aZ Y 2 f1), (h3, aZ Y 80 f3), (h4, aB Y 1600 f4), (h5, aI Y 200 f13), (h6, aI Y 800 f14)]) (va_A [(h0, oC 13 [.ref h1, .ref h2, .int p2, .ref h3, .ref h4, .int (nI k5), .int (nI k6), .int p7, .int p8, .int p9, .int (nI k10), .int p11, .long q12, .ref h5, .ref h6, .int (nI k15), .int (nI k16)]), (h1, aI Y 3640 f0), (h2, aZ Y 2 f1), (h3, aZ Y 80 f3), (h4, aB Y 1600 f4), (h5, aI Y 200 f13), (h6, aI Y 800 f14)] sz)) 0 0 (va_A [(h0, oC 13 [.ref h1, .ref h2, .int p2, .ref h3, .ref h4, .int (nI k5), .int (nI k6), .int p7, .int p8, .int p9, .int (nI k10), .int p11, .long q12, .ref h5, .ref h6, .int (nI k15), .int (nI k16)]), (h1, aI Y 3640 f0), (h2, aZ Y 2 f1), (h3, aZ Y 80 f3), (h4, aB Y 1600 f4), (h5, aI Y 200 f13), (h6, aI Y 800 f14)] sz) :=
  met_of  (by decide +kernel) (Nat.le_of_ble_eq_true rfl) (fun p e s m args below meth c B hin hsz => by
    have B : VB p s m args meth c D Y (va_A [(h0, oC 13 [.ref h1, .ref h2, .int p2, .ref h3, .ref h4, .int (nI k5), .int (nI k6), .int p7, .int p8, .int p9, .int (nI k10), .int p11, .long q12, .ref h5, .ref h6, .int (nI k15), .int (nI k16)]), (h1, aI Y 3640 f0), (h2, aZ Y 2 f1), (h3, aZ Y 80 f3), (h4, aB Y 1600 f4), (h5, aI Y 200 f13), (h6, aI Y 800 f14)] sz) cX12_canBind 3 RX12 (some .boolean) := B
    have hq_s1 := hs1.1
    refine V_aload_n 0 B dX12_canBind_0 0 rfl ?_
    refine V_iload_n 1 B dX12_canBind_1 2 rfl ?_
    refine V_cvi 2 B (st := []) (As := [.int (nI s1)]) (fun sz => rX12_clashesReserved l D Y h0 h1 h2 h3 h4 h5 h6 p2 k5 k6 p7 p8 p9 k10 p11 q12 k15 k16 f0 f1 f3 f4 f13 f14 ph HI (by omega) HP s1 hs1 sz) glV_RX12_118 ⟨rfl, rfl⟩ ⟨(Nat.le_of_ble_eq_true rfl), (Nat.le_of_ble_eq_true rfl)⟩ ⟨(Nat.le_of_ble_eq_true rfl), (Nat.le_of_ble_eq_true rfl)⟩ [0, 0, 0, 0, 0, 0, 0] rfl 13 0 rfl rfl rfl rfl (Nat.le_of_ble_eq_true rfl) rfl (fun _ _ _ => rfl) dX12_canBind_2 (fun j0 u1 w2 => ?_)
    refine V_ws [(h0, oC 13 [.ref h1, .ref h2, .int p2, .ref h3, .ref h4, .int (nI k5), .int (nI k6), .int p7, .int p8, .int p9, .int (nI k10), .int p11, .long q12, .ref h5, .ref h6, .int (nI k15), .int (nI k16)]), (h1, aI Y 3640 f0), (h2, aZ Y 2 f1), (h3, aZ Y 80 f3), (h4, aB Y 1600 f4), (h5, aI Y 200 f13), (h6, aI Y 800 f14)] rfl ?_
    have x3 := w2
    clear w2
    rcases x3 with rfl | rfl
    ·
      refine V_if_ne_f 5 B 23 dX12_canBind_5 (by decide) (by decide +kernel) ?_
      refine V_aload_n 8 B dX12_canBind_8 0 rfl ?_
      refine V_iload_n 9 B dX12_canBind_9 1 rfl ?_
      refine V_iload_n 10 B dX12_canBind_10 2 rfl ?_
      refine V_iconst 11 B (v := (-1)) dX12_canBind_11 (by decide +kernel) ?_
      refine V_cvi 12 B (st := []) (As := [.int s0, .int (nI s1), .int (-1)]) (fun sz => rX12_clashIn l D Y h0 h1 h2 h3 h4 h5 h6 p2 k5 k6 p7 p8 p9 k10 p11 q12 k15 k16 f0 f1 f3 f4 f13 f14 ph HI (by omega) HP s0 s1 (-1) hs1 sz) glV_RX12_121 ⟨rfl, rfl⟩ ⟨(Nat.le_of_ble_eq_true rfl), (Nat.le_of_ble_eq_true rfl)⟩ ⟨(Nat.le_of_ble_eq_true rfl), (Nat.le_of_ble_eq_true rfl)⟩ [0, 0, 0, 0, 0, 0, 0] rfl 13 0 rfl rfl rfl rfl (Nat.le_of_ble_eq_true rfl) rfl (fun _ _ _ => rfl) dX12_canBind_12 (fun j4 u5 w6 => ?_)
      refine V_ws [(h0, oC 13 [.ref h1, .ref h2, .int p2, .ref h3, .ref h4, .int (nI k5), .int (nI k6), .int p7, .int p8, .int p9, .int (nI k10), .int p11, .long q12, .ref h5, .ref h6, .int (nI k15), .int (nI k16)]), (h1, aI Y 3640 f0), (h2, aZ Y 2 f1), (h3, aZ Y 80 f3), (h4, aB Y 1600 f4), (h5, aI Y 200 f13), (h6, aI Y 800 f14)] rfl ?_
      have x7 := w6
      clear w6
      have x10 : (gN f0 3) ≤ 80 := gN_le HI (by omega) (show bd 3 = (0, ((80 : Nat) : Int)) by decide +kernel)
      rcases x7 with ⟨rfl, x9⟩ | ⟨n8, rfl, x9, x11⟩
      ·
        refine V_iconst 15 B (v := (-1)) dX12_canBind_15 (by decide +kernel) ?_
        refine V_icmp_ne_f 16 B 23 dX12_canBind_16 (by decide) (by decide +kernel) ?_
        refine V_iconst 19 B (v := 1) dX12_canBind_19 (by decide +kernel) ?_
        refine V_goto 20 B 24 dX12_canBind_20 (by decide) ?_
        exact V_zret 24 B rfl dX12_canBind_24 (mkW [] [] [] [] [] []) (Or.inr rfl) rfl
      ·
        refine V_iconst 15 B (v := (-1)) dX12_canBind_15 (by decide +kernel) ?_
        refine V_icmp_ne_t 16 B 23 dX12_canBind_16 (by decide) (fun z => by have z2 := x_eq z; rw [nI_toInt (show n8 < 2 ^ 31 by omega), show ((-1) : Int32).toInt = (-1) by decide +kernel] at z2; omega) ?_
        refine V_iconst 23 B (v := 0) dX12_canBind_23 (by decide +kernel) ?_
        exact V_zret 24 B rfl dX12_canBind_24 (mkW [] [] [] [] [] []) (Or.inl rfl) rfl
    ·
      refine V_if_ne_t 5 B 23 dX12_canBind_5 (by decide) (by decide +kernel) ?_
      refine V_iconst 23 B (v := 0) dX12_canBind_23 (by decide +kernel) ?_
      exact V_zret 24 B rfl dX12_canBind_24 (mkW [] [] [] [] [] []) (Or.inl rfl) rfl)
theorem dX12_reserve_0 : decode cX12_reserve 0 = .ok (.aload_n 0, 1) := by decide +kernel
theorem dX12_reserve_1 : decode cX12_reserve 1 = .ok (.iconst 0, 1) := by decide +kernel
theorem dX12_reserve_2 : decode cX12_reserve 2 = .ok (.putfield 38, 3) := by decide +kernel
theorem dX12_reserve_5 : decode cX12_reserve 5 = .ok (.aload_n 0, 1) := by decide +kernel
theorem dX12_reserve_6 : decode cX12_reserve 6 = .ok (.invokevirtual 125, 3) := by decide +kernel
theorem glV_RX12_125 : GLV RX12 125 yX12_hasNoDraft RX12 cX12_hasNoDraft 1 (some .boolean) 0 := ⟨⟨(mT8 66 rfl rfl), (mT8 68 rfl rfl), (mTs 39 rfl rfl), (mT1 13 rfl rfl), (mT8 69 rfl rfl)⟩, by decide +kernel⟩
theorem dX12_reserve_9 : decode cX12_reserve 9 = .ok (.ifCond .eq 6, 3) := by decide +kernel
theorem dX12_reserve_15 : decode cX12_reserve 15 = .ok (.aload_n 0, 1) := by decide +kernel
theorem dX12_reserve_16 : decode cX12_reserve 16 = .ok (.iconst (-1), 1) := by decide +kernel
theorem dX12_reserve_17 : decode cX12_reserve 17 = .ok (.sipush 3624, 3) := by decide +kernel
theorem dX12_reserve_20 : decode cX12_reserve 20 = .ok (.iconst (-1), 1) := by decide +kernel
theorem dX12_reserve_21 : decode cX12_reserve 21 = .ok (.invokevirtual 121, 3) := by decide +kernel
theorem dX12_reserve_24 : decode cX12_reserve 24 = .ok (.iconst (-1), 1) := by decide +kernel
theorem dX12_reserve_25 : decode cX12_reserve 25 = .ok (.if_icmp .eq 7, 3) := by decide +kernel
theorem dX12_reserve_32 : decode cX12_reserve 32 = .ok (.aload_n 0, 1) := by decide +kernel
theorem dX12_reserve_33 : decode cX12_reserve 33 = .ok (.getfield 9, 3) := by decide +kernel
theorem dX12_reserve_36 : decode cX12_reserve 36 = .ok (.iconst 2, 1) := by decide +kernel
theorem dX12_reserve_37 : decode cX12_reserve 37 = .ok (.iaload, 1) := by decide +kernel
theorem dX12_reserve_38 : decode cX12_reserve 38 = .ok (.bipush 6, 2) := by decide +kernel
theorem dX12_reserve_40 : decode cX12_reserve 40 = .ok (.if_icmp .ne 6, 3) := by decide +kernel
theorem dX12_reserve_46 : decode cX12_reserve 46 = .ok (.aload_n 0, 1) := by decide +kernel
theorem dX12_reserve_47 : decode cX12_reserve 47 = .ok (.sipush 3624, 3) := by decide +kernel
theorem dX12_reserve_50 : decode cX12_reserve 50 = .ok (.aload_n 0, 1) := by decide +kernel
theorem dX12_reserve_51 : decode cX12_reserve 51 = .ok (.getfield 9, 3) := by decide +kernel
theorem dX12_reserve_54 : decode cX12_reserve 54 = .ok (.iconst 2, 1) := by decide +kernel
theorem dX12_reserve_55 : decode cX12_reserve 55 = .ok (.iaload, 1) := by decide +kernel
theorem dX12_reserve_56 : decode cX12_reserve 56 = .ok (.invokestatic 108, 3) := by decide +kernel
theorem dX12_reserve_59 : decode cX12_reserve 59 = .ok (.invokevirtual 88, 3) := by decide +kernel
theorem dX12_reserve_62 : decode cX12_reserve 62 = .ok (.aload_n 0, 1) := by decide +kernel
theorem dX12_reserve_63 : decode cX12_reserve 63 = .ok (.getfield 9, 3) := by decide +kernel
theorem dX12_reserve_66 : decode cX12_reserve 66 = .ok (.iconst 2, 1) := by decide +kernel
theorem dX12_reserve_67 : decode cX12_reserve 67 = .ok (.dup2, 1) := by decide +kernel
theorem dX12_reserve_68 : decode cX12_reserve 68 = .ok (.iaload, 1) := by decide +kernel
theorem dX12_reserve_69 : decode cX12_reserve 69 = .ok (.iconst 1, 1) := by decide +kernel
theorem dX12_reserve_70 : decode cX12_reserve 70 = .ok (.iadd, 1) := by decide +kernel
theorem dX12_reserve_71 : decode cX12_reserve 71 = .ok (.iastore, 1) := by decide +kernel
theorem dX12_reserve_72 : decode cX12_reserve 72 = .ok (.aload_n 0, 1) := by decide +kernel
theorem dX12_reserve_73 : decode cX12_reserve 73 = .ok (.getfield 9, 3) := by decide +kernel
theorem dX12_reserve_76 : decode cX12_reserve 76 = .ok (.iconst 2, 1) := by decide +kernel
theorem dX12_reserve_77 : decode cX12_reserve 77 = .ok (.iaload, 1) := by decide +kernel
theorem dX12_reserve_78 : decode cX12_reserve 78 = .ok (.iconst 1, 1) := by decide +kernel
theorem dX12_reserve_79 : decode cX12_reserve 79 = .ok (.isub, 1) := by decide +kernel
theorem dX12_reserve_80 : decode cX12_reserve 80 = .ok (.ireturn, 1) := by decide +kernel
theorem dX12_reserve_43 : decode cX12_reserve 43 = .ok (.bipush (-2), 2) := by decide +kernel
theorem dX12_reserve_45 : decode cX12_reserve 45 = .ok (.ireturn, 1) := by decide +kernel
theorem dX12_reserve_28 : decode cX12_reserve 28 = .ok (.sipush (-1000), 3) := by decide +kernel
theorem dX12_reserve_31 : decode cX12_reserve 31 = .ok (.ireturn, 1) := by decide +kernel
theorem dX12_reserve_12 : decode cX12_reserve 12 = .ok (.bipush (-4), 2) := by decide +kernel
theorem dX12_reserve_14 : decode cX12_reserve 14 = .ok (.ireturn, 1) := by decide +kernel
set_option maxRecDepth 100000 in
set_option maxHeartbeats 4000000 in
theorem rX12_reserve (l : Launch) (D : va_G) (Y : Nat → ClassId) (h0 : Nat) (h1 : Nat) (h2 : Nat) (h3 : Nat) (h4 : Nat) (h5 : Nat) (h6 : Nat) (p2 : Int32) (k5 : Nat) (k6 : Nat) (p7 : Int32) (p8 : Int32) (p9 : Int32) (k10 : Nat) (p11 : Int32) (q12 : Int64) (k15 : Nat) (k16 : Nat) (f0 : Nat → Int32) (f1 : Nat → Int32) (f3 : Nat → Int32) (f4 : Nat → Int32) (f13 : Nat → Int32) (f14 : Nat → Int32) (ph : Nat → Int32) (HI : INV ph f0) (HL : k5 ≤ 1600) (HP : PLV f13)   (sz : Nat) : Met l yX12_reserve (WSm yX12_reserve cX12_reserve 1 (some .int)) (mkR 4 0 0 90) (PreC D Y [.ref h0] [(h0, oC 13 [.ref h1, .ref h2, .int p2, .ref h3, .ref h4, .int (nI k5), .int (nI k6), .int p7, .int p8, .int p9, .int (nI k10), .int p11, .long q12, .ref h5, .ref h6, .int (nI k15), .int (nI k16)]), (h1, aI Y 3640 f0), (h2, aZ Y 2 f1), (h3, aZ Y 80 f3), (h4, aB Y 1600 f4), (h5, aI Y 200 f13), (h6, aI Y 800 f14)] sz) (QI D (fun (r : Int32) (u : WU) => INV ph (u.2.2.2.1 0)) (fun (u : WU) => [(h0, oC 13 [.ref h1, .ref h2, .int (u.2.1 0), .ref h3, .ref h4, .int (nI k5), .int (nI k6), .int p7, .int p8, .int p9, .int (nI k10), .int p11, .long q12, .ref h5, .ref h6, .int (nI k15), .int (nI k16)]), (h1, aI Y 3640 (u.2.2.2.1 0)), (h2, aZ Y 2 f1), (h3, aZ Y 80 f3), (h4, aB Y 1600 f4), (h5, aI Y 200 f13), (h6, aI Y 800 f14)]) (va_A [(h0, oC 13 [.ref h1, .ref h2, .int p2, .ref h3, .ref h4, .int (nI k5), .int (nI k6), .int p7, .int p8, .int p9, .int (nI k10), .int p11, .long q12, .ref h5, .ref h6, .int (nI k15), .int (nI k16)]), (h1, aI Y 3640 f0), (h2, aZ Y 2 f1), (h3, aZ Y 80 f3), (h4, aB Y 1600 f4), (h5, aI Y 200 f13), (h6, aI Y 800 f14)] sz)) 0 0 (va_A [(h0, oC 13 [.ref h1, .ref h2, .int p2, .ref h3, .ref h4, .int (nI k5), .int (nI k6), .int p7, .int p8, .int p9, .int (nI k10), .int p11, .long q12, .ref h5, .ref h6, .int (nI k15), .int (nI k16)]), (h1, aI Y 3640 f0), (h2, aZ Y 2 f1), (h3, aZ Y 80 f3), (h4, aB Y 1600 f4), (h5, aI Y 200 f13), (h6, aI Y 800 f14)] sz) :=
  met_of  (by decide +kernel) (Nat.le_of_ble_eq_true rfl) (fun p e s m args below meth c B hin hsz => by
    have B : VB p s m args meth c D Y (va_A [(h0, oC 13 [.ref h1, .ref h2, .int p2, .ref h3, .ref h4, .int (nI k5), .int (nI k6), .int p7, .int p8, .int p9, .int (nI k10), .int p11, .long q12, .ref h5, .ref h6, .int (nI k15), .int (nI k16)]), (h1, aI Y 3640 f0), (h2, aZ Y 2 f1), (h3, aZ Y 80 f3), (h4, aB Y 1600 f4), (h5, aI Y 200 f13), (h6, aI Y 800 f14)] sz) cX12_reserve 1 RX12 (some .int) := B
    refine V_aload_n 0 B dX12_reserve_0 0 rfl ?_
    refine V_iconst 1 B (v := 0) dX12_reserve_1 (by decide +kernel) ?_
    refine V_put 2 B gp_RX12_38 0 rfl (Nat.le_of_ble_eq_true rfl) rfl rfl dX12_reserve_2 [(h0, oC 13 [.ref h1, .ref h2, .int 0, .ref h3, .ref h4, .int (nI k5), .int (nI k6), .int p7, .int p8, .int p9, .int (nI k10), .int p11, .long q12, .ref h5, .ref h6, .int (nI k15), .int (nI k16)]), (h1, aI Y 3640 f0), (h2, aZ Y 2 f1), (h3, aZ Y 80 f3), (h4, aB Y 1600 f4), (h5, aI Y 200 f13), (h6, aI Y 800 f14)] rfl ?_
    refine V_aload_n 5 B dX12_reserve_5 0 rfl ?_
    refine V_cvi 6 B (st := []) (As := []) (fun sz => rX12_hasNoDraft l D Y h0 h1 h2 h3 h4 h5 h6 0 k5 k6 p7 p8 p9 k10 p11 q12 k15 k16 f0 f1 f3 f4 f13 f14 ph HI (by omega) HP sz) glV_RX12_125 ⟨rfl, rfl⟩ ⟨(Nat.le_of_ble_eq_true rfl), (Nat.le_of_ble_eq_true rfl)⟩ ⟨(Nat.le_of_ble_eq_true rfl), (Nat.le_of_ble_eq_true rfl)⟩ [0, 0, 0, 0, 0, 0, 0] rfl 13 0 rfl rfl rfl rfl (Nat.le_of_ble_eq_true rfl) rfl (fun _ _ _ => rfl) dX12_reserve_6 (fun j0 u1 w2 => ?_)
    refine V_ws [(h0, oC 13 [.ref h1, .ref h2, .int 0, .ref h3, .ref h4, .int (nI k5), .int (nI k6), .int p7, .int p8, .int p9, .int (nI k10), .int p11, .long q12, .ref h5, .ref h6, .int (nI k15), .int (nI k16)]), (h1, aI Y 3640 f0), (h2, aZ Y 2 f1), (h3, aZ Y 80 f3), (h4, aB Y 1600 f4), (h5, aI Y 200 f13), (h6, aI Y 800 f14)] rfl ?_
    have x3 := w2
    clear w2
    rcases x3 with rfl | rfl
    ·
      refine V_if_eq_t 9 B 15 dX12_reserve_9 (by decide) (by decide +kernel) ?_
      refine V_aload_n 15 B dX12_reserve_15 0 rfl ?_
      refine V_iconst 16 B (v := (-1)) dX12_reserve_16 (by decide +kernel) ?_
      refine V_sipush 17 B (v := 3624) dX12_reserve_17 (by decide +kernel) ?_
      refine V_iconst 20 B (v := (-1)) dX12_reserve_20 (by decide +kernel) ?_
      refine V_cvi 21 B (st := []) (As := [.int (-1), .int 3624, .int (-1)]) (fun sz => rX12_clashIn l D Y h0 h1 h2 h3 h4 h5 h6 0 k5 k6 p7 p8 p9 k10 p11 q12 k15 k16 f0 f1 f3 f4 f13 f14 ph HI (by omega) HP (-1) 3624 (-1) (show SQ 3624 by unfold SQ; decide +kernel) sz) glV_RX12_121 ⟨rfl, rfl⟩ ⟨(Nat.le_of_ble_eq_true rfl), (Nat.le_of_ble_eq_true rfl)⟩ ⟨(Nat.le_of_ble_eq_true rfl), (Nat.le_of_ble_eq_true rfl)⟩ [0, 0, 0, 0, 0, 0, 0] rfl 13 0 rfl rfl rfl rfl (Nat.le_of_ble_eq_true rfl) rfl (fun _ _ _ => rfl) dX12_reserve_21 (fun j4 u5 w6 => ?_)
      refine V_ws [(h0, oC 13 [.ref h1, .ref h2, .int 0, .ref h3, .ref h4, .int (nI k5), .int (nI k6), .int p7, .int p8, .int p9, .int (nI k10), .int p11, .long q12, .ref h5, .ref h6, .int (nI k15), .int (nI k16)]), (h1, aI Y 3640 f0), (h2, aZ Y 2 f1), (h3, aZ Y 80 f3), (h4, aB Y 1600 f4), (h5, aI Y 200 f13), (h6, aI Y 800 f14)] rfl ?_
      have x7 := w6
      clear w6
      have x10 : (gN f0 3) ≤ 80 := gN_le HI (by omega) (show bd 3 = (0, ((80 : Nat) : Int)) by decide +kernel)
      rcases x7 with ⟨rfl, x9⟩ | ⟨n8, rfl, x9, x11⟩
      ·
        refine V_iconst 24 B (v := (-1)) dX12_reserve_24 (by decide +kernel) ?_
        refine V_icmp_eq_t 25 B 32 dX12_reserve_25 (by decide) (by decide +kernel) ?_
        refine V_aload_n 32 B dX12_reserve_32 0 rfl ?_
        refine V_get 33 B gf_RX12_9 0 rfl rfl dX12_reserve_33 ?_
        refine V_iconst 36 B (v := 2) dX12_reserve_36 (by decide +kernel) ?_
        have x12 : (gN f0 2) ≤ 6 := gN_le HI (by omega) (show bd 2 = (0, ((6 : Nat) : Int)) by decide +kernel)
        refine V_iald 37 B (v := (nI (gN f0 2))) 1 rfl (vpin _ _ (by decide +kernel)) dX12_reserve_37 (by show f0 2 = _; exact gN_eq HI (by omega) (show bd 2 = (0, ((6 : Nat) : Int)) by decide +kernel)) ?_
        refine V_bipush 38 B (v := 6) dX12_reserve_38 (by decide +kernel) ?_
        refine V_icmp_ne 40 B 46 dX12_reserve_40 (by decide) (fun kk13 => ?_) (fun kk13 => ?_)
        ·
          have x14 := n_ne (a := (gN f0 2)) (b := 6) kk13
          refine V_aload_n 46 B dX12_reserve_46 0 rfl ?_
          refine V_sipush 47 B (v := 3624) dX12_reserve_47 (by decide +kernel) ?_
          refine V_aload_n 50 B dX12_reserve_50 0 rfl ?_
          refine V_get 51 B gf_RX12_9 0 rfl rfl dX12_reserve_51 ?_
          refine V_iconst 54 B (v := 2) dX12_reserve_54 (by decide +kernel) ?_
          have x15 : (gN f0 2) ≤ 6 := gN_le HI (by omega) (show bd 2 = (0, ((6 : Nat) : Int)) by decide +kernel)
          refine V_iald 55 B (v := (nI (gN f0 2))) 1 rfl (vpin _ _ (by decide +kernel)) dX12_reserve_55 (by show f0 2 = _; exact gN_eq HI (by omega) (show bd 2 = (0, ((6 : Nat) : Int)) by decide +kernel)) ?_
          refine V_csi 56 B (st := [.int 3624, .ref h0]) (As := [.int (nI (gN f0 2))]) (fun sz => rX12_reservedAt l D Y (gN f0 2) (by omega) sz) glS_RX12_108 ⟨rfl, rfl⟩ ⟨(Nat.le_of_ble_eq_true rfl), (Nat.le_of_ble_eq_true rfl)⟩ ⟨(Nat.le_of_ble_eq_true rfl), (Nat.le_of_ble_eq_true rfl)⟩ [] rfl rfl (Nat.le_of_ble_eq_true rfl) rfl (fun _ _ _ => rfl) dX12_reserve_56 (fun j16 u17 w18 => ?_)
          refine V_ws [(h0, oC 13 [.ref h1, .ref h2, .int 0, .ref h3, .ref h4, .int (nI k5), .int (nI k6), .int p7, .int p8, .int p9, .int (nI k10), .int p11, .long q12, .ref h5, .ref h6, .int (nI k15), .int (nI k16)]), (h1, aI Y 3640 f0), (h2, aZ Y 2 f1), (h3, aZ Y 80 f3), (h4, aB Y 1600 f4), (h5, aI Y 200 f13), (h6, aI Y 800 f14)] rfl ?_
          have x19 := w18
          clear w18
          obtain rfl := x19
          refine V_cvv 59 B (st := []) (As := [.int 3624, .int (nI (154 + 5 * (gN f0 2)))]) (fun sz => rX12_copySequence l D Y h0 h1 h2 h3 h4 h5 h6 0 k5 k6 p7 p8 p9 k10 p11 q12 k15 k16 f0 f1 f3 f4 f13 f14 ph HI (by omega) HP 3624 (154 + 5 * (gN f0 2)) (show SQ 3624 by unfold SQ; decide +kernel) (rl10 (gN f0 2) (by omega)) sz) glV_RX12_88 ⟨rfl, rfl⟩ ⟨(Nat.le_of_ble_eq_true rfl), (Nat.le_of_ble_eq_true rfl)⟩ ⟨(Nat.le_of_ble_eq_true rfl), (Nat.le_of_ble_eq_true rfl)⟩ [0, 0, 0, 0, 0, 0, 0] rfl 13 0 rfl rfl rfl rfl (Nat.le_of_ble_eq_true rfl) rfl (fun _ _ => rfl) dX12_reserve_59 (fun u21 w22 => ?_)
          refine V_ws [(h0, oC 13 [.ref h1, .ref h2, .int 0, .ref h3, .ref h4, .int (nI k5), .int (nI k6), .int p7, .int p8, .int p9, .int (nI k10), .int p11, .long q12, .ref h5, .ref h6, .int (nI k15), .int (nI k16)]), (h1, aI Y 3640 (u21.2.2.2.1 0)), (h2, aZ Y 2 f1), (h3, aZ Y 80 f3), (h4, aB Y 1600 f4), (h5, aI Y 200 f13), (h6, aI Y 800 f14)] rfl ?_
          obtain ⟨x23, x24⟩ := w22
          refine V_aload_n 62 B dX12_reserve_62 0 rfl ?_
          refine V_get 63 B gf_RX12_9 0 rfl rfl dX12_reserve_63 ?_
          refine V_iconst 66 B (v := 2) dX12_reserve_66 (by decide +kernel) ?_
          refine V_dup2_11 67 B dX12_reserve_67 rfl rfl ?_
          have x25 : (gN f0 2) ≤ 6 := gN_le HI (by omega) (show bd 2 = (0, ((6 : Nat) : Int)) by decide +kernel)
          refine V_iald 68 B (v := (nI (gN f0 2))) 1 rfl (vpin _ _ (by decide +kernel)) dX12_reserve_68 (by show (u21.2.2.2.1 0) 2 = _; rw [x24 _ (by omega)]; exact gN_eq HI (by omega) (show bd 2 = (0, ((6 : Nat) : Int)) by decide +kernel)) ?_
          refine V_iconst 69 B (v := 1) dX12_reserve_69 (by decide +kernel) ?_
          refine V_iadd 70 B (v := (nI (1 + (gN f0 2)))) dX12_reserve_70 (nI_addE (a := (gN f0 2)) (b := 1) (by omega)) ?_
          have hv26 : INV ph (upd (u21.2.2.2.1 0) 2 (nI (1 + (gN f0 2)))) := INV_nat (v := 1 + (gN f0 2)) x23 (show bd 2 = (0, ((6 : Nat) : Int)) by decide +kernel) (by omega) (by decide)
          refine V_iast 71 B 1 rfl (vpin _ _ (by decide +kernel)) dX12_reserve_71 [(h0, oC 13 [.ref h1, .ref h2, .int 0, .ref h3, .ref h4, .int (nI k5), .int (nI k6), .int p7, .int p8, .int p9, .int (nI k10), .int p11, .long q12, .ref h5, .ref h6, .int (nI k15), .int (nI k16)]), (h1, aI Y 3640 (upd (u21.2.2.2.1 0) 2 (nI (1 + (gN f0 2))))), (h2, aZ Y 2 f1), (h3, aZ Y 80 f3), (h4, aB Y 1600 f4), (h5, aI Y 200 f13), (h6, aI Y 800 f14)] rfl ?_
          refine V_aload_n 72 B dX12_reserve_72 0 rfl ?_
          refine V_get 73 B gf_RX12_9 0 rfl rfl dX12_reserve_73 ?_
          refine V_iconst 76 B (v := 2) dX12_reserve_76 (by decide +kernel) ?_
          refine V_iald 77 B (v := (nI (1 + (gN f0 2)))) 1 rfl (vpin _ _ (by decide +kernel)) dX12_reserve_77 (by show (upd (u21.2.2.2.1 0) 2 (nI (1 + (gN f0 2)))) 2 = _; exact upd_at) ?_
          refine V_iconst 78 B (v := 1) dX12_reserve_78 (by decide +kernel) ?_
          refine V_isub 79 B (v := (nI (gN f0 2))) dX12_reserve_79 (nI_subE (a := 1 + (gN f0 2)) (b := 1) (by omega)) ?_
          exact V_iret 80 B dX12_reserve_80 (mkW [] [0] [] [(upd (u21.2.2.2.1 0) 2 (nI (1 + (gN f0 2))))] [] []) hv26 rfl
        ·
          have x27 := n_eq (a := (gN f0 2)) (b := 6) kk13 (by omega) (by omega)
          refine V_bipush 43 B (v := (-2)) dX12_reserve_43 (by decide +kernel) ?_
          exact V_iret 45 B dX12_reserve_45 (mkW [] [0] [] [f0] [] []) HI rfl
      ·
        refine V_iconst 24 B (v := (-1)) dX12_reserve_24 (by decide +kernel) ?_
        refine V_icmp_eq_f 25 B 32 dX12_reserve_25 (by decide) (fun z => by have z2 := x_eq z; rw [nI_toInt (show n8 < 2 ^ 31 by omega), show ((-1) : Int32).toInt = (-1) by decide +kernel] at z2; omega) ?_
        refine V_sipush 28 B (v := (-1000)) dX12_reserve_28 (by decide +kernel) ?_
        exact V_iret 31 B dX12_reserve_31 (mkW [] [0] [] [f0] [] []) HI rfl
    ·
      refine V_if_eq_f 9 B 15 dX12_reserve_9 (by decide) (by decide +kernel) ?_
      refine V_bipush 12 B (v := (-4)) dX12_reserve_12 (by decide +kernel) ?_
      exact V_iret 14 B dX12_reserve_14 (mkW [] [0] [] [f0] [] []) HI rfl)
theorem dX12_reservedStroke_0 : decode cX12_reservedStroke 0 = .ok (.aload_n 0, 1) := by decide +kernel
theorem dX12_reservedStroke_1 : decode cX12_reservedStroke 1 = .ok (.iconst 0, 1) := by decide +kernel
theorem dX12_reservedStroke_2 : decode cX12_reservedStroke 2 = .ok (.putfield 38, 3) := by decide +kernel
theorem dX12_reservedStroke_5 : decode cX12_reservedStroke 5 = .ok (.aload_n 0, 1) := by decide +kernel
theorem dX12_reservedStroke_6 : decode cX12_reservedStroke 6 = .ok (.iload_n 1, 1) := by decide +kernel
theorem dX12_reservedStroke_7 : decode cX12_reservedStroke 7 = .ok (.i2l, 1) := by decide +kernel
theorem dX12_reservedStroke_8 : decode cX12_reservedStroke 8 = .ok (.lconst 0, 1) := by decide +kernel
theorem dX12_reservedStroke_9 : decode cX12_reservedStroke 9 = .ok (.aload_n 0, 1) := by decide +kernel
theorem dX12_reservedStroke_10 : decode cX12_reservedStroke 10 = .ok (.getfield 9, 3) := by decide +kernel
theorem dX12_reservedStroke_13 : decode cX12_reservedStroke 13 = .ok (.iconst 2, 1) := by decide +kernel
theorem dX12_reservedStroke_14 : decode cX12_reservedStroke 14 = .ok (.iaload, 1) := by decide +kernel
theorem dX12_reservedStroke_15 : decode cX12_reservedStroke 15 = .ok (.iconst 1, 1) := by decide +kernel
theorem dX12_reservedStroke_16 : decode cX12_reservedStroke 16 = .ok (.isub, 1) := by decide +kernel
theorem dX12_reservedStroke_17 : decode cX12_reservedStroke 17 = .ok (.i2l, 1) := by decide +kernel
theorem dX12_reservedStroke_18 : decode cX12_reservedStroke 18 = .ok (.invokestatic 41, 3) := by decide +kernel
theorem dX12_reservedStroke_21 : decode cX12_reservedStroke 21 = .ok (.ifCond .ne 7, 3) := by decide +kernel
theorem dX12_reservedStroke_24 : decode cX12_reservedStroke 24 = .ok (.iconst 1, 1) := by decide +kernel
theorem dX12_reservedStroke_25 : decode cX12_reservedStroke 25 = .ok (.goto 4, 3) := by decide +kernel
theorem dX12_reservedStroke_29 : decode cX12_reservedStroke 29 = .ok (.iconst 1, 1) := by decide +kernel
theorem dX12_reservedStroke_30 : decode cX12_reservedStroke 30 = .ok (.invokevirtual 69, 3) := by decide +kernel
theorem dX12_reservedStroke_33 : decode cX12_reservedStroke 33 = .ok (.ifCond .eq 7, 3) := by decide +kernel
theorem dX12_reservedStroke_36 : decode cX12_reservedStroke 36 = .ok (.iconst 0, 1) := by decide +kernel
theorem dX12_reservedStroke_37 : decode cX12_reservedStroke 37 = .ok (.goto 12, 3) := by decide +kernel
theorem dX12_reservedStroke_49 : decode cX12_reservedStroke 49 = .ok (.ireturn, 1) := by decide +kernel
theorem dX12_reservedStroke_28 : decode cX12_reservedStroke 28 = .ok (.iconst 0, 1) := by decide +kernel
theorem dX12_reservedStroke_40 : decode cX12_reservedStroke 40 = .ok (.aload_n 0, 1) := by decide +kernel
theorem dX12_reservedStroke_41 : decode cX12_reservedStroke 41 = .ok (.iload_n 1, 1) := by decide +kernel
theorem dX12_reservedStroke_42 : decode cX12_reservedStroke 42 = .ok (.invokestatic 108, 3) := by decide +kernel
theorem dX12_reservedStroke_45 : decode cX12_reservedStroke 45 = .ok (.iload_n 2, 1) := by decide +kernel
theorem dX12_reservedStroke_46 : decode cX12_reservedStroke 46 = .ok (.invokevirtual 73, 3) := by decide +kernel
set_option maxRecDepth 100000 in
set_option maxHeartbeats 4000000 in
theorem rX12_reservedStroke (l : Launch) (D : va_G) (Y : Nat → ClassId) (h0 : Nat) (h1 : Nat) (h2 : Nat) (h3 : Nat) (h4 : Nat) (h5 : Nat) (h6 : Nat) (p2 : Int32) (k5 : Nat) (k6 : Nat) (p7 : Int32) (p8 : Int32) (p9 : Int32) (k10 : Nat) (p11 : Int32) (q12 : Int64) (k15 : Nat) (k16 : Nat) (f0 : Nat → Int32) (f1 : Nat → Int32) (f3 : Nat → Int32) (f4 : Nat → Int32) (f13 : Nat → Int32) (f14 : Nat → Int32) (ph : Nat → Int32) (HI : INV ph f0) (HL : k5 ≤ 1600) (HP : PLV f13) (s0 : Int32) (s1 : Int32)  (sz : Nat) : Met l yX12_reservedStroke (WSm yX12_reservedStroke cX12_reservedStroke 3 (some .int)) (mkR 2 0 0 47) (PreC D Y [.ref h0, .int s0, .int s1] [(h0, oC 13 [.ref h1, .ref h2, .int p2, .ref h3, .ref h4, .int (nI k5), .int (nI k6), .int p7, .int p8, .int p9, .int (nI k10), .int p11, .long q12, .ref h5, .ref h6, .int (nI k15), .int (nI k16)]), (h1, aI Y 3640 f0), (h2, aZ Y 2 f1), (h3, aZ Y 80 f3), (h4, aB Y 1600 f4), (h5, aI Y 200 f13), (h6, aI Y 800 f14)] sz) (QI D (fun (r : Int32) (u : WU) => True) (fun (u : WU) => [(h0, oC 13 [.ref h1, .ref h2, .int (u.2.1 0), .ref h3, .ref h4, .int (nI k5), .int (nI k6), .int p7, .int p8, .int p9, .int (nI k10), .int p11, .long q12, .ref h5, .ref h6, .int (nI k15), .int (nI k16)]), (h1, aI Y 3640 f0), (h2, aZ Y 2 f1), (h3, aZ Y 80 f3), (h4, aB Y 1600 f4), (h5, aI Y 200 f13), (h6, aI Y 800 f14)]) (va_A [(h0, oC 13 [.ref h1, .ref h2, .int p2, .ref h3, .ref h4, .int (nI k5), .int (nI k6), .int p7, .int p8, .int p9, .int (nI k10), .int p11, .long q12, .ref h5, .ref h6, .int (nI k15), .int (nI k16)]), (h1, aI Y 3640 f0), (h2, aZ Y 2 f1), (h3, aZ Y 80 f3), (h4, aB Y 1600 f4), (h5, aI Y 200 f13), (h6, aI Y 800 f14)] sz)) 0 0 (va_A [(h0, oC 13 [.ref h1, .ref h2, .int p2, .ref h3, .ref h4, .int (nI k5), .int (nI k6), .int p7, .int p8, .int p9, .int (nI k10), .int p11, .long q12, .ref h5, .ref h6, .int (nI k15), .int (nI k16)]), (h1, aI Y 3640 f0), (h2, aZ Y 2 f1), (h3, aZ Y 80 f3), (h4, aB Y 1600 f4), (h5, aI Y 200 f13), (h6, aI Y 800 f14)] sz) :=
  met_of  (by decide +kernel) (Nat.le_of_ble_eq_true rfl) (fun p e s m args below meth c B hin hsz => by
    have B : VB p s m args meth c D Y (va_A [(h0, oC 13 [.ref h1, .ref h2, .int p2, .ref h3, .ref h4, .int (nI k5), .int (nI k6), .int p7, .int p8, .int p9, .int (nI k10), .int p11, .long q12, .ref h5, .ref h6, .int (nI k15), .int (nI k16)]), (h1, aI Y 3640 f0), (h2, aZ Y 2 f1), (h3, aZ Y 80 f3), (h4, aB Y 1600 f4), (h5, aI Y 200 f13), (h6, aI Y 800 f14)] sz) cX12_reservedStroke 3 RX12 (some .int) := B
    refine V_aload_n 0 B dX12_reservedStroke_0 0 rfl ?_
    refine V_iconst 1 B (v := 0) dX12_reservedStroke_1 (by decide +kernel) ?_
    refine V_put 2 B gp_RX12_38 0 rfl (Nat.le_of_ble_eq_true rfl) rfl rfl dX12_reservedStroke_2 [(h0, oC 13 [.ref h1, .ref h2, .int 0, .ref h3, .ref h4, .int (nI k5), .int (nI k6), .int p7, .int p8, .int p9, .int (nI k10), .int p11, .long q12, .ref h5, .ref h6, .int (nI k15), .int (nI k16)]), (h1, aI Y 3640 f0), (h2, aZ Y 2 f1), (h3, aZ Y 80 f3), (h4, aB Y 1600 f4), (h5, aI Y 200 f13), (h6, aI Y 800 f14)] rfl ?_
    refine V_aload_n 5 B dX12_reservedStroke_5 0 rfl ?_
    refine V_iload_n 6 B dX12_reservedStroke_6 1 rfl ?_
    refine V_i2l 7 B dX12_reservedStroke_7 rfl ?_
    refine V_nml (fun o0 e1 => ?_)
    have x2 : o0.toInt = s0.toInt := by rw [e1, Int32.toInt_toInt64]
    refine V_lconst 8 B (v := 0) dX12_reservedStroke_8 (by decide +kernel) ?_
    refine V_aload_n 9 B dX12_reservedStroke_9 0 rfl ?_
    refine V_get 10 B gf_RX12_9 0 rfl rfl dX12_reservedStroke_10 ?_
    refine V_iconst 13 B (v := 2) dX12_reservedStroke_13 (by decide +kernel) ?_
    have x3 : (gN f0 2) ≤ 6 := gN_le HI (by omega) (show bd 2 = (0, ((6 : Nat) : Int)) by decide +kernel)
    refine V_iald 14 B (v := (nI (gN f0 2))) 1 rfl (vpin _ _ (by decide +kernel)) dX12_reservedStroke_14 (by show f0 2 = _; exact gN_eq HI (by omega) (show bd 2 = (0, ((6 : Nat) : Int)) by decide +kernel)) ?_
    refine V_iconst 15 B (v := 1) dX12_reservedStroke_15 (by decide +kernel) ?_
    refine V_isub 16 B dX12_reservedStroke_16 rfl ?_
    refine V_nmi (fun j4 e5 => ?_)
    have x6 : j4.toInt = (((gN f0 2) : Nat) : Int) - ((1 : Nat) : Int) := by rw [e5]; exact nI_subT (a := (gN f0 2)) (b := 1) (by omega) (by omega)
    refine V_i2l 17 B dX12_reservedStroke_17 rfl ?_
    refine V_nml (fun o7 e8 => ?_)
    have x9 : o7.toInt = j4.toInt := by rw [e8, Int32.toInt_toInt64]
    refine V_csi 18 B (st := [.ref h0]) (As := [.long o0, .long 0, .long o7]) (fun sz => rX12_inRange l D Y o0 0 o7 sz) glS_RX12_41 ⟨rfl, rfl⟩ ⟨(Nat.le_of_ble_eq_true rfl), (Nat.le_of_ble_eq_true rfl)⟩ ⟨(Nat.le_of_ble_eq_true rfl), (Nat.le_of_ble_eq_true rfl)⟩ [] rfl rfl (Nat.le_of_ble_eq_true rfl) rfl (fun _ _ _ => rfl) dX12_reservedStroke_18 (fun j10 u11 w12 => ?_)
    refine V_ws [(h0, oC 13 [.ref h1, .ref h2, .int 0, .ref h3, .ref h4, .int (nI k5), .int (nI k6), .int p7, .int p8, .int p9, .int (nI k10), .int p11, .long q12, .ref h5, .ref h6, .int (nI k15), .int (nI k16)]), (h1, aI Y 3640 f0), (h2, aZ Y 2 f1), (h3, aZ Y 80 f3), (h4, aB Y 1600 f4), (h5, aI Y 200 f13), (h6, aI Y 800 f14)] rfl ?_
    rcases w12 with ⟨rfl, x15⟩ | ⟨rfl, x13, x14⟩
    ·
      rw [show (0 : Int64).toInt = 0 by decide +kernel] at x15
      refine V_if_ne_f 21 B 28 dX12_reservedStroke_21 (by decide) (by decide +kernel) ?_
      refine V_iconst 24 B (v := 1) dX12_reservedStroke_24 (by decide +kernel) ?_
      refine V_goto 25 B 29 dX12_reservedStroke_25 (by decide) ?_
      refine V_iconst 29 B (v := 1) dX12_reservedStroke_29 (by decide +kernel) ?_
      refine V_cvi 30 B (st := []) (As := [.int 1, .int 1]) (fun sz => rX12_throwsIf_1 l D Y h0 h1 h2 h3 h4 h5 h6 0 k5 k6 p7 p8 p9 k10 p11 q12 k15 k16 f0 f1 f3 f4 f13 f14 ph HI (by omega) HP 1 sz) glV_RX12_69 ⟨rfl, rfl⟩ ⟨(Nat.le_of_ble_eq_true rfl), (Nat.le_of_ble_eq_true rfl)⟩ ⟨(Nat.le_of_ble_eq_true rfl), (Nat.le_of_ble_eq_true rfl)⟩ [0, 0, 0, 0, 0, 0, 0] rfl 13 0 rfl rfl rfl rfl (Nat.le_of_ble_eq_true rfl) rfl (fun _ _ _ => rfl) dX12_reservedStroke_30 (fun j16 u17 w18 => ?_)
      refine V_ws [(h0, oC 13 [.ref h1, .ref h2, .int (u17.2.1 0), .ref h3, .ref h4, .int (nI k5), .int (nI k6), .int p7, .int p8, .int p9, .int (nI k10), .int p11, .long q12, .ref h5, .ref h6, .int (nI k15), .int (nI k16)]), (h1, aI Y 3640 f0), (h2, aZ Y 2 f1), (h3, aZ Y 80 f3), (h4, aB Y 1600 f4), (h5, aI Y 200 f13), (h6, aI Y 800 f14)] rfl ?_
      have x19 := w18
      clear w18
      obtain rfl := x19
      refine V_if_eq_f 33 B 40 dX12_reservedStroke_33 (by decide) (by decide +kernel) ?_
      refine V_iconst 36 B (v := 0) dX12_reservedStroke_36 (by decide +kernel) ?_
      refine V_goto 37 B 49 dX12_reservedStroke_37 (by decide) ?_
      exact V_iret 49 B dX12_reservedStroke_49 (mkW [] [(u17.2.1 0)] [] [] [] []) trivial rfl
    ·
      rw [show (0 : Int64).toInt = 0 by decide +kernel] at x13
      refine V_if_ne_t 21 B 28 dX12_reservedStroke_21 (by decide) (by decide +kernel) ?_
      refine V_iconst 28 B (v := 0) dX12_reservedStroke_28 (by decide +kernel) ?_
      refine V_iconst 29 B (v := 1) dX12_reservedStroke_29 (by decide +kernel) ?_
      refine V_cvi 30 B (st := []) (As := [.int 0, .int 1]) (fun sz => rX12_throwsIf_0 l D Y h0 h1 h2 h3 h4 h5 h6 0 k5 k6 p7 p8 p9 k10 p11 q12 k15 k16 f0 f1 f3 f4 f13 f14 ph HI (by omega) HP 1 sz) glV_RX12_69 ⟨rfl, rfl⟩ ⟨(Nat.le_of_ble_eq_true rfl), (Nat.le_of_ble_eq_true rfl)⟩ ⟨(Nat.le_of_ble_eq_true rfl), (Nat.le_of_ble_eq_true rfl)⟩ [0, 0, 0, 0, 0, 0, 0] rfl 13 0 rfl rfl rfl rfl (Nat.le_of_ble_eq_true rfl) rfl (fun _ _ _ => rfl) dX12_reservedStroke_30 (fun j20 u21 w22 => ?_)
      refine V_ws [(h0, oC 13 [.ref h1, .ref h2, .int (u21.2.1 0), .ref h3, .ref h4, .int (nI k5), .int (nI k6), .int p7, .int p8, .int p9, .int (nI k10), .int p11, .long q12, .ref h5, .ref h6, .int (nI k15), .int (nI k16)]), (h1, aI Y 3640 f0), (h2, aZ Y 2 f1), (h3, aZ Y 80 f3), (h4, aB Y 1600 f4), (h5, aI Y 200 f13), (h6, aI Y 800 f14)] rfl ?_
      have x23 := w22
      clear w22
      obtain rfl := x23
      refine V_if_eq_t 33 B 40 dX12_reservedStroke_33 (by decide) (by decide +kernel) ?_
      refine V_aload_n 40 B dX12_reservedStroke_40 0 rfl ?_
      refine V_iload_n 41 B dX12_reservedStroke_41 1 rfl ?_
      obtain ⟨n24, x25, rfl⟩ := nat_of (x := s0) (n := 5) (by omega) (by omega)
      have e26 := nI_toInt (show n24 < 2 ^ 31 by omega)
      refine V_csi 42 B (st := [.ref h0]) (As := [.int (nI n24)]) (fun sz => rX12_reservedAt l D Y n24 (by omega) sz) glS_RX12_108 ⟨rfl, rfl⟩ ⟨(Nat.le_of_ble_eq_true rfl), (Nat.le_of_ble_eq_true rfl)⟩ ⟨(Nat.le_of_ble_eq_true rfl), (Nat.le_of_ble_eq_true rfl)⟩ [] rfl rfl (Nat.le_of_ble_eq_true rfl) rfl (fun _ _ _ => rfl) dX12_reservedStroke_42 (fun j27 u28 w29 => ?_)
      refine V_ws [(h0, oC 13 [.ref h1, .ref h2, .int (u21.2.1 0), .ref h3, .ref h4, .int (nI k5), .int (nI k6), .int p7, .int p8, .int p9, .int (nI k10), .int p11, .long q12, .ref h5, .ref h6, .int (nI k15), .int (nI k16)]), (h1, aI Y 3640 f0), (h2, aZ Y 2 f1), (h3, aZ Y 80 f3), (h4, aB Y 1600 f4), (h5, aI Y 200 f13), (h6, aI Y 800 f14)] rfl ?_
      have x30 := w29
      clear w29
      obtain rfl := x30
      refine V_iload_n 45 B dX12_reservedStroke_45 2 rfl ?_
      refine V_cvi 46 B (st := []) (As := [.int (nI (154 + 5 * n24)), .int s1]) (fun sz => rX12_strokeAt l D Y h0 h1 h2 h3 h4 h5 h6 (u21.2.1 0) k5 k6 p7 p8 p9 k10 p11 q12 k15 k16 f0 f1 f3 f4 f13 f14 ph HI (by omega) HP (154 + 5 * n24) s1 (rl10 n24 (by omega)) sz) glV_RX12_73 ⟨rfl, rfl⟩ ⟨(Nat.le_of_ble_eq_true rfl), (Nat.le_of_ble_eq_true rfl)⟩ ⟨(Nat.le_of_ble_eq_true rfl), (Nat.le_of_ble_eq_true rfl)⟩ [0, 0, 0, 0, 0, 0, 0] rfl 13 0 rfl rfl rfl rfl (Nat.le_of_ble_eq_true rfl) rfl (fun _ _ _ => rfl) dX12_reservedStroke_46 (fun j31 u32 w33 => ?_)
      refine V_ws [(h0, oC 13 [.ref h1, .ref h2, .int (u21.2.1 0), .ref h3, .ref h4, .int (nI k5), .int (nI k6), .int p7, .int p8, .int p9, .int (nI k10), .int p11, .long q12, .ref h5, .ref h6, .int (nI k15), .int (nI k16)]), (h1, aI Y 3640 f0), (h2, aZ Y 2 f1), (h3, aZ Y 80 f3), (h4, aB Y 1600 f4), (h5, aI Y 200 f13), (h6, aI Y 800 f14)] rfl ?_
      exact V_iret 49 B dX12_reservedStroke_49 (mkW [] [(u21.2.1 0)] [] [] [] []) trivial rfl)
theorem dX12_add_0 : decode cX12_add 0 = .ok (.aload_n 0, 1) := by decide +kernel
theorem dX12_add_1 : decode cX12_add 1 = .ok (.getfield 9, 3) := by decide +kernel
theorem dX12_add_4 : decode cX12_add 4 = .ok (.iconst 3, 1) := by decide +kernel
theorem dX12_add_5 : decode cX12_add 5 = .ok (.iaload, 1) := by decide +kernel
theorem dX12_add_6 : decode cX12_add 6 = .ok (.invokestatic 79, 3) := by decide +kernel
theorem dX12_add_9 : decode cX12_add 9 = .ok (.istore 4, 2) := by decide +kernel
theorem dX12_add_11 : decode cX12_add 11 = .ok (.aload_n 0, 1) := by decide +kernel
theorem dX12_add_12 : decode cX12_add 12 = .ok (.getfield 9, 3) := by decide +kernel
theorem dX12_add_15 : decode cX12_add 15 = .ok (.iload 4, 2) := by decide +kernel
theorem dX12_add_17 : decode cX12_add 17 = .ok (.iconst 0, 1) := by decide +kernel
theorem dX12_add_18 : decode cX12_add 18 = .ok (.iadd, 1) := by decide +kernel
theorem dX12_add_19 : decode cX12_add 19 = .ok (.iload_n 1, 1) := by decide +kernel
theorem dX12_add_20 : decode cX12_add 20 = .ok (.iastore, 1) := by decide +kernel
theorem dX12_add_21 : decode cX12_add 21 = .ok (.aload_n 0, 1) := by decide +kernel
theorem dX12_add_22 : decode cX12_add 22 = .ok (.getfield 9, 3) := by decide +kernel
theorem dX12_add_25 : decode cX12_add 25 = .ok (.iload 4, 2) := by decide +kernel
theorem dX12_add_27 : decode cX12_add 27 = .ok (.iconst 1, 1) := by decide +kernel
theorem dX12_add_28 : decode cX12_add 28 = .ok (.iadd, 1) := by decide +kernel
theorem dX12_add_29 : decode cX12_add 29 = .ok (.iload_n 2, 1) := by decide +kernel
theorem dX12_add_30 : decode cX12_add 30 = .ok (.iastore, 1) := by decide +kernel
theorem dX12_add_31 : decode cX12_add 31 = .ok (.aload_n 0, 1) := by decide +kernel
theorem dX12_add_32 : decode cX12_add 32 = .ok (.iload_n 3, 1) := by decide +kernel
theorem dX12_add_33 : decode cX12_add 33 = .ok (.iload 4, 2) := by decide +kernel
theorem dX12_add_35 : decode cX12_add 35 = .ok (.iconst 2, 1) := by decide +kernel
theorem dX12_add_36 : decode cX12_add 36 = .ok (.iadd, 1) := by decide +kernel
theorem dX12_add_37 : decode cX12_add 37 = .ok (.invokevirtual 88, 3) := by decide +kernel
theorem dX12_add_40 : decode cX12_add 40 = .ok (.aload_n 0, 1) := by decide +kernel
theorem dX12_add_41 : decode cX12_add 41 = .ok (.getfield 9, 3) := by decide +kernel
theorem dX12_add_44 : decode cX12_add 44 = .ok (.iconst 3, 1) := by decide +kernel
theorem dX12_add_45 : decode cX12_add 45 = .ok (.dup2, 1) := by decide +kernel
theorem dX12_add_46 : decode cX12_add 46 = .ok (.iaload, 1) := by decide +kernel
theorem dX12_add_47 : decode cX12_add 47 = .ok (.iconst 1, 1) := by decide +kernel
theorem dX12_add_48 : decode cX12_add 48 = .ok (.iadd, 1) := by decide +kernel
theorem dX12_add_49 : decode cX12_add 49 = .ok (.iastore, 1) := by decide +kernel
theorem dX12_add_50 : decode cX12_add 50 = .ok (.return_, 1) := by decide +kernel
set_option maxRecDepth 100000 in
set_option maxHeartbeats 4000000 in
theorem rX12_add (l : Launch) (D : va_G) (Y : Nat → ClassId) (h0 : Nat) (h1 : Nat) (h2 : Nat) (h3 : Nat) (h4 : Nat) (h5 : Nat) (h6 : Nat) (p2 : Int32) (k5 : Nat) (k6 : Nat) (p7 : Int32) (p8 : Int32) (p9 : Int32) (k10 : Nat) (p11 : Int32) (q12 : Int64) (k15 : Nat) (k16 : Nat) (f0 : Nat → Int32) (f1 : Nat → Int32) (f3 : Nat → Int32) (f4 : Nat → Int32) (f13 : Nat → Int32) (f14 : Nat → Int32) (ph : Nat → Int32) (HI : INV ph f0) (HL : k5 ≤ 1600) (HP : PLV f13) (s0 : Int32) (s1 : Nat) (s2 : Nat) (hn1 : s1 < 40) (hs2 : SQ s2) (hx0 : gN f0 3 < 80) (sz : Nat) : Met l yX12_add (WSm yX12_add cX12_add 5 none) (mkR 1 0 0 23) (PreC D Y [.ref h0, .int s0, .int (nI s1), .int (nI s2)] [(h0, oC 13 [.ref h1, .ref h2, .int p2, .ref h3, .ref h4, .int (nI k5), .int (nI k6), .int p7, .int p8, .int p9, .int (nI k10), .int p11, .long q12, .ref h5, .ref h6, .int (nI k15), .int (nI k16)]), (h1, aI Y 3640 f0), (h2, aZ Y 2 f1), (h3, aZ Y 80 f3), (h4, aB Y 1600 f4), (h5, aI Y 200 f13), (h6, aI Y 800 f14)] sz) (QV D (fun (u : WU) => INV ph (u.2.2.2.1 0)) (fun (u : WU) => [(h0, oC 13 [.ref h1, .ref h2, .int p2, .ref h3, .ref h4, .int (nI k5), .int (nI k6), .int p7, .int p8, .int p9, .int (nI k10), .int p11, .long q12, .ref h5, .ref h6, .int (nI k15), .int (nI k16)]), (h1, aI Y 3640 (u.2.2.2.1 0)), (h2, aZ Y 2 f1), (h3, aZ Y 80 f3), (h4, aB Y 1600 f4), (h5, aI Y 200 f13), (h6, aI Y 800 f14)]) (va_A [(h0, oC 13 [.ref h1, .ref h2, .int p2, .ref h3, .ref h4, .int (nI k5), .int (nI k6), .int p7, .int p8, .int p9, .int (nI k10), .int p11, .long q12, .ref h5, .ref h6, .int (nI k15), .int (nI k16)]), (h1, aI Y 3640 f0), (h2, aZ Y 2 f1), (h3, aZ Y 80 f3), (h4, aB Y 1600 f4), (h5, aI Y 200 f13), (h6, aI Y 800 f14)] sz)) 0 0 (va_A [(h0, oC 13 [.ref h1, .ref h2, .int p2, .ref h3, .ref h4, .int (nI k5), .int (nI k6), .int p7, .int p8, .int p9, .int (nI k10), .int p11, .long q12, .ref h5, .ref h6, .int (nI k15), .int (nI k16)]), (h1, aI Y 3640 f0), (h2, aZ Y 2 f1), (h3, aZ Y 80 f3), (h4, aB Y 1600 f4), (h5, aI Y 200 f13), (h6, aI Y 800 f14)] sz) :=
  met_of  (by decide +kernel) (Nat.le_of_ble_eq_true rfl) (fun p e s m args below meth c B hin hsz => by
    have B : VB p s m args meth c D Y (va_A [(h0, oC 13 [.ref h1, .ref h2, .int p2, .ref h3, .ref h4, .int (nI k5), .int (nI k6), .int p7, .int p8, .int p9, .int (nI k10), .int p11, .long q12, .ref h5, .ref h6, .int (nI k15), .int (nI k16)]), (h1, aI Y 3640 f0), (h2, aZ Y 2 f1), (h3, aZ Y 80 f3), (h4, aB Y 1600 f4), (h5, aI Y 200 f13), (h6, aI Y 800 f14)] sz) cX12_add 5 RX12 none := B
    have hq_s2 := hs2.1
    refine V_aload_n 0 B dX12_add_0 0 rfl ?_
    refine V_get 1 B gf_RX12_9 0 rfl rfl dX12_add_1 ?_
    refine V_iconst 4 B (v := 3) dX12_add_4 (by decide +kernel) ?_
    have x0 : (gN f0 3) ≤ 80 := gN_le HI (by omega) (show bd 3 = (0, ((80 : Nat) : Int)) by decide +kernel)
    refine V_iald 5 B (v := (nI (gN f0 3))) 1 rfl (vpin _ _ (by decide +kernel)) dX12_add_5 (by show f0 3 = _; exact gN_eq HI (by omega) (show bd 3 = (0, ((80 : Nat) : Int)) by decide +kernel)) ?_
    refine V_csi 6 B (st := []) (As := [.int (nI (gN f0 3))]) (fun sz => rX12_bindingAt l D Y (gN f0 3) (by omega) sz) glS_RX12_79 ⟨rfl, rfl⟩ ⟨(Nat.le_of_ble_eq_true rfl), (Nat.le_of_ble_eq_true rfl)⟩ ⟨(Nat.le_of_ble_eq_true rfl), (Nat.le_of_ble_eq_true rfl)⟩ [] rfl rfl (Nat.le_of_ble_eq_true rfl) rfl (fun _ _ _ => rfl) dX12_add_6 (fun j1 u2 w3 => ?_)
    refine V_ws [(h0, oC 13 [.ref h1, .ref h2, .int p2, .ref h3, .ref h4, .int (nI k5), .int (nI k6), .int p7, .int p8, .int p9, .int (nI k10), .int p11, .long q12, .ref h5, .ref h6, .int (nI k15), .int (nI k16)]), (h1, aI Y 3640 f0), (h2, aZ Y 2 f1), (h3, aZ Y 80 f3), (h4, aB Y 1600 f4), (h5, aI Y 200 f13), (h6, aI Y 800 f14)] rfl ?_
    have x4 := w3
    clear w3
    obtain rfl := x4
    refine V_istore 9 B (lv2 := [(4, .int (nI (184 + 7 * (gN f0 3)))), (0, .ref h0), (1, .int s0), (2, .int (nI s1)), (3, .int (nI s2))]) dX12_add_9 (by decide) rfl ?_
    refine V_aload_n 11 B dX12_add_11 1 rfl ?_
    refine V_get 12 B gf_RX12_9 0 rfl rfl dX12_add_12 ?_
    refine V_iload 15 B dX12_add_15 0 rfl ?_
    refine V_iconst 17 B (v := 0) dX12_add_17 (by decide +kernel) ?_
    refine V_iadd 18 B (v := (nI (184 + 7 * (gN f0 3)))) dX12_add_18 (nI_addE (a := 184 + 7 * (gN f0 3)) (b := 0) (by omega)) ?_
    refine V_iload_n 19 B dX12_add_19 2 rfl ?_
    have hv5 : INV ph (upd f0 (184 + 7 * (gN f0 3)) s0) := INV_free HI (rl1 (gN f0 3) (by omega))
    refine V_iast 20 B 1 rfl (vp_in_nI (n := 184 + 7 * (gN f0 3)) (by omega) (by decide)) dX12_add_20 [(h0, oC 13 [.ref h1, .ref h2, .int p2, .ref h3, .ref h4, .int (nI k5), .int (nI k6), .int p7, .int p8, .int p9, .int (nI k10), .int p11, .long q12, .ref h5, .ref h6, .int (nI k15), .int (nI k16)]), (h1, aI Y 3640 (upd f0 (184 + 7 * (gN f0 3)) s0)), (h2, aZ Y 2 f1), (h3, aZ Y 80 f3), (h4, aB Y 1600 f4), (h5, aI Y 200 f13), (h6, aI Y 800 f14)] (by rw [nI_clamp (show 184 + 7 * (gN f0 3) < 2 ^ 31 by omega)]; rfl) ?_
    refine V_aload_n 21 B dX12_add_21 1 rfl ?_
    refine V_get 22 B gf_RX12_9 0 rfl rfl dX12_add_22 ?_
    refine V_iload 25 B dX12_add_25 0 rfl ?_
    refine V_iconst 27 B (v := 1) dX12_add_27 (by decide +kernel) ?_
    refine V_iadd 28 B (v := (nI (185 + 7 * (gN f0 3)))) dX12_add_28 (nI_addE (a := 184 + 7 * (gN f0 3)) (b := 1) (by omega)) ?_
    refine V_iload_n 29 B dX12_add_29 3 rfl ?_
    have hv6 : INV ph (upd (upd f0 (184 + 7 * (gN f0 3)) s0) (185 + 7 * (gN f0 3)) (nI s1)) := INV_nat (v := s1) hv5 (rl2 (gN f0 3) (by omega)) (by omega) (by decide)
    refine V_iast 30 B 1 rfl (vp_in_nI (n := 185 + 7 * (gN f0 3)) (by omega) (by decide)) dX12_add_30 [(h0, oC 13 [.ref h1, .ref h2, .int p2, .ref h3, .ref h4, .int (nI k5), .int (nI k6), .int p7, .int p8, .int p9, .int (nI k10), .int p11, .long q12, .ref h5, .ref h6, .int (nI k15), .int (nI k16)]), (h1, aI Y 3640 (upd (upd f0 (184 + 7 * (gN f0 3)) s0) (185 + 7 * (gN f0 3)) (nI s1))), (h2, aZ Y 2 f1), (h3, aZ Y 80 f3), (h4, aB Y 1600 f4), (h5, aI Y 200 f13), (h6, aI Y 800 f14)] (by rw [nI_clamp (show 185 + 7 * (gN f0 3) < 2 ^ 31 by omega)]; rfl) ?_
    refine V_aload_n 31 B dX12_add_31 1 rfl ?_
    refine V_iload_n 32 B dX12_add_32 4 rfl ?_
    refine V_iload 33 B dX12_add_33 0 rfl ?_
    refine V_iconst 35 B (v := 2) dX12_add_35 (by decide +kernel) ?_
    refine V_iadd 36 B (v := (nI (186 + 7 * (gN f0 3)))) dX12_add_36 (nI_addE (a := 184 + 7 * (gN f0 3)) (b := 2) (by omega)) ?_
    refine V_cvv 37 B (st := []) (As := [.int (nI s2), .int (nI (186 + 7 * (gN f0 3)))]) (fun sz => rX12_copySequence l D Y h0 h1 h2 h3 h4 h5 h6 p2 k5 k6 p7 p8 p9 k10 p11 q12 k15 k16 (upd (upd f0 (184 + 7 * (gN f0 3)) s0) (185 + 7 * (gN f0 3)) (nI s1)) f1 f3 f4 f13 f14 ph hv6 (by omega) HP s2 (186 + 7 * (gN f0 3)) hs2 (rl5 (gN f0 3) (by omega)) sz) glV_RX12_88 ⟨rfl, rfl⟩ ⟨(Nat.le_of_ble_eq_true rfl), (Nat.le_of_ble_eq_true rfl)⟩ ⟨(Nat.le_of_ble_eq_true rfl), (Nat.le_of_ble_eq_true rfl)⟩ [0, 0, 0, 0, 0, 0, 0] rfl 13 0 rfl rfl rfl rfl (Nat.le_of_ble_eq_true rfl) rfl (fun _ _ => rfl) dX12_add_37 (fun u8 w9 => ?_)
    refine V_ws [(h0, oC 13 [.ref h1, .ref h2, .int p2, .ref h3, .ref h4, .int (nI k5), .int (nI k6), .int p7, .int p8, .int p9, .int (nI k10), .int p11, .long q12, .ref h5, .ref h6, .int (nI k15), .int (nI k16)]), (h1, aI Y 3640 (u8.2.2.2.1 0)), (h2, aZ Y 2 f1), (h3, aZ Y 80 f3), (h4, aB Y 1600 f4), (h5, aI Y 200 f13), (h6, aI Y 800 f14)] rfl ?_
    obtain ⟨x10, x11⟩ := w9
    refine V_aload_n 40 B dX12_add_40 1 rfl ?_
    refine V_get 41 B gf_RX12_9 0 rfl rfl dX12_add_41 ?_
    refine V_iconst 44 B (v := 3) dX12_add_44 (by decide +kernel) ?_
    refine V_dup2_11 45 B dX12_add_45 rfl rfl ?_
    have x12 : (gN f0 3) ≤ 80 := gN_le HI (by omega) (show bd 3 = (0, ((80 : Nat) : Int)) by decide +kernel)
    refine V_iald 46 B (v := (nI (gN f0 3))) 1 rfl (vpin _ _ (by decide +kernel)) dX12_add_46 (by show (u8.2.2.2.1 0) 3 = _; rw [x11 _ (by omega)]; rw [upd_ne (by omega)]; rw [upd_ne (by omega)]; exact gN_eq HI (by omega) (show bd 3 = (0, ((80 : Nat) : Int)) by decide +kernel)) ?_
    refine V_iconst 47 B (v := 1) dX12_add_47 (by decide +kernel) ?_
    refine V_iadd 48 B (v := (nI (1 + (gN f0 3)))) dX12_add_48 (nI_addE (a := (gN f0 3)) (b := 1) (by omega)) ?_
    have hv13 : INV ph (upd (u8.2.2.2.1 0) 3 (nI (1 + (gN f0 3)))) := INV_nat (v := 1 + (gN f0 3)) x10 (show bd 3 = (0, ((80 : Nat) : Int)) by decide +kernel) (by omega) (by decide)
    refine V_iast 49 B 1 rfl (vpin _ _ (by decide +kernel)) dX12_add_49 [(h0, oC 13 [.ref h1, .ref h2, .int p2, .ref h3, .ref h4, .int (nI k5), .int (nI k6), .int p7, .int p8, .int p9, .int (nI k10), .int p11, .long q12, .ref h5, .ref h6, .int (nI k15), .int (nI k16)]), (h1, aI Y 3640 (upd (u8.2.2.2.1 0) 3 (nI (1 + (gN f0 3))))), (h2, aZ Y 2 f1), (h3, aZ Y 80 f3), (h4, aB Y 1600 f4), (h5, aI Y 200 f13), (h6, aI Y 800 f14)] rfl ?_
    exact V_vret 50 B dX12_add_50 (mkW [] [] [] [(upd (u8.2.2.2.1 0) 3 (nI (1 + (gN f0 3))))] [] []) hv13 rfl)
theorem dX12_bound_0 : decode cX12_bound 0 = .ok (.aload_n 0, 1) := by decide +kernel
theorem dX12_bound_1 : decode cX12_bound 1 = .ok (.iload_n 1, 1) := by decide +kernel
theorem dX12_bound_2 : decode cX12_bound 2 = .ok (.iload_n 3, 1) := by decide +kernel
theorem dX12_bound_3 : decode cX12_bound 3 = .ok (.invokevirtual 129, 3) := by decide +kernel
theorem glV_RX12_129 : GLV RX12 129 yX12_canBind RX12 cX12_canBind 3 (some .boolean) 2 := ⟨⟨(mT8 104 rfl rfl), (mT8 106 rfl rfl), (mTs 45 rfl rfl), (mT1 13 rfl rfl), (mT8 107 rfl rfl)⟩, by decide +kernel⟩
theorem dX12_bound_6 : decode cX12_bound 6 = .ok (.ifCond .ne 7, 3) := by decide +kernel
theorem dX12_bound_9 : decode cX12_bound 9 = .ok (.sipush (-1000), 3) := by decide +kernel
theorem dX12_bound_12 : decode cX12_bound 12 = .ok (.ireturn, 1) := by decide +kernel
theorem dX12_bound_13 : decode cX12_bound 13 = .ok (.aload_n 0, 1) := by decide +kernel
theorem dX12_bound_14 : decode cX12_bound 14 = .ok (.getfield 9, 3) := by decide +kernel
theorem dX12_bound_17 : decode cX12_bound 17 = .ok (.iconst 3, 1) := by decide +kernel
theorem dX12_bound_18 : decode cX12_bound 18 = .ok (.iaload, 1) := by decide +kernel
theorem dX12_bound_19 : decode cX12_bound 19 = .ok (.bipush 80, 2) := by decide +kernel
theorem dX12_bound_21 : decode cX12_bound 21 = .ok (.if_icmp .ne 6, 3) := by decide +kernel
theorem dX12_bound_27 : decode cX12_bound 27 = .ok (.aload_n 0, 1) := by decide +kernel
theorem dX12_bound_28 : decode cX12_bound 28 = .ok (.iload_n 1, 1) := by decide +kernel
theorem dX12_bound_29 : decode cX12_bound 29 = .ok (.iload_n 2, 1) := by decide +kernel
theorem dX12_bound_30 : decode cX12_bound 30 = .ok (.iload_n 3, 1) := by decide +kernel
theorem dX12_bound_31 : decode cX12_bound 31 = .ok (.invokevirtual 132, 3) := by decide +kernel
theorem glV_RX12_132 : GLV RX12 132 yX12_add RX12 cX12_add 5 none 3 := ⟨⟨(mT8 112 rfl rfl), (mT8 114 rfl rfl), (mTs 47 rfl rfl), (mT1 13 rfl rfl), (mT8 115 rfl rfl)⟩, by decide +kernel⟩
theorem dX12_bound_34 : decode cX12_bound 34 = .ok (.aload_n 0, 1) := by decide +kernel
theorem dX12_bound_35 : decode cX12_bound 35 = .ok (.getfield 9, 3) := by decide +kernel
theorem dX12_bound_38 : decode cX12_bound 38 = .ok (.iconst 3, 1) := by decide +kernel
theorem dX12_bound_39 : decode cX12_bound 39 = .ok (.iaload, 1) := by decide +kernel
theorem dX12_bound_40 : decode cX12_bound 40 = .ok (.iconst 1, 1) := by decide +kernel
theorem dX12_bound_41 : decode cX12_bound 41 = .ok (.isub, 1) := by decide +kernel
theorem dX12_bound_42 : decode cX12_bound 42 = .ok (.ireturn, 1) := by decide +kernel
theorem dX12_bound_24 : decode cX12_bound 24 = .ok (.bipush (-2), 2) := by decide +kernel
theorem dX12_bound_26 : decode cX12_bound 26 = .ok (.ireturn, 1) := by decide +kernel
set_option maxRecDepth 100000 in
set_option maxHeartbeats 4000000 in
theorem rX12_bound (l : Launch) (D : va_G) (Y : Nat → ClassId) (h0 : Nat) (h1 : Nat) (h2 : Nat) (h3 : Nat) (h4 : Nat) (h5 : Nat) (h6 : Nat) (p2 : Int32) (k5 : Nat) (k6 : Nat) (p7 : Int32) (p8 : Int32) (p9 : Int32) (k10 : Nat) (p11 : Int32) (q12 : Int64) (k15 : Nat) (k16 : Nat) (f0 : Nat → Int32) (f1 : Nat → Int32) (f3 : Nat → Int32) (f4 : Nat → Int32) (f13 : Nat → Int32) (f14 : Nat → Int32) (ph : Nat → Int32) (HI : INV ph f0) (HL : k5 ≤ 1600) (HP : PLV f13) (s0 : Int32) (s1 : Nat) (s2 : Nat) (hn1 : s1 < 40) (hs2 : SQ s2) (sz : Nat) : Met l yX12_bound (WSm yX12_bound cX12_bound 4 (some .int)) (mkR 5 0 0 112) (PreC D Y [.ref h0, .int s0, .int (nI s1), .int (nI s2)] [(h0, oC 13 [.ref h1, .ref h2, .int p2, .ref h3, .ref h4, .int (nI k5), .int (nI k6), .int p7, .int p8, .int p9, .int (nI k10), .int p11, .long q12, .ref h5, .ref h6, .int (nI k15), .int (nI k16)]), (h1, aI Y 3640 f0), (h2, aZ Y 2 f1), (h3, aZ Y 80 f3), (h4, aB Y 1600 f4), (h5, aI Y 200 f13), (h6, aI Y 800 f14)] sz) (QI D (fun (r : Int32) (u : WU) => INV ph (u.2.2.2.1 0)) (fun (u : WU) => [(h0, oC 13 [.ref h1, .ref h2, .int p2, .ref h3, .ref h4, .int (nI k5), .int (nI k6), .int p7, .int p8, .int p9, .int (nI k10), .int p11, .long q12, .ref h5, .ref h6, .int (nI k15), .int (nI k16)]), (h1, aI Y 3640 (u.2.2.2.1 0)), (h2, aZ Y 2 f1), (h3, aZ Y 80 f3), (h4, aB Y 1600 f4), (h5, aI Y 200 f13), (h6, aI Y 800 f14)]) (va_A [(h0, oC 13 [.ref h1, .ref h2, .int p2, .ref h3, .ref h4, .int (nI k5), .int (nI k6), .int p7, .int p8, .int p9, .int (nI k10), .int p11, .long q12, .ref h5, .ref h6, .int (nI k15), .int (nI k16)]), (h1, aI Y 3640 f0), (h2, aZ Y 2 f1), (h3, aZ Y 80 f3), (h4, aB Y 1600 f4), (h5, aI Y 200 f13), (h6, aI Y 800 f14)] sz)) 0 0 (va_A [(h0, oC 13 [.ref h1, .ref h2, .int p2, .ref h3, .ref h4, .int (nI k5), .int (nI k6), .int p7, .int p8, .int p9, .int (nI k10), .int p11, .long q12, .ref h5, .ref h6, .int (nI k15), .int (nI k16)]), (h1, aI Y 3640 f0), (h2, aZ Y 2 f1), (h3, aZ Y 80 f3), (h4, aB Y 1600 f4), (h5, aI Y 200 f13), (h6, aI Y 800 f14)] sz) :=
  met_of  (by decide +kernel) (Nat.le_of_ble_eq_true rfl) (fun p e s m args below meth c B hin hsz => by
    have B : VB p s m args meth c D Y (va_A [(h0, oC 13 [.ref h1, .ref h2, .int p2, .ref h3, .ref h4, .int (nI k5), .int (nI k6), .int p7, .int p8, .int p9, .int (nI k10), .int p11, .long q12, .ref h5, .ref h6, .int (nI k15), .int (nI k16)]), (h1, aI Y 3640 f0), (h2, aZ Y 2 f1), (h3, aZ Y 80 f3), (h4, aB Y 1600 f4), (h5, aI Y 200 f13), (h6, aI Y 800 f14)] sz) cX12_bound 4 RX12 (some .int) := B
    have hq_s2 := hs2.1
    refine V_aload_n 0 B dX12_bound_0 0 rfl ?_
    refine V_iload_n 1 B dX12_bound_1 1 rfl ?_
    refine V_iload_n 2 B dX12_bound_2 3 rfl ?_
    refine V_cvi 3 B (st := []) (As := [.int s0, .int (nI s2)]) (fun sz => rX12_canBind l D Y h0 h1 h2 h3 h4 h5 h6 p2 k5 k6 p7 p8 p9 k10 p11 q12 k15 k16 f0 f1 f3 f4 f13 f14 ph HI (by omega) HP s0 s2 hs2 sz) glV_RX12_129 ⟨rfl, rfl⟩ ⟨(Nat.le_of_ble_eq_true rfl), (Nat.le_of_ble_eq_true rfl)⟩ ⟨(Nat.le_of_ble_eq_true rfl), (Nat.le_of_ble_eq_true rfl)⟩ [0, 0, 0, 0, 0, 0, 0] rfl 13 0 rfl rfl rfl rfl (Nat.le_of_ble_eq_true rfl) rfl (fun _ _ _ => rfl) dX12_bound_3 (fun j0 u1 w2 => ?_)
    refine V_ws [(h0, oC 13 [.ref h1, .ref h2, .int p2, .ref h3, .ref h4, .int (nI k5), .int (nI k6), .int p7, .int p8, .int p9, .int (nI k10), .int p11, .long q12, .ref h5, .ref h6, .int (nI k15), .int (nI k16)]), (h1, aI Y 3640 f0), (h2, aZ Y 2 f1), (h3, aZ Y 80 f3), (h4, aB Y 1600 f4), (h5, aI Y 200 f13), (h6, aI Y 800 f14)] rfl ?_
    have x3 := w2
    clear w2
    rcases x3 with rfl | rfl
    ·
      refine V_if_ne_f 6 B 13 dX12_bound_6 (by decide) (by decide +kernel) ?_
      refine V_sipush 9 B (v := (-1000)) dX12_bound_9 (by decide +kernel) ?_
      exact V_iret 12 B dX12_bound_12 (mkW [] [] [] [f0] [] []) HI rfl
    ·
      refine V_if_ne_t 6 B 13 dX12_bound_6 (by decide) (by decide +kernel) ?_
      refine V_aload_n 13 B dX12_bound_13 0 rfl ?_
      refine V_get 14 B gf_RX12_9 0 rfl rfl dX12_bound_14 ?_
      refine V_iconst 17 B (v := 3) dX12_bound_17 (by decide +kernel) ?_
      have x4 : (gN f0 3) ≤ 80 := gN_le HI (by omega) (show bd 3 = (0, ((80 : Nat) : Int)) by decide +kernel)
      refine V_iald 18 B (v := (nI (gN f0 3))) 1 rfl (vpin _ _ (by decide +kernel)) dX12_bound_18 (by show f0 3 = _; exact gN_eq HI (by omega) (show bd 3 = (0, ((80 : Nat) : Int)) by decide +kernel)) ?_
      refine V_bipush 19 B (v := 80) dX12_bound_19 (by decide +kernel) ?_
      refine V_icmp_ne 21 B 27 dX12_bound_21 (by decide) (fun kk5 => ?_) (fun kk5 => ?_)
      ·
        have x6 := n_ne (a := (gN f0 3)) (b := 80) kk5
        refine V_aload_n 27 B dX12_bound_27 0 rfl ?_
        refine V_iload_n 28 B dX12_bound_28 1 rfl ?_
        refine V_iload_n 29 B dX12_bound_29 2 rfl ?_
        refine V_iload_n 30 B dX12_bound_30 3 rfl ?_
        refine V_cvv 31 B (st := []) (As := [.int s0, .int (nI s1), .int (nI s2)]) (fun sz => rX12_add l D Y h0 h1 h2 h3 h4 h5 h6 p2 k5 k6 p7 p8 p9 k10 p11 q12 k15 k16 f0 f1 f3 f4 f13 f14 ph HI (by omega) HP s0 s1 s2 (by omega) hs2 (by omega) sz) glV_RX12_132 ⟨rfl, rfl⟩ ⟨(Nat.le_of_ble_eq_true rfl), (Nat.le_of_ble_eq_true rfl)⟩ ⟨(Nat.le_of_ble_eq_true rfl), (Nat.le_of_ble_eq_true rfl)⟩ [0, 0, 0, 0, 0, 0, 0] rfl 13 0 rfl rfl rfl rfl (Nat.le_of_ble_eq_true rfl) rfl (fun _ _ => rfl) dX12_bound_31 (fun u8 w9 => ?_)
        refine V_ws [(h0, oC 13 [.ref h1, .ref h2, .int p2, .ref h3, .ref h4, .int (nI k5), .int (nI k6), .int p7, .int p8, .int p9, .int (nI k10), .int p11, .long q12, .ref h5, .ref h6, .int (nI k15), .int (nI k16)]), (h1, aI Y 3640 (u8.2.2.2.1 0)), (h2, aZ Y 2 f1), (h3, aZ Y 80 f3), (h4, aB Y 1600 f4), (h5, aI Y 200 f13), (h6, aI Y 800 f14)] rfl ?_
        have x10 := w9
        clear w9
        refine V_aload_n 34 B dX12_bound_34 0 rfl ?_
        refine V_get 35 B gf_RX12_9 0 rfl rfl dX12_bound_35 ?_
        refine V_iconst 38 B (v := 3) dX12_bound_38 (by decide +kernel) ?_
        have x11 : (gN (u8.2.2.2.1 0) 3) ≤ 80 := gN_le x10 (by omega) (show bd 3 = (0, ((80 : Nat) : Int)) by decide +kernel)
        refine V_iald 39 B (v := (nI ((gN (u8.2.2.2.1 0) 3)))) 1 rfl (vpin _ _ (by decide +kernel)) dX12_bound_39 (by show (u8.2.2.2.1 0) 3 = _; exact gN_eq x10 (by omega) (show bd 3 = (0, ((80 : Nat) : Int)) by decide +kernel)) ?_
        refine V_iconst 40 B (v := 1) dX12_bound_40 (by decide +kernel) ?_
        refine V_isub 41 B dX12_bound_41 rfl ?_
        refine V_nmi (fun j12 e13 => ?_)
        have x14 : j12.toInt = (((gN (u8.2.2.2.1 0) 3) : Nat) : Int) - ((1 : Nat) : Int) := by rw [e13]; exact nI_subT (a := (gN (u8.2.2.2.1 0) 3)) (b := 1) (by omega) (by omega)
        exact V_iret 42 B dX12_bound_42 (mkW [] [] [] [(u8.2.2.2.1 0)] [] []) x10 rfl
      ·
        have x15 := n_eq (a := (gN f0 3)) (b := 80) kk5 (by omega) (by omega)
        refine V_bipush 24 B (v := (-2)) dX12_bound_24 (by decide +kernel) ?_
        exact V_iret 26 B dX12_bound_26 (mkW [] [] [] [f0] [] []) HI rfl)
theorem dX12_bind_0 : decode cX12_bind 0 = .ok (.aload_n 0, 1) := by decide +kernel
theorem dX12_bind_1 : decode cX12_bind 1 = .ok (.iconst 0, 1) := by decide +kernel
theorem dX12_bind_2 : decode cX12_bind 2 = .ok (.putfield 38, 3) := by decide +kernel
theorem dX12_bind_5 : decode cX12_bind 5 = .ok (.aload_n 0, 1) := by decide +kernel
theorem dX12_bind_6 : decode cX12_bind 6 = .ok (.aload_n 0, 1) := by decide +kernel
theorem dX12_bind_7 : decode cX12_bind 7 = .ok (.iload_n 1, 1) := by decide +kernel
theorem dX12_bind_8 : decode cX12_bind 8 = .ok (.invokevirtual 91, 3) := by decide +kernel
theorem dX12_bind_11 : decode cX12_bind 11 = .ok (.ifCond .eq 11, 3) := by decide +kernel
theorem dX12_bind_22 : decode cX12_bind 22 = .ok (.iconst 1, 1) := by decide +kernel
theorem dX12_bind_23 : decode cX12_bind 23 = .ok (.goto 4, 3) := by decide +kernel
theorem dX12_bind_27 : decode cX12_bind 27 = .ok (.iconst 1, 1) := by decide +kernel
theorem dX12_bind_28 : decode cX12_bind 28 = .ok (.invokevirtual 69, 3) := by decide +kernel
theorem dX12_bind_31 : decode cX12_bind 31 = .ok (.ifCond .eq 5, 3) := by decide +kernel
theorem dX12_bind_34 : decode cX12_bind 34 = .ok (.iconst 0, 1) := by decide +kernel
theorem dX12_bind_35 : decode cX12_bind 35 = .ok (.ireturn, 1) := by decide +kernel
theorem dX12_bind_14 : decode cX12_bind 14 = .ok (.aload_n 0, 1) := by decide +kernel
theorem dX12_bind_15 : decode cX12_bind 15 = .ok (.iload_n 2, 1) := by decide +kernel
theorem dX12_bind_16 : decode cX12_bind 16 = .ok (.invokevirtual 99, 3) := by decide +kernel
theorem dX12_bind_19 : decode cX12_bind 19 = .ok (.ifCond .ne 7, 3) := by decide +kernel
theorem dX12_bind_26 : decode cX12_bind 26 = .ok (.iconst 0, 1) := by decide +kernel
theorem dX12_bind_36 : decode cX12_bind 36 = .ok (.aload_n 0, 1) := by decide +kernel
theorem dX12_bind_37 : decode cX12_bind 37 = .ok (.invokevirtual 125, 3) := by decide +kernel
theorem dX12_bind_40 : decode cX12_bind 40 = .ok (.ifCond .eq 8, 3) := by decide +kernel
theorem dX12_bind_48 : decode cX12_bind 48 = .ok (.aload_n 0, 1) := by decide +kernel
theorem dX12_bind_49 : decode cX12_bind 49 = .ok (.iload_n 1, 1) := by decide +kernel
theorem dX12_bind_50 : decode cX12_bind 50 = .ok (.iload_n 2, 1) := by decide +kernel
theorem dX12_bind_51 : decode cX12_bind 51 = .ok (.sipush 3624, 3) := by decide +kernel
theorem dX12_bind_54 : decode cX12_bind 54 = .ok (.invokevirtual 136, 3) := by decide +kernel
theorem glV_RX12_136 : GLV RX12 136 yX12_bound RX12 cX12_bound 4 (some .int) 3 := ⟨⟨(mT8 100 rfl rfl), (mT8 102 rfl rfl), (mTs 44 rfl rfl), (mT1 13 rfl rfl), (mT8 103 rfl rfl)⟩, by decide +kernel⟩
theorem dX12_bind_57 : decode cX12_bind 57 = .ok (.ireturn, 1) := by decide +kernel
theorem dX12_bind_43 : decode cX12_bind 43 = .ok (.bipush (-4), 2) := by decide +kernel
theorem dX12_bind_45 : decode cX12_bind 45 = .ok (.goto 12, 3) := by decide +kernel
set_option maxRecDepth 100000 in
set_option maxHeartbeats 4000000 in
theorem rX12_bind (l : Launch) (D : va_G) (Y : Nat → ClassId) (h0 : Nat) (h1 : Nat) (h2 : Nat) (h3 : Nat) (h4 : Nat) (h5 : Nat) (h6 : Nat) (p2 : Int32) (k5 : Nat) (k6 : Nat) (p7 : Int32) (p8 : Int32) (p9 : Int32) (k10 : Nat) (p11 : Int32) (q12 : Int64) (k15 : Nat) (k16 : Nat) (f0 : Nat → Int32) (f1 : Nat → Int32) (f3 : Nat → Int32) (f4 : Nat → Int32) (f13 : Nat → Int32) (f14 : Nat → Int32) (ph : Nat → Int32) (HI : INV ph f0) (HL : k5 ≤ 1600) (HP : PLV f13) (s0 : Int32) (s1 : Int32)  (sz : Nat) : Met l yX12_bind (WSm yX12_bind cX12_bind 3 (some .int)) (mkR 6 0 0 135) (PreC D Y [.ref h0, .int s0, .int s1] [(h0, oC 13 [.ref h1, .ref h2, .int p2, .ref h3, .ref h4, .int (nI k5), .int (nI k6), .int p7, .int p8, .int p9, .int (nI k10), .int p11, .long q12, .ref h5, .ref h6, .int (nI k15), .int (nI k16)]), (h1, aI Y 3640 f0), (h2, aZ Y 2 f1), (h3, aZ Y 80 f3), (h4, aB Y 1600 f4), (h5, aI Y 200 f13), (h6, aI Y 800 f14)] sz) (QI D (fun (r : Int32) (u : WU) => INV ph (u.2.2.2.1 0)) (fun (u : WU) => [(h0, oC 13 [.ref h1, .ref h2, .int (u.2.1 0), .ref h3, .ref h4, .int (nI k5), .int (nI k6), .int p7, .int p8, .int p9, .int (nI k10), .int p11, .long q12, .ref h5, .ref h6, .int (nI k15), .int (nI k16)]), (h1, aI Y 3640 (u.2.2.2.1 0)), (h2, aZ Y 2 f1), (h3, aZ Y 80 f3), (h4, aB Y 1600 f4), (h5, aI Y 200 f13), (h6, aI Y 800 f14)]) (va_A [(h0, oC 13 [.ref h1, .ref h2, .int p2, .ref h3, .ref h4, .int (nI k5), .int (nI k6), .int p7, .int p8, .int p9, .int (nI k10), .int p11, .long q12, .ref h5, .ref h6, .int (nI k15), .int (nI k16)]), (h1, aI Y 3640 f0), (h2, aZ Y 2 f1), (h3, aZ Y 80 f3), (h4, aB Y 1600 f4), (h5, aI Y 200 f13), (h6, aI Y 800 f14)] sz)) 0 0 (va_A [(h0, oC 13 [.ref h1, .ref h2, .int p2, .ref h3, .ref h4, .int (nI k5), .int (nI k6), .int p7, .int p8, .int p9, .int (nI k10), .int p11, .long q12, .ref h5, .ref h6, .int (nI k15), .int (nI k16)]), (h1, aI Y 3640 f0), (h2, aZ Y 2 f1), (h3, aZ Y 80 f3), (h4, aB Y 1600 f4), (h5, aI Y 200 f13), (h6, aI Y 800 f14)] sz) :=
  met_of  (by decide +kernel) (Nat.le_of_ble_eq_true rfl) (fun p e s m args below meth c B hin hsz => by
    have B : VB p s m args meth c D Y (va_A [(h0, oC 13 [.ref h1, .ref h2, .int p2, .ref h3, .ref h4, .int (nI k5), .int (nI k6), .int p7, .int p8, .int p9, .int (nI k10), .int p11, .long q12, .ref h5, .ref h6, .int (nI k15), .int (nI k16)]), (h1, aI Y 3640 f0), (h2, aZ Y 2 f1), (h3, aZ Y 80 f3), (h4, aB Y 1600 f4), (h5, aI Y 200 f13), (h6, aI Y 800 f14)] sz) cX12_bind 3 RX12 (some .int) := B
    refine V_aload_n 0 B dX12_bind_0 0 rfl ?_
    refine V_iconst 1 B (v := 0) dX12_bind_1 (by decide +kernel) ?_
    refine V_put 2 B gp_RX12_38 0 rfl (Nat.le_of_ble_eq_true rfl) rfl rfl dX12_bind_2 [(h0, oC 13 [.ref h1, .ref h2, .int 0, .ref h3, .ref h4, .int (nI k5), .int (nI k6), .int p7, .int p8, .int p9, .int (nI k10), .int p11, .long q12, .ref h5, .ref h6, .int (nI k15), .int (nI k16)]), (h1, aI Y 3640 f0), (h2, aZ Y 2 f1), (h3, aZ Y 80 f3), (h4, aB Y 1600 f4), (h5, aI Y 200 f13), (h6, aI Y 800 f14)] rfl ?_
    refine V_aload_n 5 B dX12_bind_5 0 rfl ?_
    refine V_aload_n 6 B dX12_bind_6 0 rfl ?_
    refine V_iload_n 7 B dX12_bind_7 1 rfl ?_
    refine V_cvi 8 B (st := [.ref h0]) (As := [.int s0]) (fun sz => rX12_isMode l D Y h0 h1 h2 h3 h4 h5 h6 0 k5 k6 p7 p8 p9 k10 p11 q12 k15 k16 f0 f1 f3 f4 f13 f14 ph HI (by omega) HP s0 sz) glV_RX12_91 ⟨rfl, rfl⟩ ⟨(Nat.le_of_ble_eq_true rfl), (Nat.le_of_ble_eq_true rfl)⟩ ⟨(Nat.le_of_ble_eq_true rfl), (Nat.le_of_ble_eq_true rfl)⟩ [0, 0, 0, 0, 0, 0, 0] rfl 13 0 rfl rfl rfl rfl (Nat.le_of_ble_eq_true rfl) rfl (fun _ _ _ => rfl) dX12_bind_8 (fun j0 u1 w2 => ?_)
    refine V_ws [(h0, oC 13 [.ref h1, .ref h2, .int 0, .ref h3, .ref h4, .int (nI k5), .int (nI k6), .int p7, .int p8, .int p9, .int (nI k10), .int p11, .long q12, .ref h5, .ref h6, .int (nI k15), .int (nI k16)]), (h1, aI Y 3640 f0), (h2, aZ Y 2 f1), (h3, aZ Y 80 f3), (h4, aB Y 1600 f4), (h5, aI Y 200 f13), (h6, aI Y 800 f14)] rfl ?_
    have x3 := w2
    clear w2
    have x7 : (gN f0 0) ≤ 6 := gN_le HI (by omega) (show bd 0 = (0, ((6 : Nat) : Int)) by decide +kernel)
    rcases x3 with rfl | ⟨rfl, n4, rfl, x6⟩
    ·
      refine V_if_eq_t 11 B 22 dX12_bind_11 (by decide) (by decide +kernel) ?_
      refine V_iconst 22 B (v := 1) dX12_bind_22 (by decide +kernel) ?_
      refine V_goto 23 B 27 dX12_bind_23 (by decide) ?_
      refine V_iconst 27 B (v := 1) dX12_bind_27 (by decide +kernel) ?_
      refine V_cvi 28 B (st := []) (As := [.int 1, .int 1]) (fun sz => rX12_throwsIf_1 l D Y h0 h1 h2 h3 h4 h5 h6 0 k5 k6 p7 p8 p9 k10 p11 q12 k15 k16 f0 f1 f3 f4 f13 f14 ph HI (by omega) HP 1 sz) glV_RX12_69 ⟨rfl, rfl⟩ ⟨(Nat.le_of_ble_eq_true rfl), (Nat.le_of_ble_eq_true rfl)⟩ ⟨(Nat.le_of_ble_eq_true rfl), (Nat.le_of_ble_eq_true rfl)⟩ [0, 0, 0, 0, 0, 0, 0] rfl 13 0 rfl rfl rfl rfl (Nat.le_of_ble_eq_true rfl) rfl (fun _ _ _ => rfl) dX12_bind_28 (fun j8 u9 w10 => ?_)
      refine V_ws [(h0, oC 13 [.ref h1, .ref h2, .int (u9.2.1 0), .ref h3, .ref h4, .int (nI k5), .int (nI k6), .int p7, .int p8, .int p9, .int (nI k10), .int p11, .long q12, .ref h5, .ref h6, .int (nI k15), .int (nI k16)]), (h1, aI Y 3640 f0), (h2, aZ Y 2 f1), (h3, aZ Y 80 f3), (h4, aB Y 1600 f4), (h5, aI Y 200 f13), (h6, aI Y 800 f14)] rfl ?_
      have x11 := w10
      clear w10
      obtain rfl := x11
      refine V_if_eq_f 31 B 36 dX12_bind_31 (by decide) (by decide +kernel) ?_
      refine V_iconst 34 B (v := 0) dX12_bind_34 (by decide +kernel) ?_
      exact V_iret 35 B dX12_bind_35 (mkW [] [(u9.2.1 0)] [] [f0] [] []) HI rfl
    ·
      have e12 := nI_toInt (show n4 < 2 ^ 31 by omega)
      have x13 : (gN f0 0) ≤ 6 := gN_le HI (by omega) (show bd 0 = (0, ((6 : Nat) : Int)) by decide +kernel)
      refine V_if_eq_f 11 B 22 dX12_bind_11 (by decide) (by decide +kernel) ?_
      refine V_aload_n 14 B dX12_bind_14 0 rfl ?_
      refine V_iload_n 15 B dX12_bind_15 2 rfl ?_
      refine V_cvi 16 B (st := [.ref h0]) (As := [.int s1]) (fun sz => rX12_isCommand l D Y h0 h1 h2 h3 h4 h5 h6 0 k5 k6 p7 p8 p9 k10 p11 q12 k15 k16 f0 f1 f3 f4 f13 f14 ph HI (by omega) HP s1 sz) glV_RX12_99 ⟨rfl, rfl⟩ ⟨(Nat.le_of_ble_eq_true rfl), (Nat.le_of_ble_eq_true rfl)⟩ ⟨(Nat.le_of_ble_eq_true rfl), (Nat.le_of_ble_eq_true rfl)⟩ [0, 0, 0, 0, 0, 0, 0] rfl 13 0 rfl rfl rfl rfl (Nat.le_of_ble_eq_true rfl) rfl (fun _ _ _ => rfl) dX12_bind_16 (fun j14 u15 w16 => ?_)
      refine V_ws [(h0, oC 13 [.ref h1, .ref h2, .int 0, .ref h3, .ref h4, .int (nI k5), .int (nI k6), .int p7, .int p8, .int p9, .int (nI k10), .int p11, .long q12, .ref h5, .ref h6, .int (nI k15), .int (nI k16)]), (h1, aI Y 3640 f0), (h2, aZ Y 2 f1), (h3, aZ Y 80 f3), (h4, aB Y 1600 f4), (h5, aI Y 200 f13), (h6, aI Y 800 f14)] rfl ?_
      have x17 := w16
      clear w16
      have x21 : (gN f0 1) ≤ 40 := gN_le HI (by omega) (show bd 1 = (0, ((40 : Nat) : Int)) by decide +kernel)
      rcases x17 with rfl | ⟨rfl, n18, rfl, x20⟩
      ·
        refine V_if_ne_f 19 B 26 dX12_bind_19 (by decide) (by decide +kernel) ?_
        refine V_iconst 22 B (v := 1) dX12_bind_22 (by decide +kernel) ?_
        refine V_goto 23 B 27 dX12_bind_23 (by decide) ?_
        refine V_iconst 27 B (v := 1) dX12_bind_27 (by decide +kernel) ?_
        refine V_cvi 28 B (st := []) (As := [.int 1, .int 1]) (fun sz => rX12_throwsIf_1 l D Y h0 h1 h2 h3 h4 h5 h6 0 k5 k6 p7 p8 p9 k10 p11 q12 k15 k16 f0 f1 f3 f4 f13 f14 ph HI (by omega) HP 1 sz) glV_RX12_69 ⟨rfl, rfl⟩ ⟨(Nat.le_of_ble_eq_true rfl), (Nat.le_of_ble_eq_true rfl)⟩ ⟨(Nat.le_of_ble_eq_true rfl), (Nat.le_of_ble_eq_true rfl)⟩ [0, 0, 0, 0, 0, 0, 0] rfl 13 0 rfl rfl rfl rfl (Nat.le_of_ble_eq_true rfl) rfl (fun _ _ _ => rfl) dX12_bind_28 (fun j22 u23 w24 => ?_)
        refine V_ws [(h0, oC 13 [.ref h1, .ref h2, .int (u23.2.1 0), .ref h3, .ref h4, .int (nI k5), .int (nI k6), .int p7, .int p8, .int p9, .int (nI k10), .int p11, .long q12, .ref h5, .ref h6, .int (nI k15), .int (nI k16)]), (h1, aI Y 3640 f0), (h2, aZ Y 2 f1), (h3, aZ Y 80 f3), (h4, aB Y 1600 f4), (h5, aI Y 200 f13), (h6, aI Y 800 f14)] rfl ?_
        have x25 := w24
        clear w24
        obtain rfl := x25
        refine V_if_eq_f 31 B 36 dX12_bind_31 (by decide) (by decide +kernel) ?_
        refine V_iconst 34 B (v := 0) dX12_bind_34 (by decide +kernel) ?_
        exact V_iret 35 B dX12_bind_35 (mkW [] [(u23.2.1 0)] [] [f0] [] []) HI rfl
      ·
        have e26 := nI_toInt (show n18 < 2 ^ 31 by omega)
        have x27 : (gN f0 1) ≤ 40 := gN_le HI (by omega) (show bd 1 = (0, ((40 : Nat) : Int)) by decide +kernel)
        refine V_if_ne_t 19 B 26 dX12_bind_19 (by decide) (by decide +kernel) ?_
        refine V_iconst 26 B (v := 0) dX12_bind_26 (by decide +kernel) ?_
        refine V_iconst 27 B (v := 1) dX12_bind_27 (by decide +kernel) ?_
        refine V_cvi 28 B (st := []) (As := [.int 0, .int 1]) (fun sz => rX12_throwsIf_0 l D Y h0 h1 h2 h3 h4 h5 h6 0 k5 k6 p7 p8 p9 k10 p11 q12 k15 k16 f0 f1 f3 f4 f13 f14 ph HI (by omega) HP 1 sz) glV_RX12_69 ⟨rfl, rfl⟩ ⟨(Nat.le_of_ble_eq_true rfl), (Nat.le_of_ble_eq_true rfl)⟩ ⟨(Nat.le_of_ble_eq_true rfl), (Nat.le_of_ble_eq_true rfl)⟩ [0, 0, 0, 0, 0, 0, 0] rfl 13 0 rfl rfl rfl rfl (Nat.le_of_ble_eq_true rfl) rfl (fun _ _ _ => rfl) dX12_bind_28 (fun j28 u29 w30 => ?_)
        refine V_ws [(h0, oC 13 [.ref h1, .ref h2, .int (u29.2.1 0), .ref h3, .ref h4, .int (nI k5), .int (nI k6), .int p7, .int p8, .int p9, .int (nI k10), .int p11, .long q12, .ref h5, .ref h6, .int (nI k15), .int (nI k16)]), (h1, aI Y 3640 f0), (h2, aZ Y 2 f1), (h3, aZ Y 80 f3), (h4, aB Y 1600 f4), (h5, aI Y 200 f13), (h6, aI Y 800 f14)] rfl ?_
        have x31 := w30
        clear w30
        obtain rfl := x31
        refine V_if_eq_t 31 B 36 dX12_bind_31 (by decide) (by decide +kernel) ?_
        refine V_aload_n 36 B dX12_bind_36 0 rfl ?_
        refine V_cvi 37 B (st := []) (As := []) (fun sz => rX12_hasNoDraft l D Y h0 h1 h2 h3 h4 h5 h6 (u29.2.1 0) k5 k6 p7 p8 p9 k10 p11 q12 k15 k16 f0 f1 f3 f4 f13 f14 ph HI (by omega) HP sz) glV_RX12_125 ⟨rfl, rfl⟩ ⟨(Nat.le_of_ble_eq_true rfl), (Nat.le_of_ble_eq_true rfl)⟩ ⟨(Nat.le_of_ble_eq_true rfl), (Nat.le_of_ble_eq_true rfl)⟩ [0, 0, 0, 0, 0, 0, 0] rfl 13 0 rfl rfl rfl rfl (Nat.le_of_ble_eq_true rfl) rfl (fun _ _ _ => rfl) dX12_bind_37 (fun j32 u33 w34 => ?_)
        refine V_ws [(h0, oC 13 [.ref h1, .ref h2, .int (u29.2.1 0), .ref h3, .ref h4, .int (nI k5), .int (nI k6), .int p7, .int p8, .int p9, .int (nI k10), .int p11, .long q12, .ref h5, .ref h6, .int (nI k15), .int (nI k16)]), (h1, aI Y 3640 f0), (h2, aZ Y 2 f1), (h3, aZ Y 80 f3), (h4, aB Y 1600 f4), (h5, aI Y 200 f13), (h6, aI Y 800 f14)] rfl ?_
        have x35 := w34
        clear w34
        rcases x35 with rfl | rfl
        ·
          refine V_if_eq_t 40 B 48 dX12_bind_40 (by decide) (by decide +kernel) ?_
          refine V_aload_n 48 B dX12_bind_48 0 rfl ?_
          refine V_iload_n 49 B dX12_bind_49 1 rfl ?_
          refine V_iload_n 50 B dX12_bind_50 2 rfl ?_
          refine V_sipush 51 B (v := 3624) dX12_bind_51 (by decide +kernel) ?_
          refine V_cvi 54 B (st := []) (As := [.int (nI n4), .int (nI n18), .int 3624]) (fun sz => rX12_bound l D Y h0 h1 h2 h3 h4 h5 h6 (u29.2.1 0) k5 k6 p7 p8 p9 k10 p11 q12 k15 k16 f0 f1 f3 f4 f13 f14 ph HI (by omega) HP (nI n4) n18 3624 (by omega) (show SQ 3624 by unfold SQ; decide +kernel) sz) glV_RX12_136 ⟨rfl, rfl⟩ ⟨(Nat.le_of_ble_eq_true rfl), (Nat.le_of_ble_eq_true rfl)⟩ ⟨(Nat.le_of_ble_eq_true rfl), (Nat.le_of_ble_eq_true rfl)⟩ [0, 0, 0, 0, 0, 0, 0] rfl 13 0 rfl rfl rfl rfl (Nat.le_of_ble_eq_true rfl) rfl (fun _ _ _ => rfl) dX12_bind_54 (fun j36 u37 w38 => ?_)
          refine V_ws [(h0, oC 13 [.ref h1, .ref h2, .int (u29.2.1 0), .ref h3, .ref h4, .int (nI k5), .int (nI k6), .int p7, .int p8, .int p9, .int (nI k10), .int p11, .long q12, .ref h5, .ref h6, .int (nI k15), .int (nI k16)]), (h1, aI Y 3640 (u37.2.2.2.1 0)), (h2, aZ Y 2 f1), (h3, aZ Y 80 f3), (h4, aB Y 1600 f4), (h5, aI Y 200 f13), (h6, aI Y 800 f14)] rfl ?_
          have x39 := w38
          clear w38
          exact V_iret 57 B dX12_bind_57 (mkW [] [(u29.2.1 0)] [] [(u37.2.2.2.1 0)] [] []) x39 rfl
        ·
          refine V_if_eq_f 40 B 48 dX12_bind_40 (by decide) (by decide +kernel) ?_
          refine V_bipush 43 B (v := (-4)) dX12_bind_43 (by decide +kernel) ?_
          refine V_goto 45 B 57 dX12_bind_45 (by decide) ?_
          exact V_iret 57 B dX12_bind_57 (mkW [] [(u29.2.1 0)] [] [f0] [] []) HI rfl)
theorem dX12_remove_0 : decode cX12_remove 0 = .ok (.aload_n 0, 1) := by decide +kernel
theorem dX12_remove_1 : decode cX12_remove 1 = .ok (.getfield 9, 3) := by decide +kernel
theorem dX12_remove_4 : decode cX12_remove 4 = .ok (.iconst 3, 1) := by decide +kernel
theorem dX12_remove_5 : decode cX12_remove 5 = .ok (.dup2, 1) := by decide +kernel
theorem dX12_remove_6 : decode cX12_remove 6 = .ok (.iaload, 1) := by decide +kernel
theorem dX12_remove_7 : decode cX12_remove 7 = .ok (.iconst 1, 1) := by decide +kernel
theorem dX12_remove_8 : decode cX12_remove 8 = .ok (.isub, 1) := by decide +kernel
theorem dX12_remove_9 : decode cX12_remove 9 = .ok (.iastore, 1) := by decide +kernel
theorem dX12_remove_10 : decode cX12_remove 10 = .ok (.iload_n 1, 1) := by decide +kernel
theorem dX12_remove_11 : decode cX12_remove 11 = .ok (.invokestatic 79, 3) := by decide +kernel
theorem dX12_remove_14 : decode cX12_remove 14 = .ok (.istore_n 2, 1) := by decide +kernel
theorem dX12_remove_15 : decode cX12_remove 15 = .ok (.iload_n 2, 1) := by decide +kernel
theorem dX12_remove_16 : decode cX12_remove 16 = .ok (.aload_n 0, 1) := by decide +kernel
theorem dX12_remove_17 : decode cX12_remove 17 = .ok (.getfield 9, 3) := by decide +kernel
theorem dX12_remove_20 : decode cX12_remove 20 = .ok (.iconst 3, 1) := by decide +kernel
theorem dX12_remove_21 : decode cX12_remove 21 = .ok (.iaload, 1) := by decide +kernel
theorem dX12_remove_22 : decode cX12_remove 22 = .ok (.invokestatic 79, 3) := by decide +kernel
theorem dX12_remove_25 : decode cX12_remove 25 = .ok (.if_icmp .ge 24, 3) := by decide +kernel
theorem dX12_remove_49 : decode cX12_remove 49 = .ok (.return_, 1) := by decide +kernel
theorem dX12_remove_28 : decode cX12_remove 28 = .ok (.aload_n 0, 1) := by decide +kernel
theorem dX12_remove_29 : decode cX12_remove 29 = .ok (.getfield 9, 3) := by decide +kernel
theorem dX12_remove_32 : decode cX12_remove 32 = .ok (.iload_n 2, 1) := by decide +kernel
theorem dX12_remove_33 : decode cX12_remove 33 = .ok (.aload_n 0, 1) := by decide +kernel
theorem dX12_remove_34 : decode cX12_remove 34 = .ok (.getfield 9, 3) := by decide +kernel
theorem dX12_remove_37 : decode cX12_remove 37 = .ok (.iload_n 2, 1) := by decide +kernel
theorem dX12_remove_38 : decode cX12_remove 38 = .ok (.bipush 7, 2) := by decide +kernel
theorem dX12_remove_40 : decode cX12_remove 40 = .ok (.iadd, 1) := by decide +kernel
theorem dX12_remove_41 : decode cX12_remove 41 = .ok (.iaload, 1) := by decide +kernel
theorem dX12_remove_42 : decode cX12_remove 42 = .ok (.iastore, 1) := by decide +kernel
theorem dX12_remove_43 : decode cX12_remove 43 = .ok (.iinc 2 1, 3) := by decide +kernel
theorem dX12_remove_46 : decode cX12_remove 46 = .ok (.goto (-31), 3) := by decide +kernel
set_option maxRecDepth 100000 in
set_option maxHeartbeats 4000000 in
theorem rX12_remove (l : Launch) (D : va_G) (Y : Nat → ClassId) (h0 : Nat) (h1 : Nat) (h2 : Nat) (h3 : Nat) (h4 : Nat) (h5 : Nat) (h6 : Nat) (p2 : Int32) (k5 : Nat) (k6 : Nat) (p7 : Int32) (p8 : Int32) (p9 : Int32) (k10 : Nat) (p11 : Int32) (q12 : Int64) (k15 : Nat) (k16 : Nat) (f0 : Nat → Int32) (f1 : Nat → Int32) (f3 : Nat → Int32) (f4 : Nat → Int32) (f13 : Nat → Int32) (f14 : Nat → Int32) (ph : Nat → Int32) (HI : INV ph f0) (HL : k5 ≤ 1600) (HP : PLV f13) (s0 : Nat) (hn0 : s0 < 80) (hx0 : s0 < gN f0 3) (sz : Nat) : Met l yX12_remove (WSm yX12_remove cX12_remove 3 none) (mkR 1 0 0 20) (PreC D Y [.ref h0, .int (nI s0)] [(h0, oC 13 [.ref h1, .ref h2, .int p2, .ref h3, .ref h4, .int (nI k5), .int (nI k6), .int p7, .int p8, .int p9, .int (nI k10), .int p11, .long q12, .ref h5, .ref h6, .int (nI k15), .int (nI k16)]), (h1, aI Y 3640 f0), (h2, aZ Y 2 f1), (h3, aZ Y 80 f3), (h4, aB Y 1600 f4), (h5, aI Y 200 f13), (h6, aI Y 800 f14)] sz) (QV D (fun (u : WU) => INV ph (u.2.2.2.1 0) ∧ gN (u.2.2.2.1 0) 3 = gN f0 3 - 1) (fun (u : WU) => [(h0, oC 13 [.ref h1, .ref h2, .int p2, .ref h3, .ref h4, .int (nI k5), .int (nI k6), .int p7, .int p8, .int p9, .int (nI k10), .int p11, .long q12, .ref h5, .ref h6, .int (nI k15), .int (nI k16)]), (h1, aI Y 3640 (u.2.2.2.1 0)), (h2, aZ Y 2 f1), (h3, aZ Y 80 f3), (h4, aB Y 1600 f4), (h5, aI Y 200 f13), (h6, aI Y 800 f14)]) (va_A [(h0, oC 13 [.ref h1, .ref h2, .int p2, .ref h3, .ref h4, .int (nI k5), .int (nI k6), .int p7, .int p8, .int p9, .int (nI k10), .int p11, .long q12, .ref h5, .ref h6, .int (nI k15), .int (nI k16)]), (h1, aI Y 3640 f0), (h2, aZ Y 2 f1), (h3, aZ Y 80 f3), (h4, aB Y 1600 f4), (h5, aI Y 200 f13), (h6, aI Y 800 f14)] sz)) 0 0 (va_A [(h0, oC 13 [.ref h1, .ref h2, .int p2, .ref h3, .ref h4, .int (nI k5), .int (nI k6), .int p7, .int p8, .int p9, .int (nI k10), .int p11, .long q12, .ref h5, .ref h6, .int (nI k15), .int (nI k16)]), (h1, aI Y 3640 f0), (h2, aZ Y 2 f1), (h3, aZ Y 80 f3), (h4, aB Y 1600 f4), (h5, aI Y 200 f13), (h6, aI Y 800 f14)] sz) :=
  met_of  (by decide +kernel) (Nat.le_of_ble_eq_true rfl) (fun p e s m args below meth c B hin hsz => by
    have B : VB p s m args meth c D Y (va_A [(h0, oC 13 [.ref h1, .ref h2, .int p2, .ref h3, .ref h4, .int (nI k5), .int (nI k6), .int p7, .int p8, .int p9, .int (nI k10), .int p11, .long q12, .ref h5, .ref h6, .int (nI k15), .int (nI k16)]), (h1, aI Y 3640 f0), (h2, aZ Y 2 f1), (h3, aZ Y 80 f3), (h4, aB Y 1600 f4), (h5, aI Y 200 f13), (h6, aI Y 800 f14)] sz) cX12_remove 3 RX12 none := B
    refine V_aload_n 0 B dX12_remove_0 0 rfl ?_
    refine V_get 1 B gf_RX12_9 0 rfl rfl dX12_remove_1 ?_
    refine V_iconst 4 B (v := 3) dX12_remove_4 (by decide +kernel) ?_
    refine V_dup2_11 5 B dX12_remove_5 rfl rfl ?_
    have x0 : (gN f0 3) ≤ 80 := gN_le HI (by omega) (show bd 3 = (0, ((80 : Nat) : Int)) by decide +kernel)
    refine V_iald 6 B (v := (nI (gN f0 3))) 1 rfl (vpin _ _ (by decide +kernel)) dX12_remove_6 (by show f0 3 = _; exact gN_eq HI (by omega) (show bd 3 = (0, ((80 : Nat) : Int)) by decide +kernel)) ?_
    refine V_iconst 7 B (v := 1) dX12_remove_7 (by decide +kernel) ?_
    refine V_isub 8 B (v := (nI (((gN f0 3) - 1)))) dX12_remove_8 (nI_subE (a := (gN f0 3)) (b := 1) (by omega)) ?_
    have hv1 : INV ph (upd f0 3 (nI (((gN f0 3) - 1)))) := INV_nat (v := ((gN f0 3) - 1)) HI (show bd 3 = (0, ((80 : Nat) : Int)) by decide +kernel) (by omega) (by decide)
    refine V_iast 9 B 1 rfl (vpin _ _ (by decide +kernel)) dX12_remove_9 [(h0, oC 13 [.ref h1, .ref h2, .int p2, .ref h3, .ref h4, .int (nI k5), .int (nI k6), .int p7, .int p8, .int p9, .int (nI k10), .int p11, .long q12, .ref h5, .ref h6, .int (nI k15), .int (nI k16)]), (h1, aI Y 3640 (upd f0 3 (nI (((gN f0 3) - 1))))), (h2, aZ Y 2 f1), (h3, aZ Y 80 f3), (h4, aB Y 1600 f4), (h5, aI Y 200 f13), (h6, aI Y 800 f14)] rfl ?_
    refine V_iload_n 10 B dX12_remove_10 1 rfl ?_
    refine V_csi 11 B (st := []) (As := [.int (nI s0)]) (fun sz => rX12_bindingAt l D Y s0 (by omega) sz) glS_RX12_79 ⟨rfl, rfl⟩ ⟨(Nat.le_of_ble_eq_true rfl), (Nat.le_of_ble_eq_true rfl)⟩ ⟨(Nat.le_of_ble_eq_true rfl), (Nat.le_of_ble_eq_true rfl)⟩ [] rfl rfl (Nat.le_of_ble_eq_true rfl) rfl (fun _ _ _ => rfl) dX12_remove_11 (fun j2 u3 w4 => ?_)
    refine V_ws [(h0, oC 13 [.ref h1, .ref h2, .int p2, .ref h3, .ref h4, .int (nI k5), .int (nI k6), .int p7, .int p8, .int p9, .int (nI k10), .int p11, .long q12, .ref h5, .ref h6, .int (nI k15), .int (nI k16)]), (h1, aI Y 3640 (upd f0 3 (nI (((gN f0 3) - 1))))), (h2, aZ Y 2 f1), (h3, aZ Y 80 f3), (h4, aB Y 1600 f4), (h5, aI Y 200 f13), (h6, aI Y 800 f14)] rfl ?_
    have x5 := w4
    clear w4
    obtain rfl := x5
    refine V_istore_n 14 B (lv2 := [(2, .int (nI (184 + 7 * s0))), (0, .ref h0), (1, .int (nI s0))]) dX12_remove_14 (by decide) rfl ?_
    refine V_wloop (α := WU) (fun a => 100000 - (a.1 0)) (fun a => INV ph (a.2.2.2.1 0) ∧ (a.1 0) ≤ 4000 ∧ gN (a.2.2.2.1 0) 3 = gN f0 3 - 1 ∧ 184 ≤ (a.1 0)) (fun a => [(2, .int (nI (a.1 0))), (0, .ref h0), (1, .int (nI s0))]) (fun a => [(h0, oC 13 [.ref h1, .ref h2, .int p2, .ref h3, .ref h4, .int (nI k5), .int (nI k6), .int p7, .int p8, .int p9, .int (nI k10), .int p11, .long q12, .ref h5, .ref h6, .int (nI k15), .int (nI k16)]), (h1, aI Y 3640 (a.2.2.2.1 0)), (h2, aZ Y 2 f1), (h3, aZ Y 80 f3), (h4, aB Y 1600 f4), (h5, aI Y 200 f13), (h6, aI Y 800 f14)]) (mkW [184 + 7 * s0] [] [] [(upd f0 3 (nI (((gN f0 3) - 1))))] [] []) ⟨hv1, (show 184 + 7 * s0 ≤ 4000 by omega), (gN_at (by omega)), (show 184 ≤ 184 + 7 * s0 by omega)⟩ rfl rfl (fun a6 hI8 IH7 => ?_)
    refine V_lv [(2, .int (nI (a6.1 0))), (0, .ref h0), (1, .int (nI s0))] [0, 1, 2] rfl ?_
    refine V_ws [(h0, oC 13 [.ref h1, .ref h2, .int p2, .ref h3, .ref h4, .int (nI k5), .int (nI k6), .int p7, .int p8, .int p9, .int (nI k10), .int p11, .long q12, .ref h5, .ref h6, .int (nI k15), .int (nI k16)]), (h1, aI Y 3640 (a6.2.2.2.1 0)), (h2, aZ Y 2 f1), (h3, aZ Y 80 f3), (h4, aB Y 1600 f4), (h5, aI Y 200 f13), (h6, aI Y 800 f14)] rfl ?_
    obtain ⟨x9, x10, x11, x12⟩ := hI8
    have x13 : (gN (a6.2.2.2.1 0) 3) ≤ 80 := gN_le x9 (by omega) (show bd 3 = (0, ((80 : Nat) : Int)) by decide +kernel)
    refine V_iload_n 15 B dX12_remove_15 0 rfl ?_
    refine V_aload_n 16 B dX12_remove_16 1 rfl ?_
    refine V_get 17 B gf_RX12_9 0 rfl rfl dX12_remove_17 ?_
    refine V_iconst 20 B (v := 3) dX12_remove_20 (by decide +kernel) ?_
    have x14 : (gN (a6.2.2.2.1 0) 3) ≤ 80 := gN_le x9 (by omega) (show bd 3 = (0, ((80 : Nat) : Int)) by decide +kernel)
    refine V_iald 21 B (v := (nI ((gN (a6.2.2.2.1 0) 3)))) 1 rfl (vpin _ _ (by decide +kernel)) dX12_remove_21 (by show (a6.2.2.2.1 0) 3 = _; exact gN_eq x9 (by omega) (show bd 3 = (0, ((80 : Nat) : Int)) by decide +kernel)) ?_
    refine V_csi 22 B (st := [.int (nI (a6.1 0))]) (As := [.int (nI ((gN (a6.2.2.2.1 0) 3)))]) (fun sz => rX12_bindingAt l D Y (gN (a6.2.2.2.1 0) 3) (by omega) sz) glS_RX12_79 ⟨rfl, rfl⟩ ⟨(Nat.le_of_ble_eq_true rfl), (Nat.le_of_ble_eq_true rfl)⟩ ⟨(Nat.le_of_ble_eq_true rfl), (Nat.le_of_ble_eq_true rfl)⟩ [] rfl rfl (Nat.le_of_ble_eq_true rfl) rfl (fun _ _ _ => rfl) dX12_remove_22 (fun j15 u16 w17 => ?_)
    refine V_ws [(h0, oC 13 [.ref h1, .ref h2, .int p2, .ref h3, .ref h4, .int (nI k5), .int (nI k6), .int p7, .int p8, .int p9, .int (nI k10), .int p11, .long q12, .ref h5, .ref h6, .int (nI k15), .int (nI k16)]), (h1, aI Y 3640 (a6.2.2.2.1 0)), (h2, aZ Y 2 f1), (h3, aZ Y 80 f3), (h4, aB Y 1600 f4), (h5, aI Y 200 f13), (h6, aI Y 800 f14)] rfl ?_
    have x18 := w17
    clear w17
    obtain rfl := x18
    refine V_icmp_ge 25 B 49 dX12_remove_25 (by decide) (fun kk19 => ?_) (fun kk19 => ?_)
    ·
      have x20 := n_le (a := 184 + 7 * (gN (a6.2.2.2.1 0) 3)) (b := (a6.1 0)) kk19 (by omega) (by omega)
      exact V_vret 49 B dX12_remove_49 (mkW [] [] [] [(a6.2.2.2.1 0)] [] []) ⟨x9, x11⟩ rfl
    ·
      have x21 := n_nle (a := 184 + 7 * (gN (a6.2.2.2.1 0) 3)) (b := (a6.1 0)) kk19 (by omega) (by omega)
      refine V_aload_n 28 B dX12_remove_28 1 rfl ?_
      refine V_get 29 B gf_RX12_9 0 rfl rfl dX12_remove_29 ?_
      refine V_iload_n 32 B dX12_remove_32 0 rfl ?_
      refine V_aload_n 33 B dX12_remove_33 1 rfl ?_
      refine V_get 34 B gf_RX12_9 0 rfl rfl dX12_remove_34 ?_
      refine V_iload_n 37 B dX12_remove_37 0 rfl ?_
      refine V_bipush 38 B (v := 7) dX12_remove_38 (by decide +kernel) ?_
      refine V_iadd 40 B (v := (nI (7 + (a6.1 0)))) dX12_remove_40 (nI_addE (a := (a6.1 0)) (b := 7) (by omega)) ?_
      refine V_iald 41 B (v := (a6.2.2.2.1 0) (7 + (a6.1 0))) 1 rfl (vp_in_nI (n := 7 + (a6.1 0)) (by omega) (by decide)) dX12_remove_41 (by rw [nI_clamp (show 7 + (a6.1 0) < 2 ^ 31 by omega)]) ?_
      refine V_nmi (fun j22 e23 => ?_)
      have hv24 : INV ph (upd (a6.2.2.2.1 0) (a6.1 0) j22) := (by rw [e23]; exact INV_sh x9 (by omega) (by omega))
      refine V_iast 42 B 1 rfl (vp_in_nI (n := (a6.1 0)) (by omega) (by decide)) dX12_remove_42 [(h0, oC 13 [.ref h1, .ref h2, .int p2, .ref h3, .ref h4, .int (nI k5), .int (nI k6), .int p7, .int p8, .int p9, .int (nI k10), .int p11, .long q12, .ref h5, .ref h6, .int (nI k15), .int (nI k16)]), (h1, aI Y 3640 (upd (a6.2.2.2.1 0) (a6.1 0) j22)), (h2, aZ Y 2 f1), (h3, aZ Y 80 f3), (h4, aB Y 1600 f4), (h5, aI Y 200 f13), (h6, aI Y 800 f14)] (by rw [nI_clamp (show (a6.1 0) < 2 ^ 31 by omega)]; rfl) ?_
      refine V_iinc 43 B (v := (nI (1 + (a6.1 0)))) (lv2 := [(2, .int (nI (1 + (a6.1 0)))), (0, .ref h0), (1, .int (nI s0))]) dX12_remove_43 0 rfl (nI_addE (a := (a6.1 0)) (b := 1) (by omega)) (by decide) rfl ?_
      refine V_goto 46 B 15 dX12_remove_46 (by decide) ?_
      refine V_lv [(2, .int (nI (1 + (a6.1 0)))), (0, .ref h0), (1, .int (nI s0))] [0, 1, 2] rfl ?_
      exact IH7 (mkW [1 + (a6.1 0)] [] [] [(upd (a6.2.2.2.1 0) (a6.1 0) j22)] [] []) ⟨hv24, (show 1 + (a6.1 0) ≤ 4000 by omega), ((gN_ne (by omega)).trans x11), (show 184 ≤ 1 + (a6.1 0) by omega)⟩ (by show 100000 - (1 + (a6.1 0)) < 100000 - (a6.1 0); omega))
theorem dX12_clashCount_0 : decode cX12_clashCount 0 = .ok (.iconst 0, 1) := by decide +kernel
theorem dX12_clashCount_1 : decode cX12_clashCount 1 = .ok (.istore_n 3, 1) := by decide +kernel
theorem dX12_clashCount_2 : decode cX12_clashCount 2 = .ok (.iconst 0, 1) := by decide +kernel
theorem dX12_clashCount_3 : decode cX12_clashCount 3 = .ok (.istore 4, 2) := by decide +kernel
theorem dX12_clashCount_5 : decode cX12_clashCount 5 = .ok (.iload 4, 2) := by decide +kernel
theorem dX12_clashCount_7 : decode cX12_clashCount 7 = .ok (.aload_n 0, 1) := by decide +kernel
theorem dX12_clashCount_8 : decode cX12_clashCount 8 = .ok (.getfield 9, 3) := by decide +kernel
theorem dX12_clashCount_11 : decode cX12_clashCount 11 = .ok (.iconst 3, 1) := by decide +kernel
theorem dX12_clashCount_12 : decode cX12_clashCount 12 = .ok (.iaload, 1) := by decide +kernel
theorem dX12_clashCount_13 : decode cX12_clashCount 13 = .ok (.if_icmp .ge 40, 3) := by decide +kernel
theorem dX12_clashCount_53 : decode cX12_clashCount 53 = .ok (.iload_n 3, 1) := by decide +kernel
theorem dX12_clashCount_54 : decode cX12_clashCount 54 = .ok (.ireturn, 1) := by decide +kernel
theorem dX12_clashCount_16 : decode cX12_clashCount 16 = .ok (.iload_n 3, 1) := by decide +kernel
theorem dX12_clashCount_17 : decode cX12_clashCount 17 = .ok (.aload_n 0, 1) := by decide +kernel
theorem dX12_clashCount_18 : decode cX12_clashCount 18 = .ok (.iload 4, 2) := by decide +kernel
theorem dX12_clashCount_20 : decode cX12_clashCount 20 = .ok (.invokevirtual 115, 3) := by decide +kernel
theorem dX12_clashCount_23 : decode cX12_clashCount 23 = .ok (.iload_n 1, 1) := by decide +kernel
theorem dX12_clashCount_24 : decode cX12_clashCount 24 = .ok (.if_icmp .ne 20, 3) := by decide +kernel
theorem dX12_clashCount_44 : decode cX12_clashCount 44 = .ok (.iconst 0, 1) := by decide +kernel
theorem dX12_clashCount_45 : decode cX12_clashCount 45 = .ok (.iadd, 1) := by decide +kernel
theorem dX12_clashCount_46 : decode cX12_clashCount 46 = .ok (.istore_n 3, 1) := by decide +kernel
theorem dX12_clashCount_47 : decode cX12_clashCount 47 = .ok (.iinc 4 1, 3) := by decide +kernel
theorem dX12_clashCount_50 : decode cX12_clashCount 50 = .ok (.goto (-45), 3) := by decide +kernel
theorem dX12_clashCount_27 : decode cX12_clashCount 27 = .ok (.aload_n 0, 1) := by decide +kernel
theorem dX12_clashCount_28 : decode cX12_clashCount 28 = .ok (.iload 4, 2) := by decide +kernel
theorem dX12_clashCount_30 : decode cX12_clashCount 30 = .ok (.invokestatic 85, 3) := by decide +kernel
theorem dX12_clashCount_33 : decode cX12_clashCount 33 = .ok (.iload_n 2, 1) := by decide +kernel
theorem dX12_clashCount_34 : decode cX12_clashCount 34 = .ok (.invokevirtual 111, 3) := by decide +kernel
theorem dX12_clashCount_37 : decode cX12_clashCount 37 = .ok (.ifCond .eq 7, 3) := by decide +kernel
theorem dX12_clashCount_40 : decode cX12_clashCount 40 = .ok (.iconst 1, 1) := by decide +kernel
theorem dX12_clashCount_41 : decode cX12_clashCount 41 = .ok (.goto 4, 3) := by decide +kernel
set_option maxRecDepth 100000 in
set_option maxHeartbeats 4000000 in
theorem rX12_clashCount (l : Launch) (D : va_G) (Y : Nat → ClassId) (h0 : Nat) (h1 : Nat) (h2 : Nat) (h3 : Nat) (h4 : Nat) (h5 : Nat) (h6 : Nat) (p2 : Int32) (k5 : Nat) (k6 : Nat) (p7 : Int32) (p8 : Int32) (p9 : Int32) (k10 : Nat) (p11 : Int32) (q12 : Int64) (k15 : Nat) (k16 : Nat) (f0 : Nat → Int32) (f1 : Nat → Int32) (f3 : Nat → Int32) (f4 : Nat → Int32) (f13 : Nat → Int32) (f14 : Nat → Int32) (ph : Nat → Int32) (HI : INV ph f0) (HL : k5 ≤ 1600) (HP : PLV f13) (s0 : Int32) (s1 : Nat) (hs1 : SQ s1) (sz : Nat) : Met l yX12_clashCount (WSm yX12_clashCount cX12_clashCount 5 (some .int)) (mkR 3 0 0 66) (PreC D Y [.ref h0, .int s0, .int (nI s1)] [(h0, oC 13 [.ref h1, .ref h2, .int p2, .ref h3, .ref h4, .int (nI k5), .int (nI k6), .int p7, .int p8, .int p9, .int (nI k10), .int p11, .long q12, .ref h5, .ref h6, .int (nI k15), .int (nI k16)]), (h1, aI Y 3640 f0), (h2, aZ Y 2 f1), (h3, aZ Y 80 f3), (h4, aB Y 1600 f4), (h5, aI Y 200 f13), (h6, aI Y 800 f14)] sz) (QI D (fun (r : Int32) (u : WU) => (r = 0 ∨ ∃ b : Nat, b < gN f0 3 ∧ CL f0 s0 b s1)) (fun (u : WU) => [(h0, oC 13 [.ref h1, .ref h2, .int p2, .ref h3, .ref h4, .int (nI k5), .int (nI k6), .int p7, .int p8, .int p9, .int (nI k10), .int p11, .long q12, .ref h5, .ref h6, .int (nI k15), .int (nI k16)]), (h1, aI Y 3640 f0), (h2, aZ Y 2 f1), (h3, aZ Y 80 f3), (h4, aB Y 1600 f4), (h5, aI Y 200 f13), (h6, aI Y 800 f14)]) (va_A [(h0, oC 13 [.ref h1, .ref h2, .int p2, .ref h3, .ref h4, .int (nI k5), .int (nI k6), .int p7, .int p8, .int p9, .int (nI k10), .int p11, .long q12, .ref h5, .ref h6, .int (nI k15), .int (nI k16)]), (h1, aI Y 3640 f0), (h2, aZ Y 2 f1), (h3, aZ Y 80 f3), (h4, aB Y 1600 f4), (h5, aI Y 200 f13), (h6, aI Y 800 f14)] sz)) 0 0 (va_A [(h0, oC 13 [.ref h1, .ref h2, .int p2, .ref h3, .ref h4, .int (nI k5), .int (nI k6), .int p7, .int p8, .int p9, .int (nI k10), .int p11, .long q12, .ref h5, .ref h6, .int (nI k15), .int (nI k16)]), (h1, aI Y 3640 f0), (h2, aZ Y 2 f1), (h3, aZ Y 80 f3), (h4, aB Y 1600 f4), (h5, aI Y 200 f13), (h6, aI Y 800 f14)] sz) :=
  met_of  (by decide +kernel) (Nat.le_of_ble_eq_true rfl) (fun p e s m args below meth c B hin hsz => by
    have B : VB p s m args meth c D Y (va_A [(h0, oC 13 [.ref h1, .ref h2, .int p2, .ref h3, .ref h4, .int (nI k5), .int (nI k6), .int p7, .int p8, .int p9, .int (nI k10), .int p11, .long q12, .ref h5, .ref h6, .int (nI k15), .int (nI k16)]), (h1, aI Y 3640 f0), (h2, aZ Y 2 f1), (h3, aZ Y 80 f3), (h4, aB Y 1600 f4), (h5, aI Y 200 f13), (h6, aI Y 800 f14)] sz) cX12_clashCount 5 RX12 (some .int) := B
    have hq_s1 := hs1.1
    refine V_iconst 0 B (v := 0) dX12_clashCount_0 (by decide +kernel) ?_
    refine V_istore_n 1 B (lv2 := [(3, .int 0), (0, .ref h0), (1, .int s0), (2, .int (nI s1))]) dX12_clashCount_1 (by decide) rfl ?_
    refine V_iconst 2 B (v := 0) dX12_clashCount_2 (by decide +kernel) ?_
    refine V_istore 3 B (lv2 := [(4, .int 0), (3, .int 0), (0, .ref h0), (1, .int s0), (2, .int (nI s1))]) dX12_clashCount_3 (by decide) rfl ?_
    refine V_wloop (α := WU) (fun a => 100000 - (a.1 0)) (fun a => (a.1 0) ≤ 4000 ∧ ((a.2.1 0) = 0 ∨ ∃ b : Nat, b < gN f0 3 ∧ CL f0 s0 b s1)) (fun a => [(4, .int (nI (a.1 0))), (3, .int (a.2.1 0)), (0, .ref h0), (1, .int s0), (2, .int (nI s1))]) (fun a => [(h0, oC 13 [.ref h1, .ref h2, .int p2, .ref h3, .ref h4, .int (nI k5), .int (nI k6), .int p7, .int p8, .int p9, .int (nI k10), .int p11, .long q12, .ref h5, .ref h6, .int (nI k15), .int (nI k16)]), (h1, aI Y 3640 f0), (h2, aZ Y 2 f1), (h3, aZ Y 80 f3), (h4, aB Y 1600 f4), (h5, aI Y 200 f13), (h6, aI Y 800 f14)]) (mkW [0] [0] [] [] [] []) ⟨(show 0 ≤ 4000 by omega), (Or.inl rfl)⟩ rfl rfl (fun a0 hI2 IH1 => ?_)
    refine V_lv [(4, .int (nI (a0.1 0))), (3, .int (a0.2.1 0)), (0, .ref h0), (1, .int s0), (2, .int (nI s1))] [0, 1, 2, 3, 4] rfl ?_
    refine V_ws [(h0, oC 13 [.ref h1, .ref h2, .int p2, .ref h3, .ref h4, .int (nI k5), .int (nI k6), .int p7, .int p8, .int p9, .int (nI k10), .int p11, .long q12, .ref h5, .ref h6, .int (nI k15), .int (nI k16)]), (h1, aI Y 3640 f0), (h2, aZ Y 2 f1), (h3, aZ Y 80 f3), (h4, aB Y 1600 f4), (h5, aI Y 200 f13), (h6, aI Y 800 f14)] rfl ?_
    obtain ⟨x3, x4⟩ := hI2
    refine V_iload 5 B dX12_clashCount_5 0 rfl ?_
    refine V_aload_n 7 B dX12_clashCount_7 2 rfl ?_
    refine V_get 8 B gf_RX12_9 0 rfl rfl dX12_clashCount_8 ?_
    refine V_iconst 11 B (v := 3) dX12_clashCount_11 (by decide +kernel) ?_
    have x5 : (gN f0 3) ≤ 80 := gN_le HI (by omega) (show bd 3 = (0, ((80 : Nat) : Int)) by decide +kernel)
    refine V_iald 12 B (v := (nI (gN f0 3))) 1 rfl (vpin _ _ (by decide +kernel)) dX12_clashCount_12 (by show f0 3 = _; exact gN_eq HI (by omega) (show bd 3 = (0, ((80 : Nat) : Int)) by decide +kernel)) ?_
    refine V_icmp_ge 13 B 53 dX12_clashCount_13 (by decide) (fun kk6 => ?_) (fun kk6 => ?_)
    ·
      have x7 := n_le (a := (gN f0 3)) (b := (a0.1 0)) kk6 (by omega) (by omega)
      refine V_iload_n 53 B dX12_clashCount_53 1 rfl ?_
      exact V_iret 54 B dX12_clashCount_54 (mkW [] [] [] [] [] []) x4 rfl
    ·
      have x8 := n_nle (a := (gN f0 3)) (b := (a0.1 0)) kk6 (by omega) (by omega)
      refine V_iload_n 16 B dX12_clashCount_16 1 rfl ?_
      refine V_aload_n 17 B dX12_clashCount_17 2 rfl ?_
      refine V_iload 18 B dX12_clashCount_18 0 rfl ?_
      refine V_cvi 20 B (st := [.int (a0.2.1 0)]) (As := [.int (nI (a0.1 0))]) (fun sz => rX12_modeOf l D Y h0 h1 h2 h3 h4 h5 h6 p2 k5 k6 p7 p8 p9 k10 p11 q12 k15 k16 f0 f1 f3 f4 f13 f14 ph HI (by omega) HP (a0.1 0) (by omega) sz) glV_RX12_115 ⟨rfl, rfl⟩ ⟨(Nat.le_of_ble_eq_true rfl), (Nat.le_of_ble_eq_true rfl)⟩ ⟨(Nat.le_of_ble_eq_true rfl), (Nat.le_of_ble_eq_true rfl)⟩ [0, 0, 0, 0, 0, 0, 0] rfl 13 0 rfl rfl rfl rfl (Nat.le_of_ble_eq_true rfl) rfl (fun _ _ _ => rfl) dX12_clashCount_20 (fun j9 u10 w11 => ?_)
      refine V_ws [(h0, oC 13 [.ref h1, .ref h2, .int p2, .ref h3, .ref h4, .int (nI k5), .int (nI k6), .int p7, .int p8, .int p9, .int (nI k10), .int p11, .long q12, .ref h5, .ref h6, .int (nI k15), .int (nI k16)]), (h1, aI Y 3640 f0), (h2, aZ Y 2 f1), (h3, aZ Y 80 f3), (h4, aB Y 1600 f4), (h5, aI Y 200 f13), (h6, aI Y 800 f14)] rfl ?_
      have x12 := w11
      clear w11
      refine V_iload_n 23 B dX12_clashCount_23 3 rfl ?_
      refine V_icmp_ne 24 B 44 dX12_clashCount_24 (by decide) (fun kk13 => ?_) (fun kk13 => ?_)
      ·
        have x14 := x_ne kk13
        refine V_iconst 44 B (v := 0) dX12_clashCount_44 (by decide +kernel) ?_
        refine V_iadd 45 B (v := (a0.2.1 0)) dX12_clashCount_45 (Int32.add_zero _) ?_
        refine V_istore_n 46 B (lv2 := [(3, .int (a0.2.1 0)), (4, .int (nI (a0.1 0))), (0, .ref h0), (1, .int s0), (2, .int (nI s1))]) dX12_clashCount_46 (by decide) rfl ?_
        refine V_iinc 47 B (v := (nI (1 + (a0.1 0)))) (lv2 := [(4, .int (nI (1 + (a0.1 0)))), (3, .int (a0.2.1 0)), (0, .ref h0), (1, .int s0), (2, .int (nI s1))]) dX12_clashCount_47 1 rfl (nI_addE (a := (a0.1 0)) (b := 1) (by omega)) (by decide) rfl ?_
        refine V_goto 50 B 5 dX12_clashCount_50 (by decide) ?_
        refine V_lv [(4, .int (nI (1 + (a0.1 0)))), (3, .int (a0.2.1 0)), (0, .ref h0), (1, .int s0), (2, .int (nI s1))] [0, 1, 2, 3, 4] rfl ?_
        exact IH1 (mkW [1 + (a0.1 0)] [(a0.2.1 0)] [] [] [] []) ⟨(show 1 + (a0.1 0) ≤ 4000 by omega), x4⟩ (by show 100000 - (1 + (a0.1 0)) < 100000 - (a0.1 0); omega)
      ·
        have x15 := x_eq kk13
        refine V_aload_n 27 B dX12_clashCount_27 2 rfl ?_
        refine V_iload 28 B dX12_clashCount_28 0 rfl ?_
        refine V_csi 30 B (st := [.ref h0, .int (a0.2.1 0)]) (As := [.int (nI (a0.1 0))]) (fun sz => rX12_sequenceOf l D Y (a0.1 0) (by omega) sz) glS_RX12_85 ⟨rfl, rfl⟩ ⟨(Nat.le_of_ble_eq_true rfl), (Nat.le_of_ble_eq_true rfl)⟩ ⟨(Nat.le_of_ble_eq_true rfl), (Nat.le_of_ble_eq_true rfl)⟩ [] rfl rfl (Nat.le_of_ble_eq_true rfl) rfl (fun _ _ _ => rfl) dX12_clashCount_30 (fun j16 u17 w18 => ?_)
        refine V_ws [(h0, oC 13 [.ref h1, .ref h2, .int p2, .ref h3, .ref h4, .int (nI k5), .int (nI k6), .int p7, .int p8, .int p9, .int (nI k10), .int p11, .long q12, .ref h5, .ref h6, .int (nI k15), .int (nI k16)]), (h1, aI Y 3640 f0), (h2, aZ Y 2 f1), (h3, aZ Y 80 f3), (h4, aB Y 1600 f4), (h5, aI Y 200 f13), (h6, aI Y 800 f14)] rfl ?_
        have x19 := w18
        clear w18
        obtain rfl := x19
        refine V_iload_n 33 B dX12_clashCount_33 4 rfl ?_
        refine V_cvi 34 B (st := [.int (a0.2.1 0)]) (As := [.int (nI (186 + 7 * (a0.1 0))), .int (nI s1)]) (fun sz => rX12_doClash l D Y h0 h1 h2 h3 h4 h5 h6 p2 k5 k6 p7 p8 p9 k10 p11 q12 k15 k16 f0 f1 f3 f4 f13 f14 ph HI (by omega) HP (186 + 7 * (a0.1 0)) s1 (rl5 (a0.1 0) (by omega)) hs1 sz) glV_RX12_111 ⟨rfl, rfl⟩ ⟨(Nat.le_of_ble_eq_true rfl), (Nat.le_of_ble_eq_true rfl)⟩ ⟨(Nat.le_of_ble_eq_true rfl), (Nat.le_of_ble_eq_true rfl)⟩ [0, 0, 0, 0, 0, 0, 0] rfl 13 0 rfl rfl rfl rfl (Nat.le_of_ble_eq_true rfl) rfl (fun _ _ _ => rfl) dX12_clashCount_34 (fun j20 u21 w22 => ?_)
        refine V_ws [(h0, oC 13 [.ref h1, .ref h2, .int p2, .ref h3, .ref h4, .int (nI k5), .int (nI k6), .int p7, .int p8, .int p9, .int (nI k10), .int p11, .long q12, .ref h5, .ref h6, .int (nI k15), .int (nI k16)]), (h1, aI Y 3640 f0), (h2, aZ Y 2 f1), (h3, aZ Y 80 f3), (h4, aB Y 1600 f4), (h5, aI Y 200 f13), (h6, aI Y 800 f14)] rfl ?_
        have x23 := w22
        clear w22
        rcases x23 with ⟨rfl, x24⟩ | ⟨rfl, x24⟩
        ·
          refine V_if_eq_t 37 B 44 dX12_clashCount_37 (by decide) (by decide +kernel) ?_
          refine V_iconst 44 B (v := 0) dX12_clashCount_44 (by decide +kernel) ?_
          refine V_iadd 45 B (v := (a0.2.1 0)) dX12_clashCount_45 (Int32.add_zero _) ?_
          refine V_istore_n 46 B (lv2 := [(3, .int (a0.2.1 0)), (4, .int (nI (a0.1 0))), (0, .ref h0), (1, .int s0), (2, .int (nI s1))]) dX12_clashCount_46 (by decide) rfl ?_
          refine V_iinc 47 B (v := (nI (1 + (a0.1 0)))) (lv2 := [(4, .int (nI (1 + (a0.1 0)))), (3, .int (a0.2.1 0)), (0, .ref h0), (1, .int s0), (2, .int (nI s1))]) dX12_clashCount_47 1 rfl (nI_addE (a := (a0.1 0)) (b := 1) (by omega)) (by decide) rfl ?_
          refine V_goto 50 B 5 dX12_clashCount_50 (by decide) ?_
          refine V_lv [(4, .int (nI (1 + (a0.1 0)))), (3, .int (a0.2.1 0)), (0, .ref h0), (1, .int s0), (2, .int (nI s1))] [0, 1, 2, 3, 4] rfl ?_
          exact IH1 (mkW [1 + (a0.1 0)] [(a0.2.1 0)] [] [] [] []) ⟨(show 1 + (a0.1 0) ≤ 4000 by omega), x4⟩ (by show 100000 - (1 + (a0.1 0)) < 100000 - (a0.1 0); omega)
        ·
          refine V_if_eq_f 37 B 44 dX12_clashCount_37 (by decide) (by decide +kernel) ?_
          refine V_iconst 40 B (v := 1) dX12_clashCount_40 (by decide +kernel) ?_
          refine V_goto 41 B 45 dX12_clashCount_41 (by decide) ?_
          refine V_iadd 45 B dX12_clashCount_45 rfl ?_
          refine V_nmi (fun j25 e26 => ?_)
          refine V_istore_n 46 B (lv2 := [(3, .int j25), (4, .int (nI (a0.1 0))), (0, .ref h0), (1, .int s0), (2, .int (nI s1))]) dX12_clashCount_46 (by decide) rfl ?_
          refine V_iinc 47 B (v := (nI (1 + (a0.1 0)))) (lv2 := [(4, .int (nI (1 + (a0.1 0)))), (3, .int j25), (0, .ref h0), (1, .int s0), (2, .int (nI s1))]) dX12_clashCount_47 1 rfl (nI_addE (a := (a0.1 0)) (b := 1) (by omega)) (by decide) rfl ?_
          refine V_goto 50 B 5 dX12_clashCount_50 (by decide) ?_
          refine V_lv [(4, .int (nI (1 + (a0.1 0)))), (3, .int j25), (0, .ref h0), (1, .int s0), (2, .int (nI s1))] [0, 1, 2, 3, 4] rfl ?_
          exact IH1 (mkW [1 + (a0.1 0)] [j25] [] [] [] []) ⟨(show 1 + (a0.1 0) ≤ 4000 by omega), (Or.inr ⟨(a0.1 0), by omega, Or.inr (by rw [← x12]; exact kk13), x24⟩)⟩ (by show 100000 - (1 + (a0.1 0)) < 100000 - (a0.1 0); omega))
theorem dX12_forced_0 : decode cX12_forced 0 = .ok (.aload_n 0, 1) := by decide +kernel
theorem dX12_forced_1 : decode cX12_forced 1 = .ok (.iload_n 3, 1) := by decide +kernel
theorem dX12_forced_2 : decode cX12_forced 2 = .ok (.invokevirtual 118, 3) := by decide +kernel
theorem dX12_forced_5 : decode cX12_forced 5 = .ok (.ifCond .eq 7, 3) := by decide +kernel
theorem dX12_forced_12 : decode cX12_forced 12 = .ok (.aload_n 0, 1) := by decide +kernel
theorem dX12_forced_13 : decode cX12_forced 13 = .ok (.iload_n 1, 1) := by decide +kernel
theorem dX12_forced_14 : decode cX12_forced 14 = .ok (.iload_n 3, 1) := by decide +kernel
theorem dX12_forced_15 : decode cX12_forced 15 = .ok (.invokevirtual 139, 3) := by decide +kernel
theorem glV_RX12_139 : GLV RX12 139 yX12_clashCount RX12 cX12_clashCount 5 (some .int) 2 := ⟨⟨(mT8 124 rfl rfl), (mT8 126 rfl rfl), (mTs 49 rfl rfl), (mT1 13 rfl rfl), (mT8 127 rfl rfl)⟩, by decide +kernel⟩
theorem dX12_forced_18 : decode cX12_forced 18 = .ok (.istore 4, 2) := by decide +kernel
theorem dX12_forced_20 : decode cX12_forced 20 = .ok (.aload_n 0, 1) := by decide +kernel
theorem dX12_forced_21 : decode cX12_forced 21 = .ok (.getfield 9, 3) := by decide +kernel
theorem dX12_forced_24 : decode cX12_forced 24 = .ok (.iconst 3, 1) := by decide +kernel
theorem dX12_forced_25 : decode cX12_forced 25 = .ok (.iaload, 1) := by decide +kernel
theorem dX12_forced_26 : decode cX12_forced 26 = .ok (.iload 4, 2) := by decide +kernel
theorem dX12_forced_28 : decode cX12_forced 28 = .ok (.isub, 1) := by decide +kernel
theorem dX12_forced_29 : decode cX12_forced 29 = .ok (.bipush 80, 2) := by decide +kernel
theorem dX12_forced_31 : decode cX12_forced 31 = .ok (.if_icmp .ne 6, 3) := by decide +kernel
theorem dX12_forced_37 : decode cX12_forced 37 = .ok (.aload_n 0, 1) := by decide +kernel
theorem dX12_forced_38 : decode cX12_forced 38 = .ok (.iload_n 1, 1) := by decide +kernel
theorem dX12_forced_39 : decode cX12_forced 39 = .ok (.iload_n 3, 1) := by decide +kernel
theorem dX12_forced_40 : decode cX12_forced 40 = .ok (.iconst (-1), 1) := by decide +kernel
theorem dX12_forced_41 : decode cX12_forced 41 = .ok (.invokevirtual 121, 3) := by decide +kernel
theorem dX12_forced_44 : decode cX12_forced 44 = .ok (.istore 5, 2) := by decide +kernel
theorem dX12_forced_46 : decode cX12_forced 46 = .ok (.iload 5, 2) := by decide +kernel
theorem dX12_forced_48 : decode cX12_forced 48 = .ok (.iconst (-1), 1) := by decide +kernel
theorem dX12_forced_49 : decode cX12_forced 49 = .ok (.if_icmp .eq 21, 3) := by decide +kernel
theorem dX12_forced_70 : decode cX12_forced 70 = .ok (.aload_n 0, 1) := by decide +kernel
theorem dX12_forced_71 : decode cX12_forced 71 = .ok (.iload_n 1, 1) := by decide +kernel
theorem dX12_forced_72 : decode cX12_forced 72 = .ok (.iload_n 2, 1) := by decide +kernel
theorem dX12_forced_73 : decode cX12_forced 73 = .ok (.iload_n 3, 1) := by decide +kernel
theorem dX12_forced_74 : decode cX12_forced 74 = .ok (.invokevirtual 132, 3) := by decide +kernel
theorem dX12_forced_77 : decode cX12_forced 77 = .ok (.iload 4, 2) := by decide +kernel
theorem dX12_forced_79 : decode cX12_forced 79 = .ok (.ireturn, 1) := by decide +kernel
theorem dX12_forced_52 : decode cX12_forced 52 = .ok (.aload_n 0, 1) := by decide +kernel
theorem dX12_forced_53 : decode cX12_forced 53 = .ok (.iload 5, 2) := by decide +kernel
theorem dX12_forced_55 : decode cX12_forced 55 = .ok (.invokevirtual 142, 3) := by decide +kernel
theorem glV_RX12_142 : GLV RX12 142 yX12_remove RX12 cX12_remove 3 none 1 := ⟨⟨(mT8 128 rfl rfl), (mT8 130 rfl rfl), (mTs 50 rfl rfl), (mT1 13 rfl rfl), (mT8 131 rfl rfl)⟩, by decide +kernel⟩
theorem dX12_forced_58 : decode cX12_forced 58 = .ok (.aload_n 0, 1) := by decide +kernel
theorem dX12_forced_59 : decode cX12_forced 59 = .ok (.iload_n 1, 1) := by decide +kernel
theorem dX12_forced_60 : decode cX12_forced 60 = .ok (.iload_n 3, 1) := by decide +kernel
theorem dX12_forced_61 : decode cX12_forced 61 = .ok (.iconst (-1), 1) := by decide +kernel
theorem dX12_forced_62 : decode cX12_forced 62 = .ok (.invokevirtual 121, 3) := by decide +kernel
theorem dX12_forced_65 : decode cX12_forced 65 = .ok (.istore 5, 2) := by decide +kernel
theorem dX12_forced_67 : decode cX12_forced 67 = .ok (.goto (-21), 3) := by decide +kernel
theorem dX12_forced_34 : decode cX12_forced 34 = .ok (.bipush (-2), 2) := by decide +kernel
theorem dX12_forced_36 : decode cX12_forced 36 = .ok (.ireturn, 1) := by decide +kernel
theorem dX12_forced_8 : decode cX12_forced 8 = .ok (.sipush (-1000), 3) := by decide +kernel
theorem dX12_forced_11 : decode cX12_forced 11 = .ok (.ireturn, 1) := by decide +kernel
set_option maxRecDepth 100000 in
set_option maxHeartbeats 4000000 in
theorem rX12_forced (l : Launch) (D : va_G) (Y : Nat → ClassId) (h0 : Nat) (h1 : Nat) (h2 : Nat) (h3 : Nat) (h4 : Nat) (h5 : Nat) (h6 : Nat) (p2 : Int32) (k5 : Nat) (k6 : Nat) (p7 : Int32) (p8 : Int32) (p9 : Int32) (k10 : Nat) (p11 : Int32) (q12 : Int64) (k15 : Nat) (k16 : Nat) (f0 : Nat → Int32) (f1 : Nat → Int32) (f3 : Nat → Int32) (f4 : Nat → Int32) (f13 : Nat → Int32) (f14 : Nat → Int32) (ph : Nat → Int32) (HI : INV ph f0) (HL : k5 ≤ 1600) (HP : PLV f13) (s0 : Int32) (s1 : Nat) (s2 : Nat) (hn1 : s1 < 40) (hs2 : SQ s2) (sz : Nat) : Met l yX12_forced (WSm yX12_forced cX12_forced 6 (some .int)) (mkR 4 0 0 90) (PreC D Y [.ref h0, .int s0, .int (nI s1), .int (nI s2)] [(h0, oC 13 [.ref h1, .ref h2, .int p2, .ref h3, .ref h4, .int (nI k5), .int (nI k6), .int p7, .int p8, .int p9, .int (nI k10), .int p11, .long q12, .ref h5, .ref h6, .int (nI k15), .int (nI k16)]), (h1, aI Y 3640 f0), (h2, aZ Y 2 f1), (h3, aZ Y 80 f3), (h4, aB Y 1600 f4), (h5, aI Y 200 f13), (h6, aI Y 800 f14)] sz) (QI D (fun (r : Int32) (u : WU) => INV ph (u.2.2.2.1 0)) (fun (u : WU) => [(h0, oC 13 [.ref h1, .ref h2, .int p2, .ref h3, .ref h4, .int (nI k5), .int (nI k6), .int p7, .int p8, .int p9, .int (nI k10), .int p11, .long q12, .ref h5, .ref h6, .int (nI k15), .int (nI k16)]), (h1, aI Y 3640 (u.2.2.2.1 0)), (h2, aZ Y 2 f1), (h3, aZ Y 80 f3), (h4, aB Y 1600 f4), (h5, aI Y 200 f13), (h6, aI Y 800 f14)]) (va_A [(h0, oC 13 [.ref h1, .ref h2, .int p2, .ref h3, .ref h4, .int (nI k5), .int (nI k6), .int p7, .int p8, .int p9, .int (nI k10), .int p11, .long q12, .ref h5, .ref h6, .int (nI k15), .int (nI k16)]), (h1, aI Y 3640 f0), (h2, aZ Y 2 f1), (h3, aZ Y 80 f3), (h4, aB Y 1600 f4), (h5, aI Y 200 f13), (h6, aI Y 800 f14)] sz)) 0 0 (va_A [(h0, oC 13 [.ref h1, .ref h2, .int p2, .ref h3, .ref h4, .int (nI k5), .int (nI k6), .int p7, .int p8, .int p9, .int (nI k10), .int p11, .long q12, .ref h5, .ref h6, .int (nI k15), .int (nI k16)]), (h1, aI Y 3640 f0), (h2, aZ Y 2 f1), (h3, aZ Y 80 f3), (h4, aB Y 1600 f4), (h5, aI Y 200 f13), (h6, aI Y 800 f14)] sz) :=
  met_of  (by decide +kernel) (Nat.le_of_ble_eq_true rfl) (fun p e s m args below meth c B hin hsz => by
    have B : VB p s m args meth c D Y (va_A [(h0, oC 13 [.ref h1, .ref h2, .int p2, .ref h3, .ref h4, .int (nI k5), .int (nI k6), .int p7, .int p8, .int p9, .int (nI k10), .int p11, .long q12, .ref h5, .ref h6, .int (nI k15), .int (nI k16)]), (h1, aI Y 3640 f0), (h2, aZ Y 2 f1), (h3, aZ Y 80 f3), (h4, aB Y 1600 f4), (h5, aI Y 200 f13), (h6, aI Y 800 f14)] sz) cX12_forced 6 RX12 (some .int) := B
    have hq_s2 := hs2.1
    refine V_aload_n 0 B dX12_forced_0 0 rfl ?_
    refine V_iload_n 1 B dX12_forced_1 3 rfl ?_
    refine V_cvi 2 B (st := []) (As := [.int (nI s2)]) (fun sz => rX12_clashesReserved l D Y h0 h1 h2 h3 h4 h5 h6 p2 k5 k6 p7 p8 p9 k10 p11 q12 k15 k16 f0 f1 f3 f4 f13 f14 ph HI (by omega) HP s2 hs2 sz) glV_RX12_118 ⟨rfl, rfl⟩ ⟨(Nat.le_of_ble_eq_true rfl), (Nat.le_of_ble_eq_true rfl)⟩ ⟨(Nat.le_of_ble_eq_true rfl), (Nat.le_of_ble_eq_true rfl)⟩ [0, 0, 0, 0, 0, 0, 0] rfl 13 0 rfl rfl rfl rfl (Nat.le_of_ble_eq_true rfl) rfl (fun _ _ _ => rfl) dX12_forced_2 (fun j0 u1 w2 => ?_)
    refine V_ws [(h0, oC 13 [.ref h1, .ref h2, .int p2, .ref h3, .ref h4, .int (nI k5), .int (nI k6), .int p7, .int p8, .int p9, .int (nI k10), .int p11, .long q12, .ref h5, .ref h6, .int (nI k15), .int (nI k16)]), (h1, aI Y 3640 f0), (h2, aZ Y 2 f1), (h3, aZ Y 80 f3), (h4, aB Y 1600 f4), (h5, aI Y 200 f13), (h6, aI Y 800 f14)] rfl ?_
    have x3 := w2
    clear w2
    rcases x3 with rfl | rfl
    ·
      refine V_if_eq_t 5 B 12 dX12_forced_5 (by decide) (by decide +kernel) ?_
      refine V_aload_n 12 B dX12_forced_12 0 rfl ?_
      refine V_iload_n 13 B dX12_forced_13 1 rfl ?_
      refine V_iload_n 14 B dX12_forced_14 3 rfl ?_
      refine V_cvi 15 B (st := []) (As := [.int s0, .int (nI s2)]) (fun sz => rX12_clashCount l D Y h0 h1 h2 h3 h4 h5 h6 p2 k5 k6 p7 p8 p9 k10 p11 q12 k15 k16 f0 f1 f3 f4 f13 f14 ph HI (by omega) HP s0 s2 hs2 sz) glV_RX12_139 ⟨rfl, rfl⟩ ⟨(Nat.le_of_ble_eq_true rfl), (Nat.le_of_ble_eq_true rfl)⟩ ⟨(Nat.le_of_ble_eq_true rfl), (Nat.le_of_ble_eq_true rfl)⟩ [0, 0, 0, 0, 0, 0, 0] rfl 13 0 rfl rfl rfl rfl (Nat.le_of_ble_eq_true rfl) rfl (fun _ _ _ => rfl) dX12_forced_15 (fun j4 u5 w6 => ?_)
      refine V_ws [(h0, oC 13 [.ref h1, .ref h2, .int p2, .ref h3, .ref h4, .int (nI k5), .int (nI k6), .int p7, .int p8, .int p9, .int (nI k10), .int p11, .long q12, .ref h5, .ref h6, .int (nI k15), .int (nI k16)]), (h1, aI Y 3640 f0), (h2, aZ Y 2 f1), (h3, aZ Y 80 f3), (h4, aB Y 1600 f4), (h5, aI Y 200 f13), (h6, aI Y 800 f14)] rfl ?_
      have x7 := w6
      clear w6
      refine V_istore 18 B (lv2 := [(4, .int j4), (0, .ref h0), (1, .int s0), (2, .int (nI s1)), (3, .int (nI s2))]) dX12_forced_18 (by decide) rfl ?_
      refine V_aload_n 20 B dX12_forced_20 1 rfl ?_
      refine V_get 21 B gf_RX12_9 0 rfl rfl dX12_forced_21 ?_
      refine V_iconst 24 B (v := 3) dX12_forced_24 (by decide +kernel) ?_
      have x8 : (gN f0 3) ≤ 80 := gN_le HI (by omega) (show bd 3 = (0, ((80 : Nat) : Int)) by decide +kernel)
      refine V_iald 25 B (v := (nI (gN f0 3))) 1 rfl (vpin _ _ (by decide +kernel)) dX12_forced_25 (by show f0 3 = _; exact gN_eq HI (by omega) (show bd 3 = (0, ((80 : Nat) : Int)) by decide +kernel)) ?_
      refine V_iload 26 B dX12_forced_26 0 rfl ?_
      refine V_isub 28 B dX12_forced_28 rfl ?_
      refine V_nmi (fun j9 e10 => ?_)
      refine V_bipush 29 B (v := 80) dX12_forced_29 (by decide +kernel) ?_
      refine V_icmp_ne 31 B 37 dX12_forced_31 (by decide) (fun kk11 => ?_) (fun kk11 => ?_)
      ·
        have x12 := x_ne kk11
        rw [show (80 : Int32).toInt = 80 by decide +kernel] at x12
        refine V_aload_n 37 B dX12_forced_37 1 rfl ?_
        refine V_iload_n 38 B dX12_forced_38 2 rfl ?_
        refine V_iload_n 39 B dX12_forced_39 4 rfl ?_
        refine V_iconst 40 B (v := (-1)) dX12_forced_40 (by decide +kernel) ?_
        refine V_cvi 41 B (st := []) (As := [.int s0, .int (nI s2), .int (-1)]) (fun sz => rX12_clashIn l D Y h0 h1 h2 h3 h4 h5 h6 p2 k5 k6 p7 p8 p9 k10 p11 q12 k15 k16 f0 f1 f3 f4 f13 f14 ph HI (by omega) HP s0 s2 (-1) hs2 sz) glV_RX12_121 ⟨rfl, rfl⟩ ⟨(Nat.le_of_ble_eq_true rfl), (Nat.le_of_ble_eq_true rfl)⟩ ⟨(Nat.le_of_ble_eq_true rfl), (Nat.le_of_ble_eq_true rfl)⟩ [0, 0, 0, 0, 0, 0, 0] rfl 13 0 rfl rfl rfl rfl (Nat.le_of_ble_eq_true rfl) rfl (fun _ _ _ => rfl) dX12_forced_41 (fun j13 u14 w15 => ?_)
        refine V_ws [(h0, oC 13 [.ref h1, .ref h2, .int p2, .ref h3, .ref h4, .int (nI k5), .int (nI k6), .int p7, .int p8, .int p9, .int (nI k10), .int p11, .long q12, .ref h5, .ref h6, .int (nI k15), .int (nI k16)]), (h1, aI Y 3640 f0), (h2, aZ Y 2 f1), (h3, aZ Y 80 f3), (h4, aB Y 1600 f4), (h5, aI Y 200 f13), (h6, aI Y 800 f14)] rfl ?_
        have x16 := w15
        clear w15
        have x19 : (gN f0 3) ≤ 80 := gN_le HI (by omega) (show bd 3 = (0, ((80 : Nat) : Int)) by decide +kernel)
        rcases x16 with ⟨rfl, x18⟩ | ⟨n17, rfl, x18, x20⟩
        ·
          refine V_istore 44 B (lv2 := [(5, .int (-1)), (4, .int j4), (0, .ref h0), (1, .int s0), (2, .int (nI s1)), (3, .int (nI s2))]) dX12_forced_44 (by decide) rfl ?_
          refine V_wloop (α := WU) (fun a => gN (a.2.2.2.1 0) 3) (fun a => INV ph (a.2.2.2.1 0) ∧ ((a.2.1 0) = -1 ∨ ∃ j9 : Nat, (a.2.1 0) = nI j9 ∧ j9 < gN (a.2.2.2.1 0) 3) ∧ ((a.2.1 0) = -1 → gN (a.2.2.2.1 0) 3 < 80)) (fun a => [(5, .int (a.2.1 0)), (4, .int j4), (0, .ref h0), (1, .int s0), (2, .int (nI s1)), (3, .int (nI s2))]) (fun a => [(h0, oC 13 [.ref h1, .ref h2, .int p2, .ref h3, .ref h4, .int (nI k5), .int (nI k6), .int p7, .int p8, .int p9, .int (nI k10), .int p11, .long q12, .ref h5, .ref h6, .int (nI k15), .int (nI k16)]), (h1, aI Y 3640 (a.2.2.2.1 0)), (h2, aZ Y 2 f1), (h3, aZ Y 80 f3), (h4, aB Y 1600 f4), (h5, aI Y 200 f13), (h6, aI Y 800 f14)]) (mkW [] [(-1)] [] [f0] [] []) ⟨HI, (Or.inl rfl), (fun _ => fo_lem (f := f0) (n := gN f0 3) x7 x18 e10 kk11 (by omega))⟩ rfl rfl (fun a21 hI23 IH22 => ?_)
          refine V_lv [(5, .int (a21.2.1 0)), (4, .int j4), (0, .ref h0), (1, .int s0), (2, .int (nI s1)), (3, .int (nI s2))] [0, 1, 2, 3, 4, 5] rfl ?_
          refine V_ws [(h0, oC 13 [.ref h1, .ref h2, .int p2, .ref h3, .ref h4, .int (nI k5), .int (nI k6), .int p7, .int p8, .int p9, .int (nI k10), .int p11, .long q12, .ref h5, .ref h6, .int (nI k15), .int (nI k16)]), (h1, aI Y 3640 (a21.2.2.2.1 0)), (h2, aZ Y 2 f1), (h3, aZ Y 80 f3), (h4, aB Y 1600 f4), (h5, aI Y 200 f13), (h6, aI Y 800 f14)] rfl ?_
          obtain ⟨x24, x25, x26⟩ := hI23
          rcases x25 with e27 | ⟨n28, e27, x29⟩
          ·
            refine V_lv [(5, .int (-1)), (4, .int j4), (0, .ref h0), (1, .int s0), (2, .int (nI s1)), (3, .int (nI s2))] [0, 1, 2, 3, 4, 5] (by rw [e27]; rfl) ?_
            have x30 : (gN (a21.2.2.2.1 0) 3) ≤ 80 := gN_le x24 (by omega) (show bd 3 = (0, ((80 : Nat) : Int)) by decide +kernel)
            refine V_iload 46 B dX12_forced_46 0 rfl ?_
            refine V_iconst 48 B (v := (-1)) dX12_forced_48 (by decide +kernel) ?_
            refine V_icmp_eq_t 49 B 70 dX12_forced_49 (by decide) (by decide +kernel) ?_
            have x31 := x26 e27
            refine V_aload_n 70 B dX12_forced_70 2 rfl ?_
            refine V_iload_n 71 B dX12_forced_71 3 rfl ?_
            refine V_iload_n 72 B dX12_forced_72 4 rfl ?_
            refine V_iload_n 73 B dX12_forced_73 5 rfl ?_
            refine V_cvv 74 B (st := []) (As := [.int s0, .int (nI s1), .int (nI s2)]) (fun sz => rX12_add l D Y h0 h1 h2 h3 h4 h5 h6 p2 k5 k6 p7 p8 p9 k10 p11 q12 k15 k16 (a21.2.2.2.1 0) f1 f3 f4 f13 f14 ph x24 (by omega) HP s0 s1 s2 (by omega) hs2 (by omega) sz) glV_RX12_132 ⟨rfl, rfl⟩ ⟨(Nat.le_of_ble_eq_true rfl), (Nat.le_of_ble_eq_true rfl)⟩ ⟨(Nat.le_of_ble_eq_true rfl), (Nat.le_of_ble_eq_true rfl)⟩ [0, 0, 0, 0, 0, 0, 0] rfl 13 0 rfl rfl rfl rfl (Nat.le_of_ble_eq_true rfl) rfl (fun _ _ => rfl) dX12_forced_74 (fun u33 w34 => ?_)
            refine V_ws [(h0, oC 13 [.ref h1, .ref h2, .int p2, .ref h3, .ref h4, .int (nI k5), .int (nI k6), .int p7, .int p8, .int p9, .int (nI k10), .int p11, .long q12, .ref h5, .ref h6, .int (nI k15), .int (nI k16)]), (h1, aI Y 3640 (u33.2.2.2.1 0)), (h2, aZ Y 2 f1), (h3, aZ Y 80 f3), (h4, aB Y 1600 f4), (h5, aI Y 200 f13), (h6, aI Y 800 f14)] rfl ?_
            have x35 := w34
            clear w34
            refine V_iload 77 B dX12_forced_77 1 rfl ?_
            exact V_iret 79 B dX12_forced_79 (mkW [] [] [] [(u33.2.2.2.1 0)] [] []) x35 rfl
          ·
            refine V_lv [(5, .int (nI n28)), (4, .int j4), (0, .ref h0), (1, .int s0), (2, .int (nI s1)), (3, .int (nI s2))] [0, 1, 2, 3, 4, 5] (by rw [e27]; rfl) ?_
            have x36 : (gN (a21.2.2.2.1 0) 3) ≤ 80 := gN_le x24 (by omega) (show bd 3 = (0, ((80 : Nat) : Int)) by decide +kernel)
            refine V_iload 46 B dX12_forced_46 0 rfl ?_
            refine V_iconst 48 B (v := (-1)) dX12_forced_48 (by decide +kernel) ?_
            refine V_icmp_eq_f 49 B 70 dX12_forced_49 (by decide) (fun z => by have z2 := x_eq z; rw [nI_toInt (show n28 < 2 ^ 31 by omega), show ((-1) : Int32).toInt = (-1) by decide +kernel] at z2; omega) ?_
            refine V_aload_n 52 B dX12_forced_52 2 rfl ?_
            refine V_iload 53 B dX12_forced_53 0 rfl ?_
            refine V_cvv 55 B (st := []) (As := [.int (nI n28)]) (fun sz => rX12_remove l D Y h0 h1 h2 h3 h4 h5 h6 p2 k5 k6 p7 p8 p9 k10 p11 q12 k15 k16 (a21.2.2.2.1 0) f1 f3 f4 f13 f14 ph x24 (by omega) HP n28 (by omega) (by omega) sz) glV_RX12_142 ⟨rfl, rfl⟩ ⟨(Nat.le_of_ble_eq_true rfl), (Nat.le_of_ble_eq_true rfl)⟩ ⟨(Nat.le_of_ble_eq_true rfl), (Nat.le_of_ble_eq_true rfl)⟩ [0, 0, 0, 0, 0, 0, 0] rfl 13 0 rfl rfl rfl rfl (Nat.le_of_ble_eq_true rfl) rfl (fun _ _ => rfl) dX12_forced_55 (fun u39 w40 => ?_)
            refine V_ws [(h0, oC 13 [.ref h1, .ref h2, .int p2, .ref h3, .ref h4, .int (nI k5), .int (nI k6), .int p7, .int p8, .int p9, .int (nI k10), .int p11, .long q12, .ref h5, .ref h6, .int (nI k15), .int (nI k16)]), (h1, aI Y 3640 (u39.2.2.2.1 0)), (h2, aZ Y 2 f1), (h3, aZ Y 80 f3), (h4, aB Y 1600 f4), (h5, aI Y 200 f13), (h6, aI Y 800 f14)] rfl ?_
            obtain ⟨x41, x42⟩ := w40
            refine V_aload_n 58 B dX12_forced_58 2 rfl ?_
            refine V_iload_n 59 B dX12_forced_59 3 rfl ?_
            refine V_iload_n 60 B dX12_forced_60 5 rfl ?_
            refine V_iconst 61 B (v := (-1)) dX12_forced_61 (by decide +kernel) ?_
            refine V_cvi 62 B (st := []) (As := [.int s0, .int (nI s2), .int (-1)]) (fun sz => rX12_clashIn l D Y h0 h1 h2 h3 h4 h5 h6 p2 k5 k6 p7 p8 p9 k10 p11 q12 k15 k16 (u39.2.2.2.1 0) f1 f3 f4 f13 f14 ph x41 (by omega) HP s0 s2 (-1) hs2 sz) glV_RX12_121 ⟨rfl, rfl⟩ ⟨(Nat.le_of_ble_eq_true rfl), (Nat.le_of_ble_eq_true rfl)⟩ ⟨(Nat.le_of_ble_eq_true rfl), (Nat.le_of_ble_eq_true rfl)⟩ [0, 0, 0, 0, 0, 0, 0] rfl 13 0 rfl rfl rfl rfl (Nat.le_of_ble_eq_true rfl) rfl (fun _ _ _ => rfl) dX12_forced_62 (fun j43 u44 w45 => ?_)
            refine V_ws [(h0, oC 13 [.ref h1, .ref h2, .int p2, .ref h3, .ref h4, .int (nI k5), .int (nI k6), .int p7, .int p8, .int p9, .int (nI k10), .int p11, .long q12, .ref h5, .ref h6, .int (nI k15), .int (nI k16)]), (h1, aI Y 3640 (u39.2.2.2.1 0)), (h2, aZ Y 2 f1), (h3, aZ Y 80 f3), (h4, aB Y 1600 f4), (h5, aI Y 200 f13), (h6, aI Y 800 f14)] rfl ?_
            have x46 := w45
            clear w45
            have x49 : (gN (u39.2.2.2.1 0) 3) ≤ 80 := gN_le x41 (by omega) (show bd 3 = (0, ((80 : Nat) : Int)) by decide +kernel)
            rcases x46 with ⟨rfl, x48⟩ | ⟨n47, rfl, x48, x50⟩
            ·
              refine V_istore 65 B (lv2 := [(5, .int (-1)), (4, .int j4), (0, .ref h0), (1, .int s0), (2, .int (nI s1)), (3, .int (nI s2))]) dX12_forced_65 (by decide) rfl ?_
              refine V_goto 67 B 46 dX12_forced_67 (by decide) ?_
              refine V_lv [(5, .int (-1)), (4, .int j4), (0, .ref h0), (1, .int s0), (2, .int (nI s1)), (3, .int (nI s2))] [0, 1, 2, 3, 4, 5] rfl ?_
              exact IH22 (mkW [] [(-1)] [] [(u39.2.2.2.1 0)] [] []) ⟨x41, (Or.inl rfl), (fun _ => (show gN (u39.2.2.2.1 0) 3 < 80 by omega))⟩ (by show gN (u39.2.2.2.1 0) 3 < _; omega)
            ·
              refine V_istore 65 B (lv2 := [(5, .int (nI n47)), (4, .int j4), (0, .ref h0), (1, .int s0), (2, .int (nI s1)), (3, .int (nI s2))]) dX12_forced_65 (by decide) rfl ?_
              refine V_goto 67 B 46 dX12_forced_67 (by decide) ?_
              refine V_lv [(5, .int (nI n47)), (4, .int j4), (0, .ref h0), (1, .int s0), (2, .int (nI s1)), (3, .int (nI s2))] [0, 1, 2, 3, 4, 5] rfl ?_
              exact IH22 (mkW [] [(nI n47)] [] [(u39.2.2.2.1 0)] [] []) ⟨x41, (Or.inr ⟨n47, rfl, (show n47 < gN (u39.2.2.2.1 0) 3 by omega)⟩), (fun _ => (show gN (u39.2.2.2.1 0) 3 < 80 by omega))⟩ (by show gN (u39.2.2.2.1 0) 3 < _; omega)
        ·
          refine V_istore 44 B (lv2 := [(5, .int (nI n17)), (4, .int j4), (0, .ref h0), (1, .int s0), (2, .int (nI s1)), (3, .int (nI s2))]) dX12_forced_44 (by decide) rfl ?_
          refine V_wloop (α := WU) (fun a => gN (a.2.2.2.1 0) 3) (fun a => INV ph (a.2.2.2.1 0) ∧ ((a.2.1 0) = -1 ∨ ∃ j9 : Nat, (a.2.1 0) = nI j9 ∧ j9 < gN (a.2.2.2.1 0) 3) ∧ ((a.2.1 0) = -1 → gN (a.2.2.2.1 0) 3 < 80)) (fun a => [(5, .int (a.2.1 0)), (4, .int j4), (0, .ref h0), (1, .int s0), (2, .int (nI s1)), (3, .int (nI s2))]) (fun a => [(h0, oC 13 [.ref h1, .ref h2, .int p2, .ref h3, .ref h4, .int (nI k5), .int (nI k6), .int p7, .int p8, .int p9, .int (nI k10), .int p11, .long q12, .ref h5, .ref h6, .int (nI k15), .int (nI k16)]), (h1, aI Y 3640 (a.2.2.2.1 0)), (h2, aZ Y 2 f1), (h3, aZ Y 80 f3), (h4, aB Y 1600 f4), (h5, aI Y 200 f13), (h6, aI Y 800 f14)]) (mkW [] [(nI n17)] [] [f0] [] []) ⟨HI, (Or.inr ⟨n17, rfl, (show n17 < gN f0 3 by omega)⟩), (fun e => absurd e (nI_m1 (by omega)))⟩ rfl rfl (fun a51 hI53 IH52 => ?_)
          refine V_lv [(5, .int (a51.2.1 0)), (4, .int j4), (0, .ref h0), (1, .int s0), (2, .int (nI s1)), (3, .int (nI s2))] [0, 1, 2, 3, 4, 5] rfl ?_
          refine V_ws [(h0, oC 13 [.ref h1, .ref h2, .int p2, .ref h3, .ref h4, .int (nI k5), .int (nI k6), .int p7, .int p8, .int p9, .int (nI k10), .int p11, .long q12, .ref h5, .ref h6, .int (nI k15), .int (nI k16)]), (h1, aI Y 3640 (a51.2.2.2.1 0)), (h2, aZ Y 2 f1), (h3, aZ Y 80 f3), (h4, aB Y 1600 f4), (h5, aI Y 200 f13), (h6, aI Y 800 f14)] rfl ?_
          obtain ⟨x54, x55, x56⟩ := hI53
          rcases x55 with e57 | ⟨n58, e57, x59⟩
          ·
            refine V_lv [(5, .int (-1)), (4, .int j4), (0, .ref h0), (1, .int s0), (2, .int (nI s1)), (3, .int (nI s2))] [0, 1, 2, 3, 4, 5] (by rw [e57]; rfl) ?_
            have x60 : (gN (a51.2.2.2.1 0) 3) ≤ 80 := gN_le x54 (by omega) (show bd 3 = (0, ((80 : Nat) : Int)) by decide +kernel)
            refine V_iload 46 B dX12_forced_46 0 rfl ?_
            refine V_iconst 48 B (v := (-1)) dX12_forced_48 (by decide +kernel) ?_
            refine V_icmp_eq_t 49 B 70 dX12_forced_49 (by decide) (by decide +kernel) ?_
            have x61 := x56 e57
            refine V_aload_n 70 B dX12_forced_70 2 rfl ?_
            refine V_iload_n 71 B dX12_forced_71 3 rfl ?_
            refine V_iload_n 72 B dX12_forced_72 4 rfl ?_
            refine V_iload_n 73 B dX12_forced_73 5 rfl ?_
            refine V_cvv 74 B (st := []) (As := [.int s0, .int (nI s1), .int (nI s2)]) (fun sz => rX12_add l D Y h0 h1 h2 h3 h4 h5 h6 p2 k5 k6 p7 p8 p9 k10 p11 q12 k15 k16 (a51.2.2.2.1 0) f1 f3 f4 f13 f14 ph x54 (by omega) HP s0 s1 s2 (by omega) hs2 (by omega) sz) glV_RX12_132 ⟨rfl, rfl⟩ ⟨(Nat.le_of_ble_eq_true rfl), (Nat.le_of_ble_eq_true rfl)⟩ ⟨(Nat.le_of_ble_eq_true rfl), (Nat.le_of_ble_eq_true rfl)⟩ [0, 0, 0, 0, 0, 0, 0] rfl 13 0 rfl rfl rfl rfl (Nat.le_of_ble_eq_true rfl) rfl (fun _ _ => rfl) dX12_forced_74 (fun u63 w64 => ?_)
            refine V_ws [(h0, oC 13 [.ref h1, .ref h2, .int p2, .ref h3, .ref h4, .int (nI k5), .int (nI k6), .int p7, .int p8, .int p9, .int (nI k10), .int p11, .long q12, .ref h5, .ref h6, .int (nI k15), .int (nI k16)]), (h1, aI Y 3640 (u63.2.2.2.1 0)), (h2, aZ Y 2 f1), (h3, aZ Y 80 f3), (h4, aB Y 1600 f4), (h5, aI Y 200 f13), (h6, aI Y 800 f14)] rfl ?_
            have x65 := w64
            clear w64
            refine V_iload 77 B dX12_forced_77 1 rfl ?_
            exact V_iret 79 B dX12_forced_79 (mkW [] [] [] [(u63.2.2.2.1 0)] [] []) x65 rfl
          ·
            refine V_lv [(5, .int (nI n58)), (4, .int j4), (0, .ref h0), (1, .int s0), (2, .int (nI s1)), (3, .int (nI s2))] [0, 1, 2, 3, 4, 5] (by rw [e57]; rfl) ?_
            have x66 : (gN (a51.2.2.2.1 0) 3) ≤ 80 := gN_le x54 (by omega) (show bd 3 = (0, ((80 : Nat) : Int)) by decide +kernel)
            refine V_iload 46 B dX12_forced_46 0 rfl ?_
            refine V_iconst 48 B (v := (-1)) dX12_forced_48 (by decide +kernel) ?_
            refine V_icmp_eq_f 49 B 70 dX12_forced_49 (by decide) (fun z => by have z2 := x_eq z; rw [nI_toInt (show n58 < 2 ^ 31 by omega), show ((-1) : Int32).toInt = (-1) by decide +kernel] at z2; omega) ?_
            refine V_aload_n 52 B dX12_forced_52 2 rfl ?_
            refine V_iload 53 B dX12_forced_53 0 rfl ?_
            refine V_cvv 55 B (st := []) (As := [.int (nI n58)]) (fun sz => rX12_remove l D Y h0 h1 h2 h3 h4 h5 h6 p2 k5 k6 p7 p8 p9 k10 p11 q12 k15 k16 (a51.2.2.2.1 0) f1 f3 f4 f13 f14 ph x54 (by omega) HP n58 (by omega) (by omega) sz) glV_RX12_142 ⟨rfl, rfl⟩ ⟨(Nat.le_of_ble_eq_true rfl), (Nat.le_of_ble_eq_true rfl)⟩ ⟨(Nat.le_of_ble_eq_true rfl), (Nat.le_of_ble_eq_true rfl)⟩ [0, 0, 0, 0, 0, 0, 0] rfl 13 0 rfl rfl rfl rfl (Nat.le_of_ble_eq_true rfl) rfl (fun _ _ => rfl) dX12_forced_55 (fun u69 w70 => ?_)
            refine V_ws [(h0, oC 13 [.ref h1, .ref h2, .int p2, .ref h3, .ref h4, .int (nI k5), .int (nI k6), .int p7, .int p8, .int p9, .int (nI k10), .int p11, .long q12, .ref h5, .ref h6, .int (nI k15), .int (nI k16)]), (h1, aI Y 3640 (u69.2.2.2.1 0)), (h2, aZ Y 2 f1), (h3, aZ Y 80 f3), (h4, aB Y 1600 f4), (h5, aI Y 200 f13), (h6, aI Y 800 f14)] rfl ?_
            obtain ⟨x71, x72⟩ := w70
            refine V_aload_n 58 B dX12_forced_58 2 rfl ?_
            refine V_iload_n 59 B dX12_forced_59 3 rfl ?_
            refine V_iload_n 60 B dX12_forced_60 5 rfl ?_
            refine V_iconst 61 B (v := (-1)) dX12_forced_61 (by decide +kernel) ?_
            refine V_cvi 62 B (st := []) (As := [.int s0, .int (nI s2), .int (-1)]) (fun sz => rX12_clashIn l D Y h0 h1 h2 h3 h4 h5 h6 p2 k5 k6 p7 p8 p9 k10 p11 q12 k15 k16 (u69.2.2.2.1 0) f1 f3 f4 f13 f14 ph x71 (by omega) HP s0 s2 (-1) hs2 sz) glV_RX12_121 ⟨rfl, rfl⟩ ⟨(Nat.le_of_ble_eq_true rfl), (Nat.le_of_ble_eq_true rfl)⟩ ⟨(Nat.le_of_ble_eq_true rfl), (Nat.le_of_ble_eq_true rfl)⟩ [0, 0, 0, 0, 0, 0, 0] rfl 13 0 rfl rfl rfl rfl (Nat.le_of_ble_eq_true rfl) rfl (fun _ _ _ => rfl) dX12_forced_62 (fun j73 u74 w75 => ?_)
            refine V_ws [(h0, oC 13 [.ref h1, .ref h2, .int p2, .ref h3, .ref h4, .int (nI k5), .int (nI k6), .int p7, .int p8, .int p9, .int (nI k10), .int p11, .long q12, .ref h5, .ref h6, .int (nI k15), .int (nI k16)]), (h1, aI Y 3640 (u69.2.2.2.1 0)), (h2, aZ Y 2 f1), (h3, aZ Y 80 f3), (h4, aB Y 1600 f4), (h5, aI Y 200 f13), (h6, aI Y 800 f14)] rfl ?_
            have x76 := w75
            clear w75
            have x79 : (gN (u69.2.2.2.1 0) 3) ≤ 80 := gN_le x71 (by omega) (show bd 3 = (0, ((80 : Nat) : Int)) by decide +kernel)
            rcases x76 with ⟨rfl, x78⟩ | ⟨n77, rfl, x78, x80⟩
            ·
              refine V_istore 65 B (lv2 := [(5, .int (-1)), (4, .int j4), (0, .ref h0), (1, .int s0), (2, .int (nI s1)), (3, .int (nI s2))]) dX12_forced_65 (by decide) rfl ?_
              refine V_goto 67 B 46 dX12_forced_67 (by decide) ?_
              refine V_lv [(5, .int (-1)), (4, .int j4), (0, .ref h0), (1, .int s0), (2, .int (nI s1)), (3, .int (nI s2))] [0, 1, 2, 3, 4, 5] rfl ?_
              exact IH52 (mkW [] [(-1)] [] [(u69.2.2.2.1 0)] [] []) ⟨x71, (Or.inl rfl), (fun _ => (show gN (u69.2.2.2.1 0) 3 < 80 by omega))⟩ (by show gN (u69.2.2.2.1 0) 3 < _; omega)
            ·
              refine V_istore 65 B (lv2 := [(5, .int (nI n77)), (4, .int j4), (0, .ref h0), (1, .int s0), (2, .int (nI s1)), (3, .int (nI s2))]) dX12_forced_65 (by decide) rfl ?_
              refine V_goto 67 B 46 dX12_forced_67 (by decide) ?_
              refine V_lv [(5, .int (nI n77)), (4, .int j4), (0, .ref h0), (1, .int s0), (2, .int (nI s1)), (3, .int (nI s2))] [0, 1, 2, 3, 4, 5] rfl ?_
              exact IH52 (mkW [] [(nI n77)] [] [(u69.2.2.2.1 0)] [] []) ⟨x71, (Or.inr ⟨n77, rfl, (show n77 < gN (u69.2.2.2.1 0) 3 by omega)⟩), (fun _ => (show gN (u69.2.2.2.1 0) 3 < 80 by omega))⟩ (by show gN (u69.2.2.2.1 0) 3 < _; omega)
      ·
        obtain rfl : j9 = 80 := kk11
        have e82 : (80 : Int32).toInt = 80 := by decide +kernel
        refine V_bipush 34 B (v := (-2)) dX12_forced_34 (by decide +kernel) ?_
        exact V_iret 36 B dX12_forced_36 (mkW [] [] [] [f0] [] []) HI rfl
    ·
      refine V_if_eq_f 5 B 12 dX12_forced_5 (by decide) (by decide +kernel) ?_
      refine V_sipush 8 B (v := (-1000)) dX12_forced_8 (by decide +kernel) ?_
      exact V_iret 11 B dX12_forced_11 (mkW [] [] [] [f0] [] []) HI rfl)
