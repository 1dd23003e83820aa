theorem dX12_readStrokes_0 : decode cX12_readStrokes 0 = .ok (.iconst 0, 1) := by decide +kernel
theorem dX12_readStrokes_1 : decode cX12_readStrokes 1 = .ok (.istore_n 1, 1) := by decide +kernel
theorem dX12_readStrokes_2 : decode cX12_readStrokes 2 = .ok (.iload_n 1, 1) := by decide +kernel
theorem dX12_readStrokes_3 : decode cX12_readStrokes 3 = .ok (.ifCond .eq 11, 3) := by decide +kernel
theorem dX12_readStrokes_14 : decode cX12_readStrokes 14 = .ok (.aload_n 0, 1) := by decide +kernel
theorem dX12_readStrokes_15 : decode cX12_readStrokes 15 = .ok (.invokevirtual 297, 3) := by decide +kernel
theorem dX12_readStrokes_18 : decode cX12_readStrokes 18 = .ok (.istore_n 2, 1) := by decide +kernel
theorem dX12_readStrokes_19 : decode cX12_readStrokes 19 = .ok (.iload_n 2, 1) := by decide +kernel
theorem dX12_readStrokes_20 : decode cX12_readStrokes 20 = .ok (.iconst (-1), 1) := by decide +kernel
theorem dX12_readStrokes_21 : decode cX12_readStrokes 21 = .ok (.if_icmp .ne 9, 3) := by decide +kernel
theorem dX12_readStrokes_30 : decode cX12_readStrokes 30 = .ok (.iload_n 1, 1) := by decide +kernel
theorem dX12_readStrokes_31 : decode cX12_readStrokes 31 = .ok (.iconst 4, 1) := by decide +kernel
theorem dX12_readStrokes_32 : decode cX12_readStrokes 32 = .ok (.if_icmp .ne 9, 3) := by decide +kernel
theorem dX12_readStrokes_41 : decode cX12_readStrokes 41 = .ok (.aload_n 0, 1) := by decide +kernel
theorem dX12_readStrokes_42 : decode cX12_readStrokes 42 = .ok (.getfield 31, 3) := by decide +kernel
theorem gf_RX12_31 : GF RX12 31 13 14 := ⟨RX12, TX12, 17, rfl, inw_X12, Nat.le_of_ble_eq_true rfl, (mT7 151 rfl rfl)⟩
theorem dX12_readStrokes_45 : decode cX12_readStrokes 45 = .ok (.aload_n 0, 1) := by decide +kernel
theorem dX12_readStrokes_46 : decode cX12_readStrokes 46 = .ok (.getfield 358, 3) := by decide +kernel
theorem gf_RX12_358 : GF RX12 358 13 16 := ⟨RX12, TX12, 17, rfl, inw_X12, Nat.le_of_ble_eq_true rfl, (mT7 153 rfl rfl)⟩
theorem dX12_readStrokes_49 : decode cX12_readStrokes 49 = .ok (.iload_n 2, 1) := by decide +kernel
theorem dX12_readStrokes_50 : decode cX12_readStrokes 50 = .ok (.iastore, 1) := by decide +kernel
theorem dX12_readStrokes_51 : decode cX12_readStrokes 51 = .ok (.aload_n 0, 1) := by decide +kernel
theorem dX12_readStrokes_52 : decode cX12_readStrokes 52 = .ok (.dup, 1) := by decide +kernel
theorem dX12_readStrokes_53 : decode cX12_readStrokes 53 = .ok (.getfield 358, 3) := by decide +kernel
theorem dX12_readStrokes_56 : decode cX12_readStrokes 56 = .ok (.iconst 1, 1) := by decide +kernel
theorem dX12_readStrokes_57 : decode cX12_readStrokes 57 = .ok (.iadd, 1) := by decide +kernel
theorem dX12_readStrokes_58 : decode cX12_readStrokes 58 = .ok (.putfield 358, 3) := by decide +kernel
theorem gp_RX12_358 : GP RX12 358 13 16 .int false := ⟨RX12, TX12, 17, ⟨rfl, inw_X12, Nat.le_of_ble_eq_true rfl, (mT7 153 rfl rfl)⟩, ⟨tyX12, tyX12_ok⟩, nmX12, rfl, by decide +kernel, fun h => nomatch h⟩
theorem dX12_readStrokes_61 : decode cX12_readStrokes 61 = .ok (.iinc 1 1, 3) := by decide +kernel
theorem dX12_readStrokes_64 : decode cX12_readStrokes 64 = .ok (.aload_n 0, 1) := by decide +kernel
theorem dX12_readStrokes_65 : decode cX12_readStrokes 65 = .ok (.invokevirtual 288, 3) := by decide +kernel
theorem dX12_readStrokes_68 : decode cX12_readStrokes 68 = .ok (.goto (-66), 3) := by decide +kernel
theorem dX12_readStrokes_35 : decode cX12_readStrokes 35 = .ok (.aload_n 0, 1) := by decide +kernel
theorem dX12_readStrokes_36 : decode cX12_readStrokes 36 = .ok (.iconst 3, 1) := by decide +kernel
theorem dX12_readStrokes_37 : decode cX12_readStrokes 37 = .ok (.invokevirtual 291, 3) := by decide +kernel
theorem dX12_readStrokes_40 : decode cX12_readStrokes 40 = .ok (.ireturn, 1) := by decide +kernel
theorem dX12_readStrokes_24 : decode cX12_readStrokes 24 = .ok (.aload_n 0, 1) := by decide +kernel
theorem dX12_readStrokes_25 : decode cX12_readStrokes 25 = .ok (.iconst 1, 1) := by decide +kernel
theorem dX12_readStrokes_26 : decode cX12_readStrokes 26 = .ok (.invokevirtual 291, 3) := by decide +kernel
theorem dX12_readStrokes_29 : decode cX12_readStrokes 29 = .ok (.ireturn, 1) := by decide +kernel
theorem dX12_readStrokes_6 : decode cX12_readStrokes 6 = .ok (.aload_n 0, 1) := by decide +kernel
theorem dX12_readStrokes_7 : decode cX12_readStrokes 7 = .ok (.getfield 283, 3) := by decide +kernel
theorem dX12_readStrokes_10 : decode cX12_readStrokes 10 = .ok (.iconst 1, 1) := by decide +kernel
theorem dX12_readStrokes_11 : decode cX12_readStrokes 11 = .ok (.if_icmp .ne 60, 3) := by decide +kernel
theorem dX12_readStrokes_71 : decode cX12_readStrokes 71 = .ok (.aload_n 0, 1) := by decide +kernel
theorem dX12_readStrokes_72 : decode cX12_readStrokes 72 = .ok (.getfield 28, 3) := by decide +kernel
theorem gf_RX12_28 : GF RX12 28 13 13 := ⟨RX12, TX12, 17, rfl, inw_X12, Nat.le_of_ble_eq_true rfl, (mT7 150 rfl rfl)⟩
theorem dX12_readStrokes_75 : decode cX12_readStrokes 75 = .ok (.iconst 5, 1) := by decide +kernel
theorem dX12_readStrokes_76 : decode cX12_readStrokes 76 = .ok (.aload_n 0, 1) := by decide +kernel
theorem dX12_readStrokes_77 : decode cX12_readStrokes 77 = .ok (.getfield 361, 3) := by decide +kernel
theorem gf_RX12_361 : GF RX12 361 13 15 := ⟨RX12, TX12, 17, rfl, inw_X12, Nat.le_of_ble_eq_true rfl, (mT7 152 rfl rfl)⟩
theorem dX12_readStrokes_80 : decode cX12_readStrokes 80 = .ok (.imul, 1) := by decide +kernel
theorem dX12_readStrokes_81 : decode cX12_readStrokes 81 = .ok (.iconst 4, 1) := by decide +kernel
theorem dX12_readStrokes_82 : decode cX12_readStrokes 82 = .ok (.iadd, 1) := by decide +kernel
theorem dX12_readStrokes_83 : decode cX12_readStrokes 83 = .ok (.iload_n 1, 1) := by decide +kernel
theorem dX12_readStrokes_84 : decode cX12_readStrokes 84 = .ok (.iastore, 1) := by decide +kernel
theorem dX12_readStrokes_85 : decode cX12_readStrokes 85 = .ok (.iconst 1, 1) := by decide +kernel
theorem dX12_readStrokes_86 : decode cX12_readStrokes 86 = .ok (.ireturn, 1) := by decide +kernel
set_option maxRecDepth 100000 in
set_option maxHeartbeats 4000000 in
theorem rX12_readStrokes (l : Launch) (D : va_G) (Y : Nat → ClassId) (h0 : Nat) (h1 : Nat) (h2 : Nat) (h3 : Nat) (h4 : Nat) (h5 : Nat) (h6 : Nat) (p2 : Int32) (k5 : Nat) (k6 : Nat) (p7 : Int32) (p8 : Int32) (p9 : Int32) (k10 : Nat) (p11 : Int32) (q12 : Int64) (k15 : Nat) (k16 : Nat) (f0 : Nat → Int32) (f1 : Nat → Int32) (f3 : Nat → Int32) (f4 : Nat → Int32) (f13 : Nat → Int32) (f14 : Nat → Int32) (ph : Nat → Int32) (HI : INV ph f0) (HL : k5 ≤ 1600) (HP : PLV f13)  (hx0 : k10 ≤ k6) (hx1 : k6 ≤ k5) (hx2 : (p9 = 0 ∨ k10 < k6)) (hx3 : k15 ≤ 39) (hx4 : k16 ≤ 4 * k15) (sz : Nat) : Met l yX12_readStrokes (WSm yX12_readStrokes cX12_readStrokes 3 (some .boolean)) (mkR 4 0 0 86) (PreC D Y [.ref h0] [(h0, oC 13 [.ref h1, .ref h2, .int p2, .ref h3, .ref h4, .int (nI k5), .int (nI k6), .int p7, .int p8, .int p9, .int (nI k10), .int p11, .long q12, .ref h5, .ref h6, .int (nI k15), .int (nI k16)]), (h1, aI Y 3640 f0), (h2, aZ Y 2 f1), (h3, aZ Y 80 f3), (h4, aB Y 1600 f4), (h5, aI Y 200 f13), (h6, aI Y 800 f14)] sz) (QI D (fun (r : Int32) (u : WU) => (r = 0 ∨ (r = 1 ∧ k10 < (u.1 1))) ∧ PLV (u.2.2.2.1 0) ∧ k10 ≤ (u.1 1) ∧ (u.1 1) ≤ (u.1 0) ∧ (u.1 0) ≤ k5 ∧ ((u.2.1 2) = 0 ∨ (u.1 1) < (u.1 0)) ∧ (u.1 2) ≤ k16 + 4) (fun (u : WU) => [(h0, oC 13 [.ref h1, .ref h2, .int p2, .ref h3, .ref h4, .int (nI k5), .int (nI (u.1 0)), .int (u.2.1 0), .int (u.2.1 1), .int (u.2.1 2), .int (nI (u.1 1)), .int p11, .long (u.2.2.1 0), .ref h5, .ref h6, .int (nI k15), .int (nI (u.1 2))]), (h1, aI Y 3640 f0), (h2, aZ Y 2 f1), (h3, aZ Y 80 f3), (h4, aB Y 1600 f4), (h5, aI Y 200 (u.2.2.2.1 0)), (h6, aI Y 800 (u.2.2.2.1 1))]) (va_A [(h0, oC 13 [.ref h1, .ref h2, .int p2, .ref h3, .ref h4, .int (nI k5), .int (nI k6), .int p7, .int p8, .int p9, .int (nI k10), .int p11, .long q12, .ref h5, .ref h6, .int (nI k15), .int (nI k16)]), (h1, aI Y 3640 f0), (h2, aZ Y 2 f1), (h3, aZ Y 80 f3), (h4, aB Y 1600 f4), (h5, aI Y 200 f13), (h6, aI Y 800 f14)] sz)) 0 0 (va_A [(h0, oC 13 [.ref h1, .ref h2, .int p2, .ref h3, .ref h4, .int (nI k5), .int (nI k6), .int p7, .int p8, .int p9, .int (nI k10), .int p11, .long q12, .ref h5, .ref h6, .int (nI k15), .int (nI k16)]), (h1, aI Y 3640 f0), (h2, aZ Y 2 f1), (h3, aZ Y 80 f3), (h4, aB Y 1600 f4), (h5, aI Y 200 f13), (h6, aI Y 800 f14)] sz) :=
  met_of  (by decide +kernel) (Nat.le_of_ble_eq_true rfl) (fun p e s m args below meth c B hin hsz => by
    have B : VB p s m args meth c D Y (va_A [(h0, oC 13 [.ref h1, .ref h2, .int p2, .ref h3, .ref h4, .int (nI k5), .int (nI k6), .int p7, .int p8, .int p9, .int (nI k10), .int p11, .long q12, .ref h5, .ref h6, .int (nI k15), .int (nI k16)]), (h1, aI Y 3640 f0), (h2, aZ Y 2 f1), (h3, aZ Y 80 f3), (h4, aB Y 1600 f4), (h5, aI Y 200 f13), (h6, aI Y 800 f14)] sz) cX12_readStrokes 3 RX12 (some .boolean) := B
    refine V_iconst 0 B (v := 0) dX12_readStrokes_0 (by decide +kernel) ?_
    refine V_istore_n 1 B (lv2 := [(1, .int 0), (0, .ref h0)]) dX12_readStrokes_1 (by decide) rfl ?_
    refine V_wloop (α := WU) (fun a => 100000 - (a.1 0)) (fun a => PLV (a.2.2.2.1 0) ∧ (a.1 0) ≤ 4 ∧ (k10 ≤ (a.1 2) ∧ (a.1 2) ≤ (a.1 1) ∧ (a.1 1) ≤ k5 ∧ ((a.1 0) = 0 ∨ k10 < (a.1 2)) ∧ (a.1 3) = k16 + (a.1 0) ∧ ((a.2.1 2) = 0 ∨ (a.1 2) < (a.1 1)))) (fun a => [(1, .int (nI (a.1 0))), (0, .ref h0)]) (fun a => [(h0, oC 13 [.ref h1, .ref h2, .int p2, .ref h3, .ref h4, .int (nI k5), .int (nI (a.1 1)), .int (a.2.1 0), .int (a.2.1 1), .int (a.2.1 2), .int (nI (a.1 2)), .int p11, .long (a.2.2.1 0), .ref h5, .ref h6, .int (nI k15), .int (nI (a.1 3))]), (h1, aI Y 3640 f0), (h2, aZ Y 2 f1), (h3, aZ Y 80 f3), (h4, aB Y 1600 f4), (h5, aI Y 200 (a.2.2.2.1 0)), (h6, aI Y 800 (a.2.2.2.1 1))]) (mkW [0, k6, k10, k16] [p7, p8, p9] [q12] [f13, f14] [] []) ⟨HP, (show 0 ≤ 4 by omega), ⟨(show k10 ≤ k10 by omega), (show k10 ≤ k6 by omega), (show k6 ≤ k5 by omega), (Or.inl rfl), (show k16 = k16 + 0 by omega), (show (p9 = 0 ∨ k10 < k6) by first | assumption | exact Or.inr (by omega))⟩⟩ rfl rfl (fun a0 hI2 IH1 => ?_)
    refine V_lv [(1, .int (nI (a0.1 0))), (0, .ref h0)] [0, 1] rfl ?_
    refine V_ws [(h0, oC 13 [.ref h1, .ref h2, .int p2, .ref h3, .ref h4, .int (nI k5), .int (nI (a0.1 1)), .int (a0.2.1 0), .int (a0.2.1 1), .int (a0.2.1 2), .int (nI (a0.1 2)), .int p11, .long (a0.2.2.1 0), .ref h5, .ref h6, .int (nI k15), .int (nI (a0.1 3))]), (h1, aI Y 3640 f0), (h2, aZ Y 2 f1), (h3, aZ Y 80 f3), (h4, aB Y 1600 f4), (h5, aI Y 200 (a0.2.2.2.1 0)), (h6, aI Y 800 (a0.2.2.2.1 1))] rfl ?_
    obtain ⟨x3, x4, x5⟩ := hI2
    obtain ⟨x6, x7, x8, x9, x10, x11⟩ := x5
    refine V_iload_n 2 B dX12_readStrokes_2 0 rfl ?_
    refine V_if_eq 3 B 14 dX12_readStrokes_3 (by decide) (fun kk12 => ?_) (fun kk12 => ?_)
    ·
      have x13 := n_eq (a := (a0.1 0)) (b := 0) kk12 (by omega) (by omega)
      refine V_aload_n 14 B dX12_readStrokes_14 1 rfl ?_
      refine V_cvi 15 B (st := []) (As := []) (fun sz => rX12_strokeHere l D Y h0 h1 h2 h3 h4 h5 h6 p2 k5 (a0.1 1) (a0.2.1 0) (a0.2.1 1) (a0.2.1 2) (a0.1 2) p11 (a0.2.2.1 0) k15 (a0.1 3) f0 f1 f3 f4 (a0.2.2.2.1 0) (a0.2.2.2.1 1) ph HI (by omega) x3 (by omega) (by omega) (by first | assumption | exact Or.inl rfl | exact Or.inr (by omega)) sz) glV_RX12_297 ⟨rfl, rfl⟩ ⟨(Nat.le_of_ble_eq_true rfl), (Nat.le_of_ble_eq_true rfl)⟩ ⟨(Nat.le_of_ble_eq_true rfl), (Nat.le_of_ble_eq_true rfl)⟩ [0, 0, 0, 0, 0, 0, 0] rfl 13 0 rfl rfl rfl rfl (Nat.le_of_ble_eq_true rfl) rfl (fun _ _ _ => rfl) dX12_readStrokes_15 (fun j14 u15 w16 => ?_)
      refine V_ws [(h0, oC 13 [.ref h1, .ref h2, .int p2, .ref h3, .ref h4, .int (nI k5), .int (nI (a0.1 1)), .int (a0.2.1 0), .int (a0.2.1 1), .int (a0.2.1 2), .int (nI (a0.1 2)), .int p11, .long (a0.2.2.1 0), .ref h5, .ref h6, .int (nI k15), .int (nI (a0.1 3))]), (h1, aI Y 3640 f0), (h2, aZ Y 2 f1), (h3, aZ Y 80 f3), (h4, aB Y 1600 f4), (h5, aI Y 200 (a0.2.2.2.1 0)), (h6, aI Y 800 (a0.2.2.2.1 1))] rfl ?_
      have x17 := w16
      clear w16
      refine V_istore_n 18 B (lv2 := [(2, .int j14), (1, .int (nI (a0.1 0))), (0, .ref h0)]) dX12_readStrokes_18 (by decide) rfl ?_
      refine V_iload_n 19 B dX12_readStrokes_19 0 rfl ?_
      refine V_iconst 20 B (v := (-1)) dX12_readStrokes_20 (by decide +kernel) ?_
      refine V_icmp_ne 21 B 30 dX12_readStrokes_21 (by decide) (fun kk18 => ?_) (fun kk18 => ?_)
      ·
        have x19 := x_ne kk18
        rw [show ((-1) : Int32).toInt = (-1) by decide +kernel] at x19
        refine V_iload_n 30 B dX12_readStrokes_30 1 rfl ?_
        refine V_iconst 31 B (v := 4) dX12_readStrokes_31 (by decide +kernel) ?_
        refine V_icmp_ne 32 B 41 dX12_readStrokes_32 (by decide) (fun kk20 => ?_) (fun kk20 => ?_)
        ·
          have x21 := n_ne (a := (a0.1 0)) (b := 4) kk20
          refine V_aload_n 41 B dX12_readStrokes_41 2 rfl ?_
          refine V_get 42 B gf_RX12_31 0 rfl rfl dX12_readStrokes_42 ?_
          refine V_aload_n 45 B dX12_readStrokes_45 2 rfl ?_
          refine V_get 46 B gf_RX12_358 0 rfl rfl dX12_readStrokes_46 ?_
          refine V_iload_n 49 B dX12_readStrokes_49 0 rfl ?_
          refine V_iast 50 B 6 rfl (vp_in_nI (n := (a0.1 3)) (by omega) (by decide)) dX12_readStrokes_50 [(h0, oC 13 [.ref h1, .ref h2, .int p2, .ref h3, .ref h4, .int (nI k5), .int (nI (a0.1 1)), .int (a0.2.1 0), .int (a0.2.1 1), .int (a0.2.1 2), .int (nI (a0.1 2)), .int p11, .long (a0.2.2.1 0), .ref h5, .ref h6, .int (nI k15), .int (nI (a0.1 3))]), (h1, aI Y 3640 f0), (h2, aZ Y 2 f1), (h3, aZ Y 80 f3), (h4, aB Y 1600 f4), (h5, aI Y 200 (a0.2.2.2.1 0)), (h6, aI Y 800 (upd (a0.2.2.2.1 1) (a0.1 3) j14))] (by rw [nI_clamp (show (a0.1 3) < 2 ^ 31 by omega)]; rfl) ?_
          refine V_aload_n 51 B dX12_readStrokes_51 2 rfl ?_
          refine V_dup 52 B dX12_readStrokes_52 rfl ?_
          refine V_get 53 B gf_RX12_358 0 rfl rfl dX12_readStrokes_53 ?_
          refine V_iconst 56 B (v := 1) dX12_readStrokes_56 (by decide +kernel) ?_
          refine V_iadd 57 B (v := (nI (1 + (a0.1 3)))) dX12_readStrokes_57 (nI_addE (a := (a0.1 3)) (b := 1) (by omega)) ?_
          refine V_put 58 B gp_RX12_358 0 rfl (Nat.le_of_ble_eq_true rfl) rfl rfl dX12_readStrokes_58 [(h0, oC 13 [.ref h1, .ref h2, .int p2, .ref h3, .ref h4, .int (nI k5), .int (nI (a0.1 1)), .int (a0.2.1 0), .int (a0.2.1 1), .int (a0.2.1 2), .int (nI (a0.1 2)), .int p11, .long (a0.2.2.1 0), .ref h5, .ref h6, .int (nI k15), .int (nI (1 + (a0.1 3)))]), (h1, aI Y 3640 f0), (h2, aZ Y 2 f1), (h3, aZ Y 80 f3), (h4, aB Y 1600 f4), (h5, aI Y 200 (a0.2.2.2.1 0)), (h6, aI Y 800 (upd (a0.2.2.2.1 1) (a0.1 3) j14))] rfl ?_
          refine V_iinc 61 B (v := (nI (1 + (a0.1 0)))) (lv2 := [(1, .int (nI (1 + (a0.1 0)))), (2, .int j14), (0, .ref h0)]) dX12_readStrokes_61 1 rfl (nI_addE (a := (a0.1 0)) (b := 1) (by omega)) (by decide) rfl ?_
          have x22 : (a0.1 2) < (a0.1 1) := by
            rcases x17 with z | z
            · contradiction
            · exact z
          refine V_aload_n 64 B dX12_readStrokes_64 2 rfl ?_
          refine V_cvv 65 B (st := []) (As := []) (fun sz => rX12_advance l D Y h0 h1 h2 h3 h4 h5 h6 p2 k5 (a0.1 1) (a0.2.1 0) (a0.2.1 1) (a0.2.1 2) (a0.1 2) p11 (a0.2.2.1 0) k15 (1 + (a0.1 3)) f0 f1 f3 f4 (a0.2.2.2.1 0) (upd (a0.2.2.2.1 1) (a0.1 3) j14) ph HI (by omega) x3 (by omega) sz) glV_RX12_288 ⟨rfl, rfl⟩ ⟨(Nat.le_of_ble_eq_true rfl), (Nat.le_of_ble_eq_true rfl)⟩ ⟨(Nat.le_of_ble_eq_true rfl), (Nat.le_of_ble_eq_true rfl)⟩ [0, 0, 0, 0, 0, 0, 0] rfl 13 0 rfl rfl rfl rfl (Nat.le_of_ble_eq_true rfl) rfl (fun _ _ => rfl) dX12_readStrokes_65 (fun u24 w25 => ?_)
          refine V_ws [(h0, oC 13 [.ref h1, .ref h2, .int p2, .ref h3, .ref h4, .int (nI k5), .int (nI (u24.1 0)), .int (a0.2.1 0), .int (a0.2.1 1), .int (u24.2.1 0), .int (nI (u24.1 1)), .int p11, .long (u24.2.2.1 0), .ref h5, .ref h6, .int (nI k15), .int (nI (1 + (a0.1 3)))]), (h1, aI Y 3640 f0), (h2, aZ Y 2 f1), (h3, aZ Y 80 f3), (h4, aB Y 1600 f4), (h5, aI Y 200 (a0.2.2.2.1 0)), (h6, aI Y 800 (upd (a0.2.2.2.1 1) (a0.1 3) j14))] rfl ?_
          obtain ⟨x26, x27, x28, x29⟩ := w25
          refine V_goto 68 B 2 dX12_readStrokes_68 (by decide) ?_
          refine V_lv [(1, .int (nI (1 + (a0.1 0)))), (0, .ref h0)] [0, 2] rfl ?_
          exact IH1 (mkW [1 + (a0.1 0), (u24.1 0), (u24.1 1), 1 + (a0.1 3)] [(a0.2.1 0), (a0.2.1 1), (u24.2.1 0)] [(u24.2.2.1 0)] [(a0.2.2.2.1 0), (upd (a0.2.2.2.1 1) (a0.1 3) j14)] [] []) ⟨x3, (show 1 + (a0.1 0) ≤ 4 by omega), ⟨(show k10 ≤ (u24.1 1) by omega), (show (u24.1 1) ≤ (u24.1 0) by omega), (show (u24.1 0) ≤ k5 by omega), (Or.inr (show k10 < (u24.1 1) by omega)), (show 1 + (a0.1 3) = k16 + (1 + (a0.1 0)) by omega), (show ((u24.2.1 0) = 0 ∨ (u24.1 1) < (u24.1 0)) by first | assumption | exact Or.inr (by omega))⟩⟩ (by show 100000 - (1 + (a0.1 0)) < 100000 - (a0.1 0); omega)
        ·
          have x30 := n_eq (a := (a0.1 0)) (b := 4) kk20 (by omega) (by omega)
          refine V_aload_n 35 B dX12_readStrokes_35 2 rfl ?_
          refine V_iconst 36 B (v := 3) dX12_readStrokes_36 (by decide +kernel) ?_
          refine V_cvi 37 B (st := []) (As := [.int 3]) (fun sz => rX12_fail l D Y h0 h1 h2 h3 h4 h5 h6 p2 k5 (a0.1 1) (a0.2.1 0) (a0.2.1 1) (a0.2.1 2) (a0.1 2) p11 (a0.2.2.1 0) k15 (a0.1 3) f0 f1 f3 f4 (a0.2.2.2.1 0) (a0.2.2.2.1 1) ph HI (by omega) x3 3 sz) glV_RX12_291 ⟨rfl, rfl⟩ ⟨(Nat.le_of_ble_eq_true rfl), (Nat.le_of_ble_eq_true rfl)⟩ ⟨(Nat.le_of_ble_eq_true rfl), (Nat.le_of_ble_eq_true rfl)⟩ [0, 0, 0, 0, 0, 0, 0] rfl 13 0 rfl rfl rfl rfl (Nat.le_of_ble_eq_true rfl) rfl (fun _ _ _ => rfl) dX12_readStrokes_37 (fun j31 u32 w33 => ?_)
          refine V_ws [(h0, oC 13 [.ref h1, .ref h2, .int p2, .ref h3, .ref h4, .int (nI k5), .int (nI (a0.1 1)), .int (u32.2.1 0), .int (u32.2.1 1), .int (a0.2.1 2), .int (nI (a0.1 2)), .int p11, .long (a0.2.2.1 0), .ref h5, .ref h6, .int (nI k15), .int (nI (a0.1 3))]), (h1, aI Y 3640 f0), (h2, aZ Y 2 f1), (h3, aZ Y 80 f3), (h4, aB Y 1600 f4), (h5, aI Y 200 (a0.2.2.2.1 0)), (h6, aI Y 800 (a0.2.2.2.1 1))] rfl ?_
          have x34 := w33
          clear w33
          obtain rfl := x34
          exact V_zret 40 B rfl dX12_readStrokes_40 (mkW [(a0.1 1), (a0.1 2), (a0.1 3)] [(u32.2.1 0), (u32.2.1 1), (a0.2.1 2)] [(a0.2.2.1 0)] [(a0.2.2.2.1 0), (a0.2.2.2.1 1)] [] []) ⟨(Or.inl rfl), x3, (show k10 ≤ (a0.1 2) by omega), (show (a0.1 2) ≤ (a0.1 1) by omega), (show (a0.1 1) ≤ k5 by omega), (show ((a0.2.1 2) = 0 ∨ (a0.1 2) < (a0.1 1)) by first | assumption | exact Or.inr (by omega)), (show (a0.1 3) ≤ k16 + 4 by omega)⟩ rfl
      ·
        obtain rfl : j14 = (-1) := kk18
        have e36 : ((-1) : Int32).toInt = (-1) := by decide +kernel
        refine V_aload_n 24 B dX12_readStrokes_24 2 rfl ?_
        refine V_iconst 25 B (v := 1) dX12_readStrokes_25 (by decide +kernel) ?_
        refine V_cvi 26 B (st := []) (As := [.int 1]) (fun sz => rX12_fail l D Y h0 h1 h2 h3 h4 h5 h6 p2 k5 (a0.1 1) (a0.2.1 0) (a0.2.1 1) (a0.2.1 2) (a0.1 2) p11 (a0.2.2.1 0) k15 (a0.1 3) f0 f1 f3 f4 (a0.2.2.2.1 0) (a0.2.2.2.1 1) ph HI (by omega) x3 1 sz) glV_RX12_291 ⟨rfl, rfl⟩ ⟨(Nat.le_of_ble_eq_true rfl), (Nat.le_of_ble_eq_true rfl)⟩ ⟨(Nat.le_of_ble_eq_true rfl), (Nat.le_of_ble_eq_true rfl)⟩ [0, 0, 0, 0, 0, 0, 0] rfl 13 0 rfl rfl rfl rfl (Nat.le_of_ble_eq_true rfl) rfl (fun _ _ _ => rfl) dX12_readStrokes_26 (fun j37 u38 w39 => ?_)
        refine V_ws [(h0, oC 13 [.ref h1, .ref h2, .int p2, .ref h3, .ref h4, .int (nI k5), .int (nI (a0.1 1)), .int (u38.2.1 0), .int (u38.2.1 1), .int (a0.2.1 2), .int (nI (a0.1 2)), .int p11, .long (a0.2.2.1 0), .ref h5, .ref h6, .int (nI k15), .int (nI (a0.1 3))]), (h1, aI Y 3640 f0), (h2, aZ Y 2 f1), (h3, aZ Y 80 f3), (h4, aB Y 1600 f4), (h5, aI Y 200 (a0.2.2.2.1 0)), (h6, aI Y 800 (a0.2.2.2.1 1))] rfl ?_
        have x40 := w39
        clear w39
        obtain rfl := x40
        exact V_zret 29 B rfl dX12_readStrokes_29 (mkW [(a0.1 1), (a0.1 2), (a0.1 3)] [(u38.2.1 0), (u38.2.1 1), (a0.2.1 2)] [(a0.2.2.1 0)] [(a0.2.2.2.1 0), (a0.2.2.2.1 1)] [] []) ⟨(Or.inl rfl), x3, (show k10 ≤ (a0.1 2) by omega), (show (a0.1 2) ≤ (a0.1 1) by omega), (show (a0.1 1) ≤ k5 by omega), (show ((a0.2.1 2) = 0 ∨ (a0.1 2) < (a0.1 1)) by first | assumption | exact Or.inr (by omega)), (show (a0.1 3) ≤ k16 + 4 by omega)⟩ rfl
    ·
      have x41 := n_ne (a := (a0.1 0)) (b := 0) kk12
      refine V_aload_n 6 B dX12_readStrokes_6 1 rfl ?_
      refine V_get 7 B gf_RX12_283 0 rfl rfl dX12_readStrokes_7 ?_
      refine V_iconst 10 B (v := 1) dX12_readStrokes_10 (by decide +kernel) ?_
      refine V_icmp_ne 11 B 71 dX12_readStrokes_11 (by decide) (fun kk42 => ?_) (fun kk42 => ?_)
      ·
        have x43 := x_ne kk42
        rw [show (1 : Int32).toInt = 1 by decide +kernel] at x43
        have x44 : k10 < (a0.1 2) := by
          rcases x9 with z | z
          · omega
          · exact z
        refine V_aload_n 71 B dX12_readStrokes_71 1 rfl ?_
        refine V_get 72 B gf_RX12_28 0 rfl rfl dX12_readStrokes_72 ?_
        refine V_iconst 75 B (v := 5) dX12_readStrokes_75 (by decide +kernel) ?_
        refine V_aload_n 76 B dX12_readStrokes_76 1 rfl ?_
        refine V_get 77 B gf_RX12_361 0 rfl rfl dX12_readStrokes_77 ?_
        refine V_imul 80 B (v := (nI (5 * k15))) dX12_readStrokes_80 (nI_mulE (a := 5) (b := k15) (by omega)) ?_
        refine V_iconst 81 B (v := 4) dX12_readStrokes_81 (by decide +kernel) ?_
        refine V_iadd 82 B (v := (nI (4 + 5 * k15))) dX12_readStrokes_82 (nI_addE (a := 5 * k15) (b := 4) (by omega)) ?_
        refine V_iload_n 83 B dX12_readStrokes_83 0 rfl ?_
        have x45 : PLV (upd (a0.2.2.2.1 0) (4 + 5 * k15) (nI (a0.1 0))) := PLV_4 x3 (by omega) (by rw [nI_toInt (show (a0.1 0) < 2 ^ 31 by omega)]; omega) (by rw [nI_toInt (show (a0.1 0) < 2 ^ 31 by omega)]; omega)
        refine V_iast 84 B 5 rfl (vp_in_nI (n := 4 + 5 * k15) (by omega) (by decide)) dX12_readStrokes_84 [(h0, oC 13 [.ref h1, .ref h2, .int p2, .ref h3, .ref h4, .int (nI k5), .int (nI (a0.1 1)), .int (a0.2.1 0), .int (a0.2.1 1), .int (a0.2.1 2), .int (nI (a0.1 2)), .int p11, .long (a0.2.2.1 0), .ref h5, .ref h6, .int (nI k15), .int (nI (a0.1 3))]), (h1, aI Y 3640 f0), (h2, aZ Y 2 f1), (h3, aZ Y 80 f3), (h4, aB Y 1600 f4), (h5, aI Y 200 (upd (a0.2.2.2.1 0) (4 + 5 * k15) (nI (a0.1 0)))), (h6, aI Y 800 (a0.2.2.2.1 1))] (by rw [nI_clamp (show 4 + 5 * k15 < 2 ^ 31 by omega)]; rfl) ?_
        refine V_iconst 85 B (v := 1) dX12_readStrokes_85 (by decide +kernel) ?_
        exact V_zret 86 B rfl dX12_readStrokes_86 (mkW [(a0.1 1), (a0.1 2), (a0.1 3)] [(a0.2.1 0), (a0.2.1 1), (a0.2.1 2)] [(a0.2.2.1 0)] [(upd (a0.2.2.2.1 0) (4 + 5 * k15) (nI (a0.1 0))), (a0.2.2.2.1 1)] [] []) ⟨(Or.inr ⟨rfl, (show k10 < (a0.1 2) by omega)⟩), x45, (show k10 ≤ (a0.1 2) by omega), (show (a0.1 2) ≤ (a0.1 1) by omega), (show (a0.1 1) ≤ k5 by omega), (show ((a0.2.1 2) = 0 ∨ (a0.1 2) < (a0.1 1)) by first | assumption | exact Or.inr (by omega)), (show (a0.1 3) ≤ k16 + 4 by omega)⟩ rfl
      ·
        have x46 := x_eq kk42
        rw [show (1 : Int32).toInt = 1 by decide +kernel] at x46
        refine V_aload_n 14 B dX12_readStrokes_14 1 rfl ?_
        refine V_cvi 15 B (st := []) (As := []) (fun sz => rX12_strokeHere l D Y h0 h1 h2 h3 h4 h5 h6 p2 k5 (a0.1 1) (a0.2.1 0) (a0.2.1 1) (a0.2.1 2) (a0.1 2) p11 (a0.2.2.1 0) k15 (a0.1 3) f0 f1 f3 f4 (a0.2.2.2.1 0) (a0.2.2.2.1 1) ph HI (by omega) x3 (by omega) (by omega) (by first | assumption | exact Or.inl rfl | exact Or.inr (by omega)) sz) glV_RX12_297 ⟨rfl, rfl⟩ ⟨(Nat.le_of_ble_eq_true rfl), (Nat.le_of_ble_eq_true rfl)⟩ ⟨(Nat.le_of_ble_eq_true rfl), (Nat.le_of_ble_eq_true rfl)⟩ [0, 0, 0, 0, 0, 0, 0] rfl 13 0 rfl rfl rfl rfl (Nat.le_of_ble_eq_true rfl) rfl (fun _ _ _ => rfl) dX12_readStrokes_15 (fun j47 u48 w49 => ?_)
        refine V_ws [(h0, oC 13 [.ref h1, .ref h2, .int p2, .ref h3, .ref h4, .int (nI k5), .int (nI (a0.1 1)), .int (a0.2.1 0), .int (a0.2.1 1), .int (a0.2.1 2), .int (nI (a0.1 2)), .int p11, .long (a0.2.2.1 0), .ref h5, .ref h6, .int (nI k15), .int (nI (a0.1 3))]), (h1, aI Y 3640 f0), (h2, aZ Y 2 f1), (h3, aZ Y 80 f3), (h4, aB Y 1600 f4), (h5, aI Y 200 (a0.2.2.2.1 0)), (h6, aI Y 800 (a0.2.2.2.1 1))] rfl ?_
        have x50 := w49
        clear w49
        refine V_istore_n 18 B (lv2 := [(2, .int j47), (1, .int (nI (a0.1 0))), (0, .ref h0)]) dX12_readStrokes_18 (by decide) rfl ?_
        refine V_iload_n 19 B dX12_readStrokes_19 0 rfl ?_
        refine V_iconst 20 B (v := (-1)) dX12_readStrokes_20 (by decide +kernel) ?_
        refine V_icmp_ne 21 B 30 dX12_readStrokes_21 (by decide) (fun kk51 => ?_) (fun kk51 => ?_)
        ·
          have x52 := x_ne kk51
          rw [show ((-1) : Int32).toInt = (-1) by decide +kernel] at x52
          refine V_iload_n 30 B dX12_readStrokes_30 1 rfl ?_
          refine V_iconst 31 B (v := 4) dX12_readStrokes_31 (by decide +kernel) ?_
          refine V_icmp_ne 32 B 41 dX12_readStrokes_32 (by decide) (fun kk53 => ?_) (fun kk53 => ?_)
          ·
            have x54 := n_ne (a := (a0.1 0)) (b := 4) kk53
            refine V_aload_n 41 B dX12_readStrokes_41 2 rfl ?_
            refine V_get 42 B gf_RX12_31 0 rfl rfl dX12_readStrokes_42 ?_
            refine V_aload_n 45 B dX12_readStrokes_45 2 rfl ?_
            refine V_get 46 B gf_RX12_358 0 rfl rfl dX12_readStrokes_46 ?_
            refine V_iload_n 49 B dX12_readStrokes_49 0 rfl ?_
            refine V_iast 50 B 6 rfl (vp_in_nI (n := (a0.1 3)) (by omega) (by decide)) dX12_readStrokes_50 [(h0, oC 13 [.ref h1, .ref h2, .int p2, .ref h3, .ref h4, .int (nI k5), .int (nI (a0.1 1)), .int (a0.2.1 0), .int (a0.2.1 1), .int (a0.2.1 2), .int (nI (a0.1 2)), .int p11, .long (a0.2.2.1 0), .ref h5, .ref h6, .int (nI k15), .int (nI (a0.1 3))]), (h1, aI Y 3640 f0), (h2, aZ Y 2 f1), (h3, aZ Y 80 f3), (h4, aB Y 1600 f4), (h5, aI Y 200 (a0.2.2.2.1 0)), (h6, aI Y 800 (upd (a0.2.2.2.1 1) (a0.1 3) j47))] (by rw [nI_clamp (show (a0.1 3) < 2 ^ 31 by omega)]; rfl) ?_
            refine V_aload_n 51 B dX12_readStrokes_51 2 rfl ?_
            refine V_dup 52 B dX12_readStrokes_52 rfl ?_
            refine V_get 53 B gf_RX12_358 0 rfl rfl dX12_readStrokes_53 ?_
            refine V_iconst 56 B (v := 1) dX12_readStrokes_56 (by decide +kernel) ?_
            refine V_iadd 57 B (v := (nI (1 + (a0.1 3)))) dX12_readStrokes_57 (nI_addE (a := (a0.1 3)) (b := 1) (by omega)) ?_
            refine V_put 58 B gp_RX12_358 0 rfl (Nat.le_of_ble_eq_true rfl) rfl rfl dX12_readStrokes_58 [(h0, oC 13 [.ref h1, .ref h2, .int p2, .ref h3, .ref h4, .int (nI k5), .int (nI (a0.1 1)), .int (a0.2.1 0), .int (a0.2.1 1), .int (a0.2.1 2), .int (nI (a0.1 2)), .int p11, .long (a0.2.2.1 0), .ref h5, .ref h6, .int (nI k15), .int (nI (1 + (a0.1 3)))]), (h1, aI Y 3640 f0), (h2, aZ Y 2 f1), (h3, aZ Y 80 f3), (h4, aB Y 1600 f4), (h5, aI Y 200 (a0.2.2.2.1 0)), (h6, aI Y 800 (upd (a0.2.2.2.1 1) (a0.1 3) j47))] rfl ?_
            refine V_iinc 61 B (v := (nI (1 + (a0.1 0)))) (lv2 := [(1, .int (nI (1 + (a0.1 0)))), (2, .int j47), (0, .ref h0)]) dX12_readStrokes_61 1 rfl (nI_addE (a := (a0.1 0)) (b := 1) (by omega)) (by decide) rfl ?_
            have x55 : (a0.1 2) < (a0.1 1) := by
              rcases x50 with z | z
              · contradiction
              · exact z
            refine V_aload_n 64 B dX12_readStrokes_64 2 rfl ?_
            refine V_cvv 65 B (st := []) (As := []) (fun sz => rX12_advance l D Y h0 h1 h2 h3 h4 h5 h6 p2 k5 (a0.1 1) (a0.2.1 0) (a0.2.1 1) (a0.2.1 2) (a0.1 2) p11 (a0.2.2.1 0) k15 (1 + (a0.1 3)) f0 f1 f3 f4 (a0.2.2.2.1 0) (upd (a0.2.2.2.1 1) (a0.1 3) j47) ph HI (by omega) x3 (by omega) sz) glV_RX12_288 ⟨rfl, rfl⟩ ⟨(Nat.le_of_ble_eq_true rfl), (Nat.le_of_ble_eq_true rfl)⟩ ⟨(Nat.le_of_ble_eq_true rfl), (Nat.le_of_ble_eq_true rfl)⟩ [0, 0, 0, 0, 0, 0, 0] rfl 13 0 rfl rfl rfl rfl (Nat.le_of_ble_eq_true rfl) rfl (fun _ _ => rfl) dX12_readStrokes_65 (fun u57 w58 => ?_)
            refine V_ws [(h0, oC 13 [.ref h1, .ref h2, .int p2, .ref h3, .ref h4, .int (nI k5), .int (nI (u57.1 0)), .int (a0.2.1 0), .int (a0.2.1 1), .int (u57.2.1 0), .int (nI (u57.1 1)), .int p11, .long (u57.2.2.1 0), .ref h5, .ref h6, .int (nI k15), .int (nI (1 + (a0.1 3)))]), (h1, aI Y 3640 f0), (h2, aZ Y 2 f1), (h3, aZ Y 80 f3), (h4, aB Y 1600 f4), (h5, aI Y 200 (a0.2.2.2.1 0)), (h6, aI Y 800 (upd (a0.2.2.2.1 1) (a0.1 3) j47))] rfl ?_
            obtain ⟨x59, x60, x61, x62⟩ := w58
            refine V_goto 68 B 2 dX12_readStrokes_68 (by decide) ?_
            refine V_lv [(1, .int (nI (1 + (a0.1 0)))), (0, .ref h0)] [0, 2] rfl ?_
            exact IH1 (mkW [1 + (a0.1 0), (u57.1 0), (u57.1 1), 1 + (a0.1 3)] [(a0.2.1 0), (a0.2.1 1), (u57.2.1 0)] [(u57.2.2.1 0)] [(a0.2.2.2.1 0), (upd (a0.2.2.2.1 1) (a0.1 3) j47)] [] []) ⟨x3, (show 1 + (a0.1 0) ≤ 4 by omega), ⟨(show k10 ≤ (u57.1 1) by omega), (show (u57.1 1) ≤ (u57.1 0) by omega), (show (u57.1 0) ≤ k5 by omega), (Or.inr (show k10 < (u57.1 1) by omega)), (show 1 + (a0.1 3) = k16 + (1 + (a0.1 0)) by omega), (show ((u57.2.1 0) = 0 ∨ (u57.1 1) < (u57.1 0)) by first | assumption | exact Or.inr (by omega))⟩⟩ (by show 100000 - (1 + (a0.1 0)) < 100000 - (a0.1 0); omega)
          ·
            have x63 := n_eq (a := (a0.1 0)) (b := 4) kk53 (by omega) (by omega)
            refine V_aload_n 35 B dX12_readStrokes_35 2 rfl ?_
            refine V_iconst 36 B (v := 3) dX12_readStrokes_36 (by decide +kernel) ?_
            refine V_cvi 37 B (st := []) (As := [.int 3]) (fun sz => rX12_fail l D Y h0 h1 h2 h3 h4 h5 h6 p2 k5 (a0.1 1) (a0.2.1 0) (a0.2.1 1) (a0.2.1 2) (a0.1 2) p11 (a0.2.2.1 0) k15 (a0.1 3) f0 f1 f3 f4 (a0.2.2.2.1 0) (a0.2.2.2.1 1) ph HI (by omega) x3 3 sz) glV_RX12_291 ⟨rfl, rfl⟩ ⟨(Nat.le_of_ble_eq_true rfl), (Nat.le_of_ble_eq_true rfl)⟩ ⟨(Nat.le_of_ble_eq_true rfl), (Nat.le_of_ble_eq_true rfl)⟩ [0, 0, 0, 0, 0, 0, 0] rfl 13 0 rfl rfl rfl rfl (Nat.le_of_ble_eq_true rfl) rfl (fun _ _ _ => rfl) dX12_readStrokes_37 (fun j64 u65 w66 => ?_)
            refine V_ws [(h0, oC 13 [.ref h1, .ref h2, .int p2, .ref h3, .ref h4, .int (nI k5), .int (nI (a0.1 1)), .int (u65.2.1 0), .int (u65.2.1 1), .int (a0.2.1 2), .int (nI (a0.1 2)), .int p11, .long (a0.2.2.1 0), .ref h5, .ref h6, .int (nI k15), .int (nI (a0.1 3))]), (h1, aI Y 3640 f0), (h2, aZ Y 2 f1), (h3, aZ Y 80 f3), (h4, aB Y 1600 f4), (h5, aI Y 200 (a0.2.2.2.1 0)), (h6, aI Y 800 (a0.2.2.2.1 1))] rfl ?_
            have x67 := w66
            clear w66
            obtain rfl := x67
            exact V_zret 40 B rfl dX12_readStrokes_40 (mkW [(a0.1 1), (a0.1 2), (a0.1 3)] [(u65.2.1 0), (u65.2.1 1), (a0.2.1 2)] [(a0.2.2.1 0)] [(a0.2.2.2.1 0), (a0.2.2.2.1 1)] [] []) ⟨(Or.inl rfl), x3, (show k10 ≤ (a0.1 2) by omega), (show (a0.1 2) ≤ (a0.1 1) by omega), (show (a0.1 1) ≤ k5 by omega), (show ((a0.2.1 2) = 0 ∨ (a0.1 2) < (a0.1 1)) by first | assumption | exact Or.inr (by omega)), (show (a0.1 3) ≤ k16 + 4 by omega)⟩ rfl
        ·
          obtain rfl : j47 = (-1) := kk51
          have e69 : ((-1) : Int32).toInt = (-1) := by decide +kernel
          refine V_aload_n 24 B dX12_readStrokes_24 2 rfl ?_
          refine V_iconst 25 B (v := 1) dX12_readStrokes_25 (by decide +kernel) ?_
          refine V_cvi 26 B (st := []) (As := [.int 1]) (fun sz => rX12_fail l D Y h0 h1 h2 h3 h4 h5 h6 p2 k5 (a0.1 1) (a0.2.1 0) (a0.2.1 1) (a0.2.1 2) (a0.1 2) p11 (a0.2.2.1 0) k15 (a0.1 3) f0 f1 f3 f4 (a0.2.2.2.1 0) (a0.2.2.2.1 1) ph HI (by omega) x3 1 sz) glV_RX12_291 ⟨rfl, rfl⟩ ⟨(Nat.le_of_ble_eq_true rfl), (Nat.le_of_ble_eq_true rfl)⟩ ⟨(Nat.le_of_ble_eq_true rfl), (Nat.le_of_ble_eq_true rfl)⟩ [0, 0, 0, 0, 0, 0, 0] rfl 13 0 rfl rfl rfl rfl (Nat.le_of_ble_eq_true rfl) rfl (fun _ _ _ => rfl) dX12_readStrokes_26 (fun j70 u71 w72 => ?_)
          refine V_ws [(h0, oC 13 [.ref h1, .ref h2, .int p2, .ref h3, .ref h4, .int (nI k5), .int (nI (a0.1 1)), .int (u71.2.1 0), .int (u71.2.1 1), .int (a0.2.1 2), .int (nI (a0.1 2)), .int p11, .long (a0.2.2.1 0), .ref h5, .ref h6, .int (nI k15), .int (nI (a0.1 3))]), (h1, aI Y 3640 f0), (h2, aZ Y 2 f1), (h3, aZ Y 80 f3), (h4, aB Y 1600 f4), (h5, aI Y 200 (a0.2.2.2.1 0)), (h6, aI Y 800 (a0.2.2.2.1 1))] rfl ?_
          have x73 := w72
          clear w72
          obtain rfl := x73
          exact V_zret 29 B rfl dX12_readStrokes_29 (mkW [(a0.1 1), (a0.1 2), (a0.1 3)] [(u71.2.1 0), (u71.2.1 1), (a0.2.1 2)] [(a0.2.2.1 0)] [(a0.2.2.2.1 0), (a0.2.2.2.1 1)] [] []) ⟨(Or.inl rfl), x3, (show k10 ≤ (a0.1 2) by omega), (show (a0.1 2) ≤ (a0.1 1) by omega), (show (a0.1 1) ≤ k5 by omega), (show ((a0.2.1 2) = 0 ∨ (a0.1 2) < (a0.1 1)) by first | assumption | exact Or.inr (by omega)), (show (a0.1 3) ≤ k16 + 4 by omega)⟩ rfl)
theorem dX12_readPlayed_0 : decode cX12_readPlayed 0 = .ok (.aload_n 0, 1) := by decide +kernel
theorem dX12_readPlayed_1 : decode cX12_readPlayed 1 = .ok (.invokevirtual 364, 3) := by decide +kernel
theorem glV_RX12_364 : GLV RX12 364 yX12_commandHere RX12 cX12_commandHere 1 (some .int) 0 := ⟨⟨(mT10 62 rfl rfl), (mT10 64 rfl rfl), (mTs 93 rfl rfl), (mT1 13 rfl rfl), (mT10 65 rfl rfl)⟩, by decide +kernel⟩
theorem dX12_readPlayed_4 : decode cX12_readPlayed 4 = .ok (.istore_n 1, 1) := by decide +kernel
theorem dX12_readPlayed_5 : decode cX12_readPlayed 5 = .ok (.iload_n 1, 1) := by decide +kernel
theorem dX12_readPlayed_6 : decode cX12_readPlayed 6 = .ok (.iconst (-1), 1) := by decide +kernel
theorem dX12_readPlayed_7 : decode cX12_readPlayed 7 = .ok (.if_icmp .ne 9, 3) := by decide +kernel
theorem dX12_readPlayed_16 : decode cX12_readPlayed 16 = .ok (.aload_n 0, 1) := by decide +kernel
theorem dX12_readPlayed_17 : decode cX12_readPlayed 17 = .ok (.getfield 361, 3) := by decide +kernel
theorem dX12_readPlayed_20 : decode cX12_readPlayed 20 = .ok (.bipush 40, 2) := by decide +kernel
theorem dX12_readPlayed_22 : decode cX12_readPlayed 22 = .ok (.if_icmp .ne 9, 3) := by decide +kernel
theorem dX12_readPlayed_31 : decode cX12_readPlayed 31 = .ok (.aload_n 0, 1) := by decide +kernel
theorem dX12_readPlayed_32 : decode cX12_readPlayed 32 = .ok (.invokevirtual 288, 3) := by decide +kernel
theorem dX12_readPlayed_35 : decode cX12_readPlayed 35 = .ok (.iconst 5, 1) := by decide +kernel
theorem dX12_readPlayed_36 : decode cX12_readPlayed 36 = .ok (.aload_n 0, 1) := by decide +kernel
theorem dX12_readPlayed_37 : decode cX12_readPlayed 37 = .ok (.getfield 361, 3) := by decide +kernel
theorem dX12_readPlayed_40 : decode cX12_readPlayed 40 = .ok (.imul, 1) := by decide +kernel
theorem dX12_readPlayed_41 : decode cX12_readPlayed 41 = .ok (.istore_n 2, 1) := by decide +kernel
theorem dX12_readPlayed_42 : decode cX12_readPlayed 42 = .ok (.aload_n 0, 1) := by decide +kernel
theorem dX12_readPlayed_43 : decode cX12_readPlayed 43 = .ok (.getfield 28, 3) := by decide +kernel
theorem dX12_readPlayed_46 : decode cX12_readPlayed 46 = .ok (.iload_n 2, 1) := by decide +kernel
theorem dX12_readPlayed_47 : decode cX12_readPlayed 47 = .ok (.iload_n 1, 1) := by decide +kernel
theorem dX12_readPlayed_48 : decode cX12_readPlayed 48 = .ok (.iastore, 1) := by decide +kernel
theorem dX12_readPlayed_49 : decode cX12_readPlayed 49 = .ok (.aload_n 0, 1) := by decide +kernel
theorem dX12_readPlayed_50 : decode cX12_readPlayed 50 = .ok (.getfield 28, 3) := by decide +kernel
theorem dX12_readPlayed_53 : decode cX12_readPlayed 53 = .ok (.iload_n 2, 1) := by decide +kernel
theorem dX12_readPlayed_54 : decode cX12_readPlayed 54 = .ok (.iconst 3, 1) := by decide +kernel
theorem dX12_readPlayed_55 : decode cX12_readPlayed 55 = .ok (.iadd, 1) := by decide +kernel
theorem dX12_readPlayed_56 : decode cX12_readPlayed 56 = .ok (.aload_n 0, 1) := by decide +kernel
theorem dX12_readPlayed_57 : decode cX12_readPlayed 57 = .ok (.getfield 358, 3) := by decide +kernel
theorem dX12_readPlayed_60 : decode cX12_readPlayed 60 = .ok (.iastore, 1) := by decide +kernel
theorem dX12_readPlayed_61 : decode cX12_readPlayed 61 = .ok (.iconst 1, 1) := by decide +kernel
theorem dX12_readPlayed_62 : decode cX12_readPlayed 62 = .ok (.istore_n 3, 1) := by decide +kernel
theorem dX12_readPlayed_63 : decode cX12_readPlayed 63 = .ok (.iload_n 1, 1) := by decide +kernel
theorem dX12_readPlayed_64 : decode cX12_readPlayed 64 = .ok (.tableswitch 77 0 5 #[40, 40, 60, 60, 60, 69], 40) := by decide +kernel
theorem dX12_readPlayed_104 : decode cX12_readPlayed 104 = .ok (.aload_n 0, 1) := by decide +kernel
theorem dX12_readPlayed_105 : decode cX12_readPlayed 105 = .ok (.invokevirtual 316, 3) := by decide +kernel
theorem dX12_readPlayed_108 : decode cX12_readPlayed 108 = .ok (.istore_n 3, 1) := by decide +kernel
theorem dX12_readPlayed_109 : decode cX12_readPlayed 109 = .ok (.aload_n 0, 1) := by decide +kernel
theorem dX12_readPlayed_110 : decode cX12_readPlayed 110 = .ok (.getfield 28, 3) := by decide +kernel
theorem dX12_readPlayed_113 : decode cX12_readPlayed 113 = .ok (.iload_n 2, 1) := by decide +kernel
theorem dX12_readPlayed_114 : decode cX12_readPlayed 114 = .ok (.iconst 1, 1) := by decide +kernel
theorem dX12_readPlayed_115 : decode cX12_readPlayed 115 = .ok (.iadd, 1) := by decide +kernel
theorem dX12_readPlayed_116 : decode cX12_readPlayed 116 = .ok (.aload_n 0, 1) := by decide +kernel
theorem dX12_readPlayed_117 : decode cX12_readPlayed 117 = .ok (.getfield 294, 3) := by decide +kernel
theorem dX12_readPlayed_120 : decode cX12_readPlayed 120 = .ok (.iastore, 1) := by decide +kernel
theorem dX12_readPlayed_121 : decode cX12_readPlayed 121 = .ok (.goto 49, 3) := by decide +kernel
theorem dX12_readPlayed_170 : decode cX12_readPlayed 170 = .ok (.aload_n 0, 1) := by decide +kernel
theorem dX12_readPlayed_171 : decode cX12_readPlayed 171 = .ok (.dup, 1) := by decide +kernel
theorem dX12_readPlayed_172 : decode cX12_readPlayed 172 = .ok (.getfield 361, 3) := by decide +kernel
theorem dX12_readPlayed_175 : decode cX12_readPlayed 175 = .ok (.iconst 1, 1) := by decide +kernel
theorem dX12_readPlayed_176 : decode cX12_readPlayed 176 = .ok (.iadd, 1) := by decide +kernel
theorem dX12_readPlayed_177 : decode cX12_readPlayed 177 = .ok (.putfield 361, 3) := by decide +kernel
theorem gp_RX12_361 : GP RX12 361 13 15 .int false := ⟨RX12, TX12, 17, ⟨rfl, inw_X12, Nat.le_of_ble_eq_true rfl, (mT7 152 rfl rfl)⟩, ⟨tyX12, tyX12_ok⟩, nmX12, rfl, by decide +kernel, fun h => nomatch h⟩
theorem dX12_readPlayed_180 : decode cX12_readPlayed 180 = .ok (.iload_n 3, 1) := by decide +kernel
theorem dX12_readPlayed_181 : decode cX12_readPlayed 181 = .ok (.ifCond .eq 14, 3) := by decide +kernel
theorem dX12_readPlayed_195 : decode cX12_readPlayed 195 = .ok (.iconst 0, 1) := by decide +kernel
theorem dX12_readPlayed_196 : decode cX12_readPlayed 196 = .ok (.ireturn, 1) := by decide +kernel
theorem dX12_readPlayed_184 : decode cX12_readPlayed 184 = .ok (.aload_n 0, 1) := by decide +kernel
theorem dX12_readPlayed_185 : decode cX12_readPlayed 185 = .ok (.invokevirtual 304, 3) := by decide +kernel
theorem dX12_readPlayed_188 : decode cX12_readPlayed 188 = .ok (.ifCond .eq 7, 3) := by decide +kernel
theorem dX12_readPlayed_191 : decode cX12_readPlayed 191 = .ok (.iconst 1, 1) := by decide +kernel
theorem dX12_readPlayed_192 : decode cX12_readPlayed 192 = .ok (.goto 4, 3) := by decide +kernel
theorem dX12_readPlayed_124 : decode cX12_readPlayed 124 = .ok (.aload_n 0, 1) := by decide +kernel
theorem dX12_readPlayed_125 : decode cX12_readPlayed 125 = .ok (.iconst 1, 1) := by decide +kernel
theorem dX12_readPlayed_126 : decode cX12_readPlayed 126 = .ok (.invokevirtual 367, 3) := by decide +kernel
theorem dX12_readNumberOf_0 : decode cX12_readNumberOf 0 = .ok (.aload_n 0, 1) := by decide +kernel
theorem dX12_readNumberOf_1 : decode cX12_readNumberOf 1 = .ok (.iconst 0, 1) := by decide +kernel
theorem dX12_readNumberOf_2 : decode cX12_readNumberOf 2 = .ok (.sipush 999, 3) := by decide +kernel
theorem dX12_readNumberOf_5 : decode cX12_readNumberOf 5 = .ok (.invokevirtual 301, 3) := by decide +kernel
theorem dX12_readNumberOf_8 : decode cX12_readNumberOf 8 = .ok (.ifCond .ne 5, 3) := by decide +kernel
theorem dX12_readNumberOf_11 : decode cX12_readNumberOf 11 = .ok (.iconst 0, 1) := by decide +kernel
theorem dX12_readNumberOf_12 : decode cX12_readNumberOf 12 = .ok (.ireturn, 1) := by decide +kernel
theorem dX12_readNumberOf_13 : decode cX12_readNumberOf 13 = .ok (.aload_n 0, 1) := by decide +kernel
theorem dX12_readNumberOf_14 : decode cX12_readNumberOf 14 = .ok (.getfield 28, 3) := by decide +kernel
theorem dX12_readNumberOf_17 : decode cX12_readNumberOf 17 = .ok (.iconst 5, 1) := by decide +kernel
theorem dX12_readNumberOf_18 : decode cX12_readNumberOf 18 = .ok (.aload_n 0, 1) := by decide +kernel
theorem dX12_readNumberOf_19 : decode cX12_readNumberOf 19 = .ok (.getfield 361, 3) := by decide +kernel
theorem dX12_readNumberOf_22 : decode cX12_readNumberOf 22 = .ok (.imul, 1) := by decide +kernel
theorem dX12_readNumberOf_23 : decode cX12_readNumberOf 23 = .ok (.iload_n 1, 1) := by decide +kernel
theorem dX12_readNumberOf_24 : decode cX12_readNumberOf 24 = .ok (.iadd, 1) := by decide +kernel
theorem dX12_readNumberOf_25 : decode cX12_readNumberOf 25 = .ok (.aload_n 0, 1) := by decide +kernel
theorem dX12_readNumberOf_26 : decode cX12_readNumberOf 26 = .ok (.getfield 294, 3) := by decide +kernel
theorem dX12_readNumberOf_29 : decode cX12_readNumberOf 29 = .ok (.iastore, 1) := by decide +kernel
theorem dX12_readNumberOf_30 : decode cX12_readNumberOf 30 = .ok (.iconst 1, 1) := by decide +kernel
theorem dX12_readNumberOf_31 : decode cX12_readNumberOf 31 = .ok (.ireturn, 1) := by decide +kernel
set_option maxRecDepth 100000 in
set_option maxHeartbeats 4000000 in
theorem rX12_readNumberOf_1 (l : Launch) (D : va_G) (Y : Nat → ClassId) (h0 : Nat) (h1 : Nat) (h2 : Nat) (h3 : Nat) (h4 : Nat) (h5 : Nat) (h6 : Nat) (p2 : Int32) (k5 : Nat) (k6 : Nat) (p7 : Int32) (p8 : Int32) (p9 : Int32) (k10 : Nat) (p11 : Int32) (q12 : Int64) (k15 : Nat) (k16 : Nat) (f0 : Nat → Int32) (f1 : Nat → Int32) (f3 : Nat → Int32) (f4 : Nat → Int32) (f13 : Nat → Int32) (f14 : Nat → Int32) (ph : Nat → Int32) (HI : INV ph f0) (HL : k5 ≤ 1600) (HP : PLV f13)  (hx0 : k10 ≤ k6) (hx1 : k6 ≤ k5) (hx2 : (p9 = 0 ∨ k10 < k6)) (hx3 : k15 ≤ 39) (sz : Nat) : Met l yX12_readNumberOf (WSm yX12_readNumberOf cX12_readNumberOf 2 (some .boolean)) (mkR 5 0 0 108) (PreC D Y [.ref h0, .int 1] [(h0, oC 13 [.ref h1, .ref h2, .int p2, .ref h3, .ref h4, .int (nI k5), .int (nI k6), .int p7, .int p8, .int p9, .int (nI k10), .int p11, .long q12, .ref h5, .ref h6, .int (nI k15), .int (nI k16)]), (h1, aI Y 3640 f0), (h2, aZ Y 2 f1), (h3, aZ Y 80 f3), (h4, aB Y 1600 f4), (h5, aI Y 200 f13), (h6, aI Y 800 f14)] sz) (QI D (fun (r : Int32) (u : WU) => (r = 0 ∨ (r = 1 ∧ k10 < (u.1 1))) ∧ PLV (u.2.2.2.1 0) ∧ k10 ≤ (u.1 1) ∧ (u.1 1) ≤ (u.1 0) ∧ (u.1 0) ≤ k5 ∧ ((u.2.1 2) = 0 ∨ (u.1 1) < (u.1 0))) (fun (u : WU) => [(h0, oC 13 [.ref h1, .ref h2, .int p2, .ref h3, .ref h4, .int (nI k5), .int (nI (u.1 0)), .int (u.2.1 0), .int (u.2.1 1), .int (u.2.1 2), .int (nI (u.1 1)), .int (u.2.1 3), .long (u.2.2.1 0), .ref h5, .ref h6, .int (nI k15), .int (nI k16)]), (h1, aI Y 3640 f0), (h2, aZ Y 2 f1), (h3, aZ Y 80 f3), (h4, aB Y 1600 f4), (h5, aI Y 200 (u.2.2.2.1 0)), (h6, aI Y 800 f14)]) (va_A [(h0, oC 13 [.ref h1, .ref h2, .int p2, .ref h3, .ref h4, .int (nI k5), .int (nI k6), .int p7, .int p8, .int p9, .int (nI k10), .int p11, .long q12, .ref h5, .ref h6, .int (nI k15), .int (nI k16)]), (h1, aI Y 3640 f0), (h2, aZ Y 2 f1), (h3, aZ Y 80 f3), (h4, aB Y 1600 f4), (h5, aI Y 200 f13), (h6, aI Y 800 f14)] sz)) 0 0 (va_A [(h0, oC 13 [.ref h1, .ref h2, .int p2, .ref h3, .ref h4, .int (nI k5), .int (nI k6), .int p7, .int p8, .int p9, .int (nI k10), .int p11, .long q12, .ref h5, .ref h6, .int (nI k15), .int (nI k16)]), (h1, aI Y 3640 f0), (h2, aZ Y 2 f1), (h3, aZ Y 80 f3), (h4, aB Y 1600 f4), (h5, aI Y 200 f13), (h6, aI Y 800 f14)] sz) :=
  met_of  (by decide +kernel) (Nat.le_of_ble_eq_true rfl) (fun p e s m args below meth c B hin hsz => by
    have B : VB p s m args meth c D Y (va_A [(h0, oC 13 [.ref h1, .ref h2, .int p2, .ref h3, .ref h4, .int (nI k5), .int (nI k6), .int p7, .int p8, .int p9, .int (nI k10), .int p11, .long q12, .ref h5, .ref h6, .int (nI k15), .int (nI k16)]), (h1, aI Y 3640 f0), (h2, aZ Y 2 f1), (h3, aZ Y 80 f3), (h4, aB Y 1600 f4), (h5, aI Y 200 f13), (h6, aI Y 800 f14)] sz) cX12_readNumberOf 2 RX12 (some .boolean) := B
    refine V_aload_n 0 B dX12_readNumberOf_0 0 rfl ?_
    refine V_iconst 1 B (v := 0) dX12_readNumberOf_1 (by decide +kernel) ?_
    refine V_sipush 2 B (v := 999) dX12_readNumberOf_2 (by decide +kernel) ?_
    refine V_cvi 5 B (st := []) (As := [.int 0, .int 999]) (fun sz => rX12_readNumber l D Y h0 h1 h2 h3 h4 h5 h6 p2 k5 k6 p7 p8 p9 k10 p11 q12 k15 k16 f0 f1 f3 f4 f13 f14 ph HI (by omega) HP 0 999 (by omega) (by omega) (by first | assumption | exact Or.inl rfl | exact Or.inr (by omega)) (by decide +kernel) sz) glV_RX12_301 ⟨rfl, rfl⟩ ⟨(Nat.le_of_ble_eq_true rfl), (Nat.le_of_ble_eq_true rfl)⟩ ⟨(Nat.le_of_ble_eq_true rfl), (Nat.le_of_ble_eq_true rfl)⟩ [0, 0, 0, 0, 0, 0, 0] rfl 13 0 rfl rfl rfl rfl (Nat.le_of_ble_eq_true rfl) rfl (fun _ _ _ => rfl) dX12_readNumberOf_5 (fun j0 u1 w2 => ?_)
    refine V_ws [(h0, oC 13 [.ref h1, .ref h2, .int p2, .ref h3, .ref h4, .int (nI k5), .int (nI (u1.1 0)), .int (u1.2.1 0), .int (u1.2.1 1), .int (u1.2.1 2), .int (nI (u1.1 1)), .int (u1.2.1 3), .long (u1.2.2.1 0), .ref h5, .ref h6, .int (nI k15), .int (nI k16)]), (h1, aI Y 3640 f0), (h2, aZ Y 2 f1), (h3, aZ Y 80 f3), (h4, aB Y 1600 f4), (h5, aI Y 200 f13), (h6, aI Y 800 f14)] rfl ?_
    obtain ⟨x3, x4, x5, x6, x7⟩ := w2
    rcases x3 with rfl | ⟨rfl, x8, x9⟩
    ·
      refine V_if_ne_f 8 B 13 dX12_readNumberOf_8 (by decide) (by decide +kernel) ?_
      refine V_iconst 11 B (v := 0) dX12_readNumberOf_11 (by decide +kernel) ?_
      exact V_zret 12 B rfl dX12_readNumberOf_12 (mkW [(u1.1 0), (u1.1 1)] [(u1.2.1 0), (u1.2.1 1), (u1.2.1 2), (u1.2.1 3)] [(u1.2.2.1 0)] [f13] [] []) ⟨(Or.inl rfl), HP, (show k10 ≤ (u1.1 1) by omega), (show (u1.1 1) ≤ (u1.1 0) by omega), (show (u1.1 0) ≤ k5 by omega), (show ((u1.2.1 2) = 0 ∨ (u1.1 1) < (u1.1 0)) by first | assumption | exact Or.inr (by omega))⟩ rfl
    ·
      have e10 : (0 : Int32).toInt = 0 := by decide +kernel
      have e11 : (999 : Int32).toInt = 999 := by decide +kernel
      generalize u1.2.1 3 = j12 at *
      refine V_if_ne_t 8 B 13 dX12_readNumberOf_8 (by decide) (by decide +kernel) ?_
      refine V_aload_n 13 B dX12_readNumberOf_13 0 rfl ?_
      refine V_get 14 B gf_RX12_28 0 rfl rfl dX12_readNumberOf_14 ?_
      refine V_iconst 17 B (v := 5) dX12_readNumberOf_17 (by decide +kernel) ?_
      refine V_aload_n 18 B dX12_readNumberOf_18 0 rfl ?_
      refine V_get 19 B gf_RX12_361 0 rfl rfl dX12_readNumberOf_19 ?_
      refine V_imul 22 B (v := (nI (5 * k15))) dX12_readNumberOf_22 (nI_mulE (a := 5) (b := k15) (by omega)) ?_
      refine V_iload_n 23 B dX12_readNumberOf_23 1 rfl ?_
      refine V_iadd 24 B (v := (nI (1 + 5 * k15))) dX12_readNumberOf_24 (nI_addE (a := 5 * k15) (b := 1) (by omega)) ?_
      refine V_aload_n 25 B dX12_readNumberOf_25 0 rfl ?_
      refine V_get 26 B gf_RX12_294 0 rfl rfl dX12_readNumberOf_26 ?_
      have x13 : PLV (upd f13 (1 + 5 * k15) j12) := PLV_fr HP (by omega)
      refine V_iast 29 B 5 rfl (vp_in_nI (n := 1 + 5 * k15) (by omega) (by decide)) dX12_readNumberOf_29 [(h0, oC 13 [.ref h1, .ref h2, .int p2, .ref h3, .ref h4, .int (nI k5), .int (nI (u1.1 0)), .int (u1.2.1 0), .int (u1.2.1 1), .int (u1.2.1 2), .int (nI (u1.1 1)), .int j12, .long (u1.2.2.1 0), .ref h5, .ref h6, .int (nI k15), .int (nI k16)]), (h1, aI Y 3640 f0), (h2, aZ Y 2 f1), (h3, aZ Y 80 f3), (h4, aB Y 1600 f4), (h5, aI Y 200 (upd f13 (1 + 5 * k15) j12)), (h6, aI Y 800 f14)] (by rw [nI_clamp (show 1 + 5 * k15 < 2 ^ 31 by omega)]; rfl) ?_
      refine V_iconst 30 B (v := 1) dX12_readNumberOf_30 (by decide +kernel) ?_
      exact V_zret 31 B rfl dX12_readNumberOf_31 (mkW [(u1.1 0), (u1.1 1)] [(u1.2.1 0), (u1.2.1 1), (u1.2.1 2), j12] [(u1.2.2.1 0)] [(upd f13 (1 + 5 * k15) j12)] [] []) ⟨(Or.inr ⟨rfl, (show k10 < (u1.1 1) by omega)⟩), x13, (show k10 ≤ (u1.1 1) by omega), (show (u1.1 1) ≤ (u1.1 0) by omega), (show (u1.1 0) ≤ k5 by omega), (show ((u1.2.1 2) = 0 ∨ (u1.1 1) < (u1.1 0)) by first | assumption | exact Or.inr (by omega))⟩ rfl)
theorem glV_RX12_367 : GLV RX12 367 yX12_readNumberOf RX12 cX12_readNumberOf 2 (some .boolean) 1 := ⟨⟨(mT10 66 rfl rfl), (mT10 68 rfl rfl), (mTs 94 rfl rfl), (mT1 13 rfl rfl), (mT10 69 rfl rfl)⟩, by decide +kernel⟩
theorem dX12_readPlayed_129 : decode cX12_readPlayed 129 = .ok (.istore_n 3, 1) := by decide +kernel
theorem dX12_readPlayed_130 : decode cX12_readPlayed 130 = .ok (.goto 40, 3) := by decide +kernel
theorem dX12_readPlayed_133 : decode cX12_readPlayed 133 = .ok (.aload_n 0, 1) := by decide +kernel
theorem dX12_readPlayed_134 : decode cX12_readPlayed 134 = .ok (.invokevirtual 370, 3) := by decide +kernel
theorem glV_RX12_370 : GLV RX12 370 yX12_readStrokes RX12 cX12_readStrokes 3 (some .boolean) 0 := ⟨⟨(mT10 70 rfl rfl), (mT10 72 rfl rfl), (mTs 95 rfl rfl), (mT1 13 rfl rfl), (mT10 73 rfl rfl)⟩, by decide +kernel⟩
theorem dX12_readPlayed_137 : decode cX12_readPlayed 137 = .ok (.istore_n 3, 1) := by decide +kernel
theorem dX12_readPlayed_138 : decode cX12_readPlayed 138 = .ok (.goto 32, 3) := by decide +kernel
theorem dX12_readPlayed_141 : decode cX12_readPlayed 141 = .ok (.aload_n 0, 1) := by decide +kernel
theorem dX12_readPlayed_142 : decode cX12_readPlayed 142 = .ok (.iconst 1, 1) := by decide +kernel
theorem dX12_readPlayed_143 : decode cX12_readPlayed 143 = .ok (.invokevirtual 367, 3) := by decide +kernel
theorem dX12_readPlayed_146 : decode cX12_readPlayed 146 = .ok (.ifCond .eq 22, 3) := by decide +kernel
theorem dX12_readPlayed_168 : decode cX12_readPlayed 168 = .ok (.iconst 0, 1) := by decide +kernel
theorem dX12_readPlayed_169 : decode cX12_readPlayed 169 = .ok (.istore_n 3, 1) := by decide +kernel
theorem dX12_readPlayed_149 : decode cX12_readPlayed 149 = .ok (.aload_n 0, 1) := by decide +kernel
theorem dX12_readPlayed_150 : decode cX12_readPlayed 150 = .ok (.iconst 2, 1) := by decide +kernel
theorem dX12_readPlayed_151 : decode cX12_readPlayed 151 = .ok (.invokevirtual 367, 3) := by decide +kernel
set_option maxRecDepth 100000 in
set_option maxHeartbeats 4000000 in
theorem rX12_readNumberOf_2 (l : Launch) (D : va_G) (Y : Nat → ClassId) (h0 : Nat) (h1 : Nat) (h2 : Nat) (h3 : Nat) (h4 : Nat) (h5 : Nat) (h6 : Nat) (p2 : Int32) (k5 : Nat) (k6 : Nat) (p7 : Int32) (p8 : Int32) (p9 : Int32) (k10 : Nat) (p11 : Int32) (q12 : Int64) (k15 : Nat) (k16 : Nat) (f0 : Nat → Int32) (f1 : Nat → Int32) (f3 : Nat → Int32) (f4 : Nat → Int32) (f13 : Nat → Int32) (f14 : Nat → Int32) (ph : Nat → Int32) (HI : INV ph f0) (HL : k5 ≤ 1600) (HP : PLV f13)  (hx0 : k10 ≤ k6) (hx1 : k6 ≤ k5) (hx2 : (p9 = 0 ∨ k10 < k6)) (hx3 : k15 ≤ 39) (sz : Nat) : Met l yX12_readNumberOf (WSm yX12_readNumberOf cX12_readNumberOf 2 (some .boolean)) (mkR 5 0 0 108) (PreC D Y [.ref h0, .int 2] [(h0, oC 13 [.ref h1, .ref h2, .int p2, .ref h3, .ref h4, .int (nI k5), .int (nI k6), .int p7, .int p8, .int p9, .int (nI k10), .int p11, .long q12, .ref h5, .ref h6, .int (nI k15), .int (nI k16)]), (h1, aI Y 3640 f0), (h2, aZ Y 2 f1), (h3, aZ Y 80 f3), (h4, aB Y 1600 f4), (h5, aI Y 200 f13), (h6, aI Y 800 f14)] sz) (QI D (fun (r : Int32) (u : WU) => (r = 0 ∨ (r = 1 ∧ k10 < (u.1 1))) ∧ PLV (u.2.2.2.1 0) ∧ k10 ≤ (u.1 1) ∧ (u.1 1) ≤ (u.1 0) ∧ (u.1 0) ≤ k5 ∧ ((u.2.1 2) = 0 ∨ (u.1 1) < (u.1 0))) (fun (u : WU) => [(h0, oC 13 [.ref h1, .ref h2, .int p2, .ref h3, .ref h4, .int (nI k5), .int (nI (u.1 0)), .int (u.2.1 0), .int (u.2.1 1), .int (u.2.1 2), .int (nI (u.1 1)), .int (u.2.1 3), .long (u.2.2.1 0), .ref h5, .ref h6, .int (nI k15), .int (nI k16)]), (h1, aI Y 3640 f0), (h2, aZ Y 2 f1), (h3, aZ Y 80 f3), (h4, aB Y 1600 f4), (h5, aI Y 200 (u.2.2.2.1 0)), (h6, aI Y 800 f14)]) (va_A [(h0, oC 13 [.ref h1, .ref h2, .int p2, .ref h3, .ref h4, .int (nI k5), .int (nI k6), .int p7, .int p8, .int p9, .int (nI k10), .int p11, .long q12, .ref h5, .ref h6, .int (nI k15), .int (nI k16)]), (h1, aI Y 3640 f0), (h2, aZ Y 2 f1), (h3, aZ Y 80 f3), (h4, aB Y 1600 f4), (h5, aI Y 200 f13), (h6, aI Y 800 f14)] sz)) 0 0 (va_A [(h0, oC 13 [.ref h1, .ref h2, .int p2, .ref h3, .ref h4, .int (nI k5), .int (nI k6), .int p7, .int p8, .int p9, .int (nI k10), .int p11, .long q12, .ref h5, .ref h6, .int (nI k15), .int (nI k16)]), (h1, aI Y 3640 f0), (h2, aZ Y 2 f1), (h3, aZ Y 80 f3), (h4, aB Y 1600 f4), (h5, aI Y 200 f13), (h6, aI Y 800 f14)] sz) :=
  met_of  (by decide +kernel) (Nat.le_of_ble_eq_true rfl) (fun p e s m args below meth c B hin hsz => by
    have B : VB p s m args meth c D Y (va_A [(h0, oC 13 [.ref h1, .ref h2, .int p2, .ref h3, .ref h4, .int (nI k5), .int (nI k6), .int p7, .int p8, .int p9, .int (nI k10), .int p11, .long q12, .ref h5, .ref h6, .int (nI k15), .int (nI k16)]), (h1, aI Y 3640 f0), (h2, aZ Y 2 f1), (h3, aZ Y 80 f3), (h4, aB Y 1600 f4), (h5, aI Y 200 f13), (h6, aI Y 800 f14)] sz) cX12_readNumberOf 2 RX12 (some .boolean) := B
    refine V_aload_n 0 B dX12_readNumberOf_0 0 rfl ?_
    refine V_iconst 1 B (v := 0) dX12_readNumberOf_1 (by decide +kernel) ?_
    refine V_sipush 2 B (v := 999) dX12_readNumberOf_2 (by decide +kernel) ?_
    refine V_cvi 5 B (st := []) (As := [.int 0, .int 999]) (fun sz => rX12_readNumber l D Y h0 h1 h2 h3 h4 h5 h6 p2 k5 k6 p7 p8 p9 k10 p11 q12 k15 k16 f0 f1 f3 f4 f13 f14 ph HI (by omega) HP 0 999 (by omega) (by omega) (by first | assumption | exact Or.inl rfl | exact Or.inr (by omega)) (by decide +kernel) sz) glV_RX12_301 ⟨rfl, rfl⟩ ⟨(Nat.le_of_ble_eq_true rfl), (Nat.le_of_ble_eq_true rfl)⟩ ⟨(Nat.le_of_ble_eq_true rfl), (Nat.le_of_ble_eq_true rfl)⟩ [0, 0, 0, 0, 0, 0, 0] rfl 13 0 rfl rfl rfl rfl (Nat.le_of_ble_eq_true rfl) rfl (fun _ _ _ => rfl) dX12_readNumberOf_5 (fun j0 u1 w2 => ?_)
    refine V_ws [(h0, oC 13 [.ref h1, .ref h2, .int p2, .ref h3, .ref h4, .int (nI k5), .int (nI (u1.1 0)), .int (u1.2.1 0), .int (u1.2.1 1), .int (u1.2.1 2), .int (nI (u1.1 1)), .int (u1.2.1 3), .long (u1.2.2.1 0), .ref h5, .ref h6, .int (nI k15), .int (nI k16)]), (h1, aI Y 3640 f0), (h2, aZ Y 2 f1), (h3, aZ Y 80 f3), (h4, aB Y 1600 f4), (h5, aI Y 200 f13), (h6, aI Y 800 f14)] rfl ?_
    obtain ⟨x3, x4, x5, x6, x7⟩ := w2
    rcases x3 with rfl | ⟨rfl, x8, x9⟩
    ·
      refine V_if_ne_f 8 B 13 dX12_readNumberOf_8 (by decide) (by decide +kernel) ?_
      refine V_iconst 11 B (v := 0) dX12_readNumberOf_11 (by decide +kernel) ?_
      exact V_zret 12 B rfl dX12_readNumberOf_12 (mkW [(u1.1 0), (u1.1 1)] [(u1.2.1 0), (u1.2.1 1), (u1.2.1 2), (u1.2.1 3)] [(u1.2.2.1 0)] [f13] [] []) ⟨(Or.inl rfl), HP, (show k10 ≤ (u1.1 1) by omega), (show (u1.1 1) ≤ (u1.1 0) by omega), (show (u1.1 0) ≤ k5 by omega), (show ((u1.2.1 2) = 0 ∨ (u1.1 1) < (u1.1 0)) by first | assumption | exact Or.inr (by omega))⟩ rfl
    ·
      have e10 : (0 : Int32).toInt = 0 := by decide +kernel
      have e11 : (999 : Int32).toInt = 999 := by decide +kernel
      generalize u1.2.1 3 = j12 at *
      refine V_if_ne_t 8 B 13 dX12_readNumberOf_8 (by decide) (by decide +kernel) ?_
      refine V_aload_n 13 B dX12_readNumberOf_13 0 rfl ?_
      refine V_get 14 B gf_RX12_28 0 rfl rfl dX12_readNumberOf_14 ?_
      refine V_iconst 17 B (v := 5) dX12_readNumberOf_17 (by decide +kernel) ?_
      refine V_aload_n 18 B dX12_readNumberOf_18 0 rfl ?_
      refine V_get 19 B gf_RX12_361 0 rfl rfl dX12_readNumberOf_19 ?_
      refine V_imul 22 B (v := (nI (5 * k15))) dX12_readNumberOf_22 (nI_mulE (a := 5) (b := k15) (by omega)) ?_
      refine V_iload_n 23 B dX12_readNumberOf_23 1 rfl ?_
      refine V_iadd 24 B (v := (nI (2 + 5 * k15))) dX12_readNumberOf_24 (nI_addE (a := 5 * k15) (b := 2) (by omega)) ?_
      refine V_aload_n 25 B dX12_readNumberOf_25 0 rfl ?_
      refine V_get 26 B gf_RX12_294 0 rfl rfl dX12_readNumberOf_26 ?_
      have x13 : PLV (upd f13 (2 + 5 * k15) j12) := PLV_fr HP (by omega)
      refine V_iast 29 B 5 rfl (vp_in_nI (n := 2 + 5 * k15) (by omega) (by decide)) dX12_readNumberOf_29 [(h0, oC 13 [.ref h1, .ref h2, .int p2, .ref h3, .ref h4, .int (nI k5), .int (nI (u1.1 0)), .int (u1.2.1 0), .int (u1.2.1 1), .int (u1.2.1 2), .int (nI (u1.1 1)), .int j12, .long (u1.2.2.1 0), .ref h5, .ref h6, .int (nI k15), .int (nI k16)]), (h1, aI Y 3640 f0), (h2, aZ Y 2 f1), (h3, aZ Y 80 f3), (h4, aB Y 1600 f4), (h5, aI Y 200 (upd f13 (2 + 5 * k15) j12)), (h6, aI Y 800 f14)] (by rw [nI_clamp (show 2 + 5 * k15 < 2 ^ 31 by omega)]; rfl) ?_
      refine V_iconst 30 B (v := 1) dX12_readNumberOf_30 (by decide +kernel) ?_
      exact V_zret 31 B rfl dX12_readNumberOf_31 (mkW [(u1.1 0), (u1.1 1)] [(u1.2.1 0), (u1.2.1 1), (u1.2.1 2), j12] [(u1.2.2.1 0)] [(upd f13 (2 + 5 * k15) j12)] [] []) ⟨(Or.inr ⟨rfl, (show k10 < (u1.1 1) by omega)⟩), x13, (show k10 ≤ (u1.1 1) by omega), (show (u1.1 1) ≤ (u1.1 0) by omega), (show (u1.1 0) ≤ k5 by omega), (show ((u1.2.1 2) = 0 ∨ (u1.1 1) < (u1.1 0)) by first | assumption | exact Or.inr (by omega))⟩ rfl)
theorem dX12_readPlayed_154 : decode cX12_readPlayed 154 = .ok (.ifCond .eq 14, 3) := by decide +kernel
theorem dX12_readPlayed_157 : decode cX12_readPlayed 157 = .ok (.aload_n 0, 1) := by decide +kernel
theorem dX12_readPlayed_158 : decode cX12_readPlayed 158 = .ok (.invokevirtual 370, 3) := by decide +kernel
theorem dX12_readPlayed_161 : decode cX12_readPlayed 161 = .ok (.ifCond .eq 7, 3) := by decide +kernel
theorem dX12_readPlayed_164 : decode cX12_readPlayed 164 = .ok (.iconst 1, 1) := by decide +kernel
theorem dX12_readPlayed_165 : decode cX12_readPlayed 165 = .ok (.goto 4, 3) := by decide +kernel
theorem dX12_readPlayed_25 : decode cX12_readPlayed 25 = .ok (.aload_n 0, 1) := by decide +kernel
theorem dX12_readPlayed_26 : decode cX12_readPlayed 26 = .ok (.iconst 3, 1) := by decide +kernel
theorem dX12_readPlayed_27 : decode cX12_readPlayed 27 = .ok (.invokevirtual 291, 3) := by decide +kernel
theorem dX12_readPlayed_30 : decode cX12_readPlayed 30 = .ok (.ireturn, 1) := by decide +kernel
theorem dX12_readPlayed_10 : decode cX12_readPlayed 10 = .ok (.aload_n 0, 1) := by decide +kernel
theorem dX12_readPlayed_11 : decode cX12_readPlayed 11 = .ok (.iconst 1, 1) := by decide +kernel
theorem dX12_readPlayed_12 : decode cX12_readPlayed 12 = .ok (.invokevirtual 291, 3) := by decide +kernel
theorem dX12_readPlayed_15 : decode cX12_readPlayed 15 = .ok (.ireturn, 1) := by decide +kernel
set_option maxRecDepth 100000 in
set_option maxHeartbeats 4000000 in
theorem rX12_readPlayed (l : Launch) (D : va_G) (Y : Nat → ClassId) (h0 : Nat) (h1 : Nat) (h2 : Nat) (h3 : Nat) (h4 : Nat) (h5 : Nat) (h6 : Nat) (p2 : Int32) (k5 : Nat) (k6 : Nat) (p7 : Int32) (p8 : Int32) (p9 : Int32) (k10 : Nat) (p11 : Int32) (q12 : Int64) (k15 : Nat) (k16 : Nat) (f0 : Nat → Int32) (f1 : Nat → Int32) (f3 : Nat → Int32) (f4 : Nat → Int32) (f13 : Nat → Int32) (f14 : Nat → Int32) (ph : Nat → Int32) (HI : INV ph f0) (HL : k5 ≤ 1600) (HP : PLV f13)  (hx0 : k10 ≤ k6) (hx1 : k6 ≤ k5) (hx2 : (p9 = 0 ∨ k10 < k6)) (hx3 : k10 < k6) (hx4 : k15 ≤ 40) (hx5 : k16 ≤ 4 * k15) (sz : Nat) : Met l yX12_readPlayed (WSm yX12_readPlayed cX12_readPlayed 4 (some .boolean)) (mkR 6 0 0 129) (PreC D Y [.ref h0] [(h0, oC 13 [.ref h1, .ref h2, .int p2, .ref h3, .ref h4, .int (nI k5), .int (nI k6), .int p7, .int p8, .int p9, .int (nI k10), .int p11, .long q12, .ref h5, .ref h6, .int (nI k15), .int (nI k16)]), (h1, aI Y 3640 f0), (h2, aZ Y 2 f1), (h3, aZ Y 80 f3), (h4, aB Y 1600 f4), (h5, aI Y 200 f13), (h6, aI Y 800 f14)] sz) (QI D (fun (r : Int32) (u : WU) => (r = 0 ∨ (r = 1 ∧ k10 < (u.1 1))) ∧ PLV (u.2.2.2.1 0) ∧ k10 ≤ (u.1 1) ∧ (u.1 1) ≤ (u.1 0) ∧ (u.1 0) ≤ k5 ∧ ((u.2.1 2) = 0 ∨ (u.1 1) < (u.1 0)) ∧ (u.1 2) ≤ 40 ∧ (u.1 3) ≤ 4 * (u.1 2)) (fun (u : WU) => [(h0, oC 13 [.ref h1, .ref h2, .int p2, .ref h3, .ref h4, .int (nI k5), .int (nI (u.1 0)), .int (u.2.1 0), .int (u.2.1 1), .int (u.2.1 2), .int (nI (u.1 1)), .int (u.2.1 3), .long (u.2.2.1 0), .ref h5, .ref h6, .int (nI (u.1 2)), .int (nI (u.1 3))]), (h1, aI Y 3640 f0), (h2, aZ Y 2 f1), (h3, aZ Y 80 f3), (h4, aB Y 1600 f4), (h5, aI Y 200 (u.2.2.2.1 0)), (h6, aI Y 800 (u.2.2.2.1 1))]) (va_A [(h0, oC 13 [.ref h1, .ref h2, .int p2, .ref h3, .ref h4, .int (nI k5), .int (nI k6), .int p7, .int p8, .int p9, .int (nI k10), .int p11, .long q12, .ref h5, .ref h6, .int (nI k15), .int (nI k16)]), (h1, aI Y 3640 f0), (h2, aZ Y 2 f1), (h3, aZ Y 80 f3), (h4, aB Y 1600 f4), (h5, aI Y 200 f13), (h6, aI Y 800 f14)] sz)) 0 0 (va_A [(h0, oC 13 [.ref h1, .ref h2, .int p2, .ref h3, .ref h4, .int (nI k5), .int (nI k6), .int p7, .int p8, .int p9, .int (nI k10), .int p11, .long q12, .ref h5, .ref h6, .int (nI k15), .int (nI k16)]), (h1, aI Y 3640 f0), (h2, aZ Y 2 f1), (h3, aZ Y 80 f3), (h4, aB Y 1600 f4), (h5, aI Y 200 f13), (h6, aI Y 800 f14)] sz) :=
  met_of  (by decide +kernel) (Nat.le_of_ble_eq_true rfl) (fun p e s m args below meth c B hin hsz => by
    have B : VB p s m args meth c D Y (va_A [(h0, oC 13 [.ref h1, .ref h2, .int p2, .ref h3, .ref h4, .int (nI k5), .int (nI k6), .int p7, .int p8, .int p9, .int (nI k10), .int p11, .long q12, .ref h5, .ref h6, .int (nI k15), .int (nI k16)]), (h1, aI Y 3640 f0), (h2, aZ Y 2 f1), (h3, aZ Y 80 f3), (h4, aB Y 1600 f4), (h5, aI Y 200 f13), (h6, aI Y 800 f14)] sz) cX12_readPlayed 4 RX12 (some .boolean) := B
    refine V_aload_n 0 B dX12_readPlayed_0 0 rfl ?_
    refine V_cvi 1 B (st := []) (As := []) (fun sz => rX12_commandHere l D Y h0 h1 h2 h3 h4 h5 h6 p2 k5 k6 p7 p8 p9 k10 p11 q12 k15 k16 f0 f1 f3 f4 f13 f14 ph HI (by omega) HP sz) glV_RX12_364 ⟨rfl, rfl⟩ ⟨(Nat.le_of_ble_eq_true rfl), (Nat.le_of_ble_eq_true rfl)⟩ ⟨(Nat.le_of_ble_eq_true rfl), (Nat.le_of_ble_eq_true rfl)⟩ [0, 0, 0, 0, 0, 0, 0] rfl 13 0 rfl rfl rfl rfl (Nat.le_of_ble_eq_true rfl) rfl (fun _ _ _ => rfl) dX12_readPlayed_1 (fun j0 u1 w2 => ?_)
    refine V_ws [(h0, oC 13 [.ref h1, .ref h2, .int p2, .ref h3, .ref h4, .int (nI k5), .int (nI k6), .int p7, .int p8, .int p9, .int (nI k10), .int p11, .long q12, .ref h5, .ref h6, .int (nI k15), .int (nI k16)]), (h1, aI Y 3640 f0), (h2, aZ Y 2 f1), (h3, aZ Y 80 f3), (h4, aB Y 1600 f4), (h5, aI Y 200 f13), (h6, aI Y 800 f14)] rfl ?_
    refine V_istore_n 4 B (lv2 := [(1, .int j0), (0, .ref h0)]) dX12_readPlayed_4 (by decide) rfl ?_
    refine V_iload_n 5 B dX12_readPlayed_5 0 rfl ?_
    refine V_iconst 6 B (v := (-1)) dX12_readPlayed_6 (by decide +kernel) ?_
    refine V_icmp_ne 7 B 16 dX12_readPlayed_7 (by decide) (fun kk3 => ?_) (fun kk3 => ?_)
    ·
      have x4 := x_ne kk3
      rw [show ((-1) : Int32).toInt = (-1) by decide +kernel] at x4
      refine V_aload_n 16 B dX12_readPlayed_16 1 rfl ?_
      refine V_get 17 B gf_RX12_361 0 rfl rfl dX12_readPlayed_17 ?_
      refine V_bipush 20 B (v := 40) dX12_readPlayed_20 (by decide +kernel) ?_
      refine V_icmp_ne 22 B 31 dX12_readPlayed_22 (by decide) (fun kk5 => ?_) (fun kk5 => ?_)
      ·
        have x6 := n_ne (a := k15) (b := 40) kk5
        refine V_aload_n 31 B dX12_readPlayed_31 1 rfl ?_
        refine V_cvv 32 B (st := []) (As := []) (fun sz => rX12_advance l D Y h0 h1 h2 h3 h4 h5 h6 p2 k5 k6 p7 p8 p9 k10 p11 q12 k15 k16 f0 f1 f3 f4 f13 f14 ph HI (by omega) HP (by omega) sz) glV_RX12_288 ⟨rfl, rfl⟩ ⟨(Nat.le_of_ble_eq_true rfl), (Nat.le_of_ble_eq_true rfl)⟩ ⟨(Nat.le_of_ble_eq_true rfl), (Nat.le_of_ble_eq_true rfl)⟩ [0, 0, 0, 0, 0, 0, 0] rfl 13 0 rfl rfl rfl rfl (Nat.le_of_ble_eq_true rfl) rfl (fun _ _ => rfl) dX12_readPlayed_32 (fun u8 w9 => ?_)
        refine V_ws [(h0, oC 13 [.ref h1, .ref h2, .int p2, .ref h3, .ref h4, .int (nI k5), .int (nI (u8.1 0)), .int p7, .int p8, .int (u8.2.1 0), .int (nI (u8.1 1)), .int p11, .long (u8.2.2.1 0), .ref h5, .ref h6, .int (nI k15), .int (nI k16)]), (h1, aI Y 3640 f0), (h2, aZ Y 2 f1), (h3, aZ Y 80 f3), (h4, aB Y 1600 f4), (h5, aI Y 200 f13), (h6, aI Y 800 f14)] rfl ?_
        obtain ⟨x10, x11, x12, x13⟩ := w9
        refine V_iconst 35 B (v := 5) dX12_readPlayed_35 (by decide +kernel) ?_
        refine V_aload_n 36 B dX12_readPlayed_36 1 rfl ?_
        refine V_get 37 B gf_RX12_361 0 rfl rfl dX12_readPlayed_37 ?_
        refine V_imul 40 B (v := (nI (5 * k15))) dX12_readPlayed_40 (nI_mulE (a := 5) (b := k15) (by omega)) ?_
        refine V_istore_n 41 B (lv2 := [(2, .int (nI (5 * k15))), (1, .int j0), (0, .ref h0)]) dX12_readPlayed_41 (by decide) rfl ?_
        refine V_aload_n 42 B dX12_readPlayed_42 2 rfl ?_
        refine V_get 43 B gf_RX12_28 0 rfl rfl dX12_readPlayed_43 ?_
        refine V_iload_n 46 B dX12_readPlayed_46 0 rfl ?_
        refine V_iload_n 47 B dX12_readPlayed_47 1 rfl ?_
        have x14 : PLV (upd f13 (5 * k15) j0) := PLV_fr HP (by omega)
        refine V_iast 48 B 5 rfl (vp_in_nI (n := 5 * k15) (by omega) (by decide)) dX12_readPlayed_48 [(h0, oC 13 [.ref h1, .ref h2, .int p2, .ref h3, .ref h4, .int (nI k5), .int (nI (u8.1 0)), .int p7, .int p8, .int (u8.2.1 0), .int (nI (u8.1 1)), .int p11, .long (u8.2.2.1 0), .ref h5, .ref h6, .int (nI k15), .int (nI k16)]), (h1, aI Y 3640 f0), (h2, aZ Y 2 f1), (h3, aZ Y 80 f3), (h4, aB Y 1600 f4), (h5, aI Y 200 (upd f13 (5 * k15) j0)), (h6, aI Y 800 f14)] (by rw [nI_clamp (show 5 * k15 < 2 ^ 31 by omega)]; rfl) ?_
        refine V_aload_n 49 B dX12_readPlayed_49 2 rfl ?_
        refine V_get 50 B gf_RX12_28 0 rfl rfl dX12_readPlayed_50 ?_
        refine V_iload_n 53 B dX12_readPlayed_53 0 rfl ?_
        refine V_iconst 54 B (v := 3) dX12_readPlayed_54 (by decide +kernel) ?_
        refine V_iadd 55 B (v := (nI (3 + 5 * k15))) dX12_readPlayed_55 (nI_addE (a := 5 * k15) (b := 3) (by omega)) ?_
        refine V_aload_n 56 B dX12_readPlayed_56 2 rfl ?_
        refine V_get 57 B gf_RX12_358 0 rfl rfl dX12_readPlayed_57 ?_
        have x15 : PLV (upd (upd f13 (5 * k15) j0) (3 + 5 * k15) (nI k16)) := PLV_3 x14 (by omega) (by rw [nI_toInt (show k16 < 2 ^ 31 by omega)]; omega) (by rw [nI_toInt (show k16 < 2 ^ 31 by omega)]; omega)
        refine V_iast 60 B 5 rfl (vp_in_nI (n := 3 + 5 * k15) (by omega) (by decide)) dX12_readPlayed_60 [(h0, oC 13 [.ref h1, .ref h2, .int p2, .ref h3, .ref h4, .int (nI k5), .int (nI (u8.1 0)), .int p7, .int p8, .int (u8.2.1 0), .int (nI (u8.1 1)), .int p11, .long (u8.2.2.1 0), .ref h5, .ref h6, .int (nI k15), .int (nI k16)]), (h1, aI Y 3640 f0), (h2, aZ Y 2 f1), (h3, aZ Y 80 f3), (h4, aB Y 1600 f4), (h5, aI Y 200 (upd (upd f13 (5 * k15) j0) (3 + 5 * k15) (nI k16))), (h6, aI Y 800 f14)] (by rw [nI_clamp (show 3 + 5 * k15 < 2 ^ 31 by omega)]; rfl) ?_
        refine V_iconst 61 B (v := 1) dX12_readPlayed_61 (by decide +kernel) ?_
        refine V_istore_n 62 B (lv2 := [(3, .int 1), (2, .int (nI (5 * k15))), (1, .int j0), (0, .ref h0)]) dX12_readPlayed_62 (by decide) rfl ?_
        refine V_iload_n 63 B dX12_readPlayed_63 2 rfl ?_
        by_cases kk16 : j0 = 0
        ·
          refine V_eqi _ 0 kk16 ?_
          refine V_tableIn 64 B 104 dX12_readPlayed_64 (by decide +kernel) (by decide +kernel) (off := 40) (by decide +kernel) (by decide) ?_
          refine V_aload_n 104 B dX12_readPlayed_104 3 rfl ?_
          refine V_cvi 105 B (st := []) (As := []) (fun sz => rX12_readKey l D Y h0 h1 h2 h3 h4 h5 h6 p2 k5 (u8.1 0) p7 p8 (u8.2.1 0) (u8.1 1) p11 (u8.2.2.1 0) k15 k16 f0 f1 f3 f4 (upd (upd f13 (5 * k15) j0) (3 + 5 * k15) (nI k16)) f14 ph HI (by omega) x15 (by omega) (by omega) (by first | assumption | exact Or.inl rfl | exact Or.inr (by omega)) sz) glV_RX12_316 ⟨rfl, rfl⟩ ⟨(Nat.le_of_ble_eq_true rfl), (Nat.le_of_ble_eq_true rfl)⟩ ⟨(Nat.le_of_ble_eq_true rfl), (Nat.le_of_ble_eq_true rfl)⟩ [0, 0, 0, 0, 0, 0, 0] rfl 13 0 rfl rfl rfl rfl (Nat.le_of_ble_eq_true rfl) rfl (fun _ _ _ => rfl) dX12_readPlayed_105 (fun j17 u18 w19 => ?_)
          refine V_ws [(h0, oC 13 [.ref h1, .ref h2, .int p2, .ref h3, .ref h4, .int (nI k5), .int (nI (u18.1 0)), .int (u18.2.1 0), .int (u18.2.1 1), .int (u18.2.1 2), .int (nI (u18.1 1)), .int (u18.2.1 3), .long (u18.2.2.1 0), .ref h5, .ref h6, .int (nI k15), .int (nI k16)]), (h1, aI Y 3640 f0), (h2, aZ Y 2 f1), (h3, aZ Y 80 f3), (h4, aB Y 1600 f4), (h5, aI Y 200 (upd (upd f13 (5 * k15) j0) (3 + 5 * k15) (nI k16))), (h6, aI Y 800 f14)] rfl ?_
          obtain ⟨x20, x21, x22, x23, x24⟩ := w19
          rcases x20 with rfl | ⟨rfl, x25, x26⟩
          ·
            refine V_istore_n 108 B (lv2 := [(3, .int 0), (2, .int (nI (5 * k15))), (1, .int j0), (0, .ref h0)]) dX12_readPlayed_108 (by decide) rfl ?_
            refine V_aload_n 109 B dX12_readPlayed_109 3 rfl ?_
            refine V_get 110 B gf_RX12_28 0 rfl rfl dX12_readPlayed_110 ?_
            refine V_iload_n 113 B dX12_readPlayed_113 1 rfl ?_
            refine V_iconst 114 B (v := 1) dX12_readPlayed_114 (by decide +kernel) ?_
            refine V_iadd 115 B (v := (nI (1 + 5 * k15))) dX12_readPlayed_115 (nI_addE (a := 5 * k15) (b := 1) (by omega)) ?_
            refine V_aload_n 116 B dX12_readPlayed_116 3 rfl ?_
            refine V_get 117 B gf_RX12_294 0 rfl rfl dX12_readPlayed_117 ?_
            have x27 : PLV (upd (upd (upd f13 (5 * k15) j0) (3 + 5 * k15) (nI k16)) (1 + 5 * k15) (u18.2.1 3)) := PLV_fr x15 (by omega)
            refine V_iast 120 B 5 rfl (vp_in_nI (n := 1 + 5 * k15) (by omega) (by decide)) dX12_readPlayed_120 [(h0, oC 13 [.ref h1, .ref h2, .int p2, .ref h3, .ref h4, .int (nI k5), .int (nI (u18.1 0)), .int (u18.2.1 0), .int (u18.2.1 1), .int (u18.2.1 2), .int (nI (u18.1 1)), .int (u18.2.1 3), .long (u18.2.2.1 0), .ref h5, .ref h6, .int (nI k15), .int (nI k16)]), (h1, aI Y 3640 f0), (h2, aZ Y 2 f1), (h3, aZ Y 80 f3), (h4, aB Y 1600 f4), (h5, aI Y 200 (upd (upd (upd f13 (5 * k15) j0) (3 + 5 * k15) (nI k16)) (1 + 5 * k15) (u18.2.1 3))), (h6, aI Y 800 f14)] (by rw [nI_clamp (show 1 + 5 * k15 < 2 ^ 31 by omega)]; rfl) ?_
            refine V_goto 121 B 170 dX12_readPlayed_121 (by decide) ?_
            refine V_aload_n 170 B dX12_readPlayed_170 3 rfl ?_
            refine V_dup 171 B dX12_readPlayed_171 rfl ?_
            refine V_get 172 B gf_RX12_361 0 rfl rfl dX12_readPlayed_172 ?_
            refine V_iconst 175 B (v := 1) dX12_readPlayed_175 (by decide +kernel) ?_
            refine V_iadd 176 B (v := (nI (1 + k15))) dX12_readPlayed_176 (nI_addE (a := k15) (b := 1) (by omega)) ?_
            refine V_put 177 B gp_RX12_361 0 rfl (Nat.le_of_ble_eq_true rfl) rfl rfl dX12_readPlayed_177 [(h0, oC 13 [.ref h1, .ref h2, .int p2, .ref h3, .ref h4, .int (nI k5), .int (nI (u18.1 0)), .int (u18.2.1 0), .int (u18.2.1 1), .int (u18.2.1 2), .int (nI (u18.1 1)), .int (u18.2.1 3), .long (u18.2.2.1 0), .ref h5, .ref h6, .int (nI (1 + k15)), .int (nI k16)]), (h1, aI Y 3640 f0), (h2, aZ Y 2 f1), (h3, aZ Y 80 f3), (h4, aB Y 1600 f4), (h5, aI Y 200 (upd (upd (upd f13 (5 * k15) j0) (3 + 5 * k15) (nI k16)) (1 + 5 * k15) (u18.2.1 3))), (h6, aI Y 800 f14)] rfl ?_
            refine V_iload_n 180 B dX12_readPlayed_180 0 rfl ?_
            refine V_if_eq_t 181 B 195 dX12_readPlayed_181 (by decide) (by decide +kernel) ?_
            refine V_iconst 195 B (v := 0) dX12_readPlayed_195 (by decide +kernel) ?_
            exact V_zret 196 B rfl dX12_readPlayed_196 (mkW [(u18.1 0), (u18.1 1), 1 + k15, k16] [(u18.2.1 0), (u18.2.1 1), (u18.2.1 2), (u18.2.1 3)] [(u18.2.2.1 0)] [(upd (upd (upd f13 (5 * k15) j0) (3 + 5 * k15) (nI k16)) (1 + 5 * k15) (u18.2.1 3)), f14] [] []) ⟨(Or.inl rfl), x27, (show k10 ≤ (u18.1 1) by omega), (show (u18.1 1) ≤ (u18.1 0) by omega), (show (u18.1 0) ≤ k5 by omega), (show ((u18.2.1 2) = 0 ∨ (u18.1 1) < (u18.1 0)) by first | assumption | exact Or.inr (by omega)), (show 1 + k15 ≤ 40 by omega), (show k16 ≤ 4 * (1 + k15) by omega)⟩ rfl
          ·
            generalize u18.2.1 3 = j28 at *
            refine V_istore_n 108 B (lv2 := [(3, .int 1), (2, .int (nI (5 * k15))), (1, .int j0), (0, .ref h0)]) dX12_readPlayed_108 (by decide) rfl ?_
            refine V_aload_n 109 B dX12_readPlayed_109 3 rfl ?_
            refine V_get 110 B gf_RX12_28 0 rfl rfl dX12_readPlayed_110 ?_
            refine V_iload_n 113 B dX12_readPlayed_113 1 rfl ?_
            refine V_iconst 114 B (v := 1) dX12_readPlayed_114 (by decide +kernel) ?_
            refine V_iadd 115 B (v := (nI (1 + 5 * k15))) dX12_readPlayed_115 (nI_addE (a := 5 * k15) (b := 1) (by omega)) ?_
            refine V_aload_n 116 B dX12_readPlayed_116 3 rfl ?_
            refine V_get 117 B gf_RX12_294 0 rfl rfl dX12_readPlayed_117 ?_
            have x29 : PLV (upd (upd (upd f13 (5 * k15) j0) (3 + 5 * k15) (nI k16)) (1 + 5 * k15) j28) := PLV_fr x15 (by omega)
            refine V_iast 120 B 5 rfl (vp_in_nI (n := 1 + 5 * k15) (by omega) (by decide)) dX12_readPlayed_120 [(h0, oC 13 [.ref h1, .ref h2, .int p2, .ref h3, .ref h4, .int (nI k5), .int (nI (u18.1 0)), .int (u18.2.1 0), .int (u18.2.1 1), .int (u18.2.1 2), .int (nI (u18.1 1)), .int j28, .long (u18.2.2.1 0), .ref h5, .ref h6, .int (nI k15), .int (nI k16)]), (h1, aI Y 3640 f0), (h2, aZ Y 2 f1), (h3, aZ Y 80 f3), (h4, aB Y 1600 f4), (h5, aI Y 200 (upd (upd (upd f13 (5 * k15) j0) (3 + 5 * k15) (nI k16)) (1 + 5 * k15) j28)), (h6, aI Y 800 f14)] (by rw [nI_clamp (show 1 + 5 * k15 < 2 ^ 31 by omega)]; rfl) ?_
            refine V_goto 121 B 170 dX12_readPlayed_121 (by decide) ?_
            refine V_aload_n 170 B dX12_readPlayed_170 3 rfl ?_
            refine V_dup 171 B dX12_readPlayed_171 rfl ?_
            refine V_get 172 B gf_RX12_361 0 rfl rfl dX12_readPlayed_172 ?_
            refine V_iconst 175 B (v := 1) dX12_readPlayed_175 (by decide +kernel) ?_
            refine V_iadd 176 B (v := (nI (1 + k15))) dX12_readPlayed_176 (nI_addE (a := k15) (b := 1) (by omega)) ?_
            refine V_put 177 B gp_RX12_361 0 rfl (Nat.le_of_ble_eq_true rfl) rfl rfl dX12_readPlayed_177 [(h0, oC 13 [.ref h1, .ref h2, .int p2, .ref h3, .ref h4, .int (nI k5), .int (nI (u18.1 0)), .int (u18.2.1 0), .int (u18.2.1 1), .int (u18.2.1 2), .int (nI (u18.1 1)), .int j28, .long (u18.2.2.1 0), .ref h5, .ref h6, .int (nI (1 + k15)), .int (nI k16)]), (h1, aI Y 3640 f0), (h2, aZ Y 2 f1), (h3, aZ Y 80 f3), (h4, aB Y 1600 f4), (h5, aI Y 200 (upd (upd (upd f13 (5 * k15) j0) (3 + 5 * k15) (nI k16)) (1 + 5 * k15) j28)), (h6, aI Y 800 f14)] rfl ?_
            refine V_iload_n 180 B dX12_readPlayed_180 0 rfl ?_
            refine V_if_eq_f 181 B 195 dX12_readPlayed_181 (by decide) (by decide +kernel) ?_
            refine V_aload_n 184 B dX12_readPlayed_184 3 rfl ?_
            refine V_cvi 185 B (st := []) (As := []) (fun sz => rX12_readEnd l D Y h0 h1 h2 h3 h4 h5 h6 p2 k5 (u18.1 0) (u18.2.1 0) (u18.2.1 1) (u18.2.1 2) (u18.1 1) j28 (u18.2.2.1 0) (1 + k15) k16 f0 f1 f3 f4 (upd (upd (upd f13 (5 * k15) j0) (3 + 5 * k15) (nI k16)) (1 + 5 * k15) j28) f14 ph HI (by omega) x29 (by omega) (by omega) (by first | assumption | exact Or.inl rfl | exact Or.inr (by omega)) sz) glV_RX12_304 ⟨rfl, rfl⟩ ⟨(Nat.le_of_ble_eq_true rfl), (Nat.le_of_ble_eq_true rfl)⟩ ⟨(Nat.le_of_ble_eq_true rfl), (Nat.le_of_ble_eq_true rfl)⟩ [0, 0, 0, 0, 0, 0, 0] rfl 13 0 rfl rfl rfl rfl (Nat.le_of_ble_eq_true rfl) rfl (fun _ _ _ => rfl) dX12_readPlayed_185 (fun j30 u31 w32 => ?_)
            refine V_ws [(h0, oC 13 [.ref h1, .ref h2, .int p2, .ref h3, .ref h4, .int (nI k5), .int (nI (u31.1 0)), .int (u31.2.1 0), .int (u31.2.1 1), .int (u31.2.1 2), .int (nI (u31.1 1)), .int j28, .long (u31.2.2.1 0), .ref h5, .ref h6, .int (nI (1 + k15)), .int (nI k16)]), (h1, aI Y 3640 f0), (h2, aZ Y 2 f1), (h3, aZ Y 80 f3), (h4, aB Y 1600 f4), (h5, aI Y 200 (upd (upd (upd f13 (5 * k15) j0) (3 + 5 * k15) (nI k16)) (1 + 5 * k15) j28)), (h6, aI Y 800 f14)] rfl ?_
            obtain ⟨x33, x34, x35, x36, x37⟩ := w32
            rcases x33 with rfl | ⟨rfl, x38⟩
            ·
              refine V_if_eq_t 188 B 195 dX12_readPlayed_188 (by decide) (by decide +kernel) ?_
              refine V_iconst 195 B (v := 0) dX12_readPlayed_195 (by decide +kernel) ?_
              exact V_zret 196 B rfl dX12_readPlayed_196 (mkW [(u31.1 0), (u31.1 1), 1 + k15, k16] [(u31.2.1 0), (u31.2.1 1), (u31.2.1 2), j28] [(u31.2.2.1 0)] [(upd (upd (upd f13 (5 * k15) j0) (3 + 5 * k15) (nI k16)) (1 + 5 * k15) j28), f14] [] []) ⟨(Or.inl rfl), x29, (show k10 ≤ (u31.1 1) by omega), (show (u31.1 1) ≤ (u31.1 0) by omega), (show (u31.1 0) ≤ k5 by omega), (show ((u31.2.1 2) = 0 ∨ (u31.1 1) < (u31.1 0)) by first | assumption | exact Or.inr (by omega)), (show 1 + k15 ≤ 40 by omega), (show k16 ≤ 4 * (1 + k15) by omega)⟩ rfl
            ·
              refine V_if_eq_f 188 B 195 dX12_readPlayed_188 (by decide) (by decide +kernel) ?_
              refine V_iconst 191 B (v := 1) dX12_readPlayed_191 (by decide +kernel) ?_
              refine V_goto 192 B 196 dX12_readPlayed_192 (by decide) ?_
              exact V_zret 196 B rfl dX12_readPlayed_196 (mkW [(u31.1 0), (u31.1 1), 1 + k15, k16] [(u31.2.1 0), (u31.2.1 1), (u31.2.1 2), j28] [(u31.2.2.1 0)] [(upd (upd (upd f13 (5 * k15) j0) (3 + 5 * k15) (nI k16)) (1 + 5 * k15) j28), f14] [] []) ⟨(Or.inr ⟨rfl, (show k10 < (u31.1 1) by omega)⟩), x29, (show k10 ≤ (u31.1 1) by omega), (show (u31.1 1) ≤ (u31.1 0) by omega), (show (u31.1 0) ≤ k5 by omega), (show ((u31.2.1 2) = 0 ∨ (u31.1 1) < (u31.1 0)) by first | assumption | exact Or.inr (by omega)), (show 1 + k15 ≤ 40 by omega), (show k16 ≤ 4 * (1 + k15) by omega)⟩ rfl
        ·
          by_cases kk39 : j0 = 1
          ·
            refine V_eqi _ 1 kk39 ?_
            refine V_tableIn 64 B 104 dX12_readPlayed_64 (by decide +kernel) (by decide +kernel) (off := 40) (by decide +kernel) (by decide) ?_
            refine V_aload_n 104 B dX12_readPlayed_104 3 rfl ?_
            refine V_cvi 105 B (st := []) (As := []) (fun sz => rX12_readKey l D Y h0 h1 h2 h3 h4 h5 h6 p2 k5 (u8.1 0) p7 p8 (u8.2.1 0) (u8.1 1) p11 (u8.2.2.1 0) k15 k16 f0 f1 f3 f4 (upd (upd f13 (5 * k15) j0) (3 + 5 * k15) (nI k16)) f14 ph HI (by omega) x15 (by omega) (by omega) (by first | assumption | exact Or.inl rfl | exact Or.inr (by omega)) sz) glV_RX12_316 ⟨rfl, rfl⟩ ⟨(Nat.le_of_ble_eq_true rfl), (Nat.le_of_ble_eq_true rfl)⟩ ⟨(Nat.le_of_ble_eq_true rfl), (Nat.le_of_ble_eq_true rfl)⟩ [0, 0, 0, 0, 0, 0, 0] rfl 13 0 rfl rfl rfl rfl (Nat.le_of_ble_eq_true rfl) rfl (fun _ _ _ => rfl) dX12_readPlayed_105 (fun j40 u41 w42 => ?_)
            refine V_ws [(h0, oC 13 [.ref h1, .ref h2, .int p2, .ref h3, .ref h4, .int (nI k5), .int (nI (u41.1 0)), .int (u41.2.1 0), .int (u41.2.1 1), .int (u41.2.1 2), .int (nI (u41.1 1)), .int (u41.2.1 3), .long (u41.2.2.1 0), .ref h5, .ref h6, .int (nI k15), .int (nI k16)]), (h1, aI Y 3640 f0), (h2, aZ Y 2 f1), (h3, aZ Y 80 f3), (h4, aB Y 1600 f4), (h5, aI Y 200 (upd (upd f13 (5 * k15) j0) (3 + 5 * k15) (nI k16))), (h6, aI Y 800 f14)] rfl ?_
            obtain ⟨x43, x44, x45, x46, x47⟩ := w42
            rcases x43 with rfl | ⟨rfl, x48, x49⟩
            ·
              refine V_istore_n 108 B (lv2 := [(3, .int 0), (2, .int (nI (5 * k15))), (1, .int j0), (0, .ref h0)]) dX12_readPlayed_108 (by decide) rfl ?_
              refine V_aload_n 109 B dX12_readPlayed_109 3 rfl ?_
              refine V_get 110 B gf_RX12_28 0 rfl rfl dX12_readPlayed_110 ?_
              refine V_iload_n 113 B dX12_readPlayed_113 1 rfl ?_
              refine V_iconst 114 B (v := 1) dX12_readPlayed_114 (by decide +kernel) ?_
              refine V_iadd 115 B (v := (nI (1 + 5 * k15))) dX12_readPlayed_115 (nI_addE (a := 5 * k15) (b := 1) (by omega)) ?_
              refine V_aload_n 116 B dX12_readPlayed_116 3 rfl ?_
              refine V_get 117 B gf_RX12_294 0 rfl rfl dX12_readPlayed_117 ?_
              have x50 : PLV (upd (upd (upd f13 (5 * k15) j0) (3 + 5 * k15) (nI k16)) (1 + 5 * k15) (u41.2.1 3)) := PLV_fr x15 (by omega)
              refine V_iast 120 B 5 rfl (vp_in_nI (n := 1 + 5 * k15) (by omega) (by decide)) dX12_readPlayed_120 [(h0, oC 13 [.ref h1, .ref h2, .int p2, .ref h3, .ref h4, .int (nI k5), .int (nI (u41.1 0)), .int (u41.2.1 0), .int (u41.2.1 1), .int (u41.2.1 2), .int (nI (u41.1 1)), .int (u41.2.1 3), .long (u41.2.2.1 0), .ref h5, .ref h6, .int (nI k15), .int (nI k16)]), (h1, aI Y 3640 f0), (h2, aZ Y 2 f1), (h3, aZ Y 80 f3), (h4, aB Y 1600 f4), (h5, aI Y 200 (upd (upd (upd f13 (5 * k15) j0) (3 + 5 * k15) (nI k16)) (1 + 5 * k15) (u41.2.1 3))), (h6, aI Y 800 f14)] (by rw [nI_clamp (show 1 + 5 * k15 < 2 ^ 31 by omega)]; rfl) ?_
              refine V_goto 121 B 170 dX12_readPlayed_121 (by decide) ?_
              refine V_aload_n 170 B dX12_readPlayed_170 3 rfl ?_
              refine V_dup 171 B dX12_readPlayed_171 rfl ?_
              refine V_get 172 B gf_RX12_361 0 rfl rfl dX12_readPlayed_172 ?_
              refine V_iconst 175 B (v := 1) dX12_readPlayed_175 (by decide +kernel) ?_
              refine V_iadd 176 B (v := (nI (1 + k15))) dX12_readPlayed_176 (nI_addE (a := k15) (b := 1) (by omega)) ?_
              refine V_put 177 B gp_RX12_361 0 rfl (Nat.le_of_ble_eq_true rfl) rfl rfl dX12_readPlayed_177 [(h0, oC 13 [.ref h1, .ref h2, .int p2, .ref h3, .ref h4, .int (nI k5), .int (nI (u41.1 0)), .int (u41.2.1 0), .int (u41.2.1 1), .int (u41.2.1 2), .int (nI (u41.1 1)), .int (u41.2.1 3), .long (u41.2.2.1 0), .ref h5, .ref h6, .int (nI (1 + k15)), .int (nI k16)]), (h1, aI Y 3640 f0), (h2, aZ Y 2 f1), (h3, aZ Y 80 f3), (h4, aB Y 1600 f4), (h5, aI Y 200 (upd (upd (upd f13 (5 * k15) j0) (3 + 5 * k15) (nI k16)) (1 + 5 * k15) (u41.2.1 3))), (h6, aI Y 800 f14)] rfl ?_
              refine V_iload_n 180 B dX12_readPlayed_180 0 rfl ?_
              refine V_if_eq_t 181 B 195 dX12_readPlayed_181 (by decide) (by decide +kernel) ?_
              refine V_iconst 195 B (v := 0) dX12_readPlayed_195 (by decide +kernel) ?_
              exact V_zret 196 B rfl dX12_readPlayed_196 (mkW [(u41.1 0), (u41.1 1), 1 + k15, k16] [(u41.2.1 0), (u41.2.1 1), (u41.2.1 2), (u41.2.1 3)] [(u41.2.2.1 0)] [(upd (upd (upd f13 (5 * k15) j0) (3 + 5 * k15) (nI k16)) (1 + 5 * k15) (u41.2.1 3)), f14] [] []) ⟨(Or.inl rfl), x50, (show k10 ≤ (u41.1 1) by omega), (show (u41.1 1) ≤ (u41.1 0) by omega), (show (u41.1 0) ≤ k5 by omega), (show ((u41.2.1 2) = 0 ∨ (u41.1 1) < (u41.1 0)) by first | assumption | exact Or.inr (by omega)), (show 1 + k15 ≤ 40 by omega), (show k16 ≤ 4 * (1 + k15) by omega)⟩ rfl
            ·
              generalize u41.2.1 3 = j51 at *
              refine V_istore_n 108 B (lv2 := [(3, .int 1), (2, .int (nI (5 * k15))), (1, .int j0), (0, .ref h0)]) dX12_readPlayed_108 (by decide) rfl ?_
              refine V_aload_n 109 B dX12_readPlayed_109 3 rfl ?_
              refine V_get 110 B gf_RX12_28 0 rfl rfl dX12_readPlayed_110 ?_
              refine V_iload_n 113 B dX12_readPlayed_113 1 rfl ?_
              refine V_iconst 114 B (v := 1) dX12_readPlayed_114 (by decide +kernel) ?_
              refine V_iadd 115 B (v := (nI (1 + 5 * k15))) dX12_readPlayed_115 (nI_addE (a := 5 * k15) (b := 1) (by omega)) ?_
              refine V_aload_n 116 B dX12_readPlayed_116 3 rfl ?_
              refine V_get 117 B gf_RX12_294 0 rfl rfl dX12_readPlayed_117 ?_
              have x52 : PLV (upd (upd (upd f13 (5 * k15) j0) (3 + 5 * k15) (nI k16)) (1 + 5 * k15) j51) := PLV_fr x15 (by omega)
              refine V_iast 120 B 5 rfl (vp_in_nI (n := 1 + 5 * k15) (by omega) (by decide)) dX12_readPlayed_120 [(h0, oC 13 [.ref h1, .ref h2, .int p2, .ref h3, .ref h4, .int (nI k5), .int (nI (u41.1 0)), .int (u41.2.1 0), .int (u41.2.1 1), .int (u41.2.1 2), .int (nI (u41.1 1)), .int j51, .long (u41.2.2.1 0), .ref h5, .ref h6, .int (nI k15), .int (nI k16)]), (h1, aI Y 3640 f0), (h2, aZ Y 2 f1), (h3, aZ Y 80 f3), (h4, aB Y 1600 f4), (h5, aI Y 200 (upd (upd (upd f13 (5 * k15) j0) (3 + 5 * k15) (nI k16)) (1 + 5 * k15) j51)), (h6, aI Y 800 f14)] (by rw [nI_clamp (show 1 + 5 * k15 < 2 ^ 31 by omega)]; rfl) ?_
              refine V_goto 121 B 170 dX12_readPlayed_121 (by decide) ?_
              refine V_aload_n 170 B dX12_readPlayed_170 3 rfl ?_
              refine V_dup 171 B dX12_readPlayed_171 rfl ?_
              refine V_get 172 B gf_RX12_361 0 rfl rfl dX12_readPlayed_172 ?_
              refine V_iconst 175 B (v := 1) dX12_readPlayed_175 (by decide +kernel) ?_
              refine V_iadd 176 B (v := (nI (1 + k15))) dX12_readPlayed_176 (nI_addE (a := k15) (b := 1) (by omega)) ?_
              refine V_put 177 B gp_RX12_361 0 rfl (Nat.le_of_ble_eq_true rfl) rfl rfl dX12_readPlayed_177 [(h0, oC 13 [.ref h1, .ref h2, .int p2, .ref h3, .ref h4, .int (nI k5), .int (nI (u41.1 0)), .int (u41.2.1 0), .int (u41.2.1 1), .int (u41.2.1 2), .int (nI (u41.1 1)), .int j51, .long (u41.2.2.1 0), .ref h5, .ref h6, .int (nI (1 + k15)), .int (nI k16)]), (h1, aI Y 3640 f0), (h2, aZ Y 2 f1), (h3, aZ Y 80 f3), (h4, aB Y 1600 f4), (h5, aI Y 200 (upd (upd (upd f13 (5 * k15) j0) (3 + 5 * k15) (nI k16)) (1 + 5 * k15) j51)), (h6, aI Y 800 f14)] rfl ?_
              refine V_iload_n 180 B dX12_readPlayed_180 0 rfl ?_
              refine V_if_eq_f 181 B 195 dX12_readPlayed_181 (by decide) (by decide +kernel) ?_
              refine V_aload_n 184 B dX12_readPlayed_184 3 rfl ?_
              refine V_cvi 185 B (st := []) (As := []) (fun sz => rX12_readEnd l D Y h0 h1 h2 h3 h4 h5 h6 p2 k5 (u41.1 0) (u41.2.1 0) (u41.2.1 1) (u41.2.1 2) (u41.1 1) j51 (u41.2.2.1 0) (1 + k15) k16 f0 f1 f3 f4 (upd (upd (upd f13 (5 * k15) j0) (3 + 5 * k15) (nI k16)) (1 + 5 * k15) j51) f14 ph HI (by omega) x52 (by omega) (by omega) (by first | assumption | exact Or.inl rfl | exact Or.inr (by omega)) sz) glV_RX12_304 ⟨rfl, rfl⟩ ⟨(Nat.le_of_ble_eq_true rfl), (Nat.le_of_ble_eq_true rfl)⟩ ⟨(Nat.le_of_ble_eq_true rfl), (Nat.le_of_ble_eq_true rfl)⟩ [0, 0, 0, 0, 0, 0, 0] rfl 13 0 rfl rfl rfl rfl (Nat.le_of_ble_eq_true rfl) rfl (fun _ _ _ => rfl) dX12_readPlayed_185 (fun j53 u54 w55 => ?_)
              refine V_ws [(h0, oC 13 [.ref h1, .ref h2, .int p2, .ref h3, .ref h4, .int (nI k5), .int (nI (u54.1 0)), .int (u54.2.1 0), .int (u54.2.1 1), .int (u54.2.1 2), .int (nI (u54.1 1)), .int j51, .long (u54.2.2.1 0), .ref h5, .ref h6, .int (nI (1 + k15)), .int (nI k16)]), (h1, aI Y 3640 f0), (h2, aZ Y 2 f1), (h3, aZ Y 80 f3), (h4, aB Y 1600 f4), (h5, aI Y 200 (upd (upd (upd f13 (5 * k15) j0) (3 + 5 * k15) (nI k16)) (1 + 5 * k15) j51)), (h6, aI Y 800 f14)] rfl ?_
              obtain ⟨x56, x57, x58, x59, x60⟩ := w55
              rcases x56 with rfl | ⟨rfl, x61⟩
              ·
                refine V_if_eq_t 188 B 195 dX12_readPlayed_188 (by decide) (by decide +kernel) ?_
                refine V_iconst 195 B (v := 0) dX12_readPlayed_195 (by decide +kernel) ?_
                exact V_zret 196 B rfl dX12_readPlayed_196 (mkW [(u54.1 0), (u54.1 1), 1 + k15, k16] [(u54.2.1 0), (u54.2.1 1), (u54.2.1 2), j51] [(u54.2.2.1 0)] [(upd (upd (upd f13 (5 * k15) j0) (3 + 5 * k15) (nI k16)) (1 + 5 * k15) j51), f14] [] []) ⟨(Or.inl rfl), x52, (show k10 ≤ (u54.1 1) by omega), (show (u54.1 1) ≤ (u54.1 0) by omega), (show (u54.1 0) ≤ k5 by omega), (show ((u54.2.1 2) = 0 ∨ (u54.1 1) < (u54.1 0)) by first | assumption | exact Or.inr (by omega)), (show 1 + k15 ≤ 40 by omega), (show k16 ≤ 4 * (1 + k15) by omega)⟩ rfl
              ·
                refine V_if_eq_f 188 B 195 dX12_readPlayed_188 (by decide) (by decide +kernel) ?_
                refine V_iconst 191 B (v := 1) dX12_readPlayed_191 (by decide +kernel) ?_
                refine V_goto 192 B 196 dX12_readPlayed_192 (by decide) ?_
                exact V_zret 196 B rfl dX12_readPlayed_196 (mkW [(u54.1 0), (u54.1 1), 1 + k15, k16] [(u54.2.1 0), (u54.2.1 1), (u54.2.1 2), j51] [(u54.2.2.1 0)] [(upd (upd (upd f13 (5 * k15) j0) (3 + 5 * k15) (nI k16)) (1 + 5 * k15) j51), f14] [] []) ⟨(Or.inr ⟨rfl, (show k10 < (u54.1 1) by omega)⟩), x52, (show k10 ≤ (u54.1 1) by omega), (show (u54.1 1) ≤ (u54.1 0) by omega), (show (u54.1 0) ≤ k5 by omega), (show ((u54.2.1 2) = 0 ∨ (u54.1 1) < (u54.1 0)) by first | assumption | exact Or.inr (by omega)), (show 1 + k15 ≤ 40 by omega), (show k16 ≤ 4 * (1 + k15) by omega)⟩ rfl
          ·
            by_cases kk62 : j0 = 2
            ·
              refine V_eqi _ 2 kk62 ?_
              refine V_tableIn 64 B 124 dX12_readPlayed_64 (by decide +kernel) (by decide +kernel) (off := 60) (by decide +kernel) (by decide) ?_
              refine V_aload_n 124 B dX12_readPlayed_124 3 rfl ?_
              refine V_iconst 125 B (v := 1) dX12_readPlayed_125 (by decide +kernel) ?_
              refine V_cvi 126 B (st := []) (As := [.int 1]) (fun sz => rX12_readNumberOf_1 l D Y h0 h1 h2 h3 h4 h5 h6 p2 k5 (u8.1 0) p7 p8 (u8.2.1 0) (u8.1 1) p11 (u8.2.2.1 0) k15 k16 f0 f1 f3 f4 (upd (upd f13 (5 * k15) j0) (3 + 5 * k15) (nI k16)) f14 ph HI (by omega) x15 (by omega) (by omega) (by first | assumption | exact Or.inl rfl | exact Or.inr (by omega)) (by omega) sz) glV_RX12_367 ⟨rfl, rfl⟩ ⟨(Nat.le_of_ble_eq_true rfl), (Nat.le_of_ble_eq_true rfl)⟩ ⟨(Nat.le_of_ble_eq_true rfl), (Nat.le_of_ble_eq_true rfl)⟩ [0, 0, 0, 0, 0, 0, 0] rfl 13 0 rfl rfl rfl rfl (Nat.le_of_ble_eq_true rfl) rfl (fun _ _ _ => rfl) dX12_readPlayed_126 (fun j63 u64 w65 => ?_)
              refine V_ws [(h0, oC 13 [.ref h1, .ref h2, .int p2, .ref h3, .ref h4, .int (nI k5), .int (nI (u64.1 0)), .int (u64.2.1 0), .int (u64.2.1 1), .int (u64.2.1 2), .int (nI (u64.1 1)), .int (u64.2.1 3), .long (u64.2.2.1 0), .ref h5, .ref h6, .int (nI k15), .int (nI k16)]), (h1, aI Y 3640 f0), (h2, aZ Y 2 f1), (h3, aZ Y 80 f3), (h4, aB Y 1600 f4), (h5, aI Y 200 (u64.2.2.2.1 0)), (h6, aI Y 800 f14)] rfl ?_
              obtain ⟨x66, x67, x68, x69, x70, x71⟩ := w65
              rcases x66 with rfl | ⟨rfl, x72⟩
              ·
                refine V_istore_n 129 B (lv2 := [(3, .int 0), (2, .int (nI (5 * k15))), (1, .int j0), (0, .ref h0)]) dX12_readPlayed_129 (by decide) rfl ?_
                refine V_goto 130 B 170 dX12_readPlayed_130 (by decide) ?_
                refine V_aload_n 170 B dX12_readPlayed_170 3 rfl ?_
                refine V_dup 171 B dX12_readPlayed_171 rfl ?_
                refine V_get 172 B gf_RX12_361 0 rfl rfl dX12_readPlayed_172 ?_
                refine V_iconst 175 B (v := 1) dX12_readPlayed_175 (by decide +kernel) ?_
                refine V_iadd 176 B (v := (nI (1 + k15))) dX12_readPlayed_176 (nI_addE (a := k15) (b := 1) (by omega)) ?_
                refine V_put 177 B gp_RX12_361 0 rfl (Nat.le_of_ble_eq_true rfl) rfl rfl dX12_readPlayed_177 [(h0, oC 13 [.ref h1, .ref h2, .int p2, .ref h3, .ref h4, .int (nI k5), .int (nI (u64.1 0)), .int (u64.2.1 0), .int (u64.2.1 1), .int (u64.2.1 2), .int (nI (u64.1 1)), .int (u64.2.1 3), .long (u64.2.2.1 0), .ref h5, .ref h6, .int (nI (1 + k15)), .int (nI k16)]), (h1, aI Y 3640 f0), (h2, aZ Y 2 f1), (h3, aZ Y 80 f3), (h4, aB Y 1600 f4), (h5, aI Y 200 (u64.2.2.2.1 0)), (h6, aI Y 800 f14)] rfl ?_
                refine V_iload_n 180 B dX12_readPlayed_180 0 rfl ?_
                refine V_if_eq_t 181 B 195 dX12_readPlayed_181 (by decide) (by decide +kernel) ?_
                refine V_iconst 195 B (v := 0) dX12_readPlayed_195 (by decide +kernel) ?_
                exact V_zret 196 B rfl dX12_readPlayed_196 (mkW [(u64.1 0), (u64.1 1), 1 + k15, k16] [(u64.2.1 0), (u64.2.1 1), (u64.2.1 2), (u64.2.1 3)] [(u64.2.2.1 0)] [(u64.2.2.2.1 0), f14] [] []) ⟨(Or.inl rfl), x67, (show k10 ≤ (u64.1 1) by omega), (show (u64.1 1) ≤ (u64.1 0) by omega), (show (u64.1 0) ≤ k5 by omega), (show ((u64.2.1 2) = 0 ∨ (u64.1 1) < (u64.1 0)) by first | assumption | exact Or.inr (by omega)), (show 1 + k15 ≤ 40 by omega), (show k16 ≤ 4 * (1 + k15) by omega)⟩ rfl
              ·
                have e73 : (1 : Int32).toInt = 1 := by decide +kernel
                refine V_istore_n 129 B (lv2 := [(3, .int 1), (2, .int (nI (5 * k15))), (1, .int j0), (0, .ref h0)]) dX12_readPlayed_129 (by decide) rfl ?_
                refine V_goto 130 B 170 dX12_readPlayed_130 (by decide) ?_
                refine V_aload_n 170 B dX12_readPlayed_170 3 rfl ?_
                refine V_dup 171 B dX12_readPlayed_171 rfl ?_
                refine V_get 172 B gf_RX12_361 0 rfl rfl dX12_readPlayed_172 ?_
                refine V_iconst 175 B (v := 1) dX12_readPlayed_175 (by decide +kernel) ?_
                refine V_iadd 176 B (v := (nI (1 + k15))) dX12_readPlayed_176 (nI_addE (a := k15) (b := 1) (by omega)) ?_
                refine V_put 177 B gp_RX12_361 0 rfl (Nat.le_of_ble_eq_true rfl) rfl rfl dX12_readPlayed_177 [(h0, oC 13 [.ref h1, .ref h2, .int p2, .ref h3, .ref h4, .int (nI k5), .int (nI (u64.1 0)), .int (u64.2.1 0), .int (u64.2.1 1), .int (u64.2.1 2), .int (nI (u64.1 1)), .int (u64.2.1 3), .long (u64.2.2.1 0), .ref h5, .ref h6, .int (nI (1 + k15)), .int (nI k16)]), (h1, aI Y 3640 f0), (h2, aZ Y 2 f1), (h3, aZ Y 80 f3), (h4, aB Y 1600 f4), (h5, aI Y 200 (u64.2.2.2.1 0)), (h6, aI Y 800 f14)] rfl ?_
                refine V_iload_n 180 B dX12_readPlayed_180 0 rfl ?_
                refine V_if_eq_f 181 B 195 dX12_readPlayed_181 (by decide) (by decide +kernel) ?_
                refine V_aload_n 184 B dX12_readPlayed_184 3 rfl ?_
                refine V_cvi 185 B (st := []) (As := []) (fun sz => rX12_readEnd l D Y h0 h1 h2 h3 h4 h5 h6 p2 k5 (u64.1 0) (u64.2.1 0) (u64.2.1 1) (u64.2.1 2) (u64.1 1) (u64.2.1 3) (u64.2.2.1 0) (1 + k15) k16 f0 f1 f3 f4 (u64.2.2.2.1 0) f14 ph HI (by omega) x67 (by omega) (by omega) (by first | assumption | exact Or.inl rfl | exact Or.inr (by omega)) sz) glV_RX12_304 ⟨rfl, rfl⟩ ⟨(Nat.le_of_ble_eq_true rfl), (Nat.le_of_ble_eq_true rfl)⟩ ⟨(Nat.le_of_ble_eq_true rfl), (Nat.le_of_ble_eq_true rfl)⟩ [0, 0, 0, 0, 0, 0, 0] rfl 13 0 rfl rfl rfl rfl (Nat.le_of_ble_eq_true rfl) rfl (fun _ _ _ => rfl) dX12_readPlayed_185 (fun j74 u75 w76 => ?_)
                refine V_ws [(h0, oC 13 [.ref h1, .ref h2, .int p2, .ref h3, .ref h4, .int (nI k5), .int (nI (u75.1 0)), .int (u75.2.1 0), .int (u75.2.1 1), .int (u75.2.1 2), .int (nI (u75.1 1)), .int (u64.2.1 3), .long (u75.2.2.1 0), .ref h5, .ref h6, .int (nI (1 + k15)), .int (nI k16)]), (h1, aI Y 3640 f0), (h2, aZ Y 2 f1), (h3, aZ Y 80 f3), (h4, aB Y 1600 f4), (h5, aI Y 200 (u64.2.2.2.1 0)), (h6, aI Y 800 f14)] rfl ?_
                obtain ⟨x77, x78, x79, x80, x81⟩ := w76
                rcases x77 with rfl | ⟨rfl, x82⟩
                ·
                  refine V_if_eq_t 188 B 195 dX12_readPlayed_188 (by decide) (by decide +kernel) ?_
                  refine V_iconst 195 B (v := 0) dX12_readPlayed_195 (by decide +kernel) ?_
                  exact V_zret 196 B rfl dX12_readPlayed_196 (mkW [(u75.1 0), (u75.1 1), 1 + k15, k16] [(u75.2.1 0), (u75.2.1 1), (u75.2.1 2), (u64.2.1 3)] [(u75.2.2.1 0)] [(u64.2.2.2.1 0), f14] [] []) ⟨(Or.inl rfl), x67, (show k10 ≤ (u75.1 1) by omega), (show (u75.1 1) ≤ (u75.1 0) by omega), (show (u75.1 0) ≤ k5 by omega), (show ((u75.2.1 2) = 0 ∨ (u75.1 1) < (u75.1 0)) by first | assumption | exact Or.inr (by omega)), (show 1 + k15 ≤ 40 by omega), (show k16 ≤ 4 * (1 + k15) by omega)⟩ rfl
                ·
                  refine V_if_eq_f 188 B 195 dX12_readPlayed_188 (by decide) (by decide +kernel) ?_
                  refine V_iconst 191 B (v := 1) dX12_readPlayed_191 (by decide +kernel) ?_
                  refine V_goto 192 B 196 dX12_readPlayed_192 (by decide) ?_
                  exact V_zret 196 B rfl dX12_readPlayed_196 (mkW [(u75.1 0), (u75.1 1), 1 + k15, k16] [(u75.2.1 0), (u75.2.1 1), (u75.2.1 2), (u64.2.1 3)] [(u75.2.2.1 0)] [(u64.2.2.2.1 0), f14] [] []) ⟨(Or.inr ⟨rfl, (show k10 < (u75.1 1) by omega)⟩), x67, (show k10 ≤ (u75.1 1) by omega), (show (u75.1 1) ≤ (u75.1 0) by omega), (show (u75.1 0) ≤ k5 by omega), (show ((u75.2.1 2) = 0 ∨ (u75.1 1) < (u75.1 0)) by first | assumption | exact Or.inr (by omega)), (show 1 + k15 ≤ 40 by omega), (show k16 ≤ 4 * (1 + k15) by omega)⟩ rfl
            ·
              by_cases kk83 : j0 = 3
              ·
                refine V_eqi _ 3 kk83 ?_
                refine V_tableIn 64 B 124 dX12_readPlayed_64 (by decide +kernel) (by decide +kernel) (off := 60) (by decide +kernel) (by decide) ?_
                refine V_aload_n 124 B dX12_readPlayed_124 3 rfl ?_
                refine V_iconst 125 B (v := 1) dX12_readPlayed_125 (by decide +kernel) ?_
                refine V_cvi 126 B (st := []) (As := [.int 1]) (fun sz => rX12_readNumberOf_1 l D Y h0 h1 h2 h3 h4 h5 h6 p2 k5 (u8.1 0) p7 p8 (u8.2.1 0) (u8.1 1) p11 (u8.2.2.1 0) k15 k16 f0 f1 f3 f4 (upd (upd f13 (5 * k15) j0) (3 + 5 * k15) (nI k16)) f14 ph HI (by omega) x15 (by omega) (by omega) (by first | assumption | exact Or.inl rfl | exact Or.inr (by omega)) (by omega) sz) glV_RX12_367 ⟨rfl, rfl⟩ ⟨(Nat.le_of_ble_eq_true rfl), (Nat.le_of_ble_eq_true rfl)⟩ ⟨(Nat.le_of_ble_eq_true rfl), (Nat.le_of_ble_eq_true rfl)⟩ [0, 0, 0, 0, 0, 0, 0] rfl 13 0 rfl rfl rfl rfl (Nat.le_of_ble_eq_true rfl) rfl (fun _ _ _ => rfl) dX12_readPlayed_126 (fun j84 u85 w86 => ?_)
                refine V_ws [(h0, oC 13 [.ref h1, .ref h2, .int p2, .ref h3, .ref h4, .int (nI k5), .int (nI (u85.1 0)), .int (u85.2.1 0), .int (u85.2.1 1), .int (u85.2.1 2), .int (nI (u85.1 1)), .int (u85.2.1 3), .long (u85.2.2.1 0), .ref h5, .ref h6, .int (nI k15), .int (nI k16)]), (h1, aI Y 3640 f0), (h2, aZ Y 2 f1), (h3, aZ Y 80 f3), (h4, aB Y 1600 f4), (h5, aI Y 200 (u85.2.2.2.1 0)), (h6, aI Y 800 f14)] rfl ?_
                obtain ⟨x87, x88, x89, x90, x91, x92⟩ := w86
                rcases x87 with rfl | ⟨rfl, x93⟩
                ·
                  refine V_istore_n 129 B (lv2 := [(3, .int 0), (2, .int (nI (5 * k15))), (1, .int j0), (0, .ref h0)]) dX12_readPlayed_129 (by decide) rfl ?_
                  refine V_goto 130 B 170 dX12_readPlayed_130 (by decide) ?_
                  refine V_aload_n 170 B dX12_readPlayed_170 3 rfl ?_
                  refine V_dup 171 B dX12_readPlayed_171 rfl ?_
                  refine V_get 172 B gf_RX12_361 0 rfl rfl dX12_readPlayed_172 ?_
                  refine V_iconst 175 B (v := 1) dX12_readPlayed_175 (by decide +kernel) ?_
                  refine V_iadd 176 B (v := (nI (1 + k15))) dX12_readPlayed_176 (nI_addE (a := k15) (b := 1) (by omega)) ?_
                  refine V_put 177 B gp_RX12_361 0 rfl (Nat.le_of_ble_eq_true rfl) rfl rfl dX12_readPlayed_177 [(h0, oC 13 [.ref h1, .ref h2, .int p2, .ref h3, .ref h4, .int (nI k5), .int (nI (u85.1 0)), .int (u85.2.1 0), .int (u85.2.1 1), .int (u85.2.1 2), .int (nI (u85.1 1)), .int (u85.2.1 3), .long (u85.2.2.1 0), .ref h5, .ref h6, .int (nI (1 + k15)), .int (nI k16)]), (h1, aI Y 3640 f0), (h2, aZ Y 2 f1), (h3, aZ Y 80 f3), (h4, aB Y 1600 f4), (h5, aI Y 200 (u85.2.2.2.1 0)), (h6, aI Y 800 f14)] rfl ?_
                  refine V_iload_n 180 B dX12_readPlayed_180 0 rfl ?_
                  refine V_if_eq_t 181 B 195 dX12_readPlayed_181 (by decide) (by decide +kernel) ?_
                  refine V_iconst 195 B (v := 0) dX12_readPlayed_195 (by decide +kernel) ?_
                  exact V_zret 196 B rfl dX12_readPlayed_196 (mkW [(u85.1 0), (u85.1 1), 1 + k15, k16] [(u85.2.1 0), (u85.2.1 1), (u85.2.1 2), (u85.2.1 3)] [(u85.2.2.1 0)] [(u85.2.2.2.1 0), f14] [] []) ⟨(Or.inl rfl), x88, (show k10 ≤ (u85.1 1) by omega), (show (u85.1 1) ≤ (u85.1 0) by omega), (show (u85.1 0) ≤ k5 by omega), (show ((u85.2.1 2) = 0 ∨ (u85.1 1) < (u85.1 0)) by first | assumption | exact Or.inr (by omega)), (show 1 + k15 ≤ 40 by omega), (show k16 ≤ 4 * (1 + k15) by omega)⟩ rfl
                ·
                  have e94 : (1 : Int32).toInt = 1 := by decide +kernel
                  refine V_istore_n 129 B (lv2 := [(3, .int 1), (2, .int (nI (5 * k15))), (1, .int j0), (0, .ref h0)]) dX12_readPlayed_129 (by decide) rfl ?_
                  refine V_goto 130 B 170 dX12_readPlayed_130 (by decide) ?_
                  refine V_aload_n 170 B dX12_readPlayed_170 3 rfl ?_
                  refine V_dup 171 B dX12_readPlayed_171 rfl ?_
                  refine V_get 172 B gf_RX12_361 0 rfl rfl dX12_readPlayed_172 ?_
                  refine V_iconst 175 B (v := 1) dX12_readPlayed_175 (by decide +kernel) ?_
                  refine V_iadd 176 B (v := (nI (1 + k15))) dX12_readPlayed_176 (nI_addE (a := k15) (b := 1) (by omega)) ?_
                  refine V_put 177 B gp_RX12_361 0 rfl (Nat.le_of_ble_eq_true rfl) rfl rfl dX12_readPlayed_177 [(h0, oC 13 [.ref h1, .ref h2, .int p2, .ref h3, .ref h4, .int (nI k5), .int (nI (u85.1 0)), .int (u85.2.1 0), .int (u85.2.1 1), .int (u85.2.1 2), .int (nI (u85.1 1)), .int (u85.2.1 3), .long (u85.2.2.1 0), .ref h5, .ref h6, .int (nI (1 + k15)), .int (nI k16)]), (h1, aI Y 3640 f0), (h2, aZ Y 2 f1), (h3, aZ Y 80 f3), (h4, aB Y 1600 f4), (h5, aI Y 200 (u85.2.2.2.1 0)), (h6, aI Y 800 f14)] rfl ?_
                  refine V_iload_n 180 B dX12_readPlayed_180 0 rfl ?_
                  refine V_if_eq_f 181 B 195 dX12_readPlayed_181 (by decide) (by decide +kernel) ?_
                  refine V_aload_n 184 B dX12_readPlayed_184 3 rfl ?_
                  refine V_cvi 185 B (st := []) (As := []) (fun sz => rX12_readEnd l D Y h0 h1 h2 h3 h4 h5 h6 p2 k5 (u85.1 0) (u85.2.1 0) (u85.2.1 1) (u85.2.1 2) (u85.1 1) (u85.2.1 3) (u85.2.2.1 0) (1 + k15) k16 f0 f1 f3 f4 (u85.2.2.2.1 0) f14 ph HI (by omega) x88 (by omega) (by omega) (by first | assumption | exact Or.inl rfl | exact Or.inr (by omega)) sz) glV_RX12_304 ⟨rfl, rfl⟩ ⟨(Nat.le_of_ble_eq_true rfl), (Nat.le_of_ble_eq_true rfl)⟩ ⟨(Nat.le_of_ble_eq_true rfl), (Nat.le_of_ble_eq_true rfl)⟩ [0, 0, 0, 0, 0, 0, 0] rfl 13 0 rfl rfl rfl rfl (Nat.le_of_ble_eq_true rfl) rfl (fun _ _ _ => rfl) dX12_readPlayed_185 (fun j95 u96 w97 => ?_)
                  refine V_ws [(h0, oC 13 [.ref h1, .ref h2, .int p2, .ref h3, .ref h4, .int (nI k5), .int (nI (u96.1 0)), .int (u96.2.1 0), .int (u96.2.1 1), .int (u96.2.1 2), .int (nI (u96.1 1)), .int (u85.2.1 3), .long (u96.2.2.1 0), .ref h5, .ref h6, .int (nI (1 + k15)), .int (nI k16)]), (h1, aI Y 3640 f0), (h2, aZ Y 2 f1), (h3, aZ Y 80 f3), (h4, aB Y 1600 f4), (h5, aI Y 200 (u85.2.2.2.1 0)), (h6, aI Y 800 f14)] rfl ?_
                  obtain ⟨x98, x99, x100, x101, x102⟩ := w97
                  rcases x98 with rfl | ⟨rfl, x103⟩
                  ·
                    refine V_if_eq_t 188 B 195 dX12_readPlayed_188 (by decide) (by decide +kernel) ?_
                    refine V_iconst 195 B (v := 0) dX12_readPlayed_195 (by decide +kernel) ?_
                    exact V_zret 196 B rfl dX12_readPlayed_196 (mkW [(u96.1 0), (u96.1 1), 1 + k15, k16] [(u96.2.1 0), (u96.2.1 1), (u96.2.1 2), (u85.2.1 3)] [(u96.2.2.1 0)] [(u85.2.2.2.1 0), f14] [] []) ⟨(Or.inl rfl), x88, (show k10 ≤ (u96.1 1) by omega), (show (u96.1 1) ≤ (u96.1 0) by omega), (show (u96.1 0) ≤ k5 by omega), (show ((u96.2.1 2) = 0 ∨ (u96.1 1) < (u96.1 0)) by first | assumption | exact Or.inr (by omega)), (show 1 + k15 ≤ 40 by omega), (show k16 ≤ 4 * (1 + k15) by omega)⟩ rfl
                  ·
                    refine V_if_eq_f 188 B 195 dX12_readPlayed_188 (by decide) (by decide +kernel) ?_
                    refine V_iconst 191 B (v := 1) dX12_readPlayed_191 (by decide +kernel) ?_
                    refine V_goto 192 B 196 dX12_readPlayed_192 (by decide) ?_
                    exact V_zret 196 B rfl dX12_readPlayed_196 (mkW [(u96.1 0), (u96.1 1), 1 + k15, k16] [(u96.2.1 0), (u96.2.1 1), (u96.2.1 2), (u85.2.1 3)] [(u96.2.2.1 0)] [(u85.2.2.2.1 0), f14] [] []) ⟨(Or.inr ⟨rfl, (show k10 < (u96.1 1) by omega)⟩), x88, (show k10 ≤ (u96.1 1) by omega), (show (u96.1 1) ≤ (u96.1 0) by omega), (show (u96.1 0) ≤ k5 by omega), (show ((u96.2.1 2) = 0 ∨ (u96.1 1) < (u96.1 0)) by first | assumption | exact Or.inr (by omega)), (show 1 + k15 ≤ 40 by omega), (show k16 ≤ 4 * (1 + k15) by omega)⟩ rfl
              ·
                by_cases kk104 : j0 = 4
                ·
                  refine V_eqi _ 4 kk104 ?_
                  refine V_tableIn 64 B 124 dX12_readPlayed_64 (by decide +kernel) (by decide +kernel) (off := 60) (by decide +kernel) (by decide) ?_
                  refine V_aload_n 124 B dX12_readPlayed_124 3 rfl ?_
                  refine V_iconst 125 B (v := 1) dX12_readPlayed_125 (by decide +kernel) ?_
                  refine V_cvi 126 B (st := []) (As := [.int 1]) (fun sz => rX12_readNumberOf_1 l D Y h0 h1 h2 h3 h4 h5 h6 p2 k5 (u8.1 0) p7 p8 (u8.2.1 0) (u8.1 1) p11 (u8.2.2.1 0) k15 k16 f0 f1 f3 f4 (upd (upd f13 (5 * k15) j0) (3 + 5 * k15) (nI k16)) f14 ph HI (by omega) x15 (by omega) (by omega) (by first | assumption | exact Or.inl rfl | exact Or.inr (by omega)) (by omega) sz) glV_RX12_367 ⟨rfl, rfl⟩ ⟨(Nat.le_of_ble_eq_true rfl), (Nat.le_of_ble_eq_true rfl)⟩ ⟨(Nat.le_of_ble_eq_true rfl), (Nat.le_of_ble_eq_true rfl)⟩ [0, 0, 0, 0, 0, 0, 0] rfl 13 0 rfl rfl rfl rfl (Nat.le_of_ble_eq_true rfl) rfl (fun _ _ _ => rfl) dX12_readPlayed_126 (fun j105 u106 w107 => ?_)
                  refine V_ws [(h0, oC 13 [.ref h1, .ref h2, .int p2, .ref h3, .ref h4, .int (nI k5), .int (nI (u106.1 0)), .int (u106.2.1 0), .int (u106.2.1 1), .int (u106.2.1 2), .int (nI (u106.1 1)), .int (u106.2.1 3), .long (u106.2.2.1 0), .ref h5, .ref h6, .int (nI k15), .int (nI k16)]), (h1, aI Y 3640 f0), (h2, aZ Y 2 f1), (h3, aZ Y 80 f3), (h4, aB Y 1600 f4), (h5, aI Y 200 (u106.2.2.2.1 0)), (h6, aI Y 800 f14)] rfl ?_
                  obtain ⟨x108, x109, x110, x111, x112, x113⟩ := w107
                  rcases x108 with rfl | ⟨rfl, x114⟩
                  ·
                    refine V_istore_n 129 B (lv2 := [(3, .int 0), (2, .int (nI (5 * k15))), (1, .int j0), (0, .ref h0)]) dX12_readPlayed_129 (by decide) rfl ?_
                    refine V_goto 130 B 170 dX12_readPlayed_130 (by decide) ?_
                    refine V_aload_n 170 B dX12_readPlayed_170 3 rfl ?_
                    refine V_dup 171 B dX12_readPlayed_171 rfl ?_
                    refine V_get 172 B gf_RX12_361 0 rfl rfl dX12_readPlayed_172 ?_
                    refine V_iconst 175 B (v := 1) dX12_readPlayed_175 (by decide +kernel) ?_
                    refine V_iadd 176 B (v := (nI (1 + k15))) dX12_readPlayed_176 (nI_addE (a := k15) (b := 1) (by omega)) ?_
                    refine V_put 177 B gp_RX12_361 0 rfl (Nat.le_of_ble_eq_true rfl) rfl rfl dX12_readPlayed_177 [(h0, oC 13 [.ref h1, .ref h2, .int p2, .ref h3, .ref h4, .int (nI k5), .int (nI (u106.1 0)), .int (u106.2.1 0), .int (u106.2.1 1), .int (u106.2.1 2), .int (nI (u106.1 1)), .int (u106.2.1 3), .long (u106.2.2.1 0), .ref h5, .ref h6, .int (nI (1 + k15)), .int (nI k16)]), (h1, aI Y 3640 f0), (h2, aZ Y 2 f1), (h3, aZ Y 80 f3), (h4, aB Y 1600 f4), (h5, aI Y 200 (u106.2.2.2.1 0)), (h6, aI Y 800 f14)] rfl ?_
                    refine V_iload_n 180 B dX12_readPlayed_180 0 rfl ?_
                    refine V_if_eq_t 181 B 195 dX12_readPlayed_181 (by decide) (by decide +kernel) ?_
                    refine V_iconst 195 B (v := 0) dX12_readPlayed_195 (by decide +kernel) ?_
                    exact V_zret 196 B rfl dX12_readPlayed_196 (mkW [(u106.1 0), (u106.1 1), 1 + k15, k16] [(u106.2.1 0), (u106.2.1 1), (u106.2.1 2), (u106.2.1 3)] [(u106.2.2.1 0)] [(u106.2.2.2.1 0), f14] [] []) ⟨(Or.inl rfl), x109, (show k10 ≤ (u106.1 1) by omega), (show (u106.1 1) ≤ (u106.1 0) by omega), (show (u106.1 0) ≤ k5 by omega), (show ((u106.2.1 2) = 0 ∨ (u106.1 1) < (u106.1 0)) by first | assumption | exact Or.inr (by omega)), (show 1 + k15 ≤ 40 by omega), (show k16 ≤ 4 * (1 + k15) by omega)⟩ rfl
                  ·
                    have e115 : (1 : Int32).toInt = 1 := by decide +kernel
                    refine V_istore_n 129 B (lv2 := [(3, .int 1), (2, .int (nI (5 * k15))), (1, .int j0), (0, .ref h0)]) dX12_readPlayed_129 (by decide) rfl ?_
                    refine V_goto 130 B 170 dX12_readPlayed_130 (by decide) ?_
                    refine V_aload_n 170 B dX12_readPlayed_170 3 rfl ?_
                    refine V_dup 171 B dX12_readPlayed_171 rfl ?_
                    refine V_get 172 B gf_RX12_361 0 rfl rfl dX12_readPlayed_172 ?_
                    refine V_iconst 175 B (v := 1) dX12_readPlayed_175 (by decide +kernel) ?_
                    refine V_iadd 176 B (v := (nI (1 + k15))) dX12_readPlayed_176 (nI_addE (a := k15) (b := 1) (by omega)) ?_
                    refine V_put 177 B gp_RX12_361 0 rfl (Nat.le_of_ble_eq_true rfl) rfl rfl dX12_readPlayed_177 [(h0, oC 13 [.ref h1, .ref h2, .int p2, .ref h3, .ref h4, .int (nI k5), .int (nI (u106.1 0)), .int (u106.2.1 0), .int (u106.2.1 1), .int (u106.2.1 2), .int (nI (u106.1 1)), .int (u106.2.1 3), .long (u106.2.2.1 0), .ref h5, .ref h6, .int (nI (1 + k15)), .int (nI k16)]), (h1, aI Y 3640 f0), (h2, aZ Y 2 f1), (h3, aZ Y 80 f3), (h4, aB Y 1600 f4), (h5, aI Y 200 (u106.2.2.2.1 0)), (h6, aI Y 800 f14)] rfl ?_
                    refine V_iload_n 180 B dX12_readPlayed_180 0 rfl ?_
                    refine V_if_eq_f 181 B 195 dX12_readPlayed_181 (by decide) (by decide +kernel) ?_
                    refine V_aload_n 184 B dX12_readPlayed_184 3 rfl ?_
                    refine V_cvi 185 B (st := []) (As := []) (fun sz => rX12_readEnd l D Y h0 h1 h2 h3 h4 h5 h6 p2 k5 (u106.1 0) (u106.2.1 0) (u106.2.1 1) (u106.2.1 2) (u106.1 1) (u106.2.1 3) (u106.2.2.1 0) (1 + k15) k16 f0 f1 f3 f4 (u106.2.2.2.1 0) f14 ph HI (by omega) x109 (by omega) (by omega) (by first | assumption | exact Or.inl rfl | exact Or.inr (by omega)) sz) glV_RX12_304 ⟨rfl, rfl⟩ ⟨(Nat.le_of_ble_eq_true rfl), (Nat.le_of_ble_eq_true rfl)⟩ ⟨(Nat.le_of_ble_eq_true rfl), (Nat.le_of_ble_eq_true rfl)⟩ [0, 0, 0, 0, 0, 0, 0] rfl 13 0 rfl rfl rfl rfl (Nat.le_of_ble_eq_true rfl) rfl (fun _ _ _ => rfl) dX12_readPlayed_185 (fun j116 u117 w118 => ?_)
                    refine V_ws [(h0, oC 13 [.ref h1, .ref h2, .int p2, .ref h3, .ref h4, .int (nI k5), .int (nI (u117.1 0)), .int (u117.2.1 0), .int (u117.2.1 1), .int (u117.2.1 2), .int (nI (u117.1 1)), .int (u106.2.1 3), .long (u117.2.2.1 0), .ref h5, .ref h6, .int (nI (1 + k15)), .int (nI k16)]), (h1, aI Y 3640 f0), (h2, aZ Y 2 f1), (h3, aZ Y 80 f3), (h4, aB Y 1600 f4), (h5, aI Y 200 (u106.2.2.2.1 0)), (h6, aI Y 800 f14)] rfl ?_
                    obtain ⟨x119, x120, x121, x122, x123⟩ := w118
                    rcases x119 with rfl | ⟨rfl, x124⟩
                    ·
                      refine V_if_eq_t 188 B 195 dX12_readPlayed_188 (by decide) (by decide +kernel) ?_
                      refine V_iconst 195 B (v := 0) dX12_readPlayed_195 (by decide +kernel) ?_
                      exact V_zret 196 B rfl dX12_readPlayed_196 (mkW [(u117.1 0), (u117.1 1), 1 + k15, k16] [(u117.2.1 0), (u117.2.1 1), (u117.2.1 2), (u106.2.1 3)] [(u117.2.2.1 0)] [(u106.2.2.2.1 0), f14] [] []) ⟨(Or.inl rfl), x109, (show k10 ≤ (u117.1 1) by omega), (show (u117.1 1) ≤ (u117.1 0) by omega), (show (u117.1 0) ≤ k5 by omega), (show ((u117.2.1 2) = 0 ∨ (u117.1 1) < (u117.1 0)) by first | assumption | exact Or.inr (by omega)), (show 1 + k15 ≤ 40 by omega), (show k16 ≤ 4 * (1 + k15) by omega)⟩ rfl
                    ·
                      refine V_if_eq_f 188 B 195 dX12_readPlayed_188 (by decide) (by decide +kernel) ?_
                      refine V_iconst 191 B (v := 1) dX12_readPlayed_191 (by decide +kernel) ?_
                      refine V_goto 192 B 196 dX12_readPlayed_192 (by decide) ?_
                      exact V_zret 196 B rfl dX12_readPlayed_196 (mkW [(u117.1 0), (u117.1 1), 1 + k15, k16] [(u117.2.1 0), (u117.2.1 1), (u117.2.1 2), (u106.2.1 3)] [(u117.2.2.1 0)] [(u106.2.2.2.1 0), f14] [] []) ⟨(Or.inr ⟨rfl, (show k10 < (u117.1 1) by omega)⟩), x109, (show k10 ≤ (u117.1 1) by omega), (show (u117.1 1) ≤ (u117.1 0) by omega), (show (u117.1 0) ≤ k5 by omega), (show ((u117.2.1 2) = 0 ∨ (u117.1 1) < (u117.1 0)) by first | assumption | exact Or.inr (by omega)), (show 1 + k15 ≤ 40 by omega), (show k16 ≤ 4 * (1 + k15) by omega)⟩ rfl
                ·
                  by_cases kk125 : j0 = 5
                  ·
                    refine V_eqi _ 5 kk125 ?_
                    refine V_tableIn 64 B 133 dX12_readPlayed_64 (by decide +kernel) (by decide +kernel) (off := 69) (by decide +kernel) (by decide) ?_
                    refine V_aload_n 133 B dX12_readPlayed_133 3 rfl ?_
                    refine V_cvi 134 B (st := []) (As := []) (fun sz => rX12_readStrokes l D Y h0 h1 h2 h3 h4 h5 h6 p2 k5 (u8.1 0) p7 p8 (u8.2.1 0) (u8.1 1) p11 (u8.2.2.1 0) k15 k16 f0 f1 f3 f4 (upd (upd f13 (5 * k15) j0) (3 + 5 * k15) (nI k16)) f14 ph HI (by omega) x15 (by omega) (by omega) (by first | assumption | exact Or.inl rfl | exact Or.inr (by omega)) (by omega) (by omega) sz) glV_RX12_370 ⟨rfl, rfl⟩ ⟨(Nat.le_of_ble_eq_true rfl), (Nat.le_of_ble_eq_true rfl)⟩ ⟨(Nat.le_of_ble_eq_true rfl), (Nat.le_of_ble_eq_true rfl)⟩ [0, 0, 0, 0, 0, 0, 0] rfl 13 0 rfl rfl rfl rfl (Nat.le_of_ble_eq_true rfl) rfl (fun _ _ _ => rfl) dX12_readPlayed_134 (fun j126 u127 w128 => ?_)
                    refine V_ws [(h0, oC 13 [.ref h1, .ref h2, .int p2, .ref h3, .ref h4, .int (nI k5), .int (nI (u127.1 0)), .int (u127.2.1 0), .int (u127.2.1 1), .int (u127.2.1 2), .int (nI (u127.1 1)), .int p11, .long (u127.2.2.1 0), .ref h5, .ref h6, .int (nI k15), .int (nI (u127.1 2))]), (h1, aI Y 3640 f0), (h2, aZ Y 2 f1), (h3, aZ Y 80 f3), (h4, aB Y 1600 f4), (h5, aI Y 200 (u127.2.2.2.1 0)), (h6, aI Y 800 (u127.2.2.2.1 1))] rfl ?_
                    obtain ⟨x129, x130, x131, x132, x133, x134, x135⟩ := w128
                    rcases x129 with rfl | ⟨rfl, x136⟩
                    ·
                      refine V_istore_n 137 B (lv2 := [(3, .int 0), (2, .int (nI (5 * k15))), (1, .int j0), (0, .ref h0)]) dX12_readPlayed_137 (by decide) rfl ?_
                      refine V_goto 138 B 170 dX12_readPlayed_138 (by decide) ?_
                      refine V_aload_n 170 B dX12_readPlayed_170 3 rfl ?_
                      refine V_dup 171 B dX12_readPlayed_171 rfl ?_
                      refine V_get 172 B gf_RX12_361 0 rfl rfl dX12_readPlayed_172 ?_
                      refine V_iconst 175 B (v := 1) dX12_readPlayed_175 (by decide +kernel) ?_
                      refine V_iadd 176 B (v := (nI (1 + k15))) dX12_readPlayed_176 (nI_addE (a := k15) (b := 1) (by omega)) ?_
                      refine V_put 177 B gp_RX12_361 0 rfl (Nat.le_of_ble_eq_true rfl) rfl rfl dX12_readPlayed_177 [(h0, oC 13 [.ref h1, .ref h2, .int p2, .ref h3, .ref h4, .int (nI k5), .int (nI (u127.1 0)), .int (u127.2.1 0), .int (u127.2.1 1), .int (u127.2.1 2), .int (nI (u127.1 1)), .int p11, .long (u127.2.2.1 0), .ref h5, .ref h6, .int (nI (1 + k15)), .int (nI (u127.1 2))]), (h1, aI Y 3640 f0), (h2, aZ Y 2 f1), (h3, aZ Y 80 f3), (h4, aB Y 1600 f4), (h5, aI Y 200 (u127.2.2.2.1 0)), (h6, aI Y 800 (u127.2.2.2.1 1))] rfl ?_
                      refine V_iload_n 180 B dX12_readPlayed_180 0 rfl ?_
                      refine V_if_eq_t 181 B 195 dX12_readPlayed_181 (by decide) (by decide +kernel) ?_
                      refine V_iconst 195 B (v := 0) dX12_readPlayed_195 (by decide +kernel) ?_
                      exact V_zret 196 B rfl dX12_readPlayed_196 (mkW [(u127.1 0), (u127.1 1), 1 + k15, (u127.1 2)] [(u127.2.1 0), (u127.2.1 1), (u127.2.1 2), p11] [(u127.2.2.1 0)] [(u127.2.2.2.1 0), (u127.2.2.2.1 1)] [] []) ⟨(Or.inl rfl), x130, (show k10 ≤ (u127.1 1) by omega), (show (u127.1 1) ≤ (u127.1 0) by omega), (show (u127.1 0) ≤ k5 by omega), (show ((u127.2.1 2) = 0 ∨ (u127.1 1) < (u127.1 0)) by first | assumption | exact Or.inr (by omega)), (show 1 + k15 ≤ 40 by omega), (show (u127.1 2) ≤ 4 * (1 + k15) by omega)⟩ rfl
                    ·
                      refine V_istore_n 137 B (lv2 := [(3, .int 1), (2, .int (nI (5 * k15))), (1, .int j0), (0, .ref h0)]) dX12_readPlayed_137 (by decide) rfl ?_
                      refine V_goto 138 B 170 dX12_readPlayed_138 (by decide) ?_
                      refine V_aload_n 170 B dX12_readPlayed_170 3 rfl ?_
                      refine V_dup 171 B dX12_readPlayed_171 rfl ?_
                      refine V_get 172 B gf_RX12_361 0 rfl rfl dX12_readPlayed_172 ?_
                      refine V_iconst 175 B (v := 1) dX12_readPlayed_175 (by decide +kernel) ?_
                      refine V_iadd 176 B (v := (nI (1 + k15))) dX12_readPlayed_176 (nI_addE (a := k15) (b := 1) (by omega)) ?_
                      refine V_put 177 B gp_RX12_361 0 rfl (Nat.le_of_ble_eq_true rfl) rfl rfl dX12_readPlayed_177 [(h0, oC 13 [.ref h1, .ref h2, .int p2, .ref h3, .ref h4, .int (nI k5), .int (nI (u127.1 0)), .int (u127.2.1 0), .int (u127.2.1 1), .int (u127.2.1 2), .int (nI (u127.1 1)), .int p11, .long (u127.2.2.1 0), .ref h5, .ref h6, .int (nI (1 + k15)), .int (nI (u127.1 2))]), (h1, aI Y 3640 f0), (h2, aZ Y 2 f1), (h3, aZ Y 80 f3), (h4, aB Y 1600 f4), (h5, aI Y 200 (u127.2.2.2.1 0)), (h6, aI Y 800 (u127.2.2.2.1 1))] rfl ?_
                      refine V_iload_n 180 B dX12_readPlayed_180 0 rfl ?_
                      refine V_if_eq_f 181 B 195 dX12_readPlayed_181 (by decide) (by decide +kernel) ?_
                      refine V_aload_n 184 B dX12_readPlayed_184 3 rfl ?_
                      refine V_cvi 185 B (st := []) (As := []) (fun sz => rX12_readEnd l D Y h0 h1 h2 h3 h4 h5 h6 p2 k5 (u127.1 0) (u127.2.1 0) (u127.2.1 1) (u127.2.1 2) (u127.1 1) p11 (u127.2.2.1 0) (1 + k15) (u127.1 2) f0 f1 f3 f4 (u127.2.2.2.1 0) (u127.2.2.2.1 1) ph HI (by omega) x130 (by omega) (by omega) (by first | assumption | exact Or.inl rfl | exact Or.inr (by omega)) sz) glV_RX12_304 ⟨rfl, rfl⟩ ⟨(Nat.le_of_ble_eq_true rfl), (Nat.le_of_ble_eq_true rfl)⟩ ⟨(Nat.le_of_ble_eq_true rfl), (Nat.le_of_ble_eq_true rfl)⟩ [0, 0, 0, 0, 0, 0, 0] rfl 13 0 rfl rfl rfl rfl (Nat.le_of_ble_eq_true rfl) rfl (fun _ _ _ => rfl) dX12_readPlayed_185 (fun j137 u138 w139 => ?_)
                      refine V_ws [(h0, oC 13 [.ref h1, .ref h2, .int p2, .ref h3, .ref h4, .int (nI k5), .int (nI (u138.1 0)), .int (u138.2.1 0), .int (u138.2.1 1), .int (u138.2.1 2), .int (nI (u138.1 1)), .int p11, .long (u138.2.2.1 0), .ref h5, .ref h6, .int (nI (1 + k15)), .int (nI (u127.1 2))]), (h1, aI Y 3640 f0), (h2, aZ Y 2 f1), (h3, aZ Y 80 f3), (h4, aB Y 1600 f4), (h5, aI Y 200 (u127.2.2.2.1 0)), (h6, aI Y 800 (u127.2.2.2.1 1))] rfl ?_
                      obtain ⟨x140, x141, x142, x143, x144⟩ := w139
                      rcases x140 with rfl | ⟨rfl, x145⟩
                      ·
                        refine V_if_eq_t 188 B 195 dX12_readPlayed_188 (by decide) (by decide +kernel) ?_
                        refine V_iconst 195 B (v := 0) dX12_readPlayed_195 (by decide +kernel) ?_
                        exact V_zret 196 B rfl dX12_readPlayed_196 (mkW [(u138.1 0), (u138.1 1), 1 + k15, (u127.1 2)] [(u138.2.1 0), (u138.2.1 1), (u138.2.1 2), p11] [(u138.2.2.1 0)] [(u127.2.2.2.1 0), (u127.2.2.2.1 1)] [] []) ⟨(Or.inl rfl), x130, (show k10 ≤ (u138.1 1) by omega), (show (u138.1 1) ≤ (u138.1 0) by omega), (show (u138.1 0) ≤ k5 by omega), (show ((u138.2.1 2) = 0 ∨ (u138.1 1) < (u138.1 0)) by first | assumption | exact Or.inr (by omega)), (show 1 + k15 ≤ 40 by omega), (show (u127.1 2) ≤ 4 * (1 + k15) by omega)⟩ rfl
                      ·
                        refine V_if_eq_f 188 B 195 dX12_readPlayed_188 (by decide) (by decide +kernel) ?_
                        refine V_iconst 191 B (v := 1) dX12_readPlayed_191 (by decide +kernel) ?_
                        refine V_goto 192 B 196 dX12_readPlayed_192 (by decide) ?_
                        exact V_zret 196 B rfl dX12_readPlayed_196 (mkW [(u138.1 0), (u138.1 1), 1 + k15, (u127.1 2)] [(u138.2.1 0), (u138.2.1 1), (u138.2.1 2), p11] [(u138.2.2.1 0)] [(u127.2.2.2.1 0), (u127.2.2.2.1 1)] [] []) ⟨(Or.inr ⟨rfl, (show k10 < (u138.1 1) by omega)⟩), x130, (show k10 ≤ (u138.1 1) by omega), (show (u138.1 1) ≤ (u138.1 0) by omega), (show (u138.1 0) ≤ k5 by omega), (show ((u138.2.1 2) = 0 ∨ (u138.1 1) < (u138.1 0)) by first | assumption | exact Or.inr (by omega)), (show 1 + k15 ≤ 40 by omega), (show (u127.1 2) ≤ 4 * (1 + k15) by omega)⟩ rfl
                  ·
                    refine V_tableOut 64 B 141 dX12_readPlayed_64 (sw_out_0_5 kk16 kk39 kk62 kk83 kk104 kk125) (by decide) ?_
                    refine V_aload_n 141 B dX12_readPlayed_141 3 rfl ?_
                    refine V_iconst 142 B (v := 1) dX12_readPlayed_142 (by decide +kernel) ?_
                    refine V_cvi 143 B (st := []) (As := [.int 1]) (fun sz => rX12_readNumberOf_1 l D Y h0 h1 h2 h3 h4 h5 h6 p2 k5 (u8.1 0) p7 p8 (u8.2.1 0) (u8.1 1) p11 (u8.2.2.1 0) k15 k16 f0 f1 f3 f4 (upd (upd f13 (5 * k15) j0) (3 + 5 * k15) (nI k16)) f14 ph HI (by omega) x15 (by omega) (by omega) (by first | assumption | exact Or.inl rfl | exact Or.inr (by omega)) (by omega) sz) glV_RX12_367 ⟨rfl, rfl⟩ ⟨(Nat.le_of_ble_eq_true rfl), (Nat.le_of_ble_eq_true rfl)⟩ ⟨(Nat.le_of_ble_eq_true rfl), (Nat.le_of_ble_eq_true rfl)⟩ [0, 0, 0, 0, 0, 0, 0] rfl 13 0 rfl rfl rfl rfl (Nat.le_of_ble_eq_true rfl) rfl (fun _ _ _ => rfl) dX12_readPlayed_143 (fun j146 u147 w148 => ?_)
                    refine V_ws [(h0, oC 13 [.ref h1, .ref h2, .int p2, .ref h3, .ref h4, .int (nI k5), .int (nI (u147.1 0)), .int (u147.2.1 0), .int (u147.2.1 1), .int (u147.2.1 2), .int (nI (u147.1 1)), .int (u147.2.1 3), .long (u147.2.2.1 0), .ref h5, .ref h6, .int (nI k15), .int (nI k16)]), (h1, aI Y 3640 f0), (h2, aZ Y 2 f1), (h3, aZ Y 80 f3), (h4, aB Y 1600 f4), (h5, aI Y 200 (u147.2.2.2.1 0)), (h6, aI Y 800 f14)] rfl ?_
                    obtain ⟨x149, x150, x151, x152, x153, x154⟩ := w148
                    rcases x149 with rfl | ⟨rfl, x155⟩
                    ·
                      refine V_if_eq_t 146 B 168 dX12_readPlayed_146 (by decide) (by decide +kernel) ?_
                      refine V_iconst 168 B (v := 0) dX12_readPlayed_168 (by decide +kernel) ?_
                      refine V_istore_n 169 B (lv2 := [(3, .int 0), (2, .int (nI (5 * k15))), (1, .int j0), (0, .ref h0)]) dX12_readPlayed_169 (by decide) rfl ?_
                      refine V_aload_n 170 B dX12_readPlayed_170 3 rfl ?_
                      refine V_dup 171 B dX12_readPlayed_171 rfl ?_
                      refine V_get 172 B gf_RX12_361 0 rfl rfl dX12_readPlayed_172 ?_
                      refine V_iconst 175 B (v := 1) dX12_readPlayed_175 (by decide +kernel) ?_
                      refine V_iadd 176 B (v := (nI (1 + k15))) dX12_readPlayed_176 (nI_addE (a := k15) (b := 1) (by omega)) ?_
                      refine V_put 177 B gp_RX12_361 0 rfl (Nat.le_of_ble_eq_true rfl) rfl rfl dX12_readPlayed_177 [(h0, oC 13 [.ref h1, .ref h2, .int p2, .ref h3, .ref h4, .int (nI k5), .int (nI (u147.1 0)), .int (u147.2.1 0), .int (u147.2.1 1), .int (u147.2.1 2), .int (nI (u147.1 1)), .int (u147.2.1 3), .long (u147.2.2.1 0), .ref h5, .ref h6, .int (nI (1 + k15)), .int (nI k16)]), (h1, aI Y 3640 f0), (h2, aZ Y 2 f1), (h3, aZ Y 80 f3), (h4, aB Y 1600 f4), (h5, aI Y 200 (u147.2.2.2.1 0)), (h6, aI Y 800 f14)] rfl ?_
                      refine V_iload_n 180 B dX12_readPlayed_180 0 rfl ?_
                      refine V_if_eq_t 181 B 195 dX12_readPlayed_181 (by decide) (by decide +kernel) ?_
                      refine V_iconst 195 B (v := 0) dX12_readPlayed_195 (by decide +kernel) ?_
                      exact V_zret 196 B rfl dX12_readPlayed_196 (mkW [(u147.1 0), (u147.1 1), 1 + k15, k16] [(u147.2.1 0), (u147.2.1 1), (u147.2.1 2), (u147.2.1 3)] [(u147.2.2.1 0)] [(u147.2.2.2.1 0), f14] [] []) ⟨(Or.inl rfl), x150, (show k10 ≤ (u147.1 1) by omega), (show (u147.1 1) ≤ (u147.1 0) by omega), (show (u147.1 0) ≤ k5 by omega), (show ((u147.2.1 2) = 0 ∨ (u147.1 1) < (u147.1 0)) by first | assumption | exact Or.inr (by omega)), (show 1 + k15 ≤ 40 by omega), (show k16 ≤ 4 * (1 + k15) by omega)⟩ rfl
                    ·
                      have e156 : (1 : Int32).toInt = 1 := by decide +kernel
                      refine V_if_eq_f 146 B 168 dX12_readPlayed_146 (by decide) (by decide +kernel) ?_
                      refine V_aload_n 149 B dX12_readPlayed_149 3 rfl ?_
                      refine V_iconst 150 B (v := 2) dX12_readPlayed_150 (by decide +kernel) ?_
                      refine V_cvi 151 B (st := []) (As := [.int 2]) (fun sz => rX12_readNumberOf_2 l D Y h0 h1 h2 h3 h4 h5 h6 p2 k5 (u147.1 0) (u147.2.1 0) (u147.2.1 1) (u147.2.1 2) (u147.1 1) (u147.2.1 3) (u147.2.2.1 0) k15 k16 f0 f1 f3 f4 (u147.2.2.2.1 0) f14 ph HI (by omega) x150 (by omega) (by omega) (by first | assumption | exact Or.inl rfl | exact Or.inr (by omega)) (by omega) sz) glV_RX12_367 ⟨rfl, rfl⟩ ⟨(Nat.le_of_ble_eq_true rfl), (Nat.le_of_ble_eq_true rfl)⟩ ⟨(Nat.le_of_ble_eq_true rfl), (Nat.le_of_ble_eq_true rfl)⟩ [0, 0, 0, 0, 0, 0, 0] rfl 13 0 rfl rfl rfl rfl (Nat.le_of_ble_eq_true rfl) rfl (fun _ _ _ => rfl) dX12_readPlayed_151 (fun j157 u158 w159 => ?_)
                      refine V_ws [(h0, oC 13 [.ref h1, .ref h2, .int p2, .ref h3, .ref h4, .int (nI k5), .int (nI (u158.1 0)), .int (u158.2.1 0), .int (u158.2.1 1), .int (u158.2.1 2), .int (nI (u158.1 1)), .int (u158.2.1 3), .long (u158.2.2.1 0), .ref h5, .ref h6, .int (nI k15), .int (nI k16)]), (h1, aI Y 3640 f0), (h2, aZ Y 2 f1), (h3, aZ Y 80 f3), (h4, aB Y 1600 f4), (h5, aI Y 200 (u158.2.2.2.1 0)), (h6, aI Y 800 f14)] rfl ?_
                      obtain ⟨x160, x161, x162, x163, x164, x165⟩ := w159
                      rcases x160 with rfl | ⟨rfl, x166⟩
                      ·
                        refine V_if_eq_t 154 B 168 dX12_readPlayed_154 (by decide) (by decide +kernel) ?_
                        refine V_iconst 168 B (v := 0) dX12_readPlayed_168 (by decide +kernel) ?_
                        refine V_istore_n 169 B (lv2 := [(3, .int 0), (2, .int (nI (5 * k15))), (1, .int j0), (0, .ref h0)]) dX12_readPlayed_169 (by decide) rfl ?_
                        refine V_aload_n 170 B dX12_readPlayed_170 3 rfl ?_
                        refine V_dup 171 B dX12_readPlayed_171 rfl ?_
                        refine V_get 172 B gf_RX12_361 0 rfl rfl dX12_readPlayed_172 ?_
                        refine V_iconst 175 B (v := 1) dX12_readPlayed_175 (by decide +kernel) ?_
                        refine V_iadd 176 B (v := (nI (1 + k15))) dX12_readPlayed_176 (nI_addE (a := k15) (b := 1) (by omega)) ?_
                        refine V_put 177 B gp_RX12_361 0 rfl (Nat.le_of_ble_eq_true rfl) rfl rfl dX12_readPlayed_177 [(h0, oC 13 [.ref h1, .ref h2, .int p2, .ref h3, .ref h4, .int (nI k5), .int (nI (u158.1 0)), .int (u158.2.1 0), .int (u158.2.1 1), .int (u158.2.1 2), .int (nI (u158.1 1)), .int (u158.2.1 3), .long (u158.2.2.1 0), .ref h5, .ref h6, .int (nI (1 + k15)), .int (nI k16)]), (h1, aI Y 3640 f0), (h2, aZ Y 2 f1), (h3, aZ Y 80 f3), (h4, aB Y 1600 f4), (h5, aI Y 200 (u158.2.2.2.1 0)), (h6, aI Y 800 f14)] rfl ?_
                        refine V_iload_n 180 B dX12_readPlayed_180 0 rfl ?_
                        refine V_if_eq_t 181 B 195 dX12_readPlayed_181 (by decide) (by decide +kernel) ?_
                        refine V_iconst 195 B (v := 0) dX12_readPlayed_195 (by decide +kernel) ?_
                        exact V_zret 196 B rfl dX12_readPlayed_196 (mkW [(u158.1 0), (u158.1 1), 1 + k15, k16] [(u158.2.1 0), (u158.2.1 1), (u158.2.1 2), (u158.2.1 3)] [(u158.2.2.1 0)] [(u158.2.2.2.1 0), f14] [] []) ⟨(Or.inl rfl), x161, (show k10 ≤ (u158.1 1) by omega), (show (u158.1 1) ≤ (u158.1 0) by omega), (show (u158.1 0) ≤ k5 by omega), (show ((u158.2.1 2) = 0 ∨ (u158.1 1) < (u158.1 0)) by first | assumption | exact Or.inr (by omega)), (show 1 + k15 ≤ 40 by omega), (show k16 ≤ 4 * (1 + k15) by omega)⟩ rfl
                      ·
                        have e167 : (2 : Int32).toInt = 2 := by decide +kernel
                        refine V_if_eq_f 154 B 168 dX12_readPlayed_154 (by decide) (by decide +kernel) ?_
                        refine V_aload_n 157 B dX12_readPlayed_157 3 rfl ?_
                        refine V_cvi 158 B (st := []) (As := []) (fun sz => rX12_readStrokes l D Y h0 h1 h2 h3 h4 h5 h6 p2 k5 (u158.1 0) (u158.2.1 0) (u158.2.1 1) (u158.2.1 2) (u158.1 1) (u158.2.1 3) (u158.2.2.1 0) k15 k16 f0 f1 f3 f4 (u158.2.2.2.1 0) f14 ph HI (by omega) x161 (by omega) (by omega) (by first | assumption | exact Or.inl rfl | exact Or.inr (by omega)) (by omega) (by omega) sz) glV_RX12_370 ⟨rfl, rfl⟩ ⟨(Nat.le_of_ble_eq_true rfl), (Nat.le_of_ble_eq_true rfl)⟩ ⟨(Nat.le_of_ble_eq_true rfl), (Nat.le_of_ble_eq_true rfl)⟩ [0, 0, 0, 0, 0, 0, 0] rfl 13 0 rfl rfl rfl rfl (Nat.le_of_ble_eq_true rfl) rfl (fun _ _ _ => rfl) dX12_readPlayed_158 (fun j168 u169 w170 => ?_)
                        refine V_ws [(h0, oC 13 [.ref h1, .ref h2, .int p2, .ref h3, .ref h4, .int (nI k5), .int (nI (u169.1 0)), .int (u169.2.1 0), .int (u169.2.1 1), .int (u169.2.1 2), .int (nI (u169.1 1)), .int (u158.2.1 3), .long (u169.2.2.1 0), .ref h5, .ref h6, .int (nI k15), .int (nI (u169.1 2))]), (h1, aI Y 3640 f0), (h2, aZ Y 2 f1), (h3, aZ Y 80 f3), (h4, aB Y 1600 f4), (h5, aI Y 200 (u169.2.2.2.1 0)), (h6, aI Y 800 (u169.2.2.2.1 1))] rfl ?_
                        obtain ⟨x171, x172, x173, x174, x175, x176, x177⟩ := w170
                        rcases x171 with rfl | ⟨rfl, x178⟩
                        ·
                          refine V_if_eq_t 161 B 168 dX12_readPlayed_161 (by decide) (by decide +kernel) ?_
                          refine V_iconst 168 B (v := 0) dX12_readPlayed_168 (by decide +kernel) ?_
                          refine V_istore_n 169 B (lv2 := [(3, .int 0), (2, .int (nI (5 * k15))), (1, .int j0), (0, .ref h0)]) dX12_readPlayed_169 (by decide) rfl ?_
                          refine V_aload_n 170 B dX12_readPlayed_170 3 rfl ?_
                          refine V_dup 171 B dX12_readPlayed_171 rfl ?_
                          refine V_get 172 B gf_RX12_361 0 rfl rfl dX12_readPlayed_172 ?_
                          refine V_iconst 175 B (v := 1) dX12_readPlayed_175 (by decide +kernel) ?_
                          refine V_iadd 176 B (v := (nI (1 + k15))) dX12_readPlayed_176 (nI_addE (a := k15) (b := 1) (by omega)) ?_
                          refine V_put 177 B gp_RX12_361 0 rfl (Nat.le_of_ble_eq_true rfl) rfl rfl dX12_readPlayed_177 [(h0, oC 13 [.ref h1, .ref h2, .int p2, .ref h3, .ref h4, .int (nI k5), .int (nI (u169.1 0)), .int (u169.2.1 0), .int (u169.2.1 1), .int (u169.2.1 2), .int (nI (u169.1 1)), .int (u158.2.1 3), .long (u169.2.2.1 0), .ref h5, .ref h6, .int (nI (1 + k15)), .int (nI (u169.1 2))]), (h1, aI Y 3640 f0), (h2, aZ Y 2 f1), (h3, aZ Y 80 f3), (h4, aB Y 1600 f4), (h5, aI Y 200 (u169.2.2.2.1 0)), (h6, aI Y 800 (u169.2.2.2.1 1))] rfl ?_
                          refine V_iload_n 180 B dX12_readPlayed_180 0 rfl ?_
                          refine V_if_eq_t 181 B 195 dX12_readPlayed_181 (by decide) (by decide +kernel) ?_
                          refine V_iconst 195 B (v := 0) dX12_readPlayed_195 (by decide +kernel) ?_
                          exact V_zret 196 B rfl dX12_readPlayed_196 (mkW [(u169.1 0), (u169.1 1), 1 + k15, (u169.1 2)] [(u169.2.1 0), (u169.2.1 1), (u169.2.1 2), (u158.2.1 3)] [(u169.2.2.1 0)] [(u169.2.2.2.1 0), (u169.2.2.2.1 1)] [] []) ⟨(Or.inl rfl), x172, (show k10 ≤ (u169.1 1) by omega), (show (u169.1 1) ≤ (u169.1 0) by omega), (show (u169.1 0) ≤ k5 by omega), (show ((u169.2.1 2) = 0 ∨ (u169.1 1) < (u169.1 0)) by first | assumption | exact Or.inr (by omega)), (show 1 + k15 ≤ 40 by omega), (show (u169.1 2) ≤ 4 * (1 + k15) by omega)⟩ rfl
                        ·
                          refine V_if_eq_f 161 B 168 dX12_readPlayed_161 (by decide) (by decide +kernel) ?_
                          refine V_iconst 164 B (v := 1) dX12_readPlayed_164 (by decide +kernel) ?_
                          refine V_goto 165 B 169 dX12_readPlayed_165 (by decide) ?_
                          refine V_istore_n 169 B (lv2 := [(3, .int 1), (2, .int (nI (5 * k15))), (1, .int j0), (0, .ref h0)]) dX12_readPlayed_169 (by decide) rfl ?_
                          refine V_aload_n 170 B dX12_readPlayed_170 3 rfl ?_
                          refine V_dup 171 B dX12_readPlayed_171 rfl ?_
                          refine V_get 172 B gf_RX12_361 0 rfl rfl dX12_readPlayed_172 ?_
                          refine V_iconst 175 B (v := 1) dX12_readPlayed_175 (by decide +kernel) ?_
                          refine V_iadd 176 B (v := (nI (1 + k15))) dX12_readPlayed_176 (nI_addE (a := k15) (b := 1) (by omega)) ?_
                          refine V_put 177 B gp_RX12_361 0 rfl (Nat.le_of_ble_eq_true rfl) rfl rfl dX12_readPlayed_177 [(h0, oC 13 [.ref h1, .ref h2, .int p2, .ref h3, .ref h4, .int (nI k5), .int (nI (u169.1 0)), .int (u169.2.1 0), .int (u169.2.1 1), .int (u169.2.1 2), .int (nI (u169.1 1)), .int (u158.2.1 3), .long (u169.2.2.1 0), .ref h5, .ref h6, .int (nI (1 + k15)), .int (nI (u169.1 2))]), (h1, aI Y 3640 f0), (h2, aZ Y 2 f1), (h3, aZ Y 80 f3), (h4, aB Y 1600 f4), (h5, aI Y 200 (u169.2.2.2.1 0)), (h6, aI Y 800 (u169.2.2.2.1 1))] rfl ?_
                          refine V_iload_n 180 B dX12_readPlayed_180 0 rfl ?_
                          refine V_if_eq_f 181 B 195 dX12_readPlayed_181 (by decide) (by decide +kernel) ?_
                          refine V_aload_n 184 B dX12_readPlayed_184 3 rfl ?_
                          refine V_cvi 185 B (st := []) (As := []) (fun sz => rX12_readEnd l D Y h0 h1 h2 h3 h4 h5 h6 p2 k5 (u169.1 0) (u169.2.1 0) (u169.2.1 1) (u169.2.1 2) (u169.1 1) (u158.2.1 3) (u169.2.2.1 0) (1 + k15) (u169.1 2) f0 f1 f3 f4 (u169.2.2.2.1 0) (u169.2.2.2.1 1) ph HI (by omega) x172 (by omega) (by omega) (by first | assumption | exact Or.inl rfl | exact Or.inr (by omega)) sz) glV_RX12_304 ⟨rfl, rfl⟩ ⟨(Nat.le_of_ble_eq_true rfl), (Nat.le_of_ble_eq_true rfl)⟩ ⟨(Nat.le_of_ble_eq_true rfl), (Nat.le_of_ble_eq_true rfl)⟩ [0, 0, 0, 0, 0, 0, 0] rfl 13 0 rfl rfl rfl rfl (Nat.le_of_ble_eq_true rfl) rfl (fun _ _ _ => rfl) dX12_readPlayed_185 (fun j179 u180 w181 => ?_)
                          refine V_ws [(h0, oC 13 [.ref h1, .ref h2, .int p2, .ref h3, .ref h4, .int (nI k5), .int (nI (u180.1 0)), .int (u180.2.1 0), .int (u180.2.1 1), .int (u180.2.1 2), .int (nI (u180.1 1)), .int (u158.2.1 3), .long (u180.2.2.1 0), .ref h5, .ref h6, .int (nI (1 + k15)), .int (nI (u169.1 2))]), (h1, aI Y 3640 f0), (h2, aZ Y 2 f1), (h3, aZ Y 80 f3), (h4, aB Y 1600 f4), (h5, aI Y 200 (u169.2.2.2.1 0)), (h6, aI Y 800 (u169.2.2.2.1 1))] rfl ?_
                          obtain ⟨x182, x183, x184, x185, x186⟩ := w181
                          rcases x182 with rfl | ⟨rfl, x187⟩
                          ·
                            refine V_if_eq_t 188 B 195 dX12_readPlayed_188 (by decide) (by decide +kernel) ?_
                            refine V_iconst 195 B (v := 0) dX12_readPlayed_195 (by decide +kernel) ?_
                            exact V_zret 196 B rfl dX12_readPlayed_196 (mkW [(u180.1 0), (u180.1 1), 1 + k15, (u169.1 2)] [(u180.2.1 0), (u180.2.1 1), (u180.2.1 2), (u158.2.1 3)] [(u180.2.2.1 0)] [(u169.2.2.2.1 0), (u169.2.2.2.1 1)] [] []) ⟨(Or.inl rfl), x172, (show k10 ≤ (u180.1 1) by omega), (show (u180.1 1) ≤ (u180.1 0) by omega), (show (u180.1 0) ≤ k5 by omega), (show ((u180.2.1 2) = 0 ∨ (u180.1 1) < (u180.1 0)) by first | assumption | exact Or.inr (by omega)), (show 1 + k15 ≤ 40 by omega), (show (u169.1 2) ≤ 4 * (1 + k15) by omega)⟩ rfl
                          ·
                            refine V_if_eq_f 188 B 195 dX12_readPlayed_188 (by decide) (by decide +kernel) ?_
                            refine V_iconst 191 B (v := 1) dX12_readPlayed_191 (by decide +kernel) ?_
                            refine V_goto 192 B 196 dX12_readPlayed_192 (by decide) ?_
                            exact V_zret 196 B rfl dX12_readPlayed_196 (mkW [(u180.1 0), (u180.1 1), 1 + k15, (u169.1 2)] [(u180.2.1 0), (u180.2.1 1), (u180.2.1 2), (u158.2.1 3)] [(u180.2.2.1 0)] [(u169.2.2.2.1 0), (u169.2.2.2.1 1)] [] []) ⟨(Or.inr ⟨rfl, (show k10 < (u180.1 1) by omega)⟩), x172, (show k10 ≤ (u180.1 1) by omega), (show (u180.1 1) ≤ (u180.1 0) by omega), (show (u180.1 0) ≤ k5 by omega), (show ((u180.2.1 2) = 0 ∨ (u180.1 1) < (u180.1 0)) by first | assumption | exact Or.inr (by omega)), (show 1 + k15 ≤ 40 by omega), (show (u169.1 2) ≤ 4 * (1 + k15) by omega)⟩ rfl
      ·
        have x188 := n_eq (a := k15) (b := 40) kk5 (by omega) (by omega)
        refine V_aload_n 25 B dX12_readPlayed_25 1 rfl ?_
        refine V_iconst 26 B (v := 3) dX12_readPlayed_26 (by decide +kernel) ?_
        refine V_cvi 27 B (st := []) (As := [.int 3]) (fun sz => rX12_fail l D Y h0 h1 h2 h3 h4 h5 h6 p2 k5 k6 p7 p8 p9 k10 p11 q12 k15 k16 f0 f1 f3 f4 f13 f14 ph HI (by omega) HP 3 sz) glV_RX12_291 ⟨rfl, rfl⟩ ⟨(Nat.le_of_ble_eq_true rfl), (Nat.le_of_ble_eq_true rfl)⟩ ⟨(Nat.le_of_ble_eq_true rfl), (Nat.le_of_ble_eq_true rfl)⟩ [0, 0, 0, 0, 0, 0, 0] rfl 13 0 rfl rfl rfl rfl (Nat.le_of_ble_eq_true rfl) rfl (fun _ _ _ => rfl) dX12_readPlayed_27 (fun j189 u190 w191 => ?_)
        refine V_ws [(h0, oC 13 [.ref h1, .ref h2, .int p2, .ref h3, .ref h4, .int (nI k5), .int (nI k6), .int (u190.2.1 0), .int (u190.2.1 1), .int p9, .int (nI k10), .int p11, .long q12, .ref h5, .ref h6, .int (nI k15), .int (nI k16)]), (h1, aI Y 3640 f0), (h2, aZ Y 2 f1), (h3, aZ Y 80 f3), (h4, aB Y 1600 f4), (h5, aI Y 200 f13), (h6, aI Y 800 f14)] rfl ?_
        have x192 := w191
        clear w191
        obtain rfl := x192
        exact V_zret 30 B rfl dX12_readPlayed_30 (mkW [k6, k10, k15, k16] [(u190.2.1 0), (u190.2.1 1), p9, p11] [q12] [f13, f14] [] []) ⟨(Or.inl rfl), HP, (show k10 ≤ k10 by omega), (show k10 ≤ k6 by omega), (show k6 ≤ k5 by omega), (show (p9 = 0 ∨ k10 < k6) by first | assumption | exact Or.inr (by omega)), (show k15 ≤ 40 by omega), (show k16 ≤ 4 * k15 by omega)⟩ rfl
    ·
      obtain rfl : j0 = (-1) := kk3
      have e194 : ((-1) : Int32).toInt = (-1) := by decide +kernel
      refine V_aload_n 10 B dX12_readPlayed_10 1 rfl ?_
      refine V_iconst 11 B (v := 1) dX12_readPlayed_11 (by decide +kernel) ?_
      refine V_cvi 12 B (st := []) (As := [.int 1]) (fun sz => rX12_fail l D Y h0 h1 h2 h3 h4 h5 h6 p2 k5 k6 p7 p8 p9 k10 p11 q12 k15 k16 f0 f1 f3 f4 f13 f14 ph HI (by omega) HP 1 sz) glV_RX12_291 ⟨rfl, rfl⟩ ⟨(Nat.le_of_ble_eq_true rfl), (Nat.le_of_ble_eq_true rfl)⟩ ⟨(Nat.le_of_ble_eq_true rfl), (Nat.le_of_ble_eq_true rfl)⟩ [0, 0, 0, 0, 0, 0, 0] rfl 13 0 rfl rfl rfl rfl (Nat.le_of_ble_eq_true rfl) rfl (fun _ _ _ => rfl) dX12_readPlayed_12 (fun j195 u196 w197 => ?_)
      refine V_ws [(h0, oC 13 [.ref h1, .ref h2, .int p2, .ref h3, .ref h4, .int (nI k5), .int (nI k6), .int (u196.2.1 0), .int (u196.2.1 1), .int p9, .int (nI k10), .int p11, .long q12, .ref h5, .ref h6, .int (nI k15), .int (nI k16)]), (h1, aI Y 3640 f0), (h2, aZ Y 2 f1), (h3, aZ Y 80 f3), (h4, aB Y 1600 f4), (h5, aI Y 200 f13), (h6, aI Y 800 f14)] rfl ?_
      have x198 := w197
      clear w197
      obtain rfl := x198
      exact V_zret 15 B rfl dX12_readPlayed_15 (mkW [k6, k10, k15, k16] [(u196.2.1 0), (u196.2.1 1), p9, p11] [q12] [f13, f14] [] []) ⟨(Or.inl rfl), HP, (show k10 ≤ k10 by omega), (show k10 ≤ k6 by omega), (show k6 ≤ k5 by omega), (show (p9 = 0 ∨ k10 < k6) by first | assumption | exact Or.inr (by omega)), (show k15 ≤ 40 by omega), (show k16 ≤ 4 * k15 by omega)⟩ rfl)
