theorem dX12_readSequence_0 : decode cX12_readSequence 0 = .ok (.aload_n 0, 1) := by decide +kernel
theorem dX12_readSequence_1 : decode cX12_readSequence 1 = .ok (.getfield 9, 3) := by decide +kernel
theorem dX12_readSequence_4 : decode cX12_readSequence 4 = .ok (.iload_n 1, 1) := by decide +kernel
theorem dX12_readSequence_5 : decode cX12_readSequence 5 = .ok (.iconst 0, 1) := by decide +kernel
theorem dX12_readSequence_6 : decode cX12_readSequence 6 = .ok (.iastore, 1) := by decide +kernel
theorem dX12_readSequence_7 : decode cX12_readSequence 7 = .ok (.aload_n 0, 1) := by decide +kernel
theorem dX12_readSequence_8 : decode cX12_readSequence 8 = .ok (.getfield 9, 3) := by decide +kernel
theorem dX12_readSequence_11 : decode cX12_readSequence 11 = .ok (.iload_n 1, 1) := by decide +kernel
theorem dX12_readSequence_12 : decode cX12_readSequence 12 = .ok (.iaload, 1) := by decide +kernel
theorem dX12_readSequence_13 : decode cX12_readSequence 13 = .ok (.ifCond .eq 11, 3) := by decide +kernel
theorem dX12_readSequence_24 : decode cX12_readSequence 24 = .ok (.aload_n 0, 1) := by decide +kernel
theorem dX12_readSequence_25 : decode cX12_readSequence 25 = .ok (.invokevirtual 297, 3) := by decide +kernel
theorem glV_RX12_297 : GLV RX12 297 yX12_strokeHere RX12 cX12_strokeHere 4 (some .int) 0 := ⟨⟨(mT10 21 rfl rfl), (mT10 23 rfl rfl), (mTs 84 rfl rfl), (mT1 13 rfl rfl), (mT10 24 rfl rfl)⟩, by decide +kernel⟩
theorem dX12_readSequence_28 : decode cX12_readSequence 28 = .ok (.istore_n 2, 1) := by decide +kernel
theorem dX12_readSequence_29 : decode cX12_readSequence 29 = .ok (.iload_n 2, 1) := by decide +kernel
theorem dX12_readSequence_30 : decode cX12_readSequence 30 = .ok (.iconst (-1), 1) := by decide +kernel
theorem dX12_readSequence_31 : decode cX12_readSequence 31 = .ok (.if_icmp .ne 9, 3) := by decide +kernel
theorem dX12_readSequence_40 : decode cX12_readSequence 40 = .ok (.aload_n 0, 1) := by decide +kernel
theorem dX12_readSequence_41 : decode cX12_readSequence 41 = .ok (.getfield 9, 3) := by decide +kernel
theorem dX12_readSequence_44 : decode cX12_readSequence 44 = .ok (.iload_n 1, 1) := by decide +kernel
theorem dX12_readSequence_45 : decode cX12_readSequence 45 = .ok (.iaload, 1) := by decide +kernel
theorem dX12_readSequence_46 : decode cX12_readSequence 46 = .ok (.iconst 4, 1) := by decide +kernel
theorem dX12_readSequence_47 : decode cX12_readSequence 47 = .ok (.if_icmp .ne 9, 3) := by decide +kernel
theorem dX12_readSequence_56 : decode cX12_readSequence 56 = .ok (.aload_n 0, 1) := by decide +kernel
theorem dX12_readSequence_57 : decode cX12_readSequence 57 = .ok (.getfield 9, 3) := by decide +kernel
theorem dX12_readSequence_60 : decode cX12_readSequence 60 = .ok (.iload_n 1, 1) := by decide +kernel
theorem dX12_readSequence_61 : decode cX12_readSequence 61 = .ok (.dup2, 1) := by decide +kernel
theorem dX12_readSequence_62 : decode cX12_readSequence 62 = .ok (.iaload, 1) := by decide +kernel
theorem dX12_readSequence_63 : decode cX12_readSequence 63 = .ok (.iconst 1, 1) := by decide +kernel
theorem dX12_readSequence_64 : decode cX12_readSequence 64 = .ok (.iadd, 1) := by decide +kernel
theorem dX12_readSequence_65 : decode cX12_readSequence 65 = .ok (.iastore, 1) := by decide +kernel
theorem dX12_readSequence_66 : decode cX12_readSequence 66 = .ok (.aload_n 0, 1) := by decide +kernel
theorem dX12_readSequence_67 : decode cX12_readSequence 67 = .ok (.getfield 9, 3) := by decide +kernel
theorem dX12_readSequence_70 : decode cX12_readSequence 70 = .ok (.iload_n 1, 1) := by decide +kernel
theorem dX12_readSequence_71 : decode cX12_readSequence 71 = .ok (.aload_n 0, 1) := by decide +kernel
theorem dX12_readSequence_72 : decode cX12_readSequence 72 = .ok (.getfield 9, 3) := by decide +kernel
theorem dX12_readSequence_75 : decode cX12_readSequence 75 = .ok (.iload_n 1, 1) := by decide +kernel
theorem dX12_readSequence_76 : decode cX12_readSequence 76 = .ok (.iaload, 1) := by decide +kernel
theorem dX12_readSequence_77 : decode cX12_readSequence 77 = .ok (.iadd, 1) := by decide +kernel
theorem dX12_readSequence_78 : decode cX12_readSequence 78 = .ok (.iload_n 2, 1) := by decide +kernel
theorem dX12_readSequence_79 : decode cX12_readSequence 79 = .ok (.iastore, 1) := by decide +kernel
theorem dX12_readSequence_80 : decode cX12_readSequence 80 = .ok (.aload_n 0, 1) := by decide +kernel
theorem dX12_readSequence_81 : decode cX12_readSequence 81 = .ok (.invokevirtual 288, 3) := by decide +kernel
theorem dX12_readSequence_84 : decode cX12_readSequence 84 = .ok (.goto (-77), 3) := by decide +kernel
theorem dX12_readSequence_50 : decode cX12_readSequence 50 = .ok (.aload_n 0, 1) := by decide +kernel
theorem dX12_readSequence_51 : decode cX12_readSequence 51 = .ok (.iconst 3, 1) := by decide +kernel
theorem dX12_readSequence_52 : decode cX12_readSequence 52 = .ok (.invokevirtual 291, 3) := by decide +kernel
theorem dX12_readSequence_55 : decode cX12_readSequence 55 = .ok (.ireturn, 1) := by decide +kernel
theorem dX12_readSequence_34 : decode cX12_readSequence 34 = .ok (.aload_n 0, 1) := by decide +kernel
theorem dX12_readSequence_35 : decode cX12_readSequence 35 = .ok (.iconst 1, 1) := by decide +kernel
theorem dX12_readSequence_36 : decode cX12_readSequence 36 = .ok (.invokevirtual 291, 3) := by decide +kernel
theorem dX12_readSequence_39 : decode cX12_readSequence 39 = .ok (.ireturn, 1) := by decide +kernel
theorem dX12_readSequence_16 : decode cX12_readSequence 16 = .ok (.aload_n 0, 1) := by decide +kernel
theorem dX12_readSequence_17 : decode cX12_readSequence 17 = .ok (.getfield 283, 3) := by decide +kernel
theorem dX12_readSequence_20 : decode cX12_readSequence 20 = .ok (.iconst 1, 1) := by decide +kernel
theorem dX12_readSequence_21 : decode cX12_readSequence 21 = .ok (.if_icmp .ne 66, 3) := by decide +kernel
theorem dX12_readSequence_87 : decode cX12_readSequence 87 = .ok (.iconst 1, 1) := by decide +kernel
theorem dX12_readSequence_88 : decode cX12_readSequence 88 = .ok (.ireturn, 1) := by decide +kernel
set_option maxRecDepth 100000 in
set_option maxHeartbeats 4000000 in
theorem rX12_readSequence (l : Launch) (D : va_G) (Y : Nat → ClassId) (h0 : Nat) (h1 : Nat) (h2 : Nat) (h3 : Nat) (h4 : Nat) (h5 : Nat) (h6 : Nat) (p2 : Int32) (k5 : Nat) (k6 : Nat) (p7 : Int32) (p8 : Int32) (p9 : Int32) (k10 : Nat) (p11 : Int32) (q12 : Int64) (k15 : Nat) (k16 : Nat) (f0 : Nat → Int32) (f1 : Nat → Int32) (f3 : Nat → Int32) (f4 : Nat → Int32) (f13 : Nat → Int32) (f14 : Nat → Int32) (ph : Nat → Int32) (HI : INV ph f0) (HL : k5 ≤ 1600) (HP : PLV f13) (s0 : Nat) (hs0 : SQ s0) (hx0 : k10 ≤ k6) (hx1 : k6 ≤ k5) (hx2 : (p9 = 0 ∨ k10 < k6)) (sz : Nat) : Met l yX12_readSequence (WSm yX12_readSequence cX12_readSequence 3 (some .boolean)) (mkR 4 0 0 86) (PreC D Y [.ref h0, .int (nI s0)] [(h0, oC 13 [.ref h1, .ref h2, .int p2, .ref h3, .ref h4, .int (nI k5), .int (nI k6), .int p7, .int p8, .int p9, .int (nI k10), .int p11, .long q12, .ref h5, .ref h6, .int (nI k15), .int (nI k16)]), (h1, aI Y 3640 f0), (h2, aZ Y 2 f1), (h3, aZ Y 80 f3), (h4, aB Y 1600 f4), (h5, aI Y 200 f13), (h6, aI Y 800 f14)] sz) (QI D (fun (r : Int32) (u : WU) => (r = 0 ∨ (r = 1 ∧ k10 < (u.1 1))) ∧ INV ph (u.2.2.2.1 0) ∧ k10 ≤ (u.1 1) ∧ (u.1 1) ≤ (u.1 0) ∧ (u.1 0) ≤ k5 ∧ ((u.2.1 2) = 0 ∨ (u.1 1) < (u.1 0)) ∧ (∀ k, (k < s0 ∨ s0 + 5 ≤ k) → (u.2.2.2.1 0) k = f0 k)) (fun (u : WU) => [(h0, oC 13 [.ref h1, .ref h2, .int p2, .ref h3, .ref h4, .int (nI k5), .int (nI (u.1 0)), .int (u.2.1 0), .int (u.2.1 1), .int (u.2.1 2), .int (nI (u.1 1)), .int p11, .long (u.2.2.1 0), .ref h5, .ref h6, .int (nI k15), .int (nI k16)]), (h1, aI Y 3640 (u.2.2.2.1 0)), (h2, aZ Y 2 f1), (h3, aZ Y 80 f3), (h4, aB Y 1600 f4), (h5, aI Y 200 f13), (h6, aI Y 800 f14)]) (va_A [(h0, oC 13 [.ref h1, .ref h2, .int p2, .ref h3, .ref h4, .int (nI k5), .int (nI k6), .int p7, .int p8, .int p9, .int (nI k10), .int p11, .long q12, .ref h5, .ref h6, .int (nI k15), .int (nI k16)]), (h1, aI Y 3640 f0), (h2, aZ Y 2 f1), (h3, aZ Y 80 f3), (h4, aB Y 1600 f4), (h5, aI Y 200 f13), (h6, aI Y 800 f14)] sz)) 0 0 (va_A [(h0, oC 13 [.ref h1, .ref h2, .int p2, .ref h3, .ref h4, .int (nI k5), .int (nI k6), .int p7, .int p8, .int p9, .int (nI k10), .int p11, .long q12, .ref h5, .ref h6, .int (nI k15), .int (nI k16)]), (h1, aI Y 3640 f0), (h2, aZ Y 2 f1), (h3, aZ Y 80 f3), (h4, aB Y 1600 f4), (h5, aI Y 200 f13), (h6, aI Y 800 f14)] sz) :=
  met_of  (by decide +kernel) (Nat.le_of_ble_eq_true rfl) (fun p e s m args below meth c B hin hsz => by
    have B : VB p s m args meth c D Y (va_A [(h0, oC 13 [.ref h1, .ref h2, .int p2, .ref h3, .ref h4, .int (nI k5), .int (nI k6), .int p7, .int p8, .int p9, .int (nI k10), .int p11, .long q12, .ref h5, .ref h6, .int (nI k15), .int (nI k16)]), (h1, aI Y 3640 f0), (h2, aZ Y 2 f1), (h3, aZ Y 80 f3), (h4, aB Y 1600 f4), (h5, aI Y 200 f13), (h6, aI Y 800 f14)] sz) cX12_readSequence 3 RX12 (some .boolean) := B
    have hq_s0 := hs0.1
    refine V_aload_n 0 B dX12_readSequence_0 0 rfl ?_
    refine V_get 1 B gf_RX12_9 0 rfl rfl dX12_readSequence_1 ?_
    refine V_iload_n 4 B dX12_readSequence_4 1 rfl ?_
    refine V_iconst 5 B (v := 0) dX12_readSequence_5 (by decide +kernel) ?_
    have hv0 : INV ph (upd f0 s0 0) := INV_nat (v := 0) HI hs0.2.1 (by omega) (by decide)
    refine V_iast 6 B 1 rfl (vp_in_nI (n := s0) (by omega) (by decide)) dX12_readSequence_6 [(h0, oC 13 [.ref h1, .ref h2, .int p2, .ref h3, .ref h4, .int (nI k5), .int (nI k6), .int p7, .int p8, .int p9, .int (nI k10), .int p11, .long q12, .ref h5, .ref h6, .int (nI k15), .int (nI k16)]), (h1, aI Y 3640 (upd f0 s0 0)), (h2, aZ Y 2 f1), (h3, aZ Y 80 f3), (h4, aB Y 1600 f4), (h5, aI Y 200 f13), (h6, aI Y 800 f14)] (by rw [nI_clamp (show s0 < 2 ^ 31 by omega)]; rfl) ?_
    refine V_wloop (α := WU) (fun a => 100 - gN (a.2.2.2.1 0) s0) (fun a => INV ph (a.2.2.2.1 0) ∧ (k10 ≤ (a.1 1) ∧ (a.1 1) ≤ (a.1 0) ∧ (a.1 0) ≤ k5 ∧ ((a.2.1 2) = 0 ∨ (a.1 1) < (a.1 0))) ∧ (gN (a.2.2.2.1 0) s0 = 0 ∨ k10 < (a.1 1)) ∧ (∀ k, (k < s0 ∨ s0 + 5 ≤ k) → (a.2.2.2.1 0) k = f0 k)) (fun a => [(0, .ref h0), (1, .int (nI s0))]) (fun a => [(h0, oC 13 [.ref h1, .ref h2, .int p2, .ref h3, .ref h4, .int (nI k5), .int (nI (a.1 0)), .int (a.2.1 0), .int (a.2.1 1), .int (a.2.1 2), .int (nI (a.1 1)), .int p11, .long (a.2.2.1 0), .ref h5, .ref h6, .int (nI k15), .int (nI k16)]), (h1, aI Y 3640 (a.2.2.2.1 0)), (h2, aZ Y 2 f1), (h3, aZ Y 80 f3), (h4, aB Y 1600 f4), (h5, aI Y 200 f13), (h6, aI Y 800 f14)]) (mkW [k6, k10] [p7, p8, p9] [q12] [(upd f0 s0 0)] [] []) ⟨hv0, ⟨(show k10 ≤ k10 by omega), (show k10 ≤ k6 by omega), (show k6 ≤ k5 by omega), (show (p9 = 0 ∨ k10 < k6) by first | assumption | exact Or.inr (by omega))⟩, (Or.inl gN_z), (fr_upd (fun _ _ => rfl) (by omega) (by omega))⟩ rfl rfl (fun a1 hI3 IH2 => ?_)
    refine V_lv [(0, .ref h0), (1, .int (nI s0))] [0, 1] rfl ?_
    refine V_ws [(h0, oC 13 [.ref h1, .ref h2, .int p2, .ref h3, .ref h4, .int (nI k5), .int (nI (a1.1 0)), .int (a1.2.1 0), .int (a1.2.1 1), .int (a1.2.1 2), .int (nI (a1.1 1)), .int p11, .long (a1.2.2.1 0), .ref h5, .ref h6, .int (nI k15), .int (nI k16)]), (h1, aI Y 3640 (a1.2.2.2.1 0)), (h2, aZ Y 2 f1), (h3, aZ Y 80 f3), (h4, aB Y 1600 f4), (h5, aI Y 200 f13), (h6, aI Y 800 f14)] rfl ?_
    obtain ⟨x4, x5, x6, x7⟩ := hI3
    obtain ⟨x8, x9, x10, x11⟩ := x5
    refine V_aload_n 7 B dX12_readSequence_7 0 rfl ?_
    refine V_get 8 B gf_RX12_9 0 rfl rfl dX12_readSequence_8 ?_
    refine V_iload_n 11 B dX12_readSequence_11 1 rfl ?_
    have x12 : (gN (a1.2.2.2.1 0) s0) ≤ 4 := gN_le x4 (by omega) hs0.2.1
    refine V_iald 12 B (v := (nI ((gN (a1.2.2.2.1 0) s0)))) 1 rfl (vp_in_nI (n := s0) (by omega) (by decide)) dX12_readSequence_12 (by rw [nI_clamp (show s0 < 2 ^ 31 by omega)]; exact gN_eq x4 (by omega) hs0.2.1) ?_
    refine V_if_eq 13 B 24 dX12_readSequence_13 (by decide) (fun kk13 => ?_) (fun kk13 => ?_)
    ·
      have x14 := n_eq (a := (gN (a1.2.2.2.1 0) s0)) (b := 0) kk13 (by omega) (by omega)
      refine V_aload_n 24 B dX12_readSequence_24 0 rfl ?_
      refine V_cvi 25 B (st := []) (As := []) (fun sz => rX12_strokeHere l D Y h0 h1 h2 h3 h4 h5 h6 p2 k5 (a1.1 0) (a1.2.1 0) (a1.2.1 1) (a1.2.1 2) (a1.1 1) p11 (a1.2.2.1 0) k15 k16 (a1.2.2.2.1 0) f1 f3 f4 f13 f14 ph x4 (by omega) HP (by omega) (by omega) (by first | assumption | exact Or.inl rfl | exact Or.inr (by omega)) sz) glV_RX12_297 ⟨rfl, rfl⟩ ⟨(Nat.le_of_ble_eq_true rfl), (Nat.le_of_ble_eq_true rfl)⟩ ⟨(Nat.le_of_ble_eq_true rfl), (Nat.le_of_ble_eq_true rfl)⟩ [0, 0, 0, 0, 0, 0, 0] rfl 13 0 rfl rfl rfl rfl (Nat.le_of_ble_eq_true rfl) rfl (fun _ _ _ => rfl) dX12_readSequence_25 (fun j15 u16 w17 => ?_)
      refine V_ws [(h0, oC 13 [.ref h1, .ref h2, .int p2, .ref h3, .ref h4, .int (nI k5), .int (nI (a1.1 0)), .int (a1.2.1 0), .int (a1.2.1 1), .int (a1.2.1 2), .int (nI (a1.1 1)), .int p11, .long (a1.2.2.1 0), .ref h5, .ref h6, .int (nI k15), .int (nI k16)]), (h1, aI Y 3640 (a1.2.2.2.1 0)), (h2, aZ Y 2 f1), (h3, aZ Y 80 f3), (h4, aB Y 1600 f4), (h5, aI Y 200 f13), (h6, aI Y 800 f14)] rfl ?_
      have x18 := w17
      clear w17
      refine V_istore_n 28 B (lv2 := [(2, .int j15), (0, .ref h0), (1, .int (nI s0))]) dX12_readSequence_28 (by decide) rfl ?_
      refine V_iload_n 29 B dX12_readSequence_29 0 rfl ?_
      refine V_iconst 30 B (v := (-1)) dX12_readSequence_30 (by decide +kernel) ?_
      refine V_icmp_ne 31 B 40 dX12_readSequence_31 (by decide) (fun kk19 => ?_) (fun kk19 => ?_)
      ·
        have x20 := x_ne kk19
        rw [show ((-1) : Int32).toInt = (-1) by decide +kernel] at x20
        refine V_aload_n 40 B dX12_readSequence_40 1 rfl ?_
        refine V_get 41 B gf_RX12_9 0 rfl rfl dX12_readSequence_41 ?_
        refine V_iload_n 44 B dX12_readSequence_44 2 rfl ?_
        have x21 : (gN (a1.2.2.2.1 0) s0) ≤ 4 := gN_le x4 (by omega) hs0.2.1
        refine V_iald 45 B (v := (nI ((gN (a1.2.2.2.1 0) s0)))) 1 rfl (vp_in_nI (n := s0) (by omega) (by decide)) dX12_readSequence_45 (by rw [nI_clamp (show s0 < 2 ^ 31 by omega)]; exact gN_eq x4 (by omega) hs0.2.1) ?_
        refine V_iconst 46 B (v := 4) dX12_readSequence_46 (by decide +kernel) ?_
        refine V_icmp_ne 47 B 56 dX12_readSequence_47 (by decide) (fun kk22 => ?_) (fun kk22 => ?_)
        ·
          have x23 := n_ne (a := (gN (a1.2.2.2.1 0) s0)) (b := 4) kk22
          refine V_aload_n 56 B dX12_readSequence_56 1 rfl ?_
          refine V_get 57 B gf_RX12_9 0 rfl rfl dX12_readSequence_57 ?_
          refine V_iload_n 60 B dX12_readSequence_60 2 rfl ?_
          refine V_dup2_11 61 B dX12_readSequence_61 rfl rfl ?_
          have x24 : (gN (a1.2.2.2.1 0) s0) ≤ 4 := gN_le x4 (by omega) hs0.2.1
          refine V_iald 62 B (v := (nI ((gN (a1.2.2.2.1 0) s0)))) 1 rfl (vp_in_nI (n := s0) (by omega) (by decide)) dX12_readSequence_62 (by rw [nI_clamp (show s0 < 2 ^ 31 by omega)]; exact gN_eq x4 (by omega) hs0.2.1) ?_
          refine V_iconst 63 B (v := 1) dX12_readSequence_63 (by decide +kernel) ?_
          refine V_iadd 64 B (v := (nI (1 + (gN (a1.2.2.2.1 0) s0)))) dX12_readSequence_64 (nI_addE (a := (gN (a1.2.2.2.1 0) s0)) (b := 1) (by omega)) ?_
          have hv25 : INV ph (upd (a1.2.2.2.1 0) s0 (nI (1 + (gN (a1.2.2.2.1 0) s0)))) := INV_nat (v := 1 + (gN (a1.2.2.2.1 0) s0)) x4 hs0.2.1 (by omega) (by decide)
          refine V_iast 65 B 1 rfl (vp_in_nI (n := s0) (by omega) (by decide)) dX12_readSequence_65 [(h0, oC 13 [.ref h1, .ref h2, .int p2, .ref h3, .ref h4, .int (nI k5), .int (nI (a1.1 0)), .int (a1.2.1 0), .int (a1.2.1 1), .int (a1.2.1 2), .int (nI (a1.1 1)), .int p11, .long (a1.2.2.1 0), .ref h5, .ref h6, .int (nI k15), .int (nI k16)]), (h1, aI Y 3640 (upd (a1.2.2.2.1 0) s0 (nI (1 + (gN (a1.2.2.2.1 0) s0))))), (h2, aZ Y 2 f1), (h3, aZ Y 80 f3), (h4, aB Y 1600 f4), (h5, aI Y 200 f13), (h6, aI Y 800 f14)] (by rw [nI_clamp (show s0 < 2 ^ 31 by omega)]; rfl) ?_
          refine V_aload_n 66 B dX12_readSequence_66 1 rfl ?_
          refine V_get 67 B gf_RX12_9 0 rfl rfl dX12_readSequence_67 ?_
          refine V_iload_n 70 B dX12_readSequence_70 2 rfl ?_
          refine V_aload_n 71 B dX12_readSequence_71 1 rfl ?_
          refine V_get 72 B gf_RX12_9 0 rfl rfl dX12_readSequence_72 ?_
          refine V_iload_n 75 B dX12_readSequence_75 2 rfl ?_
          refine V_iald 76 B (v := (nI (1 + (gN (a1.2.2.2.1 0) s0)))) 1 rfl (vp_in_nI (n := s0) (by omega) (by decide)) dX12_readSequence_76 (by rw [nI_clamp (show s0 < 2 ^ 31 by omega)]; exact upd_at) ?_
          refine V_iadd 77 B (v := (nI (1 + (gN (a1.2.2.2.1 0) s0) + s0))) dX12_readSequence_77 (nI_addE (a := s0) (b := 1 + (gN (a1.2.2.2.1 0) s0)) (by omega)) ?_
          refine V_iload_n 78 B dX12_readSequence_78 0 rfl ?_
          have hv26 : INV ph (upd (upd (a1.2.2.2.1 0) s0 (nI (1 + (gN (a1.2.2.2.1 0) s0)))) (1 + (gN (a1.2.2.2.1 0) s0) + s0) j15) := INV_free hv25 (SQ.fr hs0 (j := 1 + (gN (a1.2.2.2.1 0) s0) + s0) (by omega) (by omega))
          refine V_iast 79 B 1 rfl (vp_in_nI (n := 1 + (gN (a1.2.2.2.1 0) s0) + s0) (by omega) (by decide)) dX12_readSequence_79 [(h0, oC 13 [.ref h1, .ref h2, .int p2, .ref h3, .ref h4, .int (nI k5), .int (nI (a1.1 0)), .int (a1.2.1 0), .int (a1.2.1 1), .int (a1.2.1 2), .int (nI (a1.1 1)), .int p11, .long (a1.2.2.1 0), .ref h5, .ref h6, .int (nI k15), .int (nI k16)]), (h1, aI Y 3640 (upd (upd (a1.2.2.2.1 0) s0 (nI (1 + (gN (a1.2.2.2.1 0) s0)))) (1 + (gN (a1.2.2.2.1 0) s0) + s0) j15)), (h2, aZ Y 2 f1), (h3, aZ Y 80 f3), (h4, aB Y 1600 f4), (h5, aI Y 200 f13), (h6, aI Y 800 f14)] (by rw [nI_clamp (show 1 + (gN (a1.2.2.2.1 0) s0) + s0 < 2 ^ 31 by omega)]; rfl) ?_
          have x27 : (a1.1 1) < (a1.1 0) := by
            rcases x18 with z | z
            · contradiction
            · exact z
          refine V_aload_n 80 B dX12_readSequence_80 1 rfl ?_
          refine V_cvv 81 B (st := []) (As := []) (fun sz => rX12_advance l D Y h0 h1 h2 h3 h4 h5 h6 p2 k5 (a1.1 0) (a1.2.1 0) (a1.2.1 1) (a1.2.1 2) (a1.1 1) p11 (a1.2.2.1 0) k15 k16 (upd (upd (a1.2.2.2.1 0) s0 (nI (1 + (gN (a1.2.2.2.1 0) s0)))) (1 + (gN (a1.2.2.2.1 0) s0) + s0) j15) f1 f3 f4 f13 f14 ph hv26 (by omega) HP (by omega) sz) glV_RX12_288 ⟨rfl, rfl⟩ ⟨(Nat.le_of_ble_eq_true rfl), (Nat.le_of_ble_eq_true rfl)⟩ ⟨(Nat.le_of_ble_eq_true rfl), (Nat.le_of_ble_eq_true rfl)⟩ [0, 0, 0, 0, 0, 0, 0] rfl 13 0 rfl rfl rfl rfl (Nat.le_of_ble_eq_true rfl) rfl (fun _ _ => rfl) dX12_readSequence_81 (fun u29 w30 => ?_)
          refine V_ws [(h0, oC 13 [.ref h1, .ref h2, .int p2, .ref h3, .ref h4, .int (nI k5), .int (nI (u29.1 0)), .int (a1.2.1 0), .int (a1.2.1 1), .int (u29.2.1 0), .int (nI (u29.1 1)), .int p11, .long (u29.2.2.1 0), .ref h5, .ref h6, .int (nI k15), .int (nI k16)]), (h1, aI Y 3640 (upd (upd (a1.2.2.2.1 0) s0 (nI (1 + (gN (a1.2.2.2.1 0) s0)))) (1 + (gN (a1.2.2.2.1 0) s0) + s0) j15)), (h2, aZ Y 2 f1), (h3, aZ Y 80 f3), (h4, aB Y 1600 f4), (h5, aI Y 200 f13), (h6, aI Y 800 f14)] rfl ?_
          obtain ⟨x31, x32, x33, x34⟩ := w30
          refine V_goto 84 B 7 dX12_readSequence_84 (by decide) ?_
          refine V_lv [(0, .ref h0), (1, .int (nI s0))] [1, 2] rfl ?_
          exact IH2 (mkW [(u29.1 0), (u29.1 1)] [(a1.2.1 0), (a1.2.1 1), (u29.2.1 0)] [(u29.2.2.1 0)] [(upd (upd (a1.2.2.2.1 0) s0 (nI (1 + (gN (a1.2.2.2.1 0) s0)))) (1 + (gN (a1.2.2.2.1 0) s0) + s0) j15)] [] []) ⟨hv26, ⟨(show k10 ≤ (u29.1 1) by omega), (show (u29.1 1) ≤ (u29.1 0) by omega), (show (u29.1 0) ≤ k5 by omega), (show ((u29.2.1 0) = 0 ∨ (u29.1 1) < (u29.1 0)) by first | assumption | exact Or.inr (by omega))⟩, (Or.inr (show k10 < (u29.1 1) by omega)), (fr_upd (fr_upd x7 (by omega) (by omega)) (by omega) (by omega))⟩ (by show 100 - gN ((upd (upd (a1.2.2.2.1 0) s0 (nI (1 + (gN (a1.2.2.2.1 0) s0)))) (1 + (gN (a1.2.2.2.1 0) s0) + s0) j15)) s0 < _; rw [show gN ((upd (upd (a1.2.2.2.1 0) s0 (nI (1 + (gN (a1.2.2.2.1 0) s0)))) (1 + (gN (a1.2.2.2.1 0) s0) + s0) j15)) s0 = 1 + gN (a1.2.2.2.1 0) s0 from (gN_ne (by omega)).trans (gN_at (by omega))]; omega)
        ·
          have x35 := n_eq (a := (gN (a1.2.2.2.1 0) s0)) (b := 4) kk22 (by omega) (by omega)
          refine V_aload_n 50 B dX12_readSequence_50 1 rfl ?_
          refine V_iconst 51 B (v := 3) dX12_readSequence_51 (by decide +kernel) ?_
          refine V_cvi 52 B (st := []) (As := [.int 3]) (fun sz => rX12_fail l D Y h0 h1 h2 h3 h4 h5 h6 p2 k5 (a1.1 0) (a1.2.1 0) (a1.2.1 1) (a1.2.1 2) (a1.1 1) p11 (a1.2.2.1 0) k15 k16 (a1.2.2.2.1 0) f1 f3 f4 f13 f14 ph x4 (by omega) HP 3 sz) glV_RX12_291 ⟨rfl, rfl⟩ ⟨(Nat.le_of_ble_eq_true rfl), (Nat.le_of_ble_eq_true rfl)⟩ ⟨(Nat.le_of_ble_eq_true rfl), (Nat.le_of_ble_eq_true rfl)⟩ [0, 0, 0, 0, 0, 0, 0] rfl 13 0 rfl rfl rfl rfl (Nat.le_of_ble_eq_true rfl) rfl (fun _ _ _ => rfl) dX12_readSequence_52 (fun j36 u37 w38 => ?_)
          refine V_ws [(h0, oC 13 [.ref h1, .ref h2, .int p2, .ref h3, .ref h4, .int (nI k5), .int (nI (a1.1 0)), .int (u37.2.1 0), .int (u37.2.1 1), .int (a1.2.1 2), .int (nI (a1.1 1)), .int p11, .long (a1.2.2.1 0), .ref h5, .ref h6, .int (nI k15), .int (nI k16)]), (h1, aI Y 3640 (a1.2.2.2.1 0)), (h2, aZ Y 2 f1), (h3, aZ Y 80 f3), (h4, aB Y 1600 f4), (h5, aI Y 200 f13), (h6, aI Y 800 f14)] rfl ?_
          have x39 := w38
          clear w38
          obtain rfl := x39
          exact V_zret 55 B rfl dX12_readSequence_55 (mkW [(a1.1 0), (a1.1 1)] [(u37.2.1 0), (u37.2.1 1), (a1.2.1 2)] [(a1.2.2.1 0)] [(a1.2.2.2.1 0)] [] []) ⟨(Or.inl rfl), x4, (show k10 ≤ (a1.1 1) by omega), (show (a1.1 1) ≤ (a1.1 0) by omega), (show (a1.1 0) ≤ k5 by omega), (show ((a1.2.1 2) = 0 ∨ (a1.1 1) < (a1.1 0)) by first | assumption | exact Or.inr (by omega)), x7⟩ rfl
      ·
        obtain rfl : j15 = (-1) := kk19
        have e41 : ((-1) : Int32).toInt = (-1) := by decide +kernel
        refine V_aload_n 34 B dX12_readSequence_34 1 rfl ?_
        refine V_iconst 35 B (v := 1) dX12_readSequence_35 (by decide +kernel) ?_
        refine V_cvi 36 B (st := []) (As := [.int 1]) (fun sz => rX12_fail l D Y h0 h1 h2 h3 h4 h5 h6 p2 k5 (a1.1 0) (a1.2.1 0) (a1.2.1 1) (a1.2.1 2) (a1.1 1) p11 (a1.2.2.1 0) k15 k16 (a1.2.2.2.1 0) f1 f3 f4 f13 f14 ph x4 (by omega) HP 1 sz) glV_RX12_291 ⟨rfl, rfl⟩ ⟨(Nat.le_of_ble_eq_true rfl), (Nat.le_of_ble_eq_true rfl)⟩ ⟨(Nat.le_of_ble_eq_true rfl), (Nat.le_of_ble_eq_true rfl)⟩ [0, 0, 0, 0, 0, 0, 0] rfl 13 0 rfl rfl rfl rfl (Nat.le_of_ble_eq_true rfl) rfl (fun _ _ _ => rfl) dX12_readSequence_36 (fun j42 u43 w44 => ?_)
        refine V_ws [(h0, oC 13 [.ref h1, .ref h2, .int p2, .ref h3, .ref h4, .int (nI k5), .int (nI (a1.1 0)), .int (u43.2.1 0), .int (u43.2.1 1), .int (a1.2.1 2), .int (nI (a1.1 1)), .int p11, .long (a1.2.2.1 0), .ref h5, .ref h6, .int (nI k15), .int (nI k16)]), (h1, aI Y 3640 (a1.2.2.2.1 0)), (h2, aZ Y 2 f1), (h3, aZ Y 80 f3), (h4, aB Y 1600 f4), (h5, aI Y 200 f13), (h6, aI Y 800 f14)] rfl ?_
        have x45 := w44
        clear w44
        obtain rfl := x45
        exact V_zret 39 B rfl dX12_readSequence_39 (mkW [(a1.1 0), (a1.1 1)] [(u43.2.1 0), (u43.2.1 1), (a1.2.1 2)] [(a1.2.2.1 0)] [(a1.2.2.2.1 0)] [] []) ⟨(Or.inl rfl), x4, (show k10 ≤ (a1.1 1) by omega), (show (a1.1 1) ≤ (a1.1 0) by omega), (show (a1.1 0) ≤ k5 by omega), (show ((a1.2.1 2) = 0 ∨ (a1.1 1) < (a1.1 0)) by first | assumption | exact Or.inr (by omega)), x7⟩ rfl
    ·
      have x46 := n_ne (a := (gN (a1.2.2.2.1 0) s0)) (b := 0) kk13
      refine V_aload_n 16 B dX12_readSequence_16 0 rfl ?_
      refine V_get 17 B gf_RX12_283 0 rfl rfl dX12_readSequence_17 ?_
      refine V_iconst 20 B (v := 1) dX12_readSequence_20 (by decide +kernel) ?_
      refine V_icmp_ne 21 B 87 dX12_readSequence_21 (by decide) (fun kk47 => ?_) (fun kk47 => ?_)
      ·
        have x48 := x_ne kk47
        rw [show (1 : Int32).toInt = 1 by decide +kernel] at x48
        have x49 : k10 < (a1.1 1) := by
          rcases x6 with z | z
          · omega
          · exact z
        refine V_iconst 87 B (v := 1) dX12_readSequence_87 (by decide +kernel) ?_
        exact V_zret 88 B rfl dX12_readSequence_88 (mkW [(a1.1 0), (a1.1 1)] [(a1.2.1 0), (a1.2.1 1), (a1.2.1 2)] [(a1.2.2.1 0)] [(a1.2.2.2.1 0)] [] []) ⟨(Or.inr ⟨rfl, (show k10 < (a1.1 1) by omega)⟩), x4, (show k10 ≤ (a1.1 1) by omega), (show (a1.1 1) ≤ (a1.1 0) by omega), (show (a1.1 0) ≤ k5 by omega), (show ((a1.2.1 2) = 0 ∨ (a1.1 1) < (a1.1 0)) by first | assumption | exact Or.inr (by omega)), x7⟩ rfl
      ·
        have x50 := x_eq kk47
        rw [show (1 : Int32).toInt = 1 by decide +kernel] at x50
        refine V_aload_n 24 B dX12_readSequence_24 0 rfl ?_
        refine V_cvi 25 B (st := []) (As := []) (fun sz => rX12_strokeHere l D Y h0 h1 h2 h3 h4 h5 h6 p2 k5 (a1.1 0) (a1.2.1 0) (a1.2.1 1) (a1.2.1 2) (a1.1 1) p11 (a1.2.2.1 0) k15 k16 (a1.2.2.2.1 0) f1 f3 f4 f13 f14 ph x4 (by omega) HP (by omega) (by omega) (by first | assumption | exact Or.inl rfl | exact Or.inr (by omega)) sz) glV_RX12_297 ⟨rfl, rfl⟩ ⟨(Nat.le_of_ble_eq_true rfl), (Nat.le_of_ble_eq_true rfl)⟩ ⟨(Nat.le_of_ble_eq_true rfl), (Nat.le_of_ble_eq_true rfl)⟩ [0, 0, 0, 0, 0, 0, 0] rfl 13 0 rfl rfl rfl rfl (Nat.le_of_ble_eq_true rfl) rfl (fun _ _ _ => rfl) dX12_readSequence_25 (fun j51 u52 w53 => ?_)
        refine V_ws [(h0, oC 13 [.ref h1, .ref h2, .int p2, .ref h3, .ref h4, .int (nI k5), .int (nI (a1.1 0)), .int (a1.2.1 0), .int (a1.2.1 1), .int (a1.2.1 2), .int (nI (a1.1 1)), .int p11, .long (a1.2.2.1 0), .ref h5, .ref h6, .int (nI k15), .int (nI k16)]), (h1, aI Y 3640 (a1.2.2.2.1 0)), (h2, aZ Y 2 f1), (h3, aZ Y 80 f3), (h4, aB Y 1600 f4), (h5, aI Y 200 f13), (h6, aI Y 800 f14)] rfl ?_
        have x54 := w53
        clear w53
        refine V_istore_n 28 B (lv2 := [(2, .int j51), (0, .ref h0), (1, .int (nI s0))]) dX12_readSequence_28 (by decide) rfl ?_
        refine V_iload_n 29 B dX12_readSequence_29 0 rfl ?_
        refine V_iconst 30 B (v := (-1)) dX12_readSequence_30 (by decide +kernel) ?_
        refine V_icmp_ne 31 B 40 dX12_readSequence_31 (by decide) (fun kk55 => ?_) (fun kk55 => ?_)
        ·
          have x56 := x_ne kk55
          rw [show ((-1) : Int32).toInt = (-1) by decide +kernel] at x56
          refine V_aload_n 40 B dX12_readSequence_40 1 rfl ?_
          refine V_get 41 B gf_RX12_9 0 rfl rfl dX12_readSequence_41 ?_
          refine V_iload_n 44 B dX12_readSequence_44 2 rfl ?_
          have x57 : (gN (a1.2.2.2.1 0) s0) ≤ 4 := gN_le x4 (by omega) hs0.2.1
          refine V_iald 45 B (v := (nI ((gN (a1.2.2.2.1 0) s0)))) 1 rfl (vp_in_nI (n := s0) (by omega) (by decide)) dX12_readSequence_45 (by rw [nI_clamp (show s0 < 2 ^ 31 by omega)]; exact gN_eq x4 (by omega) hs0.2.1) ?_
          refine V_iconst 46 B (v := 4) dX12_readSequence_46 (by decide +kernel) ?_
          refine V_icmp_ne 47 B 56 dX12_readSequence_47 (by decide) (fun kk58 => ?_) (fun kk58 => ?_)
          ·
            have x59 := n_ne (a := (gN (a1.2.2.2.1 0) s0)) (b := 4) kk58
            refine V_aload_n 56 B dX12_readSequence_56 1 rfl ?_
            refine V_get 57 B gf_RX12_9 0 rfl rfl dX12_readSequence_57 ?_
            refine V_iload_n 60 B dX12_readSequence_60 2 rfl ?_
            refine V_dup2_11 61 B dX12_readSequence_61 rfl rfl ?_
            have x60 : (gN (a1.2.2.2.1 0) s0) ≤ 4 := gN_le x4 (by omega) hs0.2.1
            refine V_iald 62 B (v := (nI ((gN (a1.2.2.2.1 0) s0)))) 1 rfl (vp_in_nI (n := s0) (by omega) (by decide)) dX12_readSequence_62 (by rw [nI_clamp (show s0 < 2 ^ 31 by omega)]; exact gN_eq x4 (by omega) hs0.2.1) ?_
            refine V_iconst 63 B (v := 1) dX12_readSequence_63 (by decide +kernel) ?_
            refine V_iadd 64 B (v := (nI (1 + (gN (a1.2.2.2.1 0) s0)))) dX12_readSequence_64 (nI_addE (a := (gN (a1.2.2.2.1 0) s0)) (b := 1) (by omega)) ?_
            have hv61 : INV ph (upd (a1.2.2.2.1 0) s0 (nI (1 + (gN (a1.2.2.2.1 0) s0)))) := INV_nat (v := 1 + (gN (a1.2.2.2.1 0) s0)) x4 hs0.2.1 (by omega) (by decide)
            refine V_iast 65 B 1 rfl (vp_in_nI (n := s0) (by omega) (by decide)) dX12_readSequence_65 [(h0, oC 13 [.ref h1, .ref h2, .int p2, .ref h3, .ref h4, .int (nI k5), .int (nI (a1.1 0)), .int (a1.2.1 0), .int (a1.2.1 1), .int (a1.2.1 2), .int (nI (a1.1 1)), .int p11, .long (a1.2.2.1 0), .ref h5, .ref h6, .int (nI k15), .int (nI k16)]), (h1, aI Y 3640 (upd (a1.2.2.2.1 0) s0 (nI (1 + (gN (a1.2.2.2.1 0) s0))))), (h2, aZ Y 2 f1), (h3, aZ Y 80 f3), (h4, aB Y 1600 f4), (h5, aI Y 200 f13), (h6, aI Y 800 f14)] (by rw [nI_clamp (show s0 < 2 ^ 31 by omega)]; rfl) ?_
            refine V_aload_n 66 B dX12_readSequence_66 1 rfl ?_
            refine V_get 67 B gf_RX12_9 0 rfl rfl dX12_readSequence_67 ?_
            refine V_iload_n 70 B dX12_readSequence_70 2 rfl ?_
            refine V_aload_n 71 B dX12_readSequence_71 1 rfl ?_
            refine V_get 72 B gf_RX12_9 0 rfl rfl dX12_readSequence_72 ?_
            refine V_iload_n 75 B dX12_readSequence_75 2 rfl ?_
            refine V_iald 76 B (v := (nI (1 + (gN (a1.2.2.2.1 0) s0)))) 1 rfl (vp_in_nI (n := s0) (by omega) (by decide)) dX12_readSequence_76 (by rw [nI_clamp (show s0 < 2 ^ 31 by omega)]; exact upd_at) ?_
            refine V_iadd 77 B (v := (nI (1 + (gN (a1.2.2.2.1 0) s0) + s0))) dX12_readSequence_77 (nI_addE (a := s0) (b := 1 + (gN (a1.2.2.2.1 0) s0)) (by omega)) ?_
            refine V_iload_n 78 B dX12_readSequence_78 0 rfl ?_
            have hv62 : INV ph (upd (upd (a1.2.2.2.1 0) s0 (nI (1 + (gN (a1.2.2.2.1 0) s0)))) (1 + (gN (a1.2.2.2.1 0) s0) + s0) j51) := INV_free hv61 (SQ.fr hs0 (j := 1 + (gN (a1.2.2.2.1 0) s0) + s0) (by omega) (by omega))
            refine V_iast 79 B 1 rfl (vp_in_nI (n := 1 + (gN (a1.2.2.2.1 0) s0) + s0) (by omega) (by decide)) dX12_readSequence_79 [(h0, oC 13 [.ref h1, .ref h2, .int p2, .ref h3, .ref h4, .int (nI k5), .int (nI (a1.1 0)), .int (a1.2.1 0), .int (a1.2.1 1), .int (a1.2.1 2), .int (nI (a1.1 1)), .int p11, .long (a1.2.2.1 0), .ref h5, .ref h6, .int (nI k15), .int (nI k16)]), (h1, aI Y 3640 (upd (upd (a1.2.2.2.1 0) s0 (nI (1 + (gN (a1.2.2.2.1 0) s0)))) (1 + (gN (a1.2.2.2.1 0) s0) + s0) j51)), (h2, aZ Y 2 f1), (h3, aZ Y 80 f3), (h4, aB Y 1600 f4), (h5, aI Y 200 f13), (h6, aI Y 800 f14)] (by rw [nI_clamp (show 1 + (gN (a1.2.2.2.1 0) s0) + s0 < 2 ^ 31 by omega)]; rfl) ?_
            have x63 : (a1.1 1) < (a1.1 0) := by
              rcases x54 with z | z
              · contradiction
              · exact z
            refine V_aload_n 80 B dX12_readSequence_80 1 rfl ?_
            refine V_cvv 81 B (st := []) (As := []) (fun sz => rX12_advance l D Y h0 h1 h2 h3 h4 h5 h6 p2 k5 (a1.1 0) (a1.2.1 0) (a1.2.1 1) (a1.2.1 2) (a1.1 1) p11 (a1.2.2.1 0) k15 k16 (upd (upd (a1.2.2.2.1 0) s0 (nI (1 + (gN (a1.2.2.2.1 0) s0)))) (1 + (gN (a1.2.2.2.1 0) s0) + s0) j51) f1 f3 f4 f13 f14 ph hv62 (by omega) HP (by omega) sz) glV_RX12_288 ⟨rfl, rfl⟩ ⟨(Nat.le_of_ble_eq_true rfl), (Nat.le_of_ble_eq_true rfl)⟩ ⟨(Nat.le_of_ble_eq_true rfl), (Nat.le_of_ble_eq_true rfl)⟩ [0, 0, 0, 0, 0, 0, 0] rfl 13 0 rfl rfl rfl rfl (Nat.le_of_ble_eq_true rfl) rfl (fun _ _ => rfl) dX12_readSequence_81 (fun u65 w66 => ?_)
            refine V_ws [(h0, oC 13 [.ref h1, .ref h2, .int p2, .ref h3, .ref h4, .int (nI k5), .int (nI (u65.1 0)), .int (a1.2.1 0), .int (a1.2.1 1), .int (u65.2.1 0), .int (nI (u65.1 1)), .int p11, .long (u65.2.2.1 0), .ref h5, .ref h6, .int (nI k15), .int (nI k16)]), (h1, aI Y 3640 (upd (upd (a1.2.2.2.1 0) s0 (nI (1 + (gN (a1.2.2.2.1 0) s0)))) (1 + (gN (a1.2.2.2.1 0) s0) + s0) j51)), (h2, aZ Y 2 f1), (h3, aZ Y 80 f3), (h4, aB Y 1600 f4), (h5, aI Y 200 f13), (h6, aI Y 800 f14)] rfl ?_
            obtain ⟨x67, x68, x69, x70⟩ := w66
            refine V_goto 84 B 7 dX12_readSequence_84 (by decide) ?_
            refine V_lv [(0, .ref h0), (1, .int (nI s0))] [1, 2] rfl ?_
            exact IH2 (mkW [(u65.1 0), (u65.1 1)] [(a1.2.1 0), (a1.2.1 1), (u65.2.1 0)] [(u65.2.2.1 0)] [(upd (upd (a1.2.2.2.1 0) s0 (nI (1 + (gN (a1.2.2.2.1 0) s0)))) (1 + (gN (a1.2.2.2.1 0) s0) + s0) j51)] [] []) ⟨hv62, ⟨(show k10 ≤ (u65.1 1) by omega), (show (u65.1 1) ≤ (u65.1 0) by omega), (show (u65.1 0) ≤ k5 by omega), (show ((u65.2.1 0) = 0 ∨ (u65.1 1) < (u65.1 0)) by first | assumption | exact Or.inr (by omega))⟩, (Or.inr (show k10 < (u65.1 1) by omega)), (fr_upd (fr_upd x7 (by omega) (by omega)) (by omega) (by omega))⟩ (by show 100 - gN ((upd (upd (a1.2.2.2.1 0) s0 (nI (1 + (gN (a1.2.2.2.1 0) s0)))) (1 + (gN (a1.2.2.2.1 0) s0) + s0) j51)) s0 < _; rw [show gN ((upd (upd (a1.2.2.2.1 0) s0 (nI (1 + (gN (a1.2.2.2.1 0) s0)))) (1 + (gN (a1.2.2.2.1 0) s0) + s0) j51)) s0 = 1 + gN (a1.2.2.2.1 0) s0 from (gN_ne (by omega)).trans (gN_at (by omega))]; omega)
          ·
            have x71 := n_eq (a := (gN (a1.2.2.2.1 0) s0)) (b := 4) kk58 (by omega) (by omega)
            refine V_aload_n 50 B dX12_readSequence_50 1 rfl ?_
            refine V_iconst 51 B (v := 3) dX12_readSequence_51 (by decide +kernel) ?_
            refine V_cvi 52 B (st := []) (As := [.int 3]) (fun sz => rX12_fail l D Y h0 h1 h2 h3 h4 h5 h6 p2 k5 (a1.1 0) (a1.2.1 0) (a1.2.1 1) (a1.2.1 2) (a1.1 1) p11 (a1.2.2.1 0) k15 k16 (a1.2.2.2.1 0) f1 f3 f4 f13 f14 ph x4 (by omega) HP 3 sz) glV_RX12_291 ⟨rfl, rfl⟩ ⟨(Nat.le_of_ble_eq_true rfl), (Nat.le_of_ble_eq_true rfl)⟩ ⟨(Nat.le_of_ble_eq_true rfl), (Nat.le_of_ble_eq_true rfl)⟩ [0, 0, 0, 0, 0, 0, 0] rfl 13 0 rfl rfl rfl rfl (Nat.le_of_ble_eq_true rfl) rfl (fun _ _ _ => rfl) dX12_readSequence_52 (fun j72 u73 w74 => ?_)
            refine V_ws [(h0, oC 13 [.ref h1, .ref h2, .int p2, .ref h3, .ref h4, .int (nI k5), .int (nI (a1.1 0)), .int (u73.2.1 0), .int (u73.2.1 1), .int (a1.2.1 2), .int (nI (a1.1 1)), .int p11, .long (a1.2.2.1 0), .ref h5, .ref h6, .int (nI k15), .int (nI k16)]), (h1, aI Y 3640 (a1.2.2.2.1 0)), (h2, aZ Y 2 f1), (h3, aZ Y 80 f3), (h4, aB Y 1600 f4), (h5, aI Y 200 f13), (h6, aI Y 800 f14)] rfl ?_
            have x75 := w74
            clear w74
            obtain rfl := x75
            exact V_zret 55 B rfl dX12_readSequence_55 (mkW [(a1.1 0), (a1.1 1)] [(u73.2.1 0), (u73.2.1 1), (a1.2.1 2)] [(a1.2.2.1 0)] [(a1.2.2.2.1 0)] [] []) ⟨(Or.inl rfl), x4, (show k10 ≤ (a1.1 1) by omega), (show (a1.1 1) ≤ (a1.1 0) by omega), (show (a1.1 0) ≤ k5 by omega), (show ((a1.2.1 2) = 0 ∨ (a1.1 1) < (a1.1 0)) by first | assumption | exact Or.inr (by omega)), x7⟩ rfl
        ·
          obtain rfl : j51 = (-1) := kk55
          have e77 : ((-1) : Int32).toInt = (-1) := by decide +kernel
          refine V_aload_n 34 B dX12_readSequence_34 1 rfl ?_
          refine V_iconst 35 B (v := 1) dX12_readSequence_35 (by decide +kernel) ?_
          refine V_cvi 36 B (st := []) (As := [.int 1]) (fun sz => rX12_fail l D Y h0 h1 h2 h3 h4 h5 h6 p2 k5 (a1.1 0) (a1.2.1 0) (a1.2.1 1) (a1.2.1 2) (a1.1 1) p11 (a1.2.2.1 0) k15 k16 (a1.2.2.2.1 0) f1 f3 f4 f13 f14 ph x4 (by omega) HP 1 sz) glV_RX12_291 ⟨rfl, rfl⟩ ⟨(Nat.le_of_ble_eq_true rfl), (Nat.le_of_ble_eq_true rfl)⟩ ⟨(Nat.le_of_ble_eq_true rfl), (Nat.le_of_ble_eq_true rfl)⟩ [0, 0, 0, 0, 0, 0, 0] rfl 13 0 rfl rfl rfl rfl (Nat.le_of_ble_eq_true rfl) rfl (fun _ _ _ => rfl) dX12_readSequence_36 (fun j78 u79 w80 => ?_)
          refine V_ws [(h0, oC 13 [.ref h1, .ref h2, .int p2, .ref h3, .ref h4, .int (nI k5), .int (nI (a1.1 0)), .int (u79.2.1 0), .int (u79.2.1 1), .int (a1.2.1 2), .int (nI (a1.1 1)), .int p11, .long (a1.2.2.1 0), .ref h5, .ref h6, .int (nI k15), .int (nI k16)]), (h1, aI Y 3640 (a1.2.2.2.1 0)), (h2, aZ Y 2 f1), (h3, aZ Y 80 f3), (h4, aB Y 1600 f4), (h5, aI Y 200 f13), (h6, aI Y 800 f14)] rfl ?_
          have x81 := w80
          clear w80
          obtain rfl := x81
          exact V_zret 39 B rfl dX12_readSequence_39 (mkW [(a1.1 0), (a1.1 1)] [(u79.2.1 0), (u79.2.1 1), (a1.2.1 2)] [(a1.2.2.1 0)] [(a1.2.2.2.1 0)] [] []) ⟨(Or.inl rfl), x4, (show k10 ≤ (a1.1 1) by omega), (show (a1.1 1) ≤ (a1.1 0) by omega), (show (a1.1 0) ≤ k5 by omega), (show ((a1.2.1 2) = 0 ∨ (a1.1 1) < (a1.1 0)) by first | assumption | exact Or.inr (by omega)), x7⟩ rfl)
theorem dX12_readKey_0 : decode cX12_readKey 0 = .ok (.aload_n 0, 1) := by decide +kernel
theorem dX12_readKey_1 : decode cX12_readKey 1 = .ok (.getfield 283, 3) := by decide +kernel
theorem dX12_readKey_4 : decode cX12_readKey 4 = .ok (.iconst 1, 1) := by decide +kernel
theorem dX12_readKey_5 : decode cX12_readKey 5 = .ok (.if_icmp .ne 30, 3) := by decide +kernel
theorem dX12_readKey_35 : decode cX12_readKey 35 = .ok (.aload_n 0, 1) := by decide +kernel
theorem dX12_readKey_36 : decode cX12_readKey 36 = .ok (.iconst 1, 1) := by decide +kernel
theorem dX12_readKey_37 : decode cX12_readKey 37 = .ok (.invokevirtual 291, 3) := by decide +kernel
theorem dX12_readKey_40 : decode cX12_readKey 40 = .ok (.ireturn, 1) := by decide +kernel
theorem dX12_readKey_8 : decode cX12_readKey 8 = .ok (.aload_n 0, 1) := by decide +kernel
theorem dX12_readKey_9 : decode cX12_readKey 9 = .ok (.getfield 264, 3) := by decide +kernel
theorem dX12_readKey_12 : decode cX12_readKey 12 = .ok (.aload_n 0, 1) := by decide +kernel
theorem dX12_readKey_13 : decode cX12_readKey 13 = .ok (.getfield 270, 3) := by decide +kernel
theorem dX12_readKey_16 : decode cX12_readKey 16 = .ok (.isub, 1) := by decide +kernel
theorem dX12_readKey_17 : decode cX12_readKey 17 = .ok (.iconst 1, 1) := by decide +kernel
theorem dX12_readKey_18 : decode cX12_readKey 18 = .ok (.if_icmp .ne 17, 3) := by decide +kernel
theorem dX12_readKey_21 : decode cX12_readKey 21 = .ok (.aload_n 0, 1) := by decide +kernel
theorem dX12_readKey_22 : decode cX12_readKey 22 = .ok (.aload_n 0, 1) := by decide +kernel
theorem dX12_readKey_23 : decode cX12_readKey 23 = .ok (.getfield 270, 3) := by decide +kernel
theorem dX12_readKey_26 : decode cX12_readKey 26 = .ok (.invokevirtual 267, 3) := by decide +kernel
theorem dX12_readKey_29 : decode cX12_readKey 29 = .ok (.invokestatic 253, 3) := by decide +kernel
theorem dX12_readKey_32 : decode cX12_readKey 32 = .ok (.ifCond .ne 9, 3) := by decide +kernel
theorem dX12_readKey_41 : decode cX12_readKey 41 = .ok (.aload_n 0, 1) := by decide +kernel
theorem dX12_readKey_42 : decode cX12_readKey 42 = .ok (.aload_n 0, 1) := by decide +kernel
theorem dX12_readKey_43 : decode cX12_readKey 43 = .ok (.aload_n 0, 1) := by decide +kernel
theorem dX12_readKey_44 : decode cX12_readKey 44 = .ok (.getfield 270, 3) := by decide +kernel
theorem dX12_readKey_47 : decode cX12_readKey 47 = .ok (.invokevirtual 267, 3) := by decide +kernel
theorem dX12_readKey_50 : decode cX12_readKey 50 = .ok (.bipush 97, 2) := by decide +kernel
theorem dX12_readKey_52 : decode cX12_readKey 52 = .ok (.isub, 1) := by decide +kernel
theorem dX12_readKey_53 : decode cX12_readKey 53 = .ok (.putfield 294, 3) := by decide +kernel
theorem dX12_readKey_56 : decode cX12_readKey 56 = .ok (.aload_n 0, 1) := by decide +kernel
theorem dX12_readKey_57 : decode cX12_readKey 57 = .ok (.invokevirtual 288, 3) := by decide +kernel
theorem dX12_readKey_60 : decode cX12_readKey 60 = .ok (.iconst 1, 1) := by decide +kernel
theorem dX12_readKey_61 : decode cX12_readKey 61 = .ok (.ireturn, 1) := by decide +kernel
set_option maxRecDepth 100000 in
set_option maxHeartbeats 4000000 in
theorem rX12_readKey (l : Launch) (D : va_G) (Y : Nat → ClassId) (h0 : Nat) (h1 : Nat) (h2 : Nat) (h3 : Nat) (h4 : Nat) (h5 : Nat) (h6 : Nat) (p2 : Int32) (k5 : Nat) (k6 : Nat) (p7 : Int32) (p8 : Int32) (p9 : Int32) (k10 : Nat) (p11 : Int32) (q12 : Int64) (k15 : Nat) (k16 : Nat) (f0 : Nat → Int32) (f1 : Nat → Int32) (f3 : Nat → Int32) (f4 : Nat → Int32) (f13 : Nat → Int32) (f14 : Nat → Int32) (ph : Nat → Int32) (HI : INV ph f0) (HL : k5 ≤ 1600) (HP : PLV f13)  (hx0 : k10 ≤ k6) (hx1 : k6 ≤ k5) (hx2 : (p9 = 0 ∨ k10 < k6)) (sz : Nat) : Met l yX12_readKey (WSm yX12_readKey cX12_readKey 1 (some .boolean)) (mkR 4 0 0 86) (PreC D Y [.ref h0] [(h0, oC 13 [.ref h1, .ref h2, .int p2, .ref h3, .ref h4, .int (nI k5), .int (nI k6), .int p7, .int p8, .int p9, .int (nI k10), .int p11, .long q12, .ref h5, .ref h6, .int (nI k15), .int (nI k16)]), (h1, aI Y 3640 f0), (h2, aZ Y 2 f1), (h3, aZ Y 80 f3), (h4, aB Y 1600 f4), (h5, aI Y 200 f13), (h6, aI Y 800 f14)] sz) (QI D (fun (r : Int32) (u : WU) => (r = 0 ∨ (r = 1 ∧ k10 < (u.1 1) ∧ 0 ≤ (u.2.1 3).toInt ∧ (u.2.1 3).toInt ≤ 25)) ∧ k10 ≤ (u.1 1) ∧ (u.1 1) ≤ (u.1 0) ∧ (u.1 0) ≤ k5 ∧ ((u.2.1 2) = 0 ∨ (u.1 1) < (u.1 0))) (fun (u : WU) => [(h0, oC 13 [.ref h1, .ref h2, .int p2, .ref h3, .ref h4, .int (nI k5), .int (nI (u.1 0)), .int (u.2.1 0), .int (u.2.1 1), .int (u.2.1 2), .int (nI (u.1 1)), .int (u.2.1 3), .long (u.2.2.1 0), .ref h5, .ref h6, .int (nI k15), .int (nI k16)]), (h1, aI Y 3640 f0), (h2, aZ Y 2 f1), (h3, aZ Y 80 f3), (h4, aB Y 1600 f4), (h5, aI Y 200 f13), (h6, aI Y 800 f14)]) (va_A [(h0, oC 13 [.ref h1, .ref h2, .int p2, .ref h3, .ref h4, .int (nI k5), .int (nI k6), .int p7, .int p8, .int p9, .int (nI k10), .int p11, .long q12, .ref h5, .ref h6, .int (nI k15), .int (nI k16)]), (h1, aI Y 3640 f0), (h2, aZ Y 2 f1), (h3, aZ Y 80 f3), (h4, aB Y 1600 f4), (h5, aI Y 200 f13), (h6, aI Y 800 f14)] sz)) 0 0 (va_A [(h0, oC 13 [.ref h1, .ref h2, .int p2, .ref h3, .ref h4, .int (nI k5), .int (nI k6), .int p7, .int p8, .int p9, .int (nI k10), .int p11, .long q12, .ref h5, .ref h6, .int (nI k15), .int (nI k16)]), (h1, aI Y 3640 f0), (h2, aZ Y 2 f1), (h3, aZ Y 80 f3), (h4, aB Y 1600 f4), (h5, aI Y 200 f13), (h6, aI Y 800 f14)] sz) :=
  met_of  (by decide +kernel) (Nat.le_of_ble_eq_true rfl) (fun p e s m args below meth c B hin hsz => by
    have B : VB p s m args meth c D Y (va_A [(h0, oC 13 [.ref h1, .ref h2, .int p2, .ref h3, .ref h4, .int (nI k5), .int (nI k6), .int p7, .int p8, .int p9, .int (nI k10), .int p11, .long q12, .ref h5, .ref h6, .int (nI k15), .int (nI k16)]), (h1, aI Y 3640 f0), (h2, aZ Y 2 f1), (h3, aZ Y 80 f3), (h4, aB Y 1600 f4), (h5, aI Y 200 f13), (h6, aI Y 800 f14)] sz) cX12_readKey 1 RX12 (some .boolean) := B
    refine V_aload_n 0 B dX12_readKey_0 0 rfl ?_
    refine V_get 1 B gf_RX12_283 0 rfl rfl dX12_readKey_1 ?_
    refine V_iconst 4 B (v := 1) dX12_readKey_4 (by decide +kernel) ?_
    refine V_icmp_ne 5 B 35 dX12_readKey_5 (by decide) (fun kk0 => ?_) (fun kk0 => ?_)
    ·
      have x1 := x_ne kk0
      rw [show (1 : Int32).toInt = 1 by decide +kernel] at x1
      refine V_aload_n 35 B dX12_readKey_35 0 rfl ?_
      refine V_iconst 36 B (v := 1) dX12_readKey_36 (by decide +kernel) ?_
      refine V_cvi 37 B (st := []) (As := [.int 1]) (fun sz => rX12_fail l D Y h0 h1 h2 h3 h4 h5 h6 p2 k5 k6 p7 p8 p9 k10 p11 q12 k15 k16 f0 f1 f3 f4 f13 f14 ph HI (by omega) HP 1 sz) glV_RX12_291 ⟨rfl, rfl⟩ ⟨(Nat.le_of_ble_eq_true rfl), (Nat.le_of_ble_eq_true rfl)⟩ ⟨(Nat.le_of_ble_eq_true rfl), (Nat.le_of_ble_eq_true rfl)⟩ [0, 0, 0, 0, 0, 0, 0] rfl 13 0 rfl rfl rfl rfl (Nat.le_of_ble_eq_true rfl) rfl (fun _ _ _ => rfl) dX12_readKey_37 (fun j2 u3 w4 => ?_)
      refine V_ws [(h0, oC 13 [.ref h1, .ref h2, .int p2, .ref h3, .ref h4, .int (nI k5), .int (nI k6), .int (u3.2.1 0), .int (u3.2.1 1), .int p9, .int (nI k10), .int p11, .long q12, .ref h5, .ref h6, .int (nI k15), .int (nI k16)]), (h1, aI Y 3640 f0), (h2, aZ Y 2 f1), (h3, aZ Y 80 f3), (h4, aB Y 1600 f4), (h5, aI Y 200 f13), (h6, aI Y 800 f14)] rfl ?_
      have x5 := w4
      clear w4
      obtain rfl := x5
      exact V_zret 40 B rfl dX12_readKey_40 (mkW [k6, k10] [(u3.2.1 0), (u3.2.1 1), p9, p11] [q12] [] [] []) ⟨(Or.inl rfl), (show k10 ≤ k10 by omega), (show k10 ≤ k6 by omega), (show k6 ≤ k5 by omega), (show (p9 = 0 ∨ k10 < k6) by first | assumption | exact Or.inr (by omega))⟩ rfl
    ·
      obtain rfl : p9 = 1 := kk0
      have e7 : (1 : Int32).toInt = 1 := by decide +kernel
      refine V_aload_n 8 B dX12_readKey_8 0 rfl ?_
      refine V_get 9 B gf_RX12_264 0 rfl rfl dX12_readKey_9 ?_
      refine V_aload_n 12 B dX12_readKey_12 0 rfl ?_
      refine V_get 13 B gf_RX12_270 0 rfl rfl dX12_readKey_13 ?_
      refine V_isub 16 B dX12_readKey_16 rfl ?_
      refine V_nmi (fun j8 e9 => ?_)
      have x10 : j8.toInt = ((k6 : Nat) : Int) - ((k10 : Nat) : Int) := by rw [e9]; exact nI_subT (a := k6) (b := k10) (by omega) (by omega)
      refine V_iconst 17 B (v := 1) dX12_readKey_17 (by decide +kernel) ?_
      refine V_icmp_ne 18 B 35 dX12_readKey_18 (by decide) (fun kk11 => ?_) (fun kk11 => ?_)
      ·
        have x12 := x_ne kk11
        rw [show (1 : Int32).toInt = 1 by decide +kernel] at x12
        refine V_aload_n 35 B dX12_readKey_35 0 rfl ?_
        refine V_iconst 36 B (v := 1) dX12_readKey_36 (by decide +kernel) ?_
        refine V_cvi 37 B (st := []) (As := [.int 1]) (fun sz => rX12_fail l D Y h0 h1 h2 h3 h4 h5 h6 p2 k5 k6 p7 p8 1 k10 p11 q12 k15 k16 f0 f1 f3 f4 f13 f14 ph HI (by omega) HP 1 sz) glV_RX12_291 ⟨rfl, rfl⟩ ⟨(Nat.le_of_ble_eq_true rfl), (Nat.le_of_ble_eq_true rfl)⟩ ⟨(Nat.le_of_ble_eq_true rfl), (Nat.le_of_ble_eq_true rfl)⟩ [0, 0, 0, 0, 0, 0, 0] rfl 13 0 rfl rfl rfl rfl (Nat.le_of_ble_eq_true rfl) rfl (fun _ _ _ => rfl) dX12_readKey_37 (fun j13 u14 w15 => ?_)
        refine V_ws [(h0, oC 13 [.ref h1, .ref h2, .int p2, .ref h3, .ref h4, .int (nI k5), .int (nI k6), .int (u14.2.1 0), .int (u14.2.1 1), .int 1, .int (nI k10), .int p11, .long q12, .ref h5, .ref h6, .int (nI k15), .int (nI k16)]), (h1, aI Y 3640 f0), (h2, aZ Y 2 f1), (h3, aZ Y 80 f3), (h4, aB Y 1600 f4), (h5, aI Y 200 f13), (h6, aI Y 800 f14)] rfl ?_
        have x16 := w15
        clear w15
        obtain rfl := x16
        exact V_zret 40 B rfl dX12_readKey_40 (mkW [k6, k10] [(u14.2.1 0), (u14.2.1 1), 1, p11] [q12] [] [] []) ⟨(Or.inl rfl), (show k10 ≤ k10 by omega), (show k10 ≤ k6 by omega), (show k6 ≤ k5 by omega), (Or.inr (show k10 < k6 by first | omega | exact (Or.resolve_left hx2 (by decide))))⟩ rfl
      ·
        obtain rfl : j8 = 1 := kk11
        have e18 : (1 : Int32).toInt = 1 := by decide +kernel
        refine V_aload_n 21 B dX12_readKey_21 0 rfl ?_
        refine V_aload_n 22 B dX12_readKey_22 0 rfl ?_
        refine V_get 23 B gf_RX12_270 0 rfl rfl dX12_readKey_23 ?_
        refine V_cvi 26 B (st := []) (As := [.int (nI k10)]) (fun sz => rX12_byteAt l D Y h0 h1 h2 h3 h4 h5 h6 p2 k5 k6 p7 p8 1 k10 p11 q12 k15 k16 f0 f1 f3 f4 f13 f14 ph HI (by omega) HP k10 (by omega) sz) glV_RX12_267 ⟨rfl, rfl⟩ ⟨(Nat.le_of_ble_eq_true rfl), (Nat.le_of_ble_eq_true rfl)⟩ ⟨(Nat.le_of_ble_eq_true rfl), (Nat.le_of_ble_eq_true rfl)⟩ [0, 0, 0, 0, 0, 0, 0] rfl 13 0 rfl rfl rfl rfl (Nat.le_of_ble_eq_true rfl) rfl (fun _ _ _ => rfl) dX12_readKey_26 (fun j19 u20 w21 => ?_)
        refine V_ws [(h0, oC 13 [.ref h1, .ref h2, .int p2, .ref h3, .ref h4, .int (nI k5), .int (nI k6), .int p7, .int p8, .int 1, .int (nI k10), .int p11, .long q12, .ref h5, .ref h6, .int (nI k15), .int (nI k16)]), (h1, aI Y 3640 f0), (h2, aZ Y 2 f1), (h3, aZ Y 80 f3), (h4, aB Y 1600 f4), (h5, aI Y 200 f13), (h6, aI Y 800 f14)] rfl ?_
        have x22 := w21
        clear w21
        have x23 : -1 ≤ j19.toInt ∧ j19.toInt ≤ 255 := by rw [x22]; exact BY_rng _ _ _
        refine V_csi 29 B (st := []) (As := [.int j19]) (fun sz => rX12_isSmall l D Y j19 sz) glS_RX12_253 ⟨rfl, rfl⟩ ⟨(Nat.le_of_ble_eq_true rfl), (Nat.le_of_ble_eq_true rfl)⟩ ⟨(Nat.le_of_ble_eq_true rfl), (Nat.le_of_ble_eq_true rfl)⟩ [] rfl rfl (Nat.le_of_ble_eq_true rfl) rfl (fun _ _ _ => rfl) dX12_readKey_29 (fun j24 u25 w26 => ?_)
        refine V_ws [(h0, oC 13 [.ref h1, .ref h2, .int p2, .ref h3, .ref h4, .int (nI k5), .int (nI k6), .int p7, .int p8, .int 1, .int (nI k10), .int p11, .long q12, .ref h5, .ref h6, .int (nI k15), .int (nI k16)]), (h1, aI Y 3640 f0), (h2, aZ Y 2 f1), (h3, aZ Y 80 f3), (h4, aB Y 1600 f4), (h5, aI Y 200 f13), (h6, aI Y 800 f14)] rfl ?_
        have x27 := w26
        clear w26
        rcases x27 with ⟨rfl, x28⟩ | ⟨rfl, x28⟩
        ·
          refine V_if_ne_f 32 B 41 dX12_readKey_32 (by decide) (by decide +kernel) ?_
          refine V_aload_n 35 B dX12_readKey_35 0 rfl ?_
          refine V_iconst 36 B (v := 1) dX12_readKey_36 (by decide +kernel) ?_
          refine V_cvi 37 B (st := []) (As := [.int 1]) (fun sz => rX12_fail l D Y h0 h1 h2 h3 h4 h5 h6 p2 k5 k6 p7 p8 1 k10 p11 q12 k15 k16 f0 f1 f3 f4 f13 f14 ph HI (by omega) HP 1 sz) glV_RX12_291 ⟨rfl, rfl⟩ ⟨(Nat.le_of_ble_eq_true rfl), (Nat.le_of_ble_eq_true rfl)⟩ ⟨(Nat.le_of_ble_eq_true rfl), (Nat.le_of_ble_eq_true rfl)⟩ [0, 0, 0, 0, 0, 0, 0] rfl 13 0 rfl rfl rfl rfl (Nat.le_of_ble_eq_true rfl) rfl (fun _ _ _ => rfl) dX12_readKey_37 (fun j29 u30 w31 => ?_)
          refine V_ws [(h0, oC 13 [.ref h1, .ref h2, .int p2, .ref h3, .ref h4, .int (nI k5), .int (nI k6), .int (u30.2.1 0), .int (u30.2.1 1), .int 1, .int (nI k10), .int p11, .long q12, .ref h5, .ref h6, .int (nI k15), .int (nI k16)]), (h1, aI Y 3640 f0), (h2, aZ Y 2 f1), (h3, aZ Y 80 f3), (h4, aB Y 1600 f4), (h5, aI Y 200 f13), (h6, aI Y 800 f14)] rfl ?_
          have x32 := w31
          clear w31
          obtain rfl := x32
          exact V_zret 40 B rfl dX12_readKey_40 (mkW [k6, k10] [(u30.2.1 0), (u30.2.1 1), 1, p11] [q12] [] [] []) ⟨(Or.inl rfl), (show k10 ≤ k10 by omega), (show k10 ≤ k6 by omega), (show k6 ≤ k5 by omega), (Or.inr (show k10 < k6 by first | omega | exact (Or.resolve_left hx2 (by decide))))⟩ rfl
        ·
          refine V_if_ne_t 32 B 41 dX12_readKey_32 (by decide) (by decide +kernel) ?_
          refine V_aload_n 41 B dX12_readKey_41 0 rfl ?_
          refine V_aload_n 42 B dX12_readKey_42 0 rfl ?_
          refine V_aload_n 43 B dX12_readKey_43 0 rfl ?_
          refine V_get 44 B gf_RX12_270 0 rfl rfl dX12_readKey_44 ?_
          refine V_cvi 47 B (st := [.ref h0]) (As := [.int (nI k10)]) (fun sz => rX12_byteAt l D Y h0 h1 h2 h3 h4 h5 h6 p2 k5 k6 p7 p8 1 k10 p11 q12 k15 k16 f0 f1 f3 f4 f13 f14 ph HI (by omega) HP k10 (by omega) sz) glV_RX12_267 ⟨rfl, rfl⟩ ⟨(Nat.le_of_ble_eq_true rfl), (Nat.le_of_ble_eq_true rfl)⟩ ⟨(Nat.le_of_ble_eq_true rfl), (Nat.le_of_ble_eq_true rfl)⟩ [0, 0, 0, 0, 0, 0, 0] rfl 13 0 rfl rfl rfl rfl (Nat.le_of_ble_eq_true rfl) rfl (fun _ _ _ => rfl) dX12_readKey_47 (fun j33 u34 w35 => ?_)
          refine V_ws [(h0, oC 13 [.ref h1, .ref h2, .int p2, .ref h3, .ref h4, .int (nI k5), .int (nI k6), .int p7, .int p8, .int 1, .int (nI k10), .int p11, .long q12, .ref h5, .ref h6, .int (nI k15), .int (nI k16)]), (h1, aI Y 3640 f0), (h2, aZ Y 2 f1), (h3, aZ Y 80 f3), (h4, aB Y 1600 f4), (h5, aI Y 200 f13), (h6, aI Y 800 f14)] rfl ?_
          have x36 := w35
          clear w35
          have x37 : -1 ≤ j33.toInt ∧ j33.toInt ≤ 255 := by rw [x36]; exact BY_rng _ _ _
          refine V_bipush 50 B (v := 97) dX12_readKey_50 (by decide +kernel) ?_
          have x38 : j33.toInt = j19.toInt := by rw [x36, x22]
          refine V_isub 52 B dX12_readKey_52 rfl ?_
          refine V_nmi (fun j39 e40 => ?_)
          have x41 : j39.toInt = j33.toInt - 97 := by rw [e40]; exact o_sub (c := 97) (lo := (-1)) (hi := 255) (by omega) (by omega) (by decide) (by decide)
          refine V_put 53 B gp_RX12_294 0 rfl (Nat.le_of_ble_eq_true rfl) rfl rfl dX12_readKey_53 [(h0, oC 13 [.ref h1, .ref h2, .int p2, .ref h3, .ref h4, .int (nI k5), .int (nI k6), .int p7, .int p8, .int 1, .int (nI k10), .int j39, .long q12, .ref h5, .ref h6, .int (nI k15), .int (nI k16)]), (h1, aI Y 3640 f0), (h2, aZ Y 2 f1), (h3, aZ Y 80 f3), (h4, aB Y 1600 f4), (h5, aI Y 200 f13), (h6, aI Y 800 f14)] rfl ?_
          have x42 : k10 < k6 := by
            rcases hx2 with z | z
            · first | contradiction | exact absurd z (by decide) | omega
            · exact z
          refine V_aload_n 56 B dX12_readKey_56 0 rfl ?_
          refine V_cvv 57 B (st := []) (As := []) (fun sz => rX12_advance l D Y h0 h1 h2 h3 h4 h5 h6 p2 k5 k6 p7 p8 1 k10 j39 q12 k15 k16 f0 f1 f3 f4 f13 f14 ph HI (by omega) HP (by omega) sz) glV_RX12_288 ⟨rfl, rfl⟩ ⟨(Nat.le_of_ble_eq_true rfl), (Nat.le_of_ble_eq_true rfl)⟩ ⟨(Nat.le_of_ble_eq_true rfl), (Nat.le_of_ble_eq_true rfl)⟩ [0, 0, 0, 0, 0, 0, 0] rfl 13 0 rfl rfl rfl rfl (Nat.le_of_ble_eq_true rfl) rfl (fun _ _ => rfl) dX12_readKey_57 (fun u44 w45 => ?_)
          refine V_ws [(h0, oC 13 [.ref h1, .ref h2, .int p2, .ref h3, .ref h4, .int (nI k5), .int (nI (u44.1 0)), .int p7, .int p8, .int (u44.2.1 0), .int (nI (u44.1 1)), .int j39, .long (u44.2.2.1 0), .ref h5, .ref h6, .int (nI k15), .int (nI k16)]), (h1, aI Y 3640 f0), (h2, aZ Y 2 f1), (h3, aZ Y 80 f3), (h4, aB Y 1600 f4), (h5, aI Y 200 f13), (h6, aI Y 800 f14)] rfl ?_
          obtain ⟨x46, x47, x48, x49⟩ := w45
          refine V_iconst 60 B (v := 1) dX12_readKey_60 (by decide +kernel) ?_
          exact V_zret 61 B rfl dX12_readKey_61 (mkW [(u44.1 0), (u44.1 1)] [p7, p8, (u44.2.1 0), j39] [(u44.2.2.1 0)] [] [] []) ⟨(Or.inr ⟨rfl, (show k10 < (u44.1 1) by omega), (show 0 ≤ (j39 : Int32).toInt ∧ (j39 : Int32).toInt ≤ 25 by omega)⟩), (show k10 ≤ (u44.1 1) by omega), (show (u44.1 1) ≤ (u44.1 0) by omega), (show (u44.1 0) ≤ k5 by omega), (show ((u44.2.1 0) = 0 ∨ (u44.1 1) < (u44.1 0)) by first | assumption | exact Or.inr (by omega))⟩ rfl)
theorem dX12_readMode_0 : decode cX12_readMode 0 = .ok (.aload_n 0, 1) := by decide +kernel
theorem dX12_readMode_1 : decode cX12_readMode 1 = .ok (.getfield 9, 3) := by decide +kernel
theorem dX12_readMode_4 : decode cX12_readMode 4 = .ok (.sipush 2718, 3) := by decide +kernel
theorem dX12_readMode_7 : decode cX12_readMode 7 = .ok (.iaload, 1) := by decide +kernel
theorem dX12_readMode_8 : decode cX12_readMode 8 = .ok (.bipush 6, 2) := by decide +kernel
theorem dX12_readMode_10 : decode cX12_readMode 10 = .ok (.if_icmp .ne 9, 3) := by decide +kernel
theorem dX12_readMode_19 : decode cX12_readMode 19 = .ok (.aload_n 0, 1) := by decide +kernel
theorem dX12_readMode_20 : decode cX12_readMode 20 = .ok (.invokevirtual 288, 3) := by decide +kernel
theorem dX12_readMode_23 : decode cX12_readMode 23 = .ok (.aload_n 0, 1) := by decide +kernel
theorem dX12_readMode_24 : decode cX12_readMode 24 = .ok (.iconst 0, 1) := by decide +kernel
theorem dX12_readMode_25 : decode cX12_readMode 25 = .ok (.aload_n 0, 1) := by decide +kernel
theorem dX12_readMode_26 : decode cX12_readMode 26 = .ok (.getfield 9, 3) := by decide +kernel
theorem dX12_readMode_29 : decode cX12_readMode 29 = .ok (.sipush 2718, 3) := by decide +kernel
theorem dX12_readMode_32 : decode cX12_readMode 32 = .ok (.iaload, 1) := by decide +kernel
theorem dX12_readMode_33 : decode cX12_readMode 33 = .ok (.iconst 1, 1) := by decide +kernel
theorem dX12_readMode_34 : decode cX12_readMode 34 = .ok (.isub, 1) := by decide +kernel
theorem dX12_readMode_35 : decode cX12_readMode 35 = .ok (.invokevirtual 301, 3) := by decide +kernel
theorem glV_RX12_301 : GLV RX12 301 yX12_readNumber RX12 cX12_readNumber 3 (some .boolean) 2 := ⟨⟨(mT10 0 rfl rfl), (mT10 2 rfl rfl), (mTs 79 rfl rfl), (mT1 13 rfl rfl), (mT10 3 rfl rfl)⟩, by decide +kernel⟩
theorem dX12_readMode_38 : decode cX12_readMode 38 = .ok (.ifCond .ne 5, 3) := by decide +kernel
theorem dX12_readMode_41 : decode cX12_readMode 41 = .ok (.iconst 0, 1) := by decide +kernel
theorem dX12_readMode_42 : decode cX12_readMode 42 = .ok (.ireturn, 1) := by decide +kernel
theorem dX12_readMode_43 : decode cX12_readMode 43 = .ok (.aload_n 0, 1) := by decide +kernel
theorem dX12_readMode_44 : decode cX12_readMode 44 = .ok (.getfield 9, 3) := by decide +kernel
theorem dX12_readMode_47 : decode cX12_readMode 47 = .ok (.sipush 2734, 3) := by decide +kernel
theorem dX12_readMode_50 : decode cX12_readMode 50 = .ok (.aload_n 0, 1) := by decide +kernel
theorem dX12_readMode_51 : decode cX12_readMode 51 = .ok (.getfield 9, 3) := by decide +kernel
theorem dX12_readMode_54 : decode cX12_readMode 54 = .ok (.sipush 2718, 3) := by decide +kernel
theorem dX12_readMode_57 : decode cX12_readMode 57 = .ok (.iaload, 1) := by decide +kernel
theorem dX12_readMode_58 : decode cX12_readMode 58 = .ok (.iadd, 1) := by decide +kernel
theorem dX12_readMode_59 : decode cX12_readMode 59 = .ok (.aload_n 0, 1) := by decide +kernel
theorem dX12_readMode_60 : decode cX12_readMode 60 = .ok (.getfield 294, 3) := by decide +kernel
theorem gf_RX12_294 : GF RX12 294 13 11 := ⟨RX12, TX12, 17, rfl, inw_X12, Nat.le_of_ble_eq_true rfl, (mT7 148 rfl rfl)⟩
theorem dX12_readMode_63 : decode cX12_readMode 63 = .ok (.iastore, 1) := by decide +kernel
theorem rl26 : ∀ z0, z0 < 6 → 1 ≤ z0 → bd (2734 + z0) = (-1, (z0 : Int) - 1) := by decide +kernel
theorem dX12_readMode_64 : decode cX12_readMode 64 = .ok (.aload_n 0, 1) := by decide +kernel
theorem dX12_readMode_65 : decode cX12_readMode 65 = .ok (.getfield 9, 3) := by decide +kernel
theorem dX12_readMode_68 : decode cX12_readMode 68 = .ok (.sipush 2718, 3) := by decide +kernel
theorem dX12_readMode_71 : decode cX12_readMode 71 = .ok (.dup2, 1) := by decide +kernel
theorem dX12_readMode_72 : decode cX12_readMode 72 = .ok (.iaload, 1) := by decide +kernel
theorem dX12_readMode_73 : decode cX12_readMode 73 = .ok (.iconst 1, 1) := by decide +kernel
theorem dX12_readMode_74 : decode cX12_readMode 74 = .ok (.iadd, 1) := by decide +kernel
theorem dX12_readMode_75 : decode cX12_readMode 75 = .ok (.iastore, 1) := by decide +kernel
theorem dX12_readMode_76 : decode cX12_readMode 76 = .ok (.aload_n 0, 1) := by decide +kernel
theorem dX12_readMode_77 : decode cX12_readMode 77 = .ok (.invokevirtual 304, 3) := by decide +kernel
theorem glV_RX12_304 : GLV RX12 304 yX12_readEnd RX12 cX12_readEnd 1 (some .boolean) 0 := ⟨⟨(mT10 4 rfl rfl), (mT10 6 rfl rfl), (mTs 80 rfl rfl), (mT1 13 rfl rfl), (mT10 7 rfl rfl)⟩, by decide +kernel⟩
theorem dX12_readMode_80 : decode cX12_readMode 80 = .ok (.ireturn, 1) := by decide +kernel
theorem dX12_readMode_13 : decode cX12_readMode 13 = .ok (.aload_n 0, 1) := by decide +kernel
theorem dX12_readMode_14 : decode cX12_readMode 14 = .ok (.iconst 3, 1) := by decide +kernel
theorem dX12_readMode_15 : decode cX12_readMode 15 = .ok (.invokevirtual 291, 3) := by decide +kernel
theorem dX12_readMode_18 : decode cX12_readMode 18 = .ok (.ireturn, 1) := by decide +kernel
set_option maxRecDepth 100000 in
set_option maxHeartbeats 4000000 in
theorem rX12_readMode (l : Launch) (D : va_G) (Y : Nat → ClassId) (h0 : Nat) (h1 : Nat) (h2 : Nat) (h3 : Nat) (h4 : Nat) (h5 : Nat) (h6 : Nat) (p2 : Int32) (k5 : Nat) (k6 : Nat) (p7 : Int32) (p8 : Int32) (p9 : Int32) (k10 : Nat) (p11 : Int32) (q12 : Int64) (k15 : Nat) (k16 : Nat) (f0 : Nat → Int32) (f1 : Nat → Int32) (f3 : Nat → Int32) (f4 : Nat → Int32) (f13 : Nat → Int32) (f14 : Nat → Int32) (ph : Nat → Int32) (HI : INV ph f0) (HL : k5 ≤ 1600) (HP : PLV f13)  (hx0 : k10 ≤ k6) (hx1 : k6 ≤ k5) (hx2 : (p9 = 0 ∨ k10 < k6)) (hx3 : k10 < k6) (sz : Nat) : Met l yX12_readMode (WSm yX12_readMode cX12_readMode 1 (some .boolean)) (mkR 5 0 0 108) (PreC D Y [.ref h0] [(h0, oC 13 [.ref h1, .ref h2, .int p2, .ref h3, .ref h4, .int (nI k5), .int (nI k6), .int p7, .int p8, .int p9, .int (nI k10), .int p11, .long q12, .ref h5, .ref h6, .int (nI k15), .int (nI k16)]), (h1, aI Y 3640 f0), (h2, aZ Y 2 f1), (h3, aZ Y 80 f3), (h4, aB Y 1600 f4), (h5, aI Y 200 f13), (h6, aI Y 800 f14)] sz) (QI D (fun (r : Int32) (u : WU) => (r = 0 ∨ (r = 1 ∧ k10 < (u.1 1))) ∧ INV ph (u.2.2.2.1 0) ∧ k10 ≤ (u.1 1) ∧ (u.1 1) ≤ (u.1 0) ∧ (u.1 0) ≤ k5 ∧ ((u.2.1 2) = 0 ∨ (u.1 1) < (u.1 0))) (fun (u : WU) => [(h0, oC 13 [.ref h1, .ref h2, .int p2, .ref h3, .ref h4, .int (nI k5), .int (nI (u.1 0)), .int (u.2.1 0), .int (u.2.1 1), .int (u.2.1 2), .int (nI (u.1 1)), .int (u.2.1 3), .long (u.2.2.1 0), .ref h5, .ref h6, .int (nI k15), .int (nI k16)]), (h1, aI Y 3640 (u.2.2.2.1 0)), (h2, aZ Y 2 f1), (h3, aZ Y 80 f3), (h4, aB Y 1600 f4), (h5, aI Y 200 f13), (h6, aI Y 800 f14)]) (va_A [(h0, oC 13 [.ref h1, .ref h2, .int p2, .ref h3, .ref h4, .int (nI k5), .int (nI k6), .int p7, .int p8, .int p9, .int (nI k10), .int p11, .long q12, .ref h5, .ref h6, .int (nI k15), .int (nI k16)]), (h1, aI Y 3640 f0), (h2, aZ Y 2 f1), (h3, aZ Y 80 f3), (h4, aB Y 1600 f4), (h5, aI Y 200 f13), (h6, aI Y 800 f14)] sz)) 0 0 (va_A [(h0, oC 13 [.ref h1, .ref h2, .int p2, .ref h3, .ref h4, .int (nI k5), .int (nI k6), .int p7, .int p8, .int p9, .int (nI k10), .int p11, .long q12, .ref h5, .ref h6, .int (nI k15), .int (nI k16)]), (h1, aI Y 3640 f0), (h2, aZ Y 2 f1), (h3, aZ Y 80 f3), (h4, aB Y 1600 f4), (h5, aI Y 200 f13), (h6, aI Y 800 f14)] sz) :=
  met_of  (by decide +kernel) (Nat.le_of_ble_eq_true rfl) (fun p e s m args below meth c B hin hsz => by
    have B : VB p s m args meth c D Y (va_A [(h0, oC 13 [.ref h1, .ref h2, .int p2, .ref h3, .ref h4, .int (nI k5), .int (nI k6), .int p7, .int p8, .int p9, .int (nI k10), .int p11, .long q12, .ref h5, .ref h6, .int (nI k15), .int (nI k16)]), (h1, aI Y 3640 f0), (h2, aZ Y 2 f1), (h3, aZ Y 80 f3), (h4, aB Y 1600 f4), (h5, aI Y 200 f13), (h6, aI Y 800 f14)] sz) cX12_readMode 1 RX12 (some .boolean) := B
    refine V_aload_n 0 B dX12_readMode_0 0 rfl ?_
    refine V_get 1 B gf_RX12_9 0 rfl rfl dX12_readMode_1 ?_
    refine V_sipush 4 B (v := 2718) dX12_readMode_4 (by decide +kernel) ?_
    have x0 : (gN f0 2718) ≤ 6 := gN_le HI (by omega) (show bd 2718 = (0, ((6 : Nat) : Int)) by decide +kernel)
    refine V_iald 7 B (v := (nI (gN f0 2718))) 1 rfl (vpin _ _ (by decide +kernel)) dX12_readMode_7 (by show f0 2718 = _; exact gN_eq HI (by omega) (show bd 2718 = (0, ((6 : Nat) : Int)) by decide +kernel)) ?_
    refine V_bipush 8 B (v := 6) dX12_readMode_8 (by decide +kernel) ?_
    refine V_icmp_ne 10 B 19 dX12_readMode_10 (by decide) (fun kk1 => ?_) (fun kk1 => ?_)
    ·
      have x2 := n_ne (a := (gN f0 2718)) (b := 6) kk1
      refine V_aload_n 19 B dX12_readMode_19 0 rfl ?_
      refine V_cvv 20 B (st := []) (As := []) (fun sz => rX12_advance l D Y h0 h1 h2 h3 h4 h5 h6 p2 k5 k6 p7 p8 p9 k10 p11 q12 k15 k16 f0 f1 f3 f4 f13 f14 ph HI (by omega) HP (by omega) sz) glV_RX12_288 ⟨rfl, rfl⟩ ⟨(Nat.le_of_ble_eq_true rfl), (Nat.le_of_ble_eq_true rfl)⟩ ⟨(Nat.le_of_ble_eq_true rfl), (Nat.le_of_ble_eq_true rfl)⟩ [0, 0, 0, 0, 0, 0, 0] rfl 13 0 rfl rfl rfl rfl (Nat.le_of_ble_eq_true rfl) rfl (fun _ _ => rfl) dX12_readMode_20 (fun u4 w5 => ?_)
      refine V_ws [(h0, oC 13 [.ref h1, .ref h2, .int p2, .ref h3, .ref h4, .int (nI k5), .int (nI (u4.1 0)), .int p7, .int p8, .int (u4.2.1 0), .int (nI (u4.1 1)), .int p11, .long (u4.2.2.1 0), .ref h5, .ref h6, .int (nI k15), .int (nI k16)]), (h1, aI Y 3640 f0), (h2, aZ Y 2 f1), (h3, aZ Y 80 f3), (h4, aB Y 1600 f4), (h5, aI Y 200 f13), (h6, aI Y 800 f14)] rfl ?_
      obtain ⟨x6, x7, x8, x9⟩ := w5
      refine V_aload_n 23 B dX12_readMode_23 0 rfl ?_
      refine V_iconst 24 B (v := 0) dX12_readMode_24 (by decide +kernel) ?_
      refine V_aload_n 25 B dX12_readMode_25 0 rfl ?_
      refine V_get 26 B gf_RX12_9 0 rfl rfl dX12_readMode_26 ?_
      refine V_sipush 29 B (v := 2718) dX12_readMode_29 (by decide +kernel) ?_
      have x10 : (gN f0 2718) ≤ 6 := gN_le HI (by omega) (show bd 2718 = (0, ((6 : Nat) : Int)) by decide +kernel)
      refine V_iald 32 B (v := (nI (gN f0 2718))) 1 rfl (vpin _ _ (by decide +kernel)) dX12_readMode_32 (by show f0 2718 = _; exact gN_eq HI (by omega) (show bd 2718 = (0, ((6 : Nat) : Int)) by decide +kernel)) ?_
      refine V_iconst 33 B (v := 1) dX12_readMode_33 (by decide +kernel) ?_
      refine V_isub 34 B dX12_readMode_34 rfl ?_
      refine V_nmi (fun j11 e12 => ?_)
      have x13 : j11.toInt = (((gN f0 2718) : Nat) : Int) - ((1 : Nat) : Int) := by rw [e12]; exact nI_subT (a := (gN f0 2718)) (b := 1) (by omega) (by omega)
      refine V_cvi 35 B (st := []) (As := [.int 0, .int j11]) (fun sz => rX12_readNumber l D Y h0 h1 h2 h3 h4 h5 h6 p2 k5 (u4.1 0) p7 p8 (u4.2.1 0) (u4.1 1) p11 (u4.2.2.1 0) k15 k16 f0 f1 f3 f4 f13 f14 ph HI (by omega) HP 0 j11 (by omega) (by omega) (by first | assumption | exact Or.inl rfl | exact Or.inr (by omega)) (by decide +kernel) sz) glV_RX12_301 ⟨rfl, rfl⟩ ⟨(Nat.le_of_ble_eq_true rfl), (Nat.le_of_ble_eq_true rfl)⟩ ⟨(Nat.le_of_ble_eq_true rfl), (Nat.le_of_ble_eq_true rfl)⟩ [0, 0, 0, 0, 0, 0, 0] rfl 13 0 rfl rfl rfl rfl (Nat.le_of_ble_eq_true rfl) rfl (fun _ _ _ => rfl) dX12_readMode_35 (fun j14 u15 w16 => ?_)
      refine V_ws [(h0, oC 13 [.ref h1, .ref h2, .int p2, .ref h3, .ref h4, .int (nI k5), .int (nI (u15.1 0)), .int (u15.2.1 0), .int (u15.2.1 1), .int (u15.2.1 2), .int (nI (u15.1 1)), .int (u15.2.1 3), .long (u15.2.2.1 0), .ref h5, .ref h6, .int (nI k15), .int (nI k16)]), (h1, aI Y 3640 f0), (h2, aZ Y 2 f1), (h3, aZ Y 80 f3), (h4, aB Y 1600 f4), (h5, aI Y 200 f13), (h6, aI Y 800 f14)] rfl ?_
      obtain ⟨x17, x18, x19, x20, x21⟩ := w16
      rcases x17 with rfl | ⟨rfl, x22, x23⟩
      ·
        refine V_if_ne_f 38 B 43 dX12_readMode_38 (by decide) (by decide +kernel) ?_
        refine V_iconst 41 B (v := 0) dX12_readMode_41 (by decide +kernel) ?_
        exact V_zret 42 B rfl dX12_readMode_42 (mkW [(u15.1 0), (u15.1 1)] [(u15.2.1 0), (u15.2.1 1), (u15.2.1 2), (u15.2.1 3)] [(u15.2.2.1 0)] [f0] [] []) ⟨(Or.inl rfl), HI, (show k10 ≤ (u15.1 1) by omega), (show (u15.1 1) ≤ (u15.1 0) by omega), (show (u15.1 0) ≤ k5 by omega), (show ((u15.2.1 2) = 0 ∨ (u15.1 1) < (u15.1 0)) by first | assumption | exact Or.inr (by omega))⟩ rfl
      ·
        have e24 : (0 : Int32).toInt = 0 := by decide +kernel
        generalize u15.2.1 3 = j25 at *
        refine V_if_ne_t 38 B 43 dX12_readMode_38 (by decide) (by decide +kernel) ?_
        refine V_aload_n 43 B dX12_readMode_43 0 rfl ?_
        refine V_get 44 B gf_RX12_9 0 rfl rfl dX12_readMode_44 ?_
        refine V_sipush 47 B (v := 2734) dX12_readMode_47 (by decide +kernel) ?_
        refine V_aload_n 50 B dX12_readMode_50 0 rfl ?_
        refine V_get 51 B gf_RX12_9 0 rfl rfl dX12_readMode_51 ?_
        refine V_sipush 54 B (v := 2718) dX12_readMode_54 (by decide +kernel) ?_
        have x26 : (gN f0 2718) ≤ 6 := gN_le HI (by omega) (show bd 2718 = (0, ((6 : Nat) : Int)) by decide +kernel)
        refine V_iald 57 B (v := (nI (gN f0 2718))) 1 rfl (vpin _ _ (by decide +kernel)) dX12_readMode_57 (by show f0 2718 = _; exact gN_eq HI (by omega) (show bd 2718 = (0, ((6 : Nat) : Int)) by decide +kernel)) ?_
        refine V_iadd 58 B (v := (nI (2734 + (gN f0 2718)))) dX12_readMode_58 (nI_addE (a := 2734) (b := (gN f0 2718)) (by omega)) ?_
        refine V_aload_n 59 B dX12_readMode_59 0 rfl ?_
        refine V_get 60 B gf_RX12_294 0 rfl rfl dX12_readMode_60 ?_
        have hv27 : INV ph (upd f0 (2734 + (gN f0 2718)) j25) := INV_upd HI (rl26 (gN f0 2718) (by omega) (by omega)) (by omega) (by omega)
        refine V_iast 63 B 1 rfl (vp_in_nI (n := 2734 + (gN f0 2718)) (by omega) (by decide)) dX12_readMode_63 [(h0, oC 13 [.ref h1, .ref h2, .int p2, .ref h3, .ref h4, .int (nI k5), .int (nI (u15.1 0)), .int (u15.2.1 0), .int (u15.2.1 1), .int (u15.2.1 2), .int (nI (u15.1 1)), .int j25, .long (u15.2.2.1 0), .ref h5, .ref h6, .int (nI k15), .int (nI k16)]), (h1, aI Y 3640 (upd f0 (2734 + (gN f0 2718)) j25)), (h2, aZ Y 2 f1), (h3, aZ Y 80 f3), (h4, aB Y 1600 f4), (h5, aI Y 200 f13), (h6, aI Y 800 f14)] (by rw [nI_clamp (show 2734 + (gN f0 2718) < 2 ^ 31 by omega)]; rfl) ?_
        refine V_aload_n 64 B dX12_readMode_64 0 rfl ?_
        refine V_get 65 B gf_RX12_9 0 rfl rfl dX12_readMode_65 ?_
        refine V_sipush 68 B (v := 2718) dX12_readMode_68 (by decide +kernel) ?_
        refine V_dup2_11 71 B dX12_readMode_71 rfl rfl ?_
        have x28 : (gN f0 2718) ≤ 6 := gN_le HI (by omega) (show bd 2718 = (0, ((6 : Nat) : Int)) by decide +kernel)
        refine V_iald 72 B (v := (nI (gN f0 2718))) 1 rfl (vpin _ _ (by decide +kernel)) dX12_readMode_72 (by show (upd f0 (2734 + (gN f0 2718)) j25) 2718 = _; rw [upd_ne (by omega)]; exact gN_eq HI (by omega) (show bd 2718 = (0, ((6 : Nat) : Int)) by decide +kernel)) ?_
        refine V_iconst 73 B (v := 1) dX12_readMode_73 (by decide +kernel) ?_
        refine V_iadd 74 B (v := (nI (1 + (gN f0 2718)))) dX12_readMode_74 (nI_addE (a := (gN f0 2718)) (b := 1) (by omega)) ?_
        have hv29 : INV ph (upd (upd f0 (2734 + (gN f0 2718)) j25) 2718 (nI (1 + (gN f0 2718)))) := INV_nat (v := 1 + (gN f0 2718)) hv27 (show bd 2718 = (0, ((6 : Nat) : Int)) by decide +kernel) (by omega) (by decide)
        refine V_iast 75 B 1 rfl (vpin _ _ (by decide +kernel)) dX12_readMode_75 [(h0, oC 13 [.ref h1, .ref h2, .int p2, .ref h3, .ref h4, .int (nI k5), .int (nI (u15.1 0)), .int (u15.2.1 0), .int (u15.2.1 1), .int (u15.2.1 2), .int (nI (u15.1 1)), .int j25, .long (u15.2.2.1 0), .ref h5, .ref h6, .int (nI k15), .int (nI k16)]), (h1, aI Y 3640 (upd (upd f0 (2734 + (gN f0 2718)) j25) 2718 (nI (1 + (gN f0 2718))))), (h2, aZ Y 2 f1), (h3, aZ Y 80 f3), (h4, aB Y 1600 f4), (h5, aI Y 200 f13), (h6, aI Y 800 f14)] rfl ?_
        refine V_aload_n 76 B dX12_readMode_76 0 rfl ?_
        refine V_cvi 77 B (st := []) (As := []) (fun sz => rX12_readEnd l D Y h0 h1 h2 h3 h4 h5 h6 p2 k5 (u15.1 0) (u15.2.1 0) (u15.2.1 1) (u15.2.1 2) (u15.1 1) j25 (u15.2.2.1 0) k15 k16 (upd (upd f0 (2734 + (gN f0 2718)) j25) 2718 (nI (1 + (gN f0 2718)))) f1 f3 f4 f13 f14 ph hv29 (by omega) HP (by omega) (by omega) (by first | assumption | exact Or.inl rfl | exact Or.inr (by omega)) sz) glV_RX12_304 ⟨rfl, rfl⟩ ⟨(Nat.le_of_ble_eq_true rfl), (Nat.le_of_ble_eq_true rfl)⟩ ⟨(Nat.le_of_ble_eq_true rfl), (Nat.le_of_ble_eq_true rfl)⟩ [0, 0, 0, 0, 0, 0, 0] rfl 13 0 rfl rfl rfl rfl (Nat.le_of_ble_eq_true rfl) rfl (fun _ _ _ => rfl) dX12_readMode_77 (fun j30 u31 w32 => ?_)
        refine V_ws [(h0, oC 13 [.ref h1, .ref h2, .int p2, .ref h3, .ref h4, .int (nI k5), .int (nI (u31.1 0)), .int (u31.2.1 0), .int (u31.2.1 1), .int (u31.2.1 2), .int (nI (u31.1 1)), .int j25, .long (u31.2.2.1 0), .ref h5, .ref h6, .int (nI k15), .int (nI k16)]), (h1, aI Y 3640 (upd (upd f0 (2734 + (gN f0 2718)) j25) 2718 (nI (1 + (gN f0 2718))))), (h2, aZ Y 2 f1), (h3, aZ Y 80 f3), (h4, aB Y 1600 f4), (h5, aI Y 200 f13), (h6, aI Y 800 f14)] rfl ?_
        obtain ⟨x33, x34, x35, x36, x37⟩ := w32
        rcases x33 with rfl | ⟨rfl, x38⟩
        ·
          exact V_zret 80 B rfl dX12_readMode_80 (mkW [(u31.1 0), (u31.1 1)] [(u31.2.1 0), (u31.2.1 1), (u31.2.1 2), j25] [(u31.2.2.1 0)] [(upd (upd f0 (2734 + (gN f0 2718)) j25) 2718 (nI (1 + (gN f0 2718))))] [] []) ⟨(Or.inl rfl), hv29, (show k10 ≤ (u31.1 1) by omega), (show (u31.1 1) ≤ (u31.1 0) by omega), (show (u31.1 0) ≤ k5 by omega), (show ((u31.2.1 2) = 0 ∨ (u31.1 1) < (u31.1 0)) by first | assumption | exact Or.inr (by omega))⟩ rfl
        ·
          exact V_zret 80 B rfl dX12_readMode_80 (mkW [(u31.1 0), (u31.1 1)] [(u31.2.1 0), (u31.2.1 1), (u31.2.1 2), j25] [(u31.2.2.1 0)] [(upd (upd f0 (2734 + (gN f0 2718)) j25) 2718 (nI (1 + (gN f0 2718))))] [] []) ⟨(Or.inr ⟨rfl, (show k10 < (u31.1 1) by omega)⟩), hv29, (show k10 ≤ (u31.1 1) by omega), (show (u31.1 1) ≤ (u31.1 0) by omega), (show (u31.1 0) ≤ k5 by omega), (show ((u31.2.1 2) = 0 ∨ (u31.1 1) < (u31.1 0)) by first | assumption | exact Or.inr (by omega))⟩ rfl
    ·
      have x39 := n_eq (a := (gN f0 2718)) (b := 6) kk1 (by omega) (by omega)
      refine V_aload_n 13 B dX12_readMode_13 0 rfl ?_
      refine V_iconst 14 B (v := 3) dX12_readMode_14 (by decide +kernel) ?_
      refine V_cvi 15 B (st := []) (As := [.int 3]) (fun sz => rX12_fail l D Y h0 h1 h2 h3 h4 h5 h6 p2 k5 k6 p7 p8 p9 k10 p11 q12 k15 k16 f0 f1 f3 f4 f13 f14 ph HI (by omega) HP 3 sz) glV_RX12_291 ⟨rfl, rfl⟩ ⟨(Nat.le_of_ble_eq_true rfl), (Nat.le_of_ble_eq_true rfl)⟩ ⟨(Nat.le_of_ble_eq_true rfl), (Nat.le_of_ble_eq_true rfl)⟩ [0, 0, 0, 0, 0, 0, 0] rfl 13 0 rfl rfl rfl rfl (Nat.le_of_ble_eq_true rfl) rfl (fun _ _ _ => rfl) dX12_readMode_15 (fun j40 u41 w42 => ?_)
      refine V_ws [(h0, oC 13 [.ref h1, .ref h2, .int p2, .ref h3, .ref h4, .int (nI k5), .int (nI k6), .int (u41.2.1 0), .int (u41.2.1 1), .int p9, .int (nI k10), .int p11, .long q12, .ref h5, .ref h6, .int (nI k15), .int (nI k16)]), (h1, aI Y 3640 f0), (h2, aZ Y 2 f1), (h3, aZ Y 80 f3), (h4, aB Y 1600 f4), (h5, aI Y 200 f13), (h6, aI Y 800 f14)] rfl ?_
      have x43 := w42
      clear w42
      obtain rfl := x43
      exact V_zret 18 B rfl dX12_readMode_18 (mkW [k6, k10] [(u41.2.1 0), (u41.2.1 1), p9, p11] [q12] [f0] [] []) ⟨(Or.inl rfl), HI, (show k10 ≤ k10 by omega), (show k10 ≤ k6 by omega), (show k6 ≤ k5 by omega), (show (p9 = 0 ∨ k10 < k6) by first | assumption | exact Or.inr (by omega))⟩ rfl)
theorem dX12_readCommand_0 : decode cX12_readCommand 0 = .ok (.aload_n 0, 1) := by decide +kernel
theorem dX12_readCommand_1 : decode cX12_readCommand 1 = .ok (.getfield 9, 3) := by decide +kernel
theorem dX12_readCommand_4 : decode cX12_readCommand 4 = .ok (.sipush 2719, 3) := by decide +kernel
theorem dX12_readCommand_7 : decode cX12_readCommand 7 = .ok (.iaload, 1) := by decide +kernel
theorem dX12_readCommand_8 : decode cX12_readCommand 8 = .ok (.bipush 40, 2) := by decide +kernel
theorem dX12_readCommand_10 : decode cX12_readCommand 10 = .ok (.if_icmp .ne 9, 3) := by decide +kernel
theorem dX12_readCommand_19 : decode cX12_readCommand 19 = .ok (.aload_n 0, 1) := by decide +kernel
theorem dX12_readCommand_20 : decode cX12_readCommand 20 = .ok (.invokevirtual 288, 3) := by decide +kernel
theorem dX12_readCommand_23 : decode cX12_readCommand 23 = .ok (.aload_n 0, 1) := by decide +kernel
theorem dX12_readCommand_24 : decode cX12_readCommand 24 = .ok (.iconst (-1), 1) := by decide +kernel
theorem dX12_readCommand_25 : decode cX12_readCommand 25 = .ok (.putfield 294, 3) := by decide +kernel
theorem dX12_readCommand_28 : decode cX12_readCommand 28 = .ok (.iload_n 1, 1) := by decide +kernel
theorem dX12_readCommand_29 : decode cX12_readCommand 29 = .ok (.iconst 1, 1) := by decide +kernel
theorem dX12_readCommand_30 : decode cX12_readCommand 30 = .ok (.if_icmp .ne 14, 3) := by decide +kernel
theorem dX12_readCommand_44 : decode cX12_readCommand 44 = .ok (.sipush 2752, 3) := by decide +kernel
theorem dX12_readCommand_47 : decode cX12_readCommand 47 = .ok (.iconst 3, 1) := by decide +kernel
theorem dX12_readCommand_48 : decode cX12_readCommand 48 = .ok (.aload_n 0, 1) := by decide +kernel
theorem dX12_readCommand_49 : decode cX12_readCommand 49 = .ok (.getfield 9, 3) := by decide +kernel
theorem dX12_readCommand_52 : decode cX12_readCommand 52 = .ok (.sipush 2719, 3) := by decide +kernel
theorem dX12_readCommand_55 : decode cX12_readCommand 55 = .ok (.iaload, 1) := by decide +kernel
theorem dX12_readCommand_56 : decode cX12_readCommand 56 = .ok (.imul, 1) := by decide +kernel
theorem dX12_readCommand_57 : decode cX12_readCommand 57 = .ok (.iadd, 1) := by decide +kernel
theorem dX12_readCommand_58 : decode cX12_readCommand 58 = .ok (.istore_n 2, 1) := by decide +kernel
theorem dX12_readCommand_59 : decode cX12_readCommand 59 = .ok (.aload_n 0, 1) := by decide +kernel
theorem dX12_readCommand_60 : decode cX12_readCommand 60 = .ok (.getfield 9, 3) := by decide +kernel
theorem dX12_readCommand_63 : decode cX12_readCommand 63 = .ok (.iload_n 2, 1) := by decide +kernel
theorem dX12_readCommand_64 : decode cX12_readCommand 64 = .ok (.iconst 0, 1) := by decide +kernel
theorem dX12_readCommand_65 : decode cX12_readCommand 65 = .ok (.iadd, 1) := by decide +kernel
theorem dX12_readCommand_66 : decode cX12_readCommand 66 = .ok (.iload_n 1, 1) := by decide +kernel
theorem dX12_readCommand_67 : decode cX12_readCommand 67 = .ok (.iastore, 1) := by decide +kernel
theorem rl27 : ∀ z0, z0 < 40 → bd (2752 + 3 * z0) = FREE := by decide +kernel
theorem dX12_readCommand_68 : decode cX12_readCommand 68 = .ok (.aload_n 0, 1) := by decide +kernel
theorem dX12_readCommand_69 : decode cX12_readCommand 69 = .ok (.getfield 9, 3) := by decide +kernel
theorem dX12_readCommand_72 : decode cX12_readCommand 72 = .ok (.iload_n 2, 1) := by decide +kernel
theorem dX12_readCommand_73 : decode cX12_readCommand 73 = .ok (.iconst 1, 1) := by decide +kernel
theorem dX12_readCommand_74 : decode cX12_readCommand 74 = .ok (.iadd, 1) := by decide +kernel
theorem dX12_readCommand_75 : decode cX12_readCommand 75 = .ok (.aload_n 0, 1) := by decide +kernel
theorem dX12_readCommand_76 : decode cX12_readCommand 76 = .ok (.getfield 294, 3) := by decide +kernel
theorem dX12_readCommand_79 : decode cX12_readCommand 79 = .ok (.iastore, 1) := by decide +kernel
theorem rl28 : ∀ z0, z0 < 40 → bd (2753 + 3 * z0) = ((-1), 5) := by decide +kernel
theorem dX12_readCommand_80 : decode cX12_readCommand 80 = .ok (.aload_n 0, 1) := by decide +kernel
theorem dX12_readCommand_81 : decode cX12_readCommand 81 = .ok (.getfield 9, 3) := by decide +kernel
theorem dX12_readCommand_84 : decode cX12_readCommand 84 = .ok (.sipush 2719, 3) := by decide +kernel
theorem dX12_readCommand_87 : decode cX12_readCommand 87 = .ok (.dup2, 1) := by decide +kernel
theorem dX12_readCommand_88 : decode cX12_readCommand 88 = .ok (.iaload, 1) := by decide +kernel
theorem dX12_readCommand_89 : decode cX12_readCommand 89 = .ok (.iconst 1, 1) := by decide +kernel
theorem dX12_readCommand_90 : decode cX12_readCommand 90 = .ok (.iadd, 1) := by decide +kernel
theorem dX12_readCommand_91 : decode cX12_readCommand 91 = .ok (.iastore, 1) := by decide +kernel
theorem dX12_readCommand_92 : decode cX12_readCommand 92 = .ok (.aload_n 0, 1) := by decide +kernel
theorem dX12_readCommand_93 : decode cX12_readCommand 93 = .ok (.invokevirtual 304, 3) := by decide +kernel
theorem dX12_readCommand_96 : decode cX12_readCommand 96 = .ok (.ireturn, 1) := by decide +kernel
theorem dX12_readCommand_33 : decode cX12_readCommand 33 = .ok (.aload_n 0, 1) := by decide +kernel
theorem dX12_readCommand_34 : decode cX12_readCommand 34 = .ok (.iconst 0, 1) := by decide +kernel
theorem dX12_readCommand_35 : decode cX12_readCommand 35 = .ok (.iconst 5, 1) := by decide +kernel
theorem dX12_readCommand_36 : decode cX12_readCommand 36 = .ok (.invokevirtual 301, 3) := by decide +kernel
theorem dX12_readCommand_39 : decode cX12_readCommand 39 = .ok (.ifCond .ne 5, 3) := by decide +kernel
theorem dX12_readCommand_42 : decode cX12_readCommand 42 = .ok (.iconst 0, 1) := by decide +kernel
theorem dX12_readCommand_43 : decode cX12_readCommand 43 = .ok (.ireturn, 1) := by decide +kernel
theorem dX12_readCommand_13 : decode cX12_readCommand 13 = .ok (.aload_n 0, 1) := by decide +kernel
theorem dX12_readCommand_14 : decode cX12_readCommand 14 = .ok (.iconst 3, 1) := by decide +kernel
theorem dX12_readCommand_15 : decode cX12_readCommand 15 = .ok (.invokevirtual 291, 3) := by decide +kernel
theorem dX12_readCommand_18 : decode cX12_readCommand 18 = .ok (.ireturn, 1) := by decide +kernel
set_option maxRecDepth 100000 in
set_option maxHeartbeats 4000000 in
theorem rX12_readCommand (l : Launch) (D : va_G) (Y : Nat → ClassId) (h0 : Nat) (h1 : Nat) (h2 : Nat) (h3 : Nat) (h4 : Nat) (h5 : Nat) (h6 : Nat) (p2 : Int32) (k5 : Nat) (k6 : Nat) (p7 : Int32) (p8 : Int32) (p9 : Int32) (k10 : Nat) (p11 : Int32) (q12 : Int64) (k15 : Nat) (k16 : Nat) (f0 : Nat → Int32) (f1 : Nat → Int32) (f3 : Nat → Int32) (f4 : Nat → Int32) (f13 : Nat → Int32) (f14 : Nat → Int32) (ph : Nat → Int32) (HI : INV ph f0) (HL : k5 ≤ 1600) (HP : PLV f13) (s0 : Int32) (hx0 : k10 ≤ k6) (hx1 : k6 ≤ k5) (hx2 : (p9 = 0 ∨ k10 < k6)) (hx3 : k10 < k6) (sz : Nat) : Met l yX12_readCommand (WSm yX12_readCommand cX12_readCommand 3 (some .boolean)) (mkR 5 0 0 108) (PreC D Y [.ref h0, .int s0] [(h0, oC 13 [.ref h1, .ref h2, .int p2, .ref h3, .ref h4, .int (nI k5), .int (nI k6), .int p7, .int p8, .int p9, .int (nI k10), .int p11, .long q12, .ref h5, .ref h6, .int (nI k15), .int (nI k16)]), (h1, aI Y 3640 f0), (h2, aZ Y 2 f1), (h3, aZ Y 80 f3), (h4, aB Y 1600 f4), (h5, aI Y 200 f13), (h6, aI Y 800 f14)] sz) (QI D (fun (r : Int32) (u : WU) => (r = 0 ∨ (r = 1 ∧ k10 < (u.1 1))) ∧ INV ph (u.2.2.2.1 0) ∧ k10 ≤ (u.1 1) ∧ (u.1 1) ≤ (u.1 0) ∧ (u.1 0) ≤ k5 ∧ ((u.2.1 2) = 0 ∨ (u.1 1) < (u.1 0))) (fun (u : WU) => [(h0, oC 13 [.ref h1, .ref h2, .int p2, .ref h3, .ref h4, .int (nI k5), .int (nI (u.1 0)), .int (u.2.1 0), .int (u.2.1 1), .int (u.2.1 2), .int (nI (u.1 1)), .int (u.2.1 3), .long (u.2.2.1 0), .ref h5, .ref h6, .int (nI k15), .int (nI k16)]), (h1, aI Y 3640 (u.2.2.2.1 0)), (h2, aZ Y 2 f1), (h3, aZ Y 80 f3), (h4, aB Y 1600 f4), (h5, aI Y 200 f13), (h6, aI Y 800 f14)]) (va_A [(h0, oC 13 [.ref h1, .ref h2, .int p2, .ref h3, .ref h4, .int (nI k5), .int (nI k6), .int p7, .int p8, .int p9, .int (nI k10), .int p11, .long q12, .ref h5, .ref h6, .int (nI k15), .int (nI k16)]), (h1, aI Y 3640 f0), (h2, aZ Y 2 f1), (h3, aZ Y 80 f3), (h4, aB Y 1600 f4), (h5, aI Y 200 f13), (h6, aI Y 800 f14)] sz)) 0 0 (va_A [(h0, oC 13 [.ref h1, .ref h2, .int p2, .ref h3, .ref h4, .int (nI k5), .int (nI k6), .int p7, .int p8, .int p9, .int (nI k10), .int p11, .long q12, .ref h5, .ref h6, .int (nI k15), .int (nI k16)]), (h1, aI Y 3640 f0), (h2, aZ Y 2 f1), (h3, aZ Y 80 f3), (h4, aB Y 1600 f4), (h5, aI Y 200 f13), (h6, aI Y 800 f14)] sz) :=
  met_of  (by decide +kernel) (Nat.le_of_ble_eq_true rfl) (fun p e s m args below meth c B hin hsz => by
    have B : VB p s m args meth c D Y (va_A [(h0, oC 13 [.ref h1, .ref h2, .int p2, .ref h3, .ref h4, .int (nI k5), .int (nI k6), .int p7, .int p8, .int p9, .int (nI k10), .int p11, .long q12, .ref h5, .ref h6, .int (nI k15), .int (nI k16)]), (h1, aI Y 3640 f0), (h2, aZ Y 2 f1), (h3, aZ Y 80 f3), (h4, aB Y 1600 f4), (h5, aI Y 200 f13), (h6, aI Y 800 f14)] sz) cX12_readCommand 3 RX12 (some .boolean) := B
    refine V_aload_n 0 B dX12_readCommand_0 0 rfl ?_
    refine V_get 1 B gf_RX12_9 0 rfl rfl dX12_readCommand_1 ?_
    refine V_sipush 4 B (v := 2719) dX12_readCommand_4 (by decide +kernel) ?_
    have x0 : (gN f0 2719) ≤ 40 := gN_le HI (by omega) (show bd 2719 = (0, ((40 : Nat) : Int)) by decide +kernel)
    refine V_iald 7 B (v := (nI (gN f0 2719))) 1 rfl (vpin _ _ (by decide +kernel)) dX12_readCommand_7 (by show f0 2719 = _; exact gN_eq HI (by omega) (show bd 2719 = (0, ((40 : Nat) : Int)) by decide +kernel)) ?_
    refine V_bipush 8 B (v := 40) dX12_readCommand_8 (by decide +kernel) ?_
    refine V_icmp_ne 10 B 19 dX12_readCommand_10 (by decide) (fun kk1 => ?_) (fun kk1 => ?_)
    ·
      have x2 := n_ne (a := (gN f0 2719)) (b := 40) kk1
      refine V_aload_n 19 B dX12_readCommand_19 0 rfl ?_
      refine V_cvv 20 B (st := []) (As := []) (fun sz => rX12_advance l D Y h0 h1 h2 h3 h4 h5 h6 p2 k5 k6 p7 p8 p9 k10 p11 q12 k15 k16 f0 f1 f3 f4 f13 f14 ph HI (by omega) HP (by omega) sz) glV_RX12_288 ⟨rfl, rfl⟩ ⟨(Nat.le_of_ble_eq_true rfl), (Nat.le_of_ble_eq_true rfl)⟩ ⟨(Nat.le_of_ble_eq_true rfl), (Nat.le_of_ble_eq_true rfl)⟩ [0, 0, 0, 0, 0, 0, 0] rfl 13 0 rfl rfl rfl rfl (Nat.le_of_ble_eq_true rfl) rfl (fun _ _ => rfl) dX12_readCommand_20 (fun u4 w5 => ?_)
      refine V_ws [(h0, oC 13 [.ref h1, .ref h2, .int p2, .ref h3, .ref h4, .int (nI k5), .int (nI (u4.1 0)), .int p7, .int p8, .int (u4.2.1 0), .int (nI (u4.1 1)), .int p11, .long (u4.2.2.1 0), .ref h5, .ref h6, .int (nI k15), .int (nI k16)]), (h1, aI Y 3640 f0), (h2, aZ Y 2 f1), (h3, aZ Y 80 f3), (h4, aB Y 1600 f4), (h5, aI Y 200 f13), (h6, aI Y 800 f14)] rfl ?_
      obtain ⟨x6, x7, x8, x9⟩ := w5
      refine V_aload_n 23 B dX12_readCommand_23 0 rfl ?_
      refine V_iconst 24 B (v := (-1)) dX12_readCommand_24 (by decide +kernel) ?_
      refine V_put 25 B gp_RX12_294 0 rfl (Nat.le_of_ble_eq_true rfl) rfl rfl dX12_readCommand_25 [(h0, oC 13 [.ref h1, .ref h2, .int p2, .ref h3, .ref h4, .int (nI k5), .int (nI (u4.1 0)), .int p7, .int p8, .int (u4.2.1 0), .int (nI (u4.1 1)), .int (-1), .long (u4.2.2.1 0), .ref h5, .ref h6, .int (nI k15), .int (nI k16)]), (h1, aI Y 3640 f0), (h2, aZ Y 2 f1), (h3, aZ Y 80 f3), (h4, aB Y 1600 f4), (h5, aI Y 200 f13), (h6, aI Y 800 f14)] rfl ?_
      refine V_iload_n 28 B dX12_readCommand_28 1 rfl ?_
      refine V_iconst 29 B (v := 1) dX12_readCommand_29 (by decide +kernel) ?_
      refine V_icmp_ne 30 B 44 dX12_readCommand_30 (by decide) (fun kk10 => ?_) (fun kk10 => ?_)
      ·
        have x11 := x_ne kk10
        rw [show (1 : Int32).toInt = 1 by decide +kernel] at x11
        refine V_sipush 44 B (v := 2752) dX12_readCommand_44 (by decide +kernel) ?_
        refine V_iconst 47 B (v := 3) dX12_readCommand_47 (by decide +kernel) ?_
        refine V_aload_n 48 B dX12_readCommand_48 0 rfl ?_
        refine V_get 49 B gf_RX12_9 0 rfl rfl dX12_readCommand_49 ?_
        refine V_sipush 52 B (v := 2719) dX12_readCommand_52 (by decide +kernel) ?_
        have x12 : (gN f0 2719) ≤ 40 := gN_le HI (by omega) (show bd 2719 = (0, ((40 : Nat) : Int)) by decide +kernel)
        refine V_iald 55 B (v := (nI (gN f0 2719))) 1 rfl (vpin _ _ (by decide +kernel)) dX12_readCommand_55 (by show f0 2719 = _; exact gN_eq HI (by omega) (show bd 2719 = (0, ((40 : Nat) : Int)) by decide +kernel)) ?_
        refine V_imul 56 B (v := (nI (3 * (gN f0 2719)))) dX12_readCommand_56 (nI_mulE (a := 3) (b := (gN f0 2719)) (by omega)) ?_
        refine V_iadd 57 B (v := (nI (2752 + 3 * (gN f0 2719)))) dX12_readCommand_57 (nI_addE (a := 2752) (b := 3 * (gN f0 2719)) (by omega)) ?_
        refine V_istore_n 58 B (lv2 := [(2, .int (nI (2752 + 3 * (gN f0 2719)))), (0, .ref h0), (1, .int s0)]) dX12_readCommand_58 (by decide) rfl ?_
        refine V_aload_n 59 B dX12_readCommand_59 1 rfl ?_
        refine V_get 60 B gf_RX12_9 0 rfl rfl dX12_readCommand_60 ?_
        refine V_iload_n 63 B dX12_readCommand_63 0 rfl ?_
        refine V_iconst 64 B (v := 0) dX12_readCommand_64 (by decide +kernel) ?_
        refine V_iadd 65 B (v := (nI (2752 + 3 * (gN f0 2719)))) dX12_readCommand_65 (nI_addE (a := 2752 + 3 * (gN f0 2719)) (b := 0) (by omega)) ?_
        refine V_iload_n 66 B dX12_readCommand_66 2 rfl ?_
        have hv13 : INV ph (upd f0 (2752 + 3 * (gN f0 2719)) s0) := INV_free HI (rl27 (gN f0 2719) (by omega))
        refine V_iast 67 B 1 rfl (vp_in_nI (n := 2752 + 3 * (gN f0 2719)) (by omega) (by decide)) dX12_readCommand_67 [(h0, oC 13 [.ref h1, .ref h2, .int p2, .ref h3, .ref h4, .int (nI k5), .int (nI (u4.1 0)), .int p7, .int p8, .int (u4.2.1 0), .int (nI (u4.1 1)), .int (-1), .long (u4.2.2.1 0), .ref h5, .ref h6, .int (nI k15), .int (nI k16)]), (h1, aI Y 3640 (upd f0 (2752 + 3 * (gN f0 2719)) s0)), (h2, aZ Y 2 f1), (h3, aZ Y 80 f3), (h4, aB Y 1600 f4), (h5, aI Y 200 f13), (h6, aI Y 800 f14)] (by rw [nI_clamp (show 2752 + 3 * (gN f0 2719) < 2 ^ 31 by omega)]; rfl) ?_
        refine V_aload_n 68 B dX12_readCommand_68 1 rfl ?_
        refine V_get 69 B gf_RX12_9 0 rfl rfl dX12_readCommand_69 ?_
        refine V_iload_n 72 B dX12_readCommand_72 0 rfl ?_
        refine V_iconst 73 B (v := 1) dX12_readCommand_73 (by decide +kernel) ?_
        refine V_iadd 74 B (v := (nI (2753 + 3 * (gN f0 2719)))) dX12_readCommand_74 (nI_addE (a := 2752 + 3 * (gN f0 2719)) (b := 1) (by omega)) ?_
        refine V_aload_n 75 B dX12_readCommand_75 1 rfl ?_
        refine V_get 76 B gf_RX12_294 0 rfl rfl dX12_readCommand_76 ?_
        have hv14 : INV ph (upd (upd f0 (2752 + 3 * (gN f0 2719)) s0) (2753 + 3 * (gN f0 2719)) (-1)) := INV_upd hv13 (rl28 (gN f0 2719) (by omega)) (by decide +kernel) (by decide +kernel)
        refine V_iast 79 B 1 rfl (vp_in_nI (n := 2753 + 3 * (gN f0 2719)) (by omega) (by decide)) dX12_readCommand_79 [(h0, oC 13 [.ref h1, .ref h2, .int p2, .ref h3, .ref h4, .int (nI k5), .int (nI (u4.1 0)), .int p7, .int p8, .int (u4.2.1 0), .int (nI (u4.1 1)), .int (-1), .long (u4.2.2.1 0), .ref h5, .ref h6, .int (nI k15), .int (nI k16)]), (h1, aI Y 3640 (upd (upd f0 (2752 + 3 * (gN f0 2719)) s0) (2753 + 3 * (gN f0 2719)) (-1))), (h2, aZ Y 2 f1), (h3, aZ Y 80 f3), (h4, aB Y 1600 f4), (h5, aI Y 200 f13), (h6, aI Y 800 f14)] (by rw [nI_clamp (show 2753 + 3 * (gN f0 2719) < 2 ^ 31 by omega)]; rfl) ?_
        refine V_aload_n 80 B dX12_readCommand_80 1 rfl ?_
        refine V_get 81 B gf_RX12_9 0 rfl rfl dX12_readCommand_81 ?_
        refine V_sipush 84 B (v := 2719) dX12_readCommand_84 (by decide +kernel) ?_
        refine V_dup2_11 87 B dX12_readCommand_87 rfl rfl ?_
        have x15 : (gN f0 2719) ≤ 40 := gN_le HI (by omega) (show bd 2719 = (0, ((40 : Nat) : Int)) by decide +kernel)
        refine V_iald 88 B (v := (nI (gN f0 2719))) 1 rfl (vpin _ _ (by decide +kernel)) dX12_readCommand_88 (by show (upd (upd f0 (2752 + 3 * (gN f0 2719)) s0) (2753 + 3 * (gN f0 2719)) (-1)) 2719 = _; rw [upd_ne (by omega)]; rw [upd_ne (by omega)]; exact gN_eq HI (by omega) (show bd 2719 = (0, ((40 : Nat) : Int)) by decide +kernel)) ?_
        refine V_iconst 89 B (v := 1) dX12_readCommand_89 (by decide +kernel) ?_
        refine V_iadd 90 B (v := (nI (1 + (gN f0 2719)))) dX12_readCommand_90 (nI_addE (a := (gN f0 2719)) (b := 1) (by omega)) ?_
        have hv16 : INV ph (upd (upd (upd f0 (2752 + 3 * (gN f0 2719)) s0) (2753 + 3 * (gN f0 2719)) (-1)) 2719 (nI (1 + (gN f0 2719)))) := INV_nat (v := 1 + (gN f0 2719)) hv14 (show bd 2719 = (0, ((40 : Nat) : Int)) by decide +kernel) (by omega) (by decide)
        refine V_iast 91 B 1 rfl (vpin _ _ (by decide +kernel)) dX12_readCommand_91 [(h0, oC 13 [.ref h1, .ref h2, .int p2, .ref h3, .ref h4, .int (nI k5), .int (nI (u4.1 0)), .int p7, .int p8, .int (u4.2.1 0), .int (nI (u4.1 1)), .int (-1), .long (u4.2.2.1 0), .ref h5, .ref h6, .int (nI k15), .int (nI k16)]), (h1, aI Y 3640 (upd (upd (upd f0 (2752 + 3 * (gN f0 2719)) s0) (2753 + 3 * (gN f0 2719)) (-1)) 2719 (nI (1 + (gN f0 2719))))), (h2, aZ Y 2 f1), (h3, aZ Y 80 f3), (h4, aB Y 1600 f4), (h5, aI Y 200 f13), (h6, aI Y 800 f14)] rfl ?_
        refine V_aload_n 92 B dX12_readCommand_92 1 rfl ?_
        refine V_cvi 93 B (st := []) (As := []) (fun sz => rX12_readEnd l D Y h0 h1 h2 h3 h4 h5 h6 p2 k5 (u4.1 0) p7 p8 (u4.2.1 0) (u4.1 1) (-1) (u4.2.2.1 0) k15 k16 (upd (upd (upd f0 (2752 + 3 * (gN f0 2719)) s0) (2753 + 3 * (gN f0 2719)) (-1)) 2719 (nI (1 + (gN f0 2719)))) f1 f3 f4 f13 f14 ph hv16 (by omega) HP (by omega) (by omega) (by first | assumption | exact Or.inl rfl | exact Or.inr (by omega)) sz) glV_RX12_304 ⟨rfl, rfl⟩ ⟨(Nat.le_of_ble_eq_true rfl), (Nat.le_of_ble_eq_true rfl)⟩ ⟨(Nat.le_of_ble_eq_true rfl), (Nat.le_of_ble_eq_true rfl)⟩ [0, 0, 0, 0, 0, 0, 0] rfl 13 0 rfl rfl rfl rfl (Nat.le_of_ble_eq_true rfl) rfl (fun _ _ _ => rfl) dX12_readCommand_93 (fun j17 u18 w19 => ?_)
        refine V_ws [(h0, oC 13 [.ref h1, .ref h2, .int p2, .ref h3, .ref h4, .int (nI k5), .int (nI (u18.1 0)), .int (u18.2.1 0), .int (u18.2.1 1), .int (u18.2.1 2), .int (nI (u18.1 1)), .int (-1), .long (u18.2.2.1 0), .ref h5, .ref h6, .int (nI k15), .int (nI k16)]), (h1, aI Y 3640 (upd (upd (upd f0 (2752 + 3 * (gN f0 2719)) s0) (2753 + 3 * (gN f0 2719)) (-1)) 2719 (nI (1 + (gN f0 2719))))), (h2, aZ Y 2 f1), (h3, aZ Y 80 f3), (h4, aB Y 1600 f4), (h5, aI Y 200 f13), (h6, aI Y 800 f14)] rfl ?_
        obtain ⟨x20, x21, x22, x23, x24⟩ := w19
        rcases x20 with rfl | ⟨rfl, x25⟩
        ·
          exact V_zret 96 B rfl dX12_readCommand_96 (mkW [(u18.1 0), (u18.1 1)] [(u18.2.1 0), (u18.2.1 1), (u18.2.1 2), (-1)] [(u18.2.2.1 0)] [(upd (upd (upd f0 (2752 + 3 * (gN f0 2719)) s0) (2753 + 3 * (gN f0 2719)) (-1)) 2719 (nI (1 + (gN f0 2719))))] [] []) ⟨(Or.inl rfl), hv16, (show k10 ≤ (u18.1 1) by omega), (show (u18.1 1) ≤ (u18.1 0) by omega), (show (u18.1 0) ≤ k5 by omega), (show ((u18.2.1 2) = 0 ∨ (u18.1 1) < (u18.1 0)) by first | assumption | exact Or.inr (by omega))⟩ rfl
        ·
          exact V_zret 96 B rfl dX12_readCommand_96 (mkW [(u18.1 0), (u18.1 1)] [(u18.2.1 0), (u18.2.1 1), (u18.2.1 2), (-1)] [(u18.2.2.1 0)] [(upd (upd (upd f0 (2752 + 3 * (gN f0 2719)) s0) (2753 + 3 * (gN f0 2719)) (-1)) 2719 (nI (1 + (gN f0 2719))))] [] []) ⟨(Or.inr ⟨rfl, (show k10 < (u18.1 1) by omega)⟩), hv16, (show k10 ≤ (u18.1 1) by omega), (show (u18.1 1) ≤ (u18.1 0) by omega), (show (u18.1 0) ≤ k5 by omega), (show ((u18.2.1 2) = 0 ∨ (u18.1 1) < (u18.1 0)) by first | assumption | exact Or.inr (by omega))⟩ rfl
      ·
        obtain rfl : s0 = 1 := kk10
        have e27 : (1 : Int32).toInt = 1 := by decide +kernel
        refine V_aload_n 33 B dX12_readCommand_33 0 rfl ?_
        refine V_iconst 34 B (v := 0) dX12_readCommand_34 (by decide +kernel) ?_
        refine V_iconst 35 B (v := 5) dX12_readCommand_35 (by decide +kernel) ?_
        refine V_cvi 36 B (st := []) (As := [.int 0, .int 5]) (fun sz => rX12_readNumber l D Y h0 h1 h2 h3 h4 h5 h6 p2 k5 (u4.1 0) p7 p8 (u4.2.1 0) (u4.1 1) (-1) (u4.2.2.1 0) k15 k16 f0 f1 f3 f4 f13 f14 ph HI (by omega) HP 0 5 (by omega) (by omega) (by first | assumption | exact Or.inl rfl | exact Or.inr (by omega)) (by decide +kernel) sz) glV_RX12_301 ⟨rfl, rfl⟩ ⟨(Nat.le_of_ble_eq_true rfl), (Nat.le_of_ble_eq_true rfl)⟩ ⟨(Nat.le_of_ble_eq_true rfl), (Nat.le_of_ble_eq_true rfl)⟩ [0, 0, 0, 0, 0, 0, 0] rfl 13 0 rfl rfl rfl rfl (Nat.le_of_ble_eq_true rfl) rfl (fun _ _ _ => rfl) dX12_readCommand_36 (fun j28 u29 w30 => ?_)
        refine V_ws [(h0, oC 13 [.ref h1, .ref h2, .int p2, .ref h3, .ref h4, .int (nI k5), .int (nI (u29.1 0)), .int (u29.2.1 0), .int (u29.2.1 1), .int (u29.2.1 2), .int (nI (u29.1 1)), .int (u29.2.1 3), .long (u29.2.2.1 0), .ref h5, .ref h6, .int (nI k15), .int (nI k16)]), (h1, aI Y 3640 f0), (h2, aZ Y 2 f1), (h3, aZ Y 80 f3), (h4, aB Y 1600 f4), (h5, aI Y 200 f13), (h6, aI Y 800 f14)] rfl ?_
        obtain ⟨x31, x32, x33, x34, x35⟩ := w30
        rcases x31 with rfl | ⟨rfl, x36, x37⟩
        ·
          refine V_if_ne_f 39 B 44 dX12_readCommand_39 (by decide) (by decide +kernel) ?_
          refine V_iconst 42 B (v := 0) dX12_readCommand_42 (by decide +kernel) ?_
          exact V_zret 43 B rfl dX12_readCommand_43 (mkW [(u29.1 0), (u29.1 1)] [(u29.2.1 0), (u29.2.1 1), (u29.2.1 2), (u29.2.1 3)] [(u29.2.2.1 0)] [f0] [] []) ⟨(Or.inl rfl), HI, (show k10 ≤ (u29.1 1) by omega), (show (u29.1 1) ≤ (u29.1 0) by omega), (show (u29.1 0) ≤ k5 by omega), (show ((u29.2.1 2) = 0 ∨ (u29.1 1) < (u29.1 0)) by first | assumption | exact Or.inr (by omega))⟩ rfl
        ·
          have e38 : (0 : Int32).toInt = 0 := by decide +kernel
          have e39 : (5 : Int32).toInt = 5 := by decide +kernel
          generalize u29.2.1 3 = j40 at *
          refine V_if_ne_t 39 B 44 dX12_readCommand_39 (by decide) (by decide +kernel) ?_
          refine V_sipush 44 B (v := 2752) dX12_readCommand_44 (by decide +kernel) ?_
          refine V_iconst 47 B (v := 3) dX12_readCommand_47 (by decide +kernel) ?_
          refine V_aload_n 48 B dX12_readCommand_48 0 rfl ?_
          refine V_get 49 B gf_RX12_9 0 rfl rfl dX12_readCommand_49 ?_
          refine V_sipush 52 B (v := 2719) dX12_readCommand_52 (by decide +kernel) ?_
          have x41 : (gN f0 2719) ≤ 40 := gN_le HI (by omega) (show bd 2719 = (0, ((40 : Nat) : Int)) by decide +kernel)
          refine V_iald 55 B (v := (nI (gN f0 2719))) 1 rfl (vpin _ _ (by decide +kernel)) dX12_readCommand_55 (by show f0 2719 = _; exact gN_eq HI (by omega) (show bd 2719 = (0, ((40 : Nat) : Int)) by decide +kernel)) ?_
          refine V_imul 56 B (v := (nI (3 * (gN f0 2719)))) dX12_readCommand_56 (nI_mulE (a := 3) (b := (gN f0 2719)) (by omega)) ?_
          refine V_iadd 57 B (v := (nI (2752 + 3 * (gN f0 2719)))) dX12_readCommand_57 (nI_addE (a := 2752) (b := 3 * (gN f0 2719)) (by omega)) ?_
          refine V_istore_n 58 B (lv2 := [(2, .int (nI (2752 + 3 * (gN f0 2719)))), (0, .ref h0), (1, .int 1)]) dX12_readCommand_58 (by decide) rfl ?_
          refine V_aload_n 59 B dX12_readCommand_59 1 rfl ?_
          refine V_get 60 B gf_RX12_9 0 rfl rfl dX12_readCommand_60 ?_
          refine V_iload_n 63 B dX12_readCommand_63 0 rfl ?_
          refine V_iconst 64 B (v := 0) dX12_readCommand_64 (by decide +kernel) ?_
          refine V_iadd 65 B (v := (nI (2752 + 3 * (gN f0 2719)))) dX12_readCommand_65 (nI_addE (a := 2752 + 3 * (gN f0 2719)) (b := 0) (by omega)) ?_
          refine V_iload_n 66 B dX12_readCommand_66 2 rfl ?_
          have hv42 : INV ph (upd f0 (2752 + 3 * (gN f0 2719)) 1) := INV_free HI (rl27 (gN f0 2719) (by omega))
          refine V_iast 67 B 1 rfl (vp_in_nI (n := 2752 + 3 * (gN f0 2719)) (by omega) (by decide)) dX12_readCommand_67 [(h0, oC 13 [.ref h1, .ref h2, .int p2, .ref h3, .ref h4, .int (nI k5), .int (nI (u29.1 0)), .int (u29.2.1 0), .int (u29.2.1 1), .int (u29.2.1 2), .int (nI (u29.1 1)), .int j40, .long (u29.2.2.1 0), .ref h5, .ref h6, .int (nI k15), .int (nI k16)]), (h1, aI Y 3640 (upd f0 (2752 + 3 * (gN f0 2719)) 1)), (h2, aZ Y 2 f1), (h3, aZ Y 80 f3), (h4, aB Y 1600 f4), (h5, aI Y 200 f13), (h6, aI Y 800 f14)] (by rw [nI_clamp (show 2752 + 3 * (gN f0 2719) < 2 ^ 31 by omega)]; rfl) ?_
          refine V_aload_n 68 B dX12_readCommand_68 1 rfl ?_
          refine V_get 69 B gf_RX12_9 0 rfl rfl dX12_readCommand_69 ?_
          refine V_iload_n 72 B dX12_readCommand_72 0 rfl ?_
          refine V_iconst 73 B (v := 1) dX12_readCommand_73 (by decide +kernel) ?_
          refine V_iadd 74 B (v := (nI (2753 + 3 * (gN f0 2719)))) dX12_readCommand_74 (nI_addE (a := 2752 + 3 * (gN f0 2719)) (b := 1) (by omega)) ?_
          refine V_aload_n 75 B dX12_readCommand_75 1 rfl ?_
          refine V_get 76 B gf_RX12_294 0 rfl rfl dX12_readCommand_76 ?_
          have hv43 : INV ph (upd (upd f0 (2752 + 3 * (gN f0 2719)) 1) (2753 + 3 * (gN f0 2719)) j40) := INV_upd hv42 (rl28 (gN f0 2719) (by omega)) (by omega) (by omega)
          refine V_iast 79 B 1 rfl (vp_in_nI (n := 2753 + 3 * (gN f0 2719)) (by omega) (by decide)) dX12_readCommand_79 [(h0, oC 13 [.ref h1, .ref h2, .int p2, .ref h3, .ref h4, .int (nI k5), .int (nI (u29.1 0)), .int (u29.2.1 0), .int (u29.2.1 1), .int (u29.2.1 2), .int (nI (u29.1 1)), .int j40, .long (u29.2.2.1 0), .ref h5, .ref h6, .int (nI k15), .int (nI k16)]), (h1, aI Y 3640 (upd (upd f0 (2752 + 3 * (gN f0 2719)) 1) (2753 + 3 * (gN f0 2719)) j40)), (h2, aZ Y 2 f1), (h3, aZ Y 80 f3), (h4, aB Y 1600 f4), (h5, aI Y 200 f13), (h6, aI Y 800 f14)] (by rw [nI_clamp (show 2753 + 3 * (gN f0 2719) < 2 ^ 31 by omega)]; rfl) ?_
          refine V_aload_n 80 B dX12_readCommand_80 1 rfl ?_
          refine V_get 81 B gf_RX12_9 0 rfl rfl dX12_readCommand_81 ?_
          refine V_sipush 84 B (v := 2719) dX12_readCommand_84 (by decide +kernel) ?_
          refine V_dup2_11 87 B dX12_readCommand_87 rfl rfl ?_
          have x44 : (gN f0 2719) ≤ 40 := gN_le HI (by omega) (show bd 2719 = (0, ((40 : Nat) : Int)) by decide +kernel)
          refine V_iald 88 B (v := (nI (gN f0 2719))) 1 rfl (vpin _ _ (by decide +kernel)) dX12_readCommand_88 (by show (upd (upd f0 (2752 + 3 * (gN f0 2719)) 1) (2753 + 3 * (gN f0 2719)) j40) 2719 = _; rw [upd_ne (by omega)]; rw [upd_ne (by omega)]; exact gN_eq HI (by omega) (show bd 2719 = (0, ((40 : Nat) : Int)) by decide +kernel)) ?_
          refine V_iconst 89 B (v := 1) dX12_readCommand_89 (by decide +kernel) ?_
          refine V_iadd 90 B (v := (nI (1 + (gN f0 2719)))) dX12_readCommand_90 (nI_addE (a := (gN f0 2719)) (b := 1) (by omega)) ?_
          have hv45 : INV ph (upd (upd (upd f0 (2752 + 3 * (gN f0 2719)) 1) (2753 + 3 * (gN f0 2719)) j40) 2719 (nI (1 + (gN f0 2719)))) := INV_nat (v := 1 + (gN f0 2719)) hv43 (show bd 2719 = (0, ((40 : Nat) : Int)) by decide +kernel) (by omega) (by decide)
          refine V_iast 91 B 1 rfl (vpin _ _ (by decide +kernel)) dX12_readCommand_91 [(h0, oC 13 [.ref h1, .ref h2, .int p2, .ref h3, .ref h4, .int (nI k5), .int (nI (u29.1 0)), .int (u29.2.1 0), .int (u29.2.1 1), .int (u29.2.1 2), .int (nI (u29.1 1)), .int j40, .long (u29.2.2.1 0), .ref h5, .ref h6, .int (nI k15), .int (nI k16)]), (h1, aI Y 3640 (upd (upd (upd f0 (2752 + 3 * (gN f0 2719)) 1) (2753 + 3 * (gN f0 2719)) j40) 2719 (nI (1 + (gN f0 2719))))), (h2, aZ Y 2 f1), (h3, aZ Y 80 f3), (h4, aB Y 1600 f4), (h5, aI Y 200 f13), (h6, aI Y 800 f14)] rfl ?_
          refine V_aload_n 92 B dX12_readCommand_92 1 rfl ?_
          refine V_cvi 93 B (st := []) (As := []) (fun sz => rX12_readEnd l D Y h0 h1 h2 h3 h4 h5 h6 p2 k5 (u29.1 0) (u29.2.1 0) (u29.2.1 1) (u29.2.1 2) (u29.1 1) j40 (u29.2.2.1 0) k15 k16 (upd (upd (upd f0 (2752 + 3 * (gN f0 2719)) 1) (2753 + 3 * (gN f0 2719)) j40) 2719 (nI (1 + (gN f0 2719)))) f1 f3 f4 f13 f14 ph hv45 (by omega) HP (by omega) (by omega) (by first | assumption | exact Or.inl rfl | exact Or.inr (by omega)) sz) glV_RX12_304 ⟨rfl, rfl⟩ ⟨(Nat.le_of_ble_eq_true rfl), (Nat.le_of_ble_eq_true rfl)⟩ ⟨(Nat.le_of_ble_eq_true rfl), (Nat.le_of_ble_eq_true rfl)⟩ [0, 0, 0, 0, 0, 0, 0] rfl 13 0 rfl rfl rfl rfl (Nat.le_of_ble_eq_true rfl) rfl (fun _ _ _ => rfl) dX12_readCommand_93 (fun j46 u47 w48 => ?_)
          refine V_ws [(h0, oC 13 [.ref h1, .ref h2, .int p2, .ref h3, .ref h4, .int (nI k5), .int (nI (u47.1 0)), .int (u47.2.1 0), .int (u47.2.1 1), .int (u47.2.1 2), .int (nI (u47.1 1)), .int j40, .long (u47.2.2.1 0), .ref h5, .ref h6, .int (nI k15), .int (nI k16)]), (h1, aI Y 3640 (upd (upd (upd f0 (2752 + 3 * (gN f0 2719)) 1) (2753 + 3 * (gN f0 2719)) j40) 2719 (nI (1 + (gN f0 2719))))), (h2, aZ Y 2 f1), (h3, aZ Y 80 f3), (h4, aB Y 1600 f4), (h5, aI Y 200 f13), (h6, aI Y 800 f14)] rfl ?_
          obtain ⟨x49, x50, x51, x52, x53⟩ := w48
          rcases x49 with rfl | ⟨rfl, x54⟩
          ·
            exact V_zret 96 B rfl dX12_readCommand_96 (mkW [(u47.1 0), (u47.1 1)] [(u47.2.1 0), (u47.2.1 1), (u47.2.1 2), j40] [(u47.2.2.1 0)] [(upd (upd (upd f0 (2752 + 3 * (gN f0 2719)) 1) (2753 + 3 * (gN f0 2719)) j40) 2719 (nI (1 + (gN f0 2719))))] [] []) ⟨(Or.inl rfl), hv45, (show k10 ≤ (u47.1 1) by omega), (show (u47.1 1) ≤ (u47.1 0) by omega), (show (u47.1 0) ≤ k5 by omega), (show ((u47.2.1 2) = 0 ∨ (u47.1 1) < (u47.1 0)) by first | assumption | exact Or.inr (by omega))⟩ rfl
          ·
            exact V_zret 96 B rfl dX12_readCommand_96 (mkW [(u47.1 0), (u47.1 1)] [(u47.2.1 0), (u47.2.1 1), (u47.2.1 2), j40] [(u47.2.2.1 0)] [(upd (upd (upd f0 (2752 + 3 * (gN f0 2719)) 1) (2753 + 3 * (gN f0 2719)) j40) 2719 (nI (1 + (gN f0 2719))))] [] []) ⟨(Or.inr ⟨rfl, (show k10 < (u47.1 1) by omega)⟩), hv45, (show k10 ≤ (u47.1 1) by omega), (show (u47.1 1) ≤ (u47.1 0) by omega), (show (u47.1 0) ≤ k5 by omega), (show ((u47.2.1 2) = 0 ∨ (u47.1 1) < (u47.1 0)) by first | assumption | exact Or.inr (by omega))⟩ rfl
    ·
      have x55 := n_eq (a := (gN f0 2719)) (b := 40) kk1 (by omega) (by omega)
      refine V_aload_n 13 B dX12_readCommand_13 0 rfl ?_
      refine V_iconst 14 B (v := 3) dX12_readCommand_14 (by decide +kernel) ?_
      refine V_cvi 15 B (st := []) (As := [.int 3]) (fun sz => rX12_fail l D Y h0 h1 h2 h3 h4 h5 h6 p2 k5 k6 p7 p8 p9 k10 p11 q12 k15 k16 f0 f1 f3 f4 f13 f14 ph HI (by omega) HP 3 sz) glV_RX12_291 ⟨rfl, rfl⟩ ⟨(Nat.le_of_ble_eq_true rfl), (Nat.le_of_ble_eq_true rfl)⟩ ⟨(Nat.le_of_ble_eq_true rfl), (Nat.le_of_ble_eq_true rfl)⟩ [0, 0, 0, 0, 0, 0, 0] rfl 13 0 rfl rfl rfl rfl (Nat.le_of_ble_eq_true rfl) rfl (fun _ _ _ => rfl) dX12_readCommand_15 (fun j56 u57 w58 => ?_)
      refine V_ws [(h0, oC 13 [.ref h1, .ref h2, .int p2, .ref h3, .ref h4, .int (nI k5), .int (nI k6), .int (u57.2.1 0), .int (u57.2.1 1), .int p9, .int (nI k10), .int p11, .long q12, .ref h5, .ref h6, .int (nI k15), .int (nI k16)]), (h1, aI Y 3640 f0), (h2, aZ Y 2 f1), (h3, aZ Y 80 f3), (h4, aB Y 1600 f4), (h5, aI Y 200 f13), (h6, aI Y 800 f14)] rfl ?_
      have x59 := w58
      clear w58
      obtain rfl := x59
      exact V_zret 18 B rfl dX12_readCommand_18 (mkW [k6, k10] [(u57.2.1 0), (u57.2.1 1), p9, p11] [q12] [f0] [] []) ⟨(Or.inl rfl), HI, (show k10 ≤ k10 by omega), (show k10 ≤ k6 by omega), (show k6 ≤ k5 by omega), (show (p9 = 0 ∨ k10 < k6) by first | assumption | exact Or.inr (by omega))⟩ rfl)
theorem dX12_clashesRead_0 : decode cX12_clashesRead 0 = .ok (.iconst 0, 1) := by decide +kernel
theorem dX12_clashesRead_1 : decode cX12_clashesRead 1 = .ok (.istore_n 3, 1) := by decide +kernel
theorem dX12_clashesRead_2 : decode cX12_clashesRead 2 = .ok (.iconst 0, 1) := by decide +kernel
theorem dX12_clashesRead_3 : decode cX12_clashesRead 3 = .ok (.istore 4, 2) := by decide +kernel
theorem dX12_clashesRead_5 : decode cX12_clashesRead 5 = .ok (.iload 4, 2) := by decide +kernel
theorem dX12_clashesRead_7 : decode cX12_clashesRead 7 = .ok (.aload_n 0, 1) := by decide +kernel
theorem dX12_clashesRead_8 : decode cX12_clashesRead 8 = .ok (.getfield 9, 3) := by decide +kernel
theorem dX12_clashesRead_11 : decode cX12_clashesRead 11 = .ok (.sipush 2721, 3) := by decide +kernel
theorem dX12_clashesRead_14 : decode cX12_clashesRead 14 = .ok (.iaload, 1) := by decide +kernel
theorem dX12_clashesRead_15 : decode cX12_clashesRead 15 = .ok (.if_icmp .ge 59, 3) := by decide +kernel
theorem dX12_clashesRead_74 : decode cX12_clashesRead 74 = .ok (.iload_n 3, 1) := by decide +kernel
theorem dX12_clashesRead_75 : decode cX12_clashesRead 75 = .ok (.ireturn, 1) := by decide +kernel
theorem dX12_clashesRead_18 : decode cX12_clashesRead 18 = .ok (.iload_n 3, 1) := by decide +kernel
theorem dX12_clashesRead_19 : decode cX12_clashesRead 19 = .ok (.iload_n 1, 1) := by decide +kernel
theorem dX12_clashesRead_20 : decode cX12_clashesRead 20 = .ok (.iconst (-1), 1) := by decide +kernel
theorem dX12_clashesRead_21 : decode cX12_clashesRead 21 = .ok (.if_icmp .eq 23, 3) := by decide +kernel
theorem dX12_clashesRead_44 : decode cX12_clashesRead 44 = .ok (.aload_n 0, 1) := by decide +kernel
theorem dX12_clashesRead_45 : decode cX12_clashesRead 45 = .ok (.sipush 2718, 3) := by decide +kernel
theorem dX12_clashesRead_48 : decode cX12_clashesRead 48 = .ok (.iload 4, 2) := by decide +kernel
theorem dX12_clashesRead_50 : decode cX12_clashesRead 50 = .ok (.invokestatic 85, 3) := by decide +kernel
theorem dX12_clashesRead_53 : decode cX12_clashesRead 53 = .ok (.iadd, 1) := by decide +kernel
theorem dX12_clashesRead_54 : decode cX12_clashesRead 54 = .ok (.iload_n 2, 1) := by decide +kernel
theorem dX12_clashesRead_55 : decode cX12_clashesRead 55 = .ok (.invokevirtual 111, 3) := by decide +kernel
theorem rl29 : ∀ z0, z0 < 80 → SQ (2904 + 7 * z0) := by unfold SQ; decide +kernel
theorem dX12_clashesRead_58 : decode cX12_clashesRead 58 = .ok (.ifCond .eq 7, 3) := by decide +kernel
theorem dX12_clashesRead_65 : decode cX12_clashesRead 65 = .ok (.iconst 0, 1) := by decide +kernel
theorem dX12_clashesRead_66 : decode cX12_clashesRead 66 = .ok (.ior, 1) := by decide +kernel
theorem dX12_clashesRead_67 : decode cX12_clashesRead 67 = .ok (.istore_n 3, 1) := by decide +kernel
theorem dX12_clashesRead_68 : decode cX12_clashesRead 68 = .ok (.iinc 4 1, 3) := by decide +kernel
theorem dX12_clashesRead_71 : decode cX12_clashesRead 71 = .ok (.goto (-66), 3) := by decide +kernel
theorem dX12_clashesRead_61 : decode cX12_clashesRead 61 = .ok (.iconst 1, 1) := by decide +kernel
theorem dX12_clashesRead_62 : decode cX12_clashesRead 62 = .ok (.goto 4, 3) := by decide +kernel
theorem dX12_clashesRead_24 : decode cX12_clashesRead 24 = .ok (.aload_n 0, 1) := by decide +kernel
theorem dX12_clashesRead_25 : decode cX12_clashesRead 25 = .ok (.getfield 9, 3) := by decide +kernel
theorem dX12_clashesRead_28 : decode cX12_clashesRead 28 = .ok (.sipush 2718, 3) := by decide +kernel
theorem dX12_clashesRead_31 : decode cX12_clashesRead 31 = .ok (.iload 4, 2) := by decide +kernel
theorem dX12_clashesRead_33 : decode cX12_clashesRead 33 = .ok (.invokestatic 79, 3) := by decide +kernel
theorem dX12_clashesRead_36 : decode cX12_clashesRead 36 = .ok (.iadd, 1) := by decide +kernel
theorem dX12_clashesRead_37 : decode cX12_clashesRead 37 = .ok (.iconst 0, 1) := by decide +kernel
theorem dX12_clashesRead_38 : decode cX12_clashesRead 38 = .ok (.iadd, 1) := by decide +kernel
theorem dX12_clashesRead_39 : decode cX12_clashesRead 39 = .ok (.iaload, 1) := by decide +kernel
theorem rl30 : ∀ z0, z0 < 80 → bd (2902 + 7 * z0) = FREE := by decide +kernel
theorem dX12_clashesRead_40 : decode cX12_clashesRead 40 = .ok (.iload_n 1, 1) := by decide +kernel
theorem dX12_clashesRead_41 : decode cX12_clashesRead 41 = .ok (.if_icmp .ne 24, 3) := by decide +kernel
set_option maxRecDepth 100000 in
set_option maxHeartbeats 4000000 in
theorem rX12_clashesRead (l : Launch) (D : va_G) (Y : Nat → ClassId) (h0 : Nat) (h1 : Nat) (h2 : Nat) (h3 : Nat) (h4 : Nat) (h5 : Nat) (h6 : Nat) (p2 : Int32) (k5 : Nat) (k6 : Nat) (p7 : Int32) (p8 : Int32) (p9 : Int32) (k10 : Nat) (p11 : Int32) (q12 : Int64) (k15 : Nat) (k16 : Nat) (f0 : Nat → Int32) (f1 : Nat → Int32) (f3 : Nat → Int32) (f4 : Nat → Int32) (f13 : Nat → Int32) (f14 : Nat → Int32) (ph : Nat → Int32) (HI : INV ph f0) (HL : k5 ≤ 1600) (HP : PLV f13) (s0 : Int32) (s1 : Nat) (hs1 : SQ s1) (sz : Nat) : Met l yX12_clashesRead (WSm yX12_clashesRead cX12_clashesRead 5 (some .boolean)) (mkR 3 0 0 66) (PreC D Y [.ref h0, .int s0, .int (nI s1)] [(h0, oC 13 [.ref h1, .ref h2, .int p2, .ref h3, .ref h4, .int (nI k5), .int (nI k6), .int p7, .int p8, .int p9, .int (nI k10), .int p11, .long q12, .ref h5, .ref h6, .int (nI k15), .int (nI k16)]), (h1, aI Y 3640 f0), (h2, aZ Y 2 f1), (h3, aZ Y 80 f3), (h4, aB Y 1600 f4), (h5, aI Y 200 f13), (h6, aI Y 800 f14)] sz) (QI D (fun (r : Int32) (u : WU) => (r = 0 ∨ r = 1)) (fun (u : WU) => [(h0, oC 13 [.ref h1, .ref h2, .int p2, .ref h3, .ref h4, .int (nI k5), .int (nI k6), .int p7, .int p8, .int p9, .int (nI k10), .int p11, .long q12, .ref h5, .ref h6, .int (nI k15), .int (nI k16)]), (h1, aI Y 3640 f0), (h2, aZ Y 2 f1), (h3, aZ Y 80 f3), (h4, aB Y 1600 f4), (h5, aI Y 200 f13), (h6, aI Y 800 f14)]) (va_A [(h0, oC 13 [.ref h1, .ref h2, .int p2, .ref h3, .ref h4, .int (nI k5), .int (nI k6), .int p7, .int p8, .int p9, .int (nI k10), .int p11, .long q12, .ref h5, .ref h6, .int (nI k15), .int (nI k16)]), (h1, aI Y 3640 f0), (h2, aZ Y 2 f1), (h3, aZ Y 80 f3), (h4, aB Y 1600 f4), (h5, aI Y 200 f13), (h6, aI Y 800 f14)] sz)) 0 0 (va_A [(h0, oC 13 [.ref h1, .ref h2, .int p2, .ref h3, .ref h4, .int (nI k5), .int (nI k6), .int p7, .int p8, .int p9, .int (nI k10), .int p11, .long q12, .ref h5, .ref h6, .int (nI k15), .int (nI k16)]), (h1, aI Y 3640 f0), (h2, aZ Y 2 f1), (h3, aZ Y 80 f3), (h4, aB Y 1600 f4), (h5, aI Y 200 f13), (h6, aI Y 800 f14)] sz) :=
  met_of  (by decide +kernel) (Nat.le_of_ble_eq_true rfl) (fun p e s m args below meth c B hin hsz => by
    have B : VB p s m args meth c D Y (va_A [(h0, oC 13 [.ref h1, .ref h2, .int p2, .ref h3, .ref h4, .int (nI k5), .int (nI k6), .int p7, .int p8, .int p9, .int (nI k10), .int p11, .long q12, .ref h5, .ref h6, .int (nI k15), .int (nI k16)]), (h1, aI Y 3640 f0), (h2, aZ Y 2 f1), (h3, aZ Y 80 f3), (h4, aB Y 1600 f4), (h5, aI Y 200 f13), (h6, aI Y 800 f14)] sz) cX12_clashesRead 5 RX12 (some .boolean) := B
    have hq_s1 := hs1.1
    refine V_iconst 0 B (v := 0) dX12_clashesRead_0 (by decide +kernel) ?_
    refine V_istore_n 1 B (lv2 := [(3, .int 0), (0, .ref h0), (1, .int s0), (2, .int (nI s1))]) dX12_clashesRead_1 (by decide) rfl ?_
    refine V_iconst 2 B (v := 0) dX12_clashesRead_2 (by decide +kernel) ?_
    refine V_istore 3 B (lv2 := [(4, .int 0), (3, .int 0), (0, .ref h0), (1, .int s0), (2, .int (nI s1))]) dX12_clashesRead_3 (by decide) rfl ?_
    refine V_wloop (α := WU) (fun a => 100000 - (a.1 0)) (fun a => (a.1 0) ≤ 80 ∧ ((a.2.1 0) = 0 ∨ (a.2.1 0) = 1)) (fun a => [(4, .int (nI (a.1 0))), (3, .int (a.2.1 0)), (0, .ref h0), (1, .int s0), (2, .int (nI s1))]) (fun a => [(h0, oC 13 [.ref h1, .ref h2, .int p2, .ref h3, .ref h4, .int (nI k5), .int (nI k6), .int p7, .int p8, .int p9, .int (nI k10), .int p11, .long q12, .ref h5, .ref h6, .int (nI k15), .int (nI k16)]), (h1, aI Y 3640 f0), (h2, aZ Y 2 f1), (h3, aZ Y 80 f3), (h4, aB Y 1600 f4), (h5, aI Y 200 f13), (h6, aI Y 800 f14)]) (mkW [0] [0] [] [] [] []) ⟨(show 0 ≤ 80 by omega), (Or.inl rfl)⟩ rfl rfl (fun a0 hI2 IH1 => ?_)
    refine V_lv [(4, .int (nI (a0.1 0))), (3, .int (a0.2.1 0)), (0, .ref h0), (1, .int s0), (2, .int (nI s1))] [0, 1, 2, 3, 4] rfl ?_
    refine V_ws [(h0, oC 13 [.ref h1, .ref h2, .int p2, .ref h3, .ref h4, .int (nI k5), .int (nI k6), .int p7, .int p8, .int p9, .int (nI k10), .int p11, .long q12, .ref h5, .ref h6, .int (nI k15), .int (nI k16)]), (h1, aI Y 3640 f0), (h2, aZ Y 2 f1), (h3, aZ Y 80 f3), (h4, aB Y 1600 f4), (h5, aI Y 200 f13), (h6, aI Y 800 f14)] rfl ?_
    obtain ⟨x3, x4⟩ := hI2
    rcases x4 with e5 | e5
    ·
      refine V_lv [(4, .int (nI (a0.1 0))), (3, .int 0), (0, .ref h0), (1, .int s0), (2, .int (nI s1))] [0, 1, 2, 3, 4] (by rw [e5]; rfl) ?_
      refine V_iload 5 B dX12_clashesRead_5 0 rfl ?_
      refine V_aload_n 7 B dX12_clashesRead_7 2 rfl ?_
      refine V_get 8 B gf_RX12_9 0 rfl rfl dX12_clashesRead_8 ?_
      refine V_sipush 11 B (v := 2721) dX12_clashesRead_11 (by decide +kernel) ?_
      have x6 : (gN f0 2721) ≤ 80 := gN_le HI (by omega) (show bd 2721 = (0, ((80 : Nat) : Int)) by decide +kernel)
      refine V_iald 14 B (v := (nI (gN f0 2721))) 1 rfl (vpin _ _ (by decide +kernel)) dX12_clashesRead_14 (by show f0 2721 = _; exact gN_eq HI (by omega) (show bd 2721 = (0, ((80 : Nat) : Int)) by decide +kernel)) ?_
      refine V_icmp_ge 15 B 74 dX12_clashesRead_15 (by decide) (fun kk7 => ?_) (fun kk7 => ?_)
      ·
        have x8 := n_le (a := (gN f0 2721)) (b := (a0.1 0)) kk7 (by omega) (by omega)
        refine V_iload_n 74 B dX12_clashesRead_74 1 rfl ?_
        exact V_zret 75 B rfl dX12_clashesRead_75 (mkW [] [] [] [] [] []) (Or.inl rfl) rfl
      ·
        have x9 := n_nle (a := (gN f0 2721)) (b := (a0.1 0)) kk7 (by omega) (by omega)
        refine V_iload_n 18 B dX12_clashesRead_18 1 rfl ?_
        refine V_iload_n 19 B dX12_clashesRead_19 3 rfl ?_
        refine V_iconst 20 B (v := (-1)) dX12_clashesRead_20 (by decide +kernel) ?_
        refine V_icmp_eq 21 B 44 dX12_clashesRead_21 (by decide) (fun kk10 => ?_) (fun kk10 => ?_)
        ·
          obtain rfl : s0 = (-1) := kk10
          have e12 : ((-1) : Int32).toInt = (-1) := by decide +kernel
          refine V_aload_n 44 B dX12_clashesRead_44 2 rfl ?_
          refine V_sipush 45 B (v := 2718) dX12_clashesRead_45 (by decide +kernel) ?_
          refine V_iload 48 B dX12_clashesRead_48 0 rfl ?_
          refine V_csi 50 B (st := [.int 2718, .ref h0, .int 0]) (As := [.int (nI (a0.1 0))]) (fun sz => rX12_sequenceOf l D Y (a0.1 0) (by omega) sz) glS_RX12_85 ⟨rfl, rfl⟩ ⟨(Nat.le_of_ble_eq_true rfl), (Nat.le_of_ble_eq_true rfl)⟩ ⟨(Nat.le_of_ble_eq_true rfl), (Nat.le_of_ble_eq_true rfl)⟩ [] rfl rfl (Nat.le_of_ble_eq_true rfl) rfl (fun _ _ _ => rfl) dX12_clashesRead_50 (fun j13 u14 w15 => ?_)
          refine V_ws [(h0, oC 13 [.ref h1, .ref h2, .int p2, .ref h3, .ref h4, .int (nI k5), .int (nI k6), .int p7, .int p8, .int p9, .int (nI k10), .int p11, .long q12, .ref h5, .ref h6, .int (nI k15), .int (nI k16)]), (h1, aI Y 3640 f0), (h2, aZ Y 2 f1), (h3, aZ Y 80 f3), (h4, aB Y 1600 f4), (h5, aI Y 200 f13), (h6, aI Y 800 f14)] rfl ?_
          have x16 := w15
          clear w15
          obtain rfl := x16
          refine V_iadd 53 B (v := (nI (2904 + 7 * (a0.1 0)))) dX12_clashesRead_53 (nI_addE (a := 2718) (b := 186 + 7 * (a0.1 0)) (by omega)) ?_
          refine V_iload_n 54 B dX12_clashesRead_54 4 rfl ?_
          refine V_cvi 55 B (st := [.int 0]) (As := [.int (nI (2904 + 7 * (a0.1 0))), .int (nI s1)]) (fun sz => rX12_doClash l D Y h0 h1 h2 h3 h4 h5 h6 p2 k5 k6 p7 p8 p9 k10 p11 q12 k15 k16 f0 f1 f3 f4 f13 f14 ph HI (by omega) HP (2904 + 7 * (a0.1 0)) s1 (rl29 (a0.1 0) (by omega)) hs1 sz) glV_RX12_111 ⟨rfl, rfl⟩ ⟨(Nat.le_of_ble_eq_true rfl), (Nat.le_of_ble_eq_true rfl)⟩ ⟨(Nat.le_of_ble_eq_true rfl), (Nat.le_of_ble_eq_true rfl)⟩ [0, 0, 0, 0, 0, 0, 0] rfl 13 0 rfl rfl rfl rfl (Nat.le_of_ble_eq_true rfl) rfl (fun _ _ _ => rfl) dX12_clashesRead_55 (fun j17 u18 w19 => ?_)
          refine V_ws [(h0, oC 13 [.ref h1, .ref h2, .int p2, .ref h3, .ref h4, .int (nI k5), .int (nI k6), .int p7, .int p8, .int p9, .int (nI k10), .int p11, .long q12, .ref h5, .ref h6, .int (nI k15), .int (nI k16)]), (h1, aI Y 3640 f0), (h2, aZ Y 2 f1), (h3, aZ Y 80 f3), (h4, aB Y 1600 f4), (h5, aI Y 200 f13), (h6, aI Y 800 f14)] rfl ?_
          have x20 := w19
          clear w19
          rcases x20 with ⟨rfl, x21⟩ | ⟨rfl, x21⟩
          ·
            refine V_if_eq_t 58 B 65 dX12_clashesRead_58 (by decide) (by decide +kernel) ?_
            refine V_iconst 65 B (v := 0) dX12_clashesRead_65 (by decide +kernel) ?_
            refine V_ior 66 B (v := 0) dX12_clashesRead_66 (by decide +kernel) ?_
            refine V_istore_n 67 B (lv2 := [(3, .int 0), (4, .int (nI (a0.1 0))), (0, .ref h0), (1, .int (-1)), (2, .int (nI s1))]) dX12_clashesRead_67 (by decide) rfl ?_
            refine V_iinc 68 B (v := (nI (1 + (a0.1 0)))) (lv2 := [(4, .int (nI (1 + (a0.1 0)))), (3, .int 0), (0, .ref h0), (1, .int (-1)), (2, .int (nI s1))]) dX12_clashesRead_68 1 rfl (nI_addE (a := (a0.1 0)) (b := 1) (by omega)) (by decide) rfl ?_
            refine V_goto 71 B 5 dX12_clashesRead_71 (by decide) ?_
            refine V_lv [(4, .int (nI (1 + (a0.1 0)))), (3, .int 0), (0, .ref h0), (1, .int (-1)), (2, .int (nI s1))] [0, 1, 2, 3, 4] rfl ?_
            exact IH1 (mkW [1 + (a0.1 0)] [0] [] [] [] []) ⟨(show 1 + (a0.1 0) ≤ 80 by omega), (Or.inl rfl)⟩ (by show 100000 - (1 + (a0.1 0)) < 100000 - (a0.1 0); omega)
          ·
            refine V_if_eq_f 58 B 65 dX12_clashesRead_58 (by decide) (by decide +kernel) ?_
            refine V_iconst 61 B (v := 1) dX12_clashesRead_61 (by decide +kernel) ?_
            refine V_goto 62 B 66 dX12_clashesRead_62 (by decide) ?_
            refine V_ior 66 B (v := 1) dX12_clashesRead_66 (by decide +kernel) ?_
            refine V_istore_n 67 B (lv2 := [(3, .int 1), (4, .int (nI (a0.1 0))), (0, .ref h0), (1, .int (-1)), (2, .int (nI s1))]) dX12_clashesRead_67 (by decide) rfl ?_
            refine V_iinc 68 B (v := (nI (1 + (a0.1 0)))) (lv2 := [(4, .int (nI (1 + (a0.1 0)))), (3, .int 1), (0, .ref h0), (1, .int (-1)), (2, .int (nI s1))]) dX12_clashesRead_68 1 rfl (nI_addE (a := (a0.1 0)) (b := 1) (by omega)) (by decide) rfl ?_
            refine V_goto 71 B 5 dX12_clashesRead_71 (by decide) ?_
            refine V_lv [(4, .int (nI (1 + (a0.1 0)))), (3, .int 1), (0, .ref h0), (1, .int (-1)), (2, .int (nI s1))] [0, 1, 2, 3, 4] rfl ?_
            exact IH1 (mkW [1 + (a0.1 0)] [1] [] [] [] []) ⟨(show 1 + (a0.1 0) ≤ 80 by omega), (Or.inr rfl)⟩ (by show 100000 - (1 + (a0.1 0)) < 100000 - (a0.1 0); omega)
        ·
          have x22 := x_ne kk10
          rw [show ((-1) : Int32).toInt = (-1) by decide +kernel] at x22
          refine V_aload_n 24 B dX12_clashesRead_24 2 rfl ?_
          refine V_get 25 B gf_RX12_9 0 rfl rfl dX12_clashesRead_25 ?_
          refine V_sipush 28 B (v := 2718) dX12_clashesRead_28 (by decide +kernel) ?_
          refine V_iload 31 B dX12_clashesRead_31 0 rfl ?_
          refine V_csi 33 B (st := [.int 2718, .ref h1, .int 0]) (As := [.int (nI (a0.1 0))]) (fun sz => rX12_bindingAt l D Y (a0.1 0) (by omega) sz) glS_RX12_79 ⟨rfl, rfl⟩ ⟨(Nat.le_of_ble_eq_true rfl), (Nat.le_of_ble_eq_true rfl)⟩ ⟨(Nat.le_of_ble_eq_true rfl), (Nat.le_of_ble_eq_true rfl)⟩ [] rfl rfl (Nat.le_of_ble_eq_true rfl) rfl (fun _ _ _ => rfl) dX12_clashesRead_33 (fun j23 u24 w25 => ?_)
          refine V_ws [(h0, oC 13 [.ref h1, .ref h2, .int p2, .ref h3, .ref h4, .int (nI k5), .int (nI k6), .int p7, .int p8, .int p9, .int (nI k10), .int p11, .long q12, .ref h5, .ref h6, .int (nI k15), .int (nI k16)]), (h1, aI Y 3640 f0), (h2, aZ Y 2 f1), (h3, aZ Y 80 f3), (h4, aB Y 1600 f4), (h5, aI Y 200 f13), (h6, aI Y 800 f14)] rfl ?_
          have x26 := w25
          clear w25
          obtain rfl := x26
          refine V_iadd 36 B (v := (nI (2902 + 7 * (a0.1 0)))) dX12_clashesRead_36 (nI_addE (a := 2718) (b := 184 + 7 * (a0.1 0)) (by omega)) ?_
          refine V_iconst 37 B (v := 0) dX12_clashesRead_37 (by decide +kernel) ?_
          refine V_iadd 38 B (v := (nI (2902 + 7 * (a0.1 0)))) dX12_clashesRead_38 (nI_addE (a := 2902 + 7 * (a0.1 0)) (b := 0) (by omega)) ?_
          refine V_iald 39 B (v := f0 (2902 + 7 * (a0.1 0))) 1 rfl (vp_in_nI (n := 2902 + 7 * (a0.1 0)) (by omega) (by decide)) dX12_clashesRead_39 (by rw [nI_clamp (show 2902 + 7 * (a0.1 0) < 2 ^ 31 by omega)]) ?_
          refine V_nmi (fun j27 e28 => ?_)
          refine V_iload_n 40 B dX12_clashesRead_40 3 rfl ?_
          refine V_icmp_ne 41 B 65 dX12_clashesRead_41 (by decide) (fun kk29 => ?_) (fun kk29 => ?_)
          ·
            have x30 := x_ne kk29
            refine V_iconst 65 B (v := 0) dX12_clashesRead_65 (by decide +kernel) ?_
            refine V_ior 66 B (v := 0) dX12_clashesRead_66 (by decide +kernel) ?_
            refine V_istore_n 67 B (lv2 := [(3, .int 0), (4, .int (nI (a0.1 0))), (0, .ref h0), (1, .int s0), (2, .int (nI s1))]) dX12_clashesRead_67 (by decide) rfl ?_
            refine V_iinc 68 B (v := (nI (1 + (a0.1 0)))) (lv2 := [(4, .int (nI (1 + (a0.1 0)))), (3, .int 0), (0, .ref h0), (1, .int s0), (2, .int (nI s1))]) dX12_clashesRead_68 1 rfl (nI_addE (a := (a0.1 0)) (b := 1) (by omega)) (by decide) rfl ?_
            refine V_goto 71 B 5 dX12_clashesRead_71 (by decide) ?_
            refine V_lv [(4, .int (nI (1 + (a0.1 0)))), (3, .int 0), (0, .ref h0), (1, .int s0), (2, .int (nI s1))] [0, 1, 2, 3, 4] rfl ?_
            exact IH1 (mkW [1 + (a0.1 0)] [0] [] [] [] []) ⟨(show 1 + (a0.1 0) ≤ 80 by omega), (Or.inl rfl)⟩ (by show 100000 - (1 + (a0.1 0)) < 100000 - (a0.1 0); omega)
          ·
            have x31 := x_eq kk29
            refine V_aload_n 44 B dX12_clashesRead_44 2 rfl ?_
            refine V_sipush 45 B (v := 2718) dX12_clashesRead_45 (by decide +kernel) ?_
            refine V_iload 48 B dX12_clashesRead_48 0 rfl ?_
            refine V_csi 50 B (st := [.int 2718, .ref h0, .int 0]) (As := [.int (nI (a0.1 0))]) (fun sz => rX12_sequenceOf l D Y (a0.1 0) (by omega) sz) glS_RX12_85 ⟨rfl, rfl⟩ ⟨(Nat.le_of_ble_eq_true rfl), (Nat.le_of_ble_eq_true rfl)⟩ ⟨(Nat.le_of_ble_eq_true rfl), (Nat.le_of_ble_eq_true rfl)⟩ [] rfl rfl (Nat.le_of_ble_eq_true rfl) rfl (fun _ _ _ => rfl) dX12_clashesRead_50 (fun j32 u33 w34 => ?_)
            refine V_ws [(h0, oC 13 [.ref h1, .ref h2, .int p2, .ref h3, .ref h4, .int (nI k5), .int (nI k6), .int p7, .int p8, .int p9, .int (nI k10), .int p11, .long q12, .ref h5, .ref h6, .int (nI k15), .int (nI k16)]), (h1, aI Y 3640 f0), (h2, aZ Y 2 f1), (h3, aZ Y 80 f3), (h4, aB Y 1600 f4), (h5, aI Y 200 f13), (h6, aI Y 800 f14)] rfl ?_
            have x35 := w34
            clear w34
            obtain rfl := x35
            refine V_iadd 53 B (v := (nI (2904 + 7 * (a0.1 0)))) dX12_clashesRead_53 (nI_addE (a := 2718) (b := 186 + 7 * (a0.1 0)) (by omega)) ?_
            refine V_iload_n 54 B dX12_clashesRead_54 4 rfl ?_
            refine V_cvi 55 B (st := [.int 0]) (As := [.int (nI (2904 + 7 * (a0.1 0))), .int (nI s1)]) (fun sz => rX12_doClash l D Y h0 h1 h2 h3 h4 h5 h6 p2 k5 k6 p7 p8 p9 k10 p11 q12 k15 k16 f0 f1 f3 f4 f13 f14 ph HI (by omega) HP (2904 + 7 * (a0.1 0)) s1 (rl29 (a0.1 0) (by omega)) hs1 sz) glV_RX12_111 ⟨rfl, rfl⟩ ⟨(Nat.le_of_ble_eq_true rfl), (Nat.le_of_ble_eq_true rfl)⟩ ⟨(Nat.le_of_ble_eq_true rfl), (Nat.le_of_ble_eq_true rfl)⟩ [0, 0, 0, 0, 0, 0, 0] rfl 13 0 rfl rfl rfl rfl (Nat.le_of_ble_eq_true rfl) rfl (fun _ _ _ => rfl) dX12_clashesRead_55 (fun j36 u37 w38 => ?_)
            refine V_ws [(h0, oC 13 [.ref h1, .ref h2, .int p2, .ref h3, .ref h4, .int (nI k5), .int (nI k6), .int p7, .int p8, .int p9, .int (nI k10), .int p11, .long q12, .ref h5, .ref h6, .int (nI k15), .int (nI k16)]), (h1, aI Y 3640 f0), (h2, aZ Y 2 f1), (h3, aZ Y 80 f3), (h4, aB Y 1600 f4), (h5, aI Y 200 f13), (h6, aI Y 800 f14)] rfl ?_
            have x39 := w38
            clear w38
            rcases x39 with ⟨rfl, x40⟩ | ⟨rfl, x40⟩
            ·
              refine V_if_eq_t 58 B 65 dX12_clashesRead_58 (by decide) (by decide +kernel) ?_
              refine V_iconst 65 B (v := 0) dX12_clashesRead_65 (by decide +kernel) ?_
              refine V_ior 66 B (v := 0) dX12_clashesRead_66 (by decide +kernel) ?_
              refine V_istore_n 67 B (lv2 := [(3, .int 0), (4, .int (nI (a0.1 0))), (0, .ref h0), (1, .int s0), (2, .int (nI s1))]) dX12_clashesRead_67 (by decide) rfl ?_
              refine V_iinc 68 B (v := (nI (1 + (a0.1 0)))) (lv2 := [(4, .int (nI (1 + (a0.1 0)))), (3, .int 0), (0, .ref h0), (1, .int s0), (2, .int (nI s1))]) dX12_clashesRead_68 1 rfl (nI_addE (a := (a0.1 0)) (b := 1) (by omega)) (by decide) rfl ?_
              refine V_goto 71 B 5 dX12_clashesRead_71 (by decide) ?_
              refine V_lv [(4, .int (nI (1 + (a0.1 0)))), (3, .int 0), (0, .ref h0), (1, .int s0), (2, .int (nI s1))] [0, 1, 2, 3, 4] rfl ?_
              exact IH1 (mkW [1 + (a0.1 0)] [0] [] [] [] []) ⟨(show 1 + (a0.1 0) ≤ 80 by omega), (Or.inl rfl)⟩ (by show 100000 - (1 + (a0.1 0)) < 100000 - (a0.1 0); omega)
            ·
              refine V_if_eq_f 58 B 65 dX12_clashesRead_58 (by decide) (by decide +kernel) ?_
              refine V_iconst 61 B (v := 1) dX12_clashesRead_61 (by decide +kernel) ?_
              refine V_goto 62 B 66 dX12_clashesRead_62 (by decide) ?_
              refine V_ior 66 B (v := 1) dX12_clashesRead_66 (by decide +kernel) ?_
              refine V_istore_n 67 B (lv2 := [(3, .int 1), (4, .int (nI (a0.1 0))), (0, .ref h0), (1, .int s0), (2, .int (nI s1))]) dX12_clashesRead_67 (by decide) rfl ?_
              refine V_iinc 68 B (v := (nI (1 + (a0.1 0)))) (lv2 := [(4, .int (nI (1 + (a0.1 0)))), (3, .int 1), (0, .ref h0), (1, .int s0), (2, .int (nI s1))]) dX12_clashesRead_68 1 rfl (nI_addE (a := (a0.1 0)) (b := 1) (by omega)) (by decide) rfl ?_
              refine V_goto 71 B 5 dX12_clashesRead_71 (by decide) ?_
              refine V_lv [(4, .int (nI (1 + (a0.1 0)))), (3, .int 1), (0, .ref h0), (1, .int s0), (2, .int (nI s1))] [0, 1, 2, 3, 4] rfl ?_
              exact IH1 (mkW [1 + (a0.1 0)] [1] [] [] [] []) ⟨(show 1 + (a0.1 0) ≤ 80 by omega), (Or.inr rfl)⟩ (by show 100000 - (1 + (a0.1 0)) < 100000 - (a0.1 0); omega)
    ·
      refine V_lv [(4, .int (nI (a0.1 0))), (3, .int 1), (0, .ref h0), (1, .int s0), (2, .int (nI s1))] [0, 1, 2, 3, 4] (by rw [e5]; rfl) ?_
      refine V_iload 5 B dX12_clashesRead_5 0 rfl ?_
      refine V_aload_n 7 B dX12_clashesRead_7 2 rfl ?_
      refine V_get 8 B gf_RX12_9 0 rfl rfl dX12_clashesRead_8 ?_
      refine V_sipush 11 B (v := 2721) dX12_clashesRead_11 (by decide +kernel) ?_
      have x41 : (gN f0 2721) ≤ 80 := gN_le HI (by omega) (show bd 2721 = (0, ((80 : Nat) : Int)) by decide +kernel)
      refine V_iald 14 B (v := (nI (gN f0 2721))) 1 rfl (vpin _ _ (by decide +kernel)) dX12_clashesRead_14 (by show f0 2721 = _; exact gN_eq HI (by omega) (show bd 2721 = (0, ((80 : Nat) : Int)) by decide +kernel)) ?_
      refine V_icmp_ge 15 B 74 dX12_clashesRead_15 (by decide) (fun kk42 => ?_) (fun kk42 => ?_)
      ·
        have x43 := n_le (a := (gN f0 2721)) (b := (a0.1 0)) kk42 (by omega) (by omega)
        refine V_iload_n 74 B dX12_clashesRead_74 1 rfl ?_
        exact V_zret 75 B rfl dX12_clashesRead_75 (mkW [] [] [] [] [] []) (Or.inr rfl) rfl
      ·
        have x44 := n_nle (a := (gN f0 2721)) (b := (a0.1 0)) kk42 (by omega) (by omega)
        refine V_iload_n 18 B dX12_clashesRead_18 1 rfl ?_
        refine V_iload_n 19 B dX12_clashesRead_19 3 rfl ?_
        refine V_iconst 20 B (v := (-1)) dX12_clashesRead_20 (by decide +kernel) ?_
        refine V_icmp_eq 21 B 44 dX12_clashesRead_21 (by decide) (fun kk45 => ?_) (fun kk45 => ?_)
        ·
          obtain rfl : s0 = (-1) := kk45
          have e47 : ((-1) : Int32).toInt = (-1) := by decide +kernel
          refine V_aload_n 44 B dX12_clashesRead_44 2 rfl ?_
          refine V_sipush 45 B (v := 2718) dX12_clashesRead_45 (by decide +kernel) ?_
          refine V_iload 48 B dX12_clashesRead_48 0 rfl ?_
          refine V_csi 50 B (st := [.int 2718, .ref h0, .int 1]) (As := [.int (nI (a0.1 0))]) (fun sz => rX12_sequenceOf l D Y (a0.1 0) (by omega) sz) glS_RX12_85 ⟨rfl, rfl⟩ ⟨(Nat.le_of_ble_eq_true rfl), (Nat.le_of_ble_eq_true rfl)⟩ ⟨(Nat.le_of_ble_eq_true rfl), (Nat.le_of_ble_eq_true rfl)⟩ [] rfl rfl (Nat.le_of_ble_eq_true rfl) rfl (fun _ _ _ => rfl) dX12_clashesRead_50 (fun j48 u49 w50 => ?_)
          refine V_ws [(h0, oC 13 [.ref h1, .ref h2, .int p2, .ref h3, .ref h4, .int (nI k5), .int (nI k6), .int p7, .int p8, .int p9, .int (nI k10), .int p11, .long q12, .ref h5, .ref h6, .int (nI k15), .int (nI k16)]), (h1, aI Y 3640 f0), (h2, aZ Y 2 f1), (h3, aZ Y 80 f3), (h4, aB Y 1600 f4), (h5, aI Y 200 f13), (h6, aI Y 800 f14)] rfl ?_
          have x51 := w50
          clear w50
          obtain rfl := x51
          refine V_iadd 53 B (v := (nI (2904 + 7 * (a0.1 0)))) dX12_clashesRead_53 (nI_addE (a := 2718) (b := 186 + 7 * (a0.1 0)) (by omega)) ?_
          refine V_iload_n 54 B dX12_clashesRead_54 4 rfl ?_
          refine V_cvi 55 B (st := [.int 1]) (As := [.int (nI (2904 + 7 * (a0.1 0))), .int (nI s1)]) (fun sz => rX12_doClash l D Y h0 h1 h2 h3 h4 h5 h6 p2 k5 k6 p7 p8 p9 k10 p11 q12 k15 k16 f0 f1 f3 f4 f13 f14 ph HI (by omega) HP (2904 + 7 * (a0.1 0)) s1 (rl29 (a0.1 0) (by omega)) hs1 sz) glV_RX12_111 ⟨rfl, rfl⟩ ⟨(Nat.le_of_ble_eq_true rfl), (Nat.le_of_ble_eq_true rfl)⟩ ⟨(Nat.le_of_ble_eq_true rfl), (Nat.le_of_ble_eq_true rfl)⟩ [0, 0, 0, 0, 0, 0, 0] rfl 13 0 rfl rfl rfl rfl (Nat.le_of_ble_eq_true rfl) rfl (fun _ _ _ => rfl) dX12_clashesRead_55 (fun j52 u53 w54 => ?_)
          refine V_ws [(h0, oC 13 [.ref h1, .ref h2, .int p2, .ref h3, .ref h4, .int (nI k5), .int (nI k6), .int p7, .int p8, .int p9, .int (nI k10), .int p11, .long q12, .ref h5, .ref h6, .int (nI k15), .int (nI k16)]), (h1, aI Y 3640 f0), (h2, aZ Y 2 f1), (h3, aZ Y 80 f3), (h4, aB Y 1600 f4), (h5, aI Y 200 f13), (h6, aI Y 800 f14)] rfl ?_
          have x55 := w54
          clear w54
          rcases x55 with ⟨rfl, x56⟩ | ⟨rfl, x56⟩
          ·
            refine V_if_eq_t 58 B 65 dX12_clashesRead_58 (by decide) (by decide +kernel) ?_
            refine V_iconst 65 B (v := 0) dX12_clashesRead_65 (by decide +kernel) ?_
            refine V_ior 66 B (v := 1) dX12_clashesRead_66 (by decide +kernel) ?_
            refine V_istore_n 67 B (lv2 := [(3, .int 1), (4, .int (nI (a0.1 0))), (0, .ref h0), (1, .int (-1)), (2, .int (nI s1))]) dX12_clashesRead_67 (by decide) rfl ?_
            refine V_iinc 68 B (v := (nI (1 + (a0.1 0)))) (lv2 := [(4, .int (nI (1 + (a0.1 0)))), (3, .int 1), (0, .ref h0), (1, .int (-1)), (2, .int (nI s1))]) dX12_clashesRead_68 1 rfl (nI_addE (a := (a0.1 0)) (b := 1) (by omega)) (by decide) rfl ?_
            refine V_goto 71 B 5 dX12_clashesRead_71 (by decide) ?_
            refine V_lv [(4, .int (nI (1 + (a0.1 0)))), (3, .int 1), (0, .ref h0), (1, .int (-1)), (2, .int (nI s1))] [0, 1, 2, 3, 4] rfl ?_
            exact IH1 (mkW [1 + (a0.1 0)] [1] [] [] [] []) ⟨(show 1 + (a0.1 0) ≤ 80 by omega), (Or.inr rfl)⟩ (by show 100000 - (1 + (a0.1 0)) < 100000 - (a0.1 0); omega)
          ·
            refine V_if_eq_f 58 B 65 dX12_clashesRead_58 (by decide) (by decide +kernel) ?_
            refine V_iconst 61 B (v := 1) dX12_clashesRead_61 (by decide +kernel) ?_
            refine V_goto 62 B 66 dX12_clashesRead_62 (by decide) ?_
            refine V_ior 66 B (v := 1) dX12_clashesRead_66 (by decide +kernel) ?_
            refine V_istore_n 67 B (lv2 := [(3, .int 1), (4, .int (nI (a0.1 0))), (0, .ref h0), (1, .int (-1)), (2, .int (nI s1))]) dX12_clashesRead_67 (by decide) rfl ?_
            refine V_iinc 68 B (v := (nI (1 + (a0.1 0)))) (lv2 := [(4, .int (nI (1 + (a0.1 0)))), (3, .int 1), (0, .ref h0), (1, .int (-1)), (2, .int (nI s1))]) dX12_clashesRead_68 1 rfl (nI_addE (a := (a0.1 0)) (b := 1) (by omega)) (by decide) rfl ?_
            refine V_goto 71 B 5 dX12_clashesRead_71 (by decide) ?_
            refine V_lv [(4, .int (nI (1 + (a0.1 0)))), (3, .int 1), (0, .ref h0), (1, .int (-1)), (2, .int (nI s1))] [0, 1, 2, 3, 4] rfl ?_
            exact IH1 (mkW [1 + (a0.1 0)] [1] [] [] [] []) ⟨(show 1 + (a0.1 0) ≤ 80 by omega), (Or.inr rfl)⟩ (by show 100000 - (1 + (a0.1 0)) < 100000 - (a0.1 0); omega)
        ·
          have x57 := x_ne kk45
          rw [show ((-1) : Int32).toInt = (-1) by decide +kernel] at x57
          refine V_aload_n 24 B dX12_clashesRead_24 2 rfl ?_
          refine V_get 25 B gf_RX12_9 0 rfl rfl dX12_clashesRead_25 ?_
          refine V_sipush 28 B (v := 2718) dX12_clashesRead_28 (by decide +kernel) ?_
          refine V_iload 31 B dX12_clashesRead_31 0 rfl ?_
          refine V_csi 33 B (st := [.int 2718, .ref h1, .int 1]) (As := [.int (nI (a0.1 0))]) (fun sz => rX12_bindingAt l D Y (a0.1 0) (by omega) sz) glS_RX12_79 ⟨rfl, rfl⟩ ⟨(Nat.le_of_ble_eq_true rfl), (Nat.le_of_ble_eq_true rfl)⟩ ⟨(Nat.le_of_ble_eq_true rfl), (Nat.le_of_ble_eq_true rfl)⟩ [] rfl rfl (Nat.le_of_ble_eq_true rfl) rfl (fun _ _ _ => rfl) dX12_clashesRead_33 (fun j58 u59 w60 => ?_)
          refine V_ws [(h0, oC 13 [.ref h1, .ref h2, .int p2, .ref h3, .ref h4, .int (nI k5), .int (nI k6), .int p7, .int p8, .int p9, .int (nI k10), .int p11, .long q12, .ref h5, .ref h6, .int (nI k15), .int (nI k16)]), (h1, aI Y 3640 f0), (h2, aZ Y 2 f1), (h3, aZ Y 80 f3), (h4, aB Y 1600 f4), (h5, aI Y 200 f13), (h6, aI Y 800 f14)] rfl ?_
          have x61 := w60
          clear w60
          obtain rfl := x61
          refine V_iadd 36 B (v := (nI (2902 + 7 * (a0.1 0)))) dX12_clashesRead_36 (nI_addE (a := 2718) (b := 184 + 7 * (a0.1 0)) (by omega)) ?_
          refine V_iconst 37 B (v := 0) dX12_clashesRead_37 (by decide +kernel) ?_
          refine V_iadd 38 B (v := (nI (2902 + 7 * (a0.1 0)))) dX12_clashesRead_38 (nI_addE (a := 2902 + 7 * (a0.1 0)) (b := 0) (by omega)) ?_
          refine V_iald 39 B (v := f0 (2902 + 7 * (a0.1 0))) 1 rfl (vp_in_nI (n := 2902 + 7 * (a0.1 0)) (by omega) (by decide)) dX12_clashesRead_39 (by rw [nI_clamp (show 2902 + 7 * (a0.1 0) < 2 ^ 31 by omega)]) ?_
          refine V_nmi (fun j62 e63 => ?_)
          refine V_iload_n 40 B dX12_clashesRead_40 3 rfl ?_
          refine V_icmp_ne 41 B 65 dX12_clashesRead_41 (by decide) (fun kk64 => ?_) (fun kk64 => ?_)
          ·
            have x65 := x_ne kk64
            refine V_iconst 65 B (v := 0) dX12_clashesRead_65 (by decide +kernel) ?_
            refine V_ior 66 B (v := 1) dX12_clashesRead_66 (by decide +kernel) ?_
            refine V_istore_n 67 B (lv2 := [(3, .int 1), (4, .int (nI (a0.1 0))), (0, .ref h0), (1, .int s0), (2, .int (nI s1))]) dX12_clashesRead_67 (by decide) rfl ?_
            refine V_iinc 68 B (v := (nI (1 + (a0.1 0)))) (lv2 := [(4, .int (nI (1 + (a0.1 0)))), (3, .int 1), (0, .ref h0), (1, .int s0), (2, .int (nI s1))]) dX12_clashesRead_68 1 rfl (nI_addE (a := (a0.1 0)) (b := 1) (by omega)) (by decide) rfl ?_
            refine V_goto 71 B 5 dX12_clashesRead_71 (by decide) ?_
            refine V_lv [(4, .int (nI (1 + (a0.1 0)))), (3, .int 1), (0, .ref h0), (1, .int s0), (2, .int (nI s1))] [0, 1, 2, 3, 4] rfl ?_
            exact IH1 (mkW [1 + (a0.1 0)] [1] [] [] [] []) ⟨(show 1 + (a0.1 0) ≤ 80 by omega), (Or.inr rfl)⟩ (by show 100000 - (1 + (a0.1 0)) < 100000 - (a0.1 0); omega)
          ·
            have x66 := x_eq kk64
            refine V_aload_n 44 B dX12_clashesRead_44 2 rfl ?_
            refine V_sipush 45 B (v := 2718) dX12_clashesRead_45 (by decide +kernel) ?_
            refine V_iload 48 B dX12_clashesRead_48 0 rfl ?_
            refine V_csi 50 B (st := [.int 2718, .ref h0, .int 1]) (As := [.int (nI (a0.1 0))]) (fun sz => rX12_sequenceOf l D Y (a0.1 0) (by omega) sz) glS_RX12_85 ⟨rfl, rfl⟩ ⟨(Nat.le_of_ble_eq_true rfl), (Nat.le_of_ble_eq_true rfl)⟩ ⟨(Nat.le_of_ble_eq_true rfl), (Nat.le_of_ble_eq_true rfl)⟩ [] rfl rfl (Nat.le_of_ble_eq_true rfl) rfl (fun _ _ _ => rfl) dX12_clashesRead_50 (fun j67 u68 w69 => ?_)
            refine V_ws [(h0, oC 13 [.ref h1, .ref h2, .int p2, .ref h3, .ref h4, .int (nI k5), .int (nI k6), .int p7, .int p8, .int p9, .int (nI k10), .int p11, .long q12, .ref h5, .ref h6, .int (nI k15), .int (nI k16)]), (h1, aI Y 3640 f0), (h2, aZ Y 2 f1), (h3, aZ Y 80 f3), (h4, aB Y 1600 f4), (h5, aI Y 200 f13), (h6, aI Y 800 f14)] rfl ?_
            have x70 := w69
            clear w69
            obtain rfl := x70
            refine V_iadd 53 B (v := (nI (2904 + 7 * (a0.1 0)))) dX12_clashesRead_53 (nI_addE (a := 2718) (b := 186 + 7 * (a0.1 0)) (by omega)) ?_
            refine V_iload_n 54 B dX12_clashesRead_54 4 rfl ?_
            refine V_cvi 55 B (st := [.int 1]) (As := [.int (nI (2904 + 7 * (a0.1 0))), .int (nI s1)]) (fun sz => rX12_doClash l D Y h0 h1 h2 h3 h4 h5 h6 p2 k5 k6 p7 p8 p9 k10 p11 q12 k15 k16 f0 f1 f3 f4 f13 f14 ph HI (by omega) HP (2904 + 7 * (a0.1 0)) s1 (rl29 (a0.1 0) (by omega)) hs1 sz) glV_RX12_111 ⟨rfl, rfl⟩ ⟨(Nat.le_of_ble_eq_true rfl), (Nat.le_of_ble_eq_true rfl)⟩ ⟨(Nat.le_of_ble_eq_true rfl), (Nat.le_of_ble_eq_true rfl)⟩ [0, 0, 0, 0, 0, 0, 0] rfl 13 0 rfl rfl rfl rfl (Nat.le_of_ble_eq_true rfl) rfl (fun _ _ _ => rfl) dX12_clashesRead_55 (fun j71 u72 w73 => ?_)
            refine V_ws [(h0, oC 13 [.ref h1, .ref h2, .int p2, .ref h3, .ref h4, .int (nI k5), .int (nI k6), .int p7, .int p8, .int p9, .int (nI k10), .int p11, .long q12, .ref h5, .ref h6, .int (nI k15), .int (nI k16)]), (h1, aI Y 3640 f0), (h2, aZ Y 2 f1), (h3, aZ Y 80 f3), (h4, aB Y 1600 f4), (h5, aI Y 200 f13), (h6, aI Y 800 f14)] rfl ?_
            have x74 := w73
            clear w73
            rcases x74 with ⟨rfl, x75⟩ | ⟨rfl, x75⟩
            ·
              refine V_if_eq_t 58 B 65 dX12_clashesRead_58 (by decide) (by decide +kernel) ?_
              refine V_iconst 65 B (v := 0) dX12_clashesRead_65 (by decide +kernel) ?_
              refine V_ior 66 B (v := 1) dX12_clashesRead_66 (by decide +kernel) ?_
              refine V_istore_n 67 B (lv2 := [(3, .int 1), (4, .int (nI (a0.1 0))), (0, .ref h0), (1, .int s0), (2, .int (nI s1))]) dX12_clashesRead_67 (by decide) rfl ?_
              refine V_iinc 68 B (v := (nI (1 + (a0.1 0)))) (lv2 := [(4, .int (nI (1 + (a0.1 0)))), (3, .int 1), (0, .ref h0), (1, .int s0), (2, .int (nI s1))]) dX12_clashesRead_68 1 rfl (nI_addE (a := (a0.1 0)) (b := 1) (by omega)) (by decide) rfl ?_
              refine V_goto 71 B 5 dX12_clashesRead_71 (by decide) ?_
              refine V_lv [(4, .int (nI (1 + (a0.1 0)))), (3, .int 1), (0, .ref h0), (1, .int s0), (2, .int (nI s1))] [0, 1, 2, 3, 4] rfl ?_
              exact IH1 (mkW [1 + (a0.1 0)] [1] [] [] [] []) ⟨(show 1 + (a0.1 0) ≤ 80 by omega), (Or.inr rfl)⟩ (by show 100000 - (1 + (a0.1 0)) < 100000 - (a0.1 0); omega)
            ·
              refine V_if_eq_f 58 B 65 dX12_clashesRead_58 (by decide) (by decide +kernel) ?_
              refine V_iconst 61 B (v := 1) dX12_clashesRead_61 (by decide +kernel) ?_
              refine V_goto 62 B 66 dX12_clashesRead_62 (by decide) ?_
              refine V_ior 66 B (v := 1) dX12_clashesRead_66 (by decide +kernel) ?_
              refine V_istore_n 67 B (lv2 := [(3, .int 1), (4, .int (nI (a0.1 0))), (0, .ref h0), (1, .int s0), (2, .int (nI s1))]) dX12_clashesRead_67 (by decide) rfl ?_
              refine V_iinc 68 B (v := (nI (1 + (a0.1 0)))) (lv2 := [(4, .int (nI (1 + (a0.1 0)))), (3, .int 1), (0, .ref h0), (1, .int s0), (2, .int (nI s1))]) dX12_clashesRead_68 1 rfl (nI_addE (a := (a0.1 0)) (b := 1) (by omega)) (by decide) rfl ?_
              refine V_goto 71 B 5 dX12_clashesRead_71 (by decide) ?_
              refine V_lv [(4, .int (nI (1 + (a0.1 0)))), (3, .int 1), (0, .ref h0), (1, .int s0), (2, .int (nI s1))] [0, 1, 2, 3, 4] rfl ?_
              exact IH1 (mkW [1 + (a0.1 0)] [1] [] [] [] []) ⟨(show 1 + (a0.1 0) ≤ 80 by omega), (Or.inr rfl)⟩ (by show 100000 - (1 + (a0.1 0)) < 100000 - (a0.1 0); omega))
