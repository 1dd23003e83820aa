theorem dX12_readMode_0 : decode cX12_readMode 0 = .ok (.aload_n 0, 1) := by decide +kernel
theorem dX12_readMode_1 : decode cX12_readMode 1 = .ok (.getfield 9, 3) := by decide +kernel
theorem dX12_readMode_4 : decode cX12_readMode 4 = .ok (.sipush 2718, 3) := by decide +kernel
theorem dX12_readMode_7 : decode cX12_readMode 7 = .ok (.iaload, 1) := by decide +kernel
theorem dX12_readMode_8 : decode cX12_readMode 8 = .ok (.bipush 6, 2) := by decide +kernel
theorem dX12_readMode_10 : decode cX12_readMode 10 = .ok (.if_icmp .ne 9, 3) := by decide +kernel
theorem dX12_readMode_19 : decode cX12_readMode 19 = .ok (.aload_n 0, 1) := by decide +kernel
theorem dX12_readMode_20 : decode cX12_readMode 20 = .ok (.invokevirtual 288, 3) := by decide +kernel
theorem dX12_readMode_23 : decode cX12_readMode 23 = .ok (.aload_n 0, 1) := by decide +kernel
theorem dX12_readMode_24 : decode cX12_readMode 24 = .ok (.iconst 0, 1) := by decide +kernel
theorem dX12_readMode_25 : decode cX12_readMode 25 = .ok (.aload_n 0, 1) := by decide +kernel
theorem dX12_readMode_26 : decode cX12_readMode 26 = .ok (.getfield 9, 3) := by decide +kernel
theorem dX12_readMode_29 : decode cX12_readMode 29 = .ok (.sipush 2718, 3) := by decide +kernel
theorem dX12_readMode_32 : decode cX12_readMode 32 = .ok (.iaload, 1) := by decide +kernel
theorem dX12_readMode_33 : decode cX12_readMode 33 = .ok (.iconst 1, 1) := by decide +kernel
theorem dX12_readMode_34 : decode cX12_readMode 34 = .ok (.isub, 1) := by decide +kernel
theorem dX12_readMode_35 : decode cX12_readMode 35 = .ok (.invokevirtual 301, 3) := by decide +kernel
theorem glV_RX12_301 : GLV RX12 301 yX12_readNumber RX12 cX12_readNumber 3 (some .boolean) 2 := ⟨⟨(mT10 0 rfl rfl), (mT10 2 rfl rfl), (mTs 79 rfl rfl), (mT1 13 rfl rfl), (mT10 3 rfl rfl)⟩, by decide +kernel⟩
theorem dX12_readMode_38 : decode cX12_readMode 38 = .ok (.ifCond .ne 5, 3) := by decide +kernel
theorem dX12_readMode_41 : decode cX12_readMode 41 = .ok (.iconst 0, 1) := by decide +kernel
theorem dX12_readMode_42 : decode cX12_readMode 42 = .ok (.ireturn, 1) := by decide +kernel
theorem dX12_readMode_43 : decode cX12_readMode 43 = .ok (.aload_n 0, 1) := by decide +kernel
theorem dX12_readMode_44 : decode cX12_readMode 44 = .ok (.getfield 9, 3) := by decide +kernel
theorem dX12_readMode_47 : decode cX12_readMode 47 = .ok (.sipush 2734, 3) := by decide +kernel
theorem dX12_readMode_50 : decode cX12_readMode 50 = .ok (.aload_n 0, 1) := by decide +kernel
theorem dX12_readMode_51 : decode cX12_readMode 51 = .ok (.getfield 9, 3) := by decide +kernel
theorem dX12_readMode_54 : decode cX12_readMode 54 = .ok (.sipush 2718, 3) := by decide +kernel
theorem dX12_readMode_57 : decode cX12_readMode 57 = .ok (.iaload, 1) := by decide +kernel
theorem dX12_readMode_58 : decode cX12_readMode 58 = .ok (.iadd, 1) := by decide +kernel
theorem dX12_readMode_59 : decode cX12_readMode 59 = .ok (.aload_n 0, 1) := by decide +kernel
theorem dX12_readMode_60 : decode cX12_readMode 60 = .ok (.getfield 294, 3) := by decide +kernel
theorem gf_RX12_294 : GF RX12 294 13 11 := ⟨RX12, TX12, 17, rfl, inw_X12, Nat.le_of_ble_eq_true rfl, (mT7 148 rfl rfl)⟩
theorem dX12_readMode_63 : decode cX12_readMode 63 = .ok (.iastore, 1) := by decide +kernel
theorem rl26 : ∀ z0, z0 < 6 → bd (2734 + z0) = (-1, (z0 : Int) - 1) := by decide +kernel
theorem dX12_readMode_64 : decode cX12_readMode 64 = .ok (.aload_n 0, 1) := by decide +kernel
theorem dX12_readMode_65 : decode cX12_readMode 65 = .ok (.getfield 9, 3) := by decide +kernel
theorem dX12_readMode_68 : decode cX12_readMode 68 = .ok (.sipush 2718, 3) := by decide +kernel
theorem dX12_readMode_71 : decode cX12_readMode 71 = .ok (.dup2, 1) := by decide +kernel
theorem dX12_readMode_72 : decode cX12_readMode 72 = .ok (.iaload, 1) := by decide +kernel
theorem dX12_readMode_73 : decode cX12_readMode 73 = .ok (.iconst 1, 1) := by decide +kernel
theorem dX12_readMode_74 : decode cX12_readMode 74 = .ok (.iadd, 1) := by decide +kernel
theorem dX12_readMode_75 : decode cX12_readMode 75 = .ok (.iastore, 1) := by decide +kernel
theorem dX12_readMode_76 : decode cX12_readMode 76 = .ok (.aload_n 0, 1) := by decide +kernel
theorem dX12_readMode_77 : decode cX12_readMode 77 = .ok (.invokevirtual 304, 3) := by decide +kernel
theorem glV_RX12_304 : GLV RX12 304 yX12_readEnd RX12 cX12_readEnd 1 (some .boolean) 0 := ⟨⟨(mT10 4 rfl rfl), (mT10 6 rfl rfl), (mTs 80 rfl rfl), (mT1 13 rfl rfl), (mT10 7 rfl rfl)⟩, by decide +kernel⟩
theorem dX12_readMode_80 : decode cX12_readMode 80 = .ok (.ireturn, 1) := by decide +kernel
theorem dX12_readMode_13 : decode cX12_readMode 13 = .ok (.aload_n 0, 1) := by decide +kernel
theorem dX12_readMode_14 : decode cX12_readMode 14 = .ok (.iconst 3, 1) := by decide +kernel
theorem dX12_readMode_15 : decode cX12_readMode 15 = .ok (.invokevirtual 291, 3) := by decide +kernel
theorem dX12_readMode_18 : decode cX12_readMode 18 = .ok (.ireturn, 1) := by decide +kernel
set_option maxRecDepth 100000 in
set_option maxHeartbeats 4000000 in
theorem rX12_readMode (l : Launch) (D : va_G) (Y : Nat → ClassId) (h0 : Nat) (h1 : Nat) (h2 : Nat) (h3 : Nat) (h4 : Nat) (h5 : Nat) (h6 : Nat) (p2 : Int32) (k5 : Nat) (k6 : Nat) (p7 : Int32) (p8 : Int32) (p9 : Int32) (k10 : Nat) (p11 : Int32) (q12 : Int64) (k15 : Nat) (k16 : Nat) (f0 : Nat → Int32) (f1 : Nat → Int32) (f3 : Nat → Int32) (f4 : Nat → Int32) (f13 : Nat → Int32) (f14 : Nat → Int32) (HI : INV f0) (HL : k5 ≤ 1600) (HP : PLV f13)  (hx0 : k10 ≤ k6) (hx1 : k6 ≤ k5) (hx2 : (p9 = 0 ∨ k10 < k6)) (hx3 : k10 < k6) (sz : Nat) : Met l yX12_readMode (WSm yX12_readMode cX12_readMode 1 (some .boolean)) (mkR 5 0 0 108) (PreC D Y [.ref h0] [(h0, oC 13 [.ref h1, .ref h2, .int p2, .ref h3, .ref h4, .int (nI k5), .int (nI k6), .int p7, .int p8, .int p9, .int (nI k10), .int p11, .long q12, .ref h5, .ref h6, .int (nI k15), .int (nI k16)]), (h1, aI Y 3640 f0), (h2, aZ Y 2 f1), (h3, aZ Y 80 f3), (h4, aB Y 1600 f4), (h5, aI Y 200 f13), (h6, aI Y 800 f14)] sz) (QI D (fun (r : Int32) (u : WU) => (r = 0 ∨ (r = 1 ∧ k10 < (u.1 1))) ∧ INV (u.2.2.2.1 0) ∧ k10 ≤ (u.1 1) ∧ (u.1 1) ≤ (u.1 0) ∧ (u.1 0) ≤ k5 ∧ ((u.2.1 2) = 0 ∨ (u.1 1) < (u.1 0))) (fun (u : WU) => [(h0, oC 13 [.ref h1, .ref h2, .int p2, .ref h3, .ref h4, .int (nI k5), .int (nI (u.1 0)), .int (u.2.1 0), .int (u.2.1 1), .int (u.2.1 2), .int (nI (u.1 1)), .int (u.2.1 3), .long (u.2.2.1 0), .ref h5, .ref h6, .int (nI k15), .int (nI k16)]), (h1, aI Y 3640 (u.2.2.2.1 0)), (h2, aZ Y 2 f1), (h3, aZ Y 80 f3), (h4, aB Y 1600 f4), (h5, aI Y 200 f13), (h6, aI Y 800 f14)]) (va_A [(h0, oC 13 [.ref h1, .ref h2, .int p2, .ref h3, .ref h4, .int (nI k5), .int (nI k6), .int p7, .int p8, .int p9, .int (nI k10), .int p11, .long q12, .ref h5, .ref h6, .int (nI k15), .int (nI k16)]), (h1, aI Y 3640 f0), (h2, aZ Y 2 f1), (h3, aZ Y 80 f3), (h4, aB Y 1600 f4), (h5, aI Y 200 f13), (h6, aI Y 800 f14)] sz)) 0 0 (va_A [(h0, oC 13 [.ref h1, .ref h2, .int p2, .ref h3, .ref h4, .int (nI k5), .int (nI k6), .int p7, .int p8, .int p9, .int (nI k10), .int p11, .long q12, .ref h5, .ref h6, .int (nI k15), .int (nI k16)]), (h1, aI Y 3640 f0), (h2, aZ Y 2 f1), (h3, aZ Y 80 f3), (h4, aB Y 1600 f4), (h5, aI Y 200 f13), (h6, aI Y 800 f14)] sz) :=
  met_of  (by decide +kernel) (Nat.le_of_ble_eq_true rfl) (fun p e s m args below meth c B hin hsz => by
    have B : VB p s m args meth c D Y (va_A [(h0, oC 13 [.ref h1, .ref h2, .int p2, .ref h3, .ref h4, .int (nI k5), .int (nI k6), .int p7, .int p8, .int p9, .int (nI k10), .int p11, .long q12, .ref h5, .ref h6, .int (nI k15), .int (nI k16)]), (h1, aI Y 3640 f0), (h2, aZ Y 2 f1), (h3, aZ Y 80 f3), (h4, aB Y 1600 f4), (h5, aI Y 200 f13), (h6, aI Y 800 f14)] sz) cX12_readMode 1 RX12 (some .boolean) := B
    refine V_aload_n 0 B dX12_readMode_0 0 rfl ?_
    refine V_get 1 B gf_RX12_9 0 rfl rfl dX12_readMode_1 ?_
    refine V_sipush 4 B (v := 2718) dX12_readMode_4 (by decide +kernel) ?_
    have x0 : (gN f0 2718) ≤ 6 := gN_le HI (by omega) (show bd 2718 = (0, ((6 : Nat) : Int)) by decide +kernel)
    refine V_iald 7 B (v := (nI (gN f0 2718))) 1 rfl (vpin _ _ (by decide +kernel)) dX12_readMode_7 (by show f0 2718 = _; exact gN_eq HI (by omega) (show bd 2718 = (0, ((6 : Nat) : Int)) by decide +kernel)) ?_
    refine V_bipush 8 B (v := 6) dX12_readMode_8 (by decide +kernel) ?_
    refine V_icmp_ne 10 B 19 dX12_readMode_10 (by decide) (fun kk1 => ?_) (fun kk1 => ?_)
    ·
      have x2 := n_ne (a := (gN f0 2718)) (b := 6) kk1
      refine V_aload_n 19 B dX12_readMode_19 0 rfl ?_
      refine V_cvv 20 B (st := []) (As := []) (fun sz => rX12_advance l D Y h0 h1 h2 h3 h4 h5 h6 p2 k5 k6 p7 p8 p9 k10 p11 q12 k15 k16 f0 f1 f3 f4 f13 f14 HI (by omega) HP (by omega) sz) glV_RX12_288 ⟨rfl, rfl⟩ ⟨(Nat.le_of_ble_eq_true rfl), (Nat.le_of_ble_eq_true rfl)⟩ ⟨(Nat.le_of_ble_eq_true rfl), (Nat.le_of_ble_eq_true rfl)⟩ [0, 0, 0, 0, 0, 0, 0] rfl 13 0 rfl rfl rfl rfl (Nat.le_of_ble_eq_true rfl) rfl (fun _ _ => rfl) dX12_readMode_20 (fun u4 w5 => ?_)
      refine V_ws [(h0, oC 13 [.ref h1, .ref h2, .int p2, .ref h3, .ref h4, .int (nI k5), .int (nI (u4.1 0)), .int p7, .int p8, .int (u4.2.1 0), .int (nI (u4.1 1)), .int p11, .long (u4.2.2.1 0), .ref h5, .ref h6, .int (nI k15), .int (nI k16)]), (h1, aI Y 3640 f0), (h2, aZ Y 2 f1), (h3, aZ Y 80 f3), (h4, aB Y 1600 f4), (h5, aI Y 200 f13), (h6, aI Y 800 f14)] rfl ?_
      obtain ⟨x6, x7, x8, x9⟩ := w5
      refine V_aload_n 23 B dX12_readMode_23 0 rfl ?_
      refine V_iconst 24 B (v := 0) dX12_readMode_24 (by decide +kernel) ?_
      refine V_aload_n 25 B dX12_readMode_25 0 rfl ?_
      refine V_get 26 B gf_RX12_9 0 rfl rfl dX12_readMode_26 ?_
      refine V_sipush 29 B (v := 2718) dX12_readMode_29 (by decide +kernel) ?_
      have x10 : (gN f0 2718) ≤ 6 := gN_le HI (by omega) (show bd 2718 = (0, ((6 : Nat) : Int)) by decide +kernel)
      refine V_iald 32 B (v := (nI (gN f0 2718))) 1 rfl (vpin _ _ (by decide +kernel)) dX12_readMode_32 (by show f0 2718 = _; exact gN_eq HI (by omega) (show bd 2718 = (0, ((6 : Nat) : Int)) by decide +kernel)) ?_
      refine V_iconst 33 B (v := 1) dX12_readMode_33 (by decide +kernel) ?_
      refine V_isub 34 B dX12_readMode_34 rfl ?_
      refine V_nmi (fun j11 e12 => ?_)
      have x13 : j11.toInt = (((gN f0 2718) : Nat) : Int) - ((1 : Nat) : Int) := by rw [e12]; exact nI_subT (a := (gN f0 2718)) (b := 1) (by omega) (by omega)
      refine V_cvi 35 B (st := []) (As := [.int 0, .int j11]) (fun sz => rX12_readNumber l D Y h0 h1 h2 h3 h4 h5 h6 p2 k5 (u4.1 0) p7 p8 (u4.2.1 0) (u4.1 1) p11 (u4.2.2.1 0) k15 k16 f0 f1 f3 f4 f13 f14 HI (by omega) HP 0 j11 (by omega) (by omega) (by first | assumption | exact Or.inl rfl | exact Or.inr (by omega)) (by decide +kernel) sz) glV_RX12_301 ⟨rfl, rfl⟩ ⟨(Nat.le_of_ble_eq_true rfl), (Nat.le_of_ble_eq_true rfl)⟩ ⟨(Nat.le_of_ble_eq_true rfl), (Nat.le_of_ble_eq_true rfl)⟩ [0, 0, 0, 0, 0, 0, 0] rfl 13 0 rfl rfl rfl rfl (Nat.le_of_ble_eq_true rfl) rfl (fun _ _ _ => rfl) dX12_readMode_35 (fun j14 u15 w16 => ?_)
      refine V_ws [(h0, oC 13 [.ref h1, .ref h2, .int p2, .ref h3, .ref h4, .int (nI k5), .int (nI (u15.1 0)), .int (u15.2.1 0), .int (u15.2.1 1), .int (u15.2.1 2), .int (nI (u15.1 1)), .int (u15.2.1 3), .long (u15.2.2.1 0), .ref h5, .ref h6, .int (nI k15), .int (nI k16)]), (h1, aI Y 3640 f0), (h2, aZ Y 2 f1), (h3, aZ Y 80 f3), (h4, aB Y 1600 f4), (h5, aI Y 200 f13), (h6, aI Y 800 f14)] rfl ?_
      obtain ⟨x17, x18, x19, x20, x21⟩ := w16
      rcases x17 with rfl | ⟨rfl, x22, x23⟩
      ·
        refine V_if_ne_f 38 B 43 dX12_readMode_38 (by decide) (by decide +kernel) ?_
        refine V_iconst 41 B (v := 0) dX12_readMode_41 (by decide +kernel) ?_
        exact V_zret 42 B rfl dX12_readMode_42 (mkW [(u15.1 0), (u15.1 1)] [(u15.2.1 0), (u15.2.1 1), (u15.2.1 2), (u15.2.1 3)] [(u15.2.2.1 0)] [f0] [] []) ⟨(Or.inl rfl), HI, (show k10 ≤ (u15.1 1) by omega), (show (u15.1 1) ≤ (u15.1 0) by omega), (show (u15.1 0) ≤ k5 by omega), (show ((u15.2.1 2) = 0 ∨ (u15.1 1) < (u15.1 0)) by first | assumption | exact Or.inr (by omega))⟩ rfl
      ·
        have e24 : (0 : Int32).toInt = 0 := by decide +kernel
        generalize u15.2.1 3 = j25 at *
        refine V_if_ne_t 38 B 43 dX12_readMode_38 (by decide) (by decide +kernel) ?_
        refine V_aload_n 43 B dX12_readMode_43 0 rfl ?_
        refine V_get 44 B gf_RX12_9 0 rfl rfl dX12_readMode_44 ?_
        refine V_sipush 47 B (v := 2734) dX12_readMode_47 (by decide +kernel) ?_
        refine V_aload_n 50 B dX12_readMode_50 0 rfl ?_
        refine V_get 51 B gf_RX12_9 0 rfl rfl dX12_readMode_51 ?_
        refine V_sipush 54 B (v := 2718) dX12_readMode_54 (by decide +kernel) ?_
        have x26 : (gN f0 2718) ≤ 6 := gN_le HI (by omega) (show bd 2718 = (0, ((6 : Nat) : Int)) by decide +kernel)
        refine V_iald 57 B (v := (nI (gN f0 2718))) 1 rfl (vpin _ _ (by decide +kernel)) dX12_readMode_57 (by show f0 2718 = _; exact gN_eq HI (by omega) (show bd 2718 = (0, ((6 : Nat) : Int)) by decide +kernel)) ?_
        refine V_iadd 58 B (v := (nI (2734 + (gN f0 2718)))) dX12_readMode_58 (nI_addE (a := 2734) (b := (gN f0 2718)) (by omega)) ?_
        refine V_aload_n 59 B dX12_readMode_59 0 rfl ?_
        refine V_get 60 B gf_RX12_294 0 rfl rfl dX12_readMode_60 ?_
        have hv27 : INV (upd f0 (2734 + (gN f0 2718)) j25) := INV_upd HI (rl26 (gN f0 2718) (by omega)) (by omega) (by omega)
        refine V_iast 63 B 1 rfl (vp_in_nI (n := 2734 + (gN f0 2718)) (by omega) (by decide)) dX12_readMode_63 [(h0, oC 13 [.ref h1, .ref h2, .int p2, .ref h3, .ref h4, .int (nI k5), .int (nI (u15.1 0)), .int (u15.2.1 0), .int (u15.2.1 1), .int (u15.2.1 2), .int (nI (u15.1 1)), .int j25, .long (u15.2.2.1 0), .ref h5, .ref h6, .int (nI k15), .int (nI k16)]), (h1, aI Y 3640 (upd f0 (2734 + (gN f0 2718)) j25)), (h2, aZ Y 2 f1), (h3, aZ Y 80 f3), (h4, aB Y 1600 f4), (h5, aI Y 200 f13), (h6, aI Y 800 f14)] (by rw [nI_clamp (show 2734 + (gN f0 2718) < 2 ^ 31 by omega)]; rfl) ?_
        refine V_aload_n 64 B dX12_readMode_64 0 rfl ?_
        refine V_get 65 B gf_RX12_9 0 rfl rfl dX12_readMode_65 ?_
        refine V_sipush 68 B (v := 2718) dX12_readMode_68 (by decide +kernel) ?_
        refine V_dup2_11 71 B dX12_readMode_71 rfl rfl ?_
        have x28 : (gN f0 2718) ≤ 6 := gN_le HI (by omega) (show bd 2718 = (0, ((6 : Nat) : Int)) by decide +kernel)
        refine V_iald 72 B (v := (nI (gN f0 2718))) 1 rfl (vpin _ _ (by decide +kernel)) dX12_readMode_72 (by show (upd f0 (2734 + (gN f0 2718)) j25) 2718 = _; rw [upd_ne (by omega)]; exact gN_eq HI (by omega) (show bd 2718 = (0, ((6 : Nat) : Int)) by decide +kernel)) ?_
        refine V_iconst 73 B (v := 1) dX12_readMode_73 (by decide +kernel) ?_
        refine V_iadd 74 B (v := (nI (1 + (gN f0 2718)))) dX12_readMode_74 (nI_addE (a := (gN f0 2718)) (b := 1) (by omega)) ?_
        have hv29 : INV (upd (upd f0 (2734 + (gN f0 2718)) j25) 2718 (nI (1 + (gN f0 2718)))) := INV_nat (v := 1 + (gN f0 2718)) hv27 (show bd 2718 = (0, ((6 : Nat) : Int)) by decide +kernel) (by omega) (by decide)
        refine V_iast 75 B 1 rfl (vpin _ _ (by decide +kernel)) dX12_readMode_75 [(h0, oC 13 [.ref h1, .ref h2, .int p2, .ref h3, .ref h4, .int (nI k5), .int (nI (u15.1 0)), .int (u15.2.1 0), .int (u15.2.1 1), .int (u15.2.1 2), .int (nI (u15.1 1)), .int j25, .long (u15.2.2.1 0), .ref h5, .ref h6, .int (nI k15), .int (nI k16)]), (h1, aI Y 3640 (upd (upd f0 (2734 + (gN f0 2718)) j25) 2718 (nI (1 + (gN f0 2718))))), (h2, aZ Y 2 f1), (h3, aZ Y 80 f3), (h4, aB Y 1600 f4), (h5, aI Y 200 f13), (h6, aI Y 800 f14)] rfl ?_
        refine V_aload_n 76 B dX12_readMode_76 0 rfl ?_
        refine V_cvi 77 B (st := []) (As := []) (fun sz => rX12_readEnd l D Y h0 h1 h2 h3 h4 h5 h6 p2 k5 (u15.1 0) (u15.2.1 0) (u15.2.1 1) (u15.2.1 2) (u15.1 1) j25 (u15.2.2.1 0) k15 k16 (upd (upd f0 (2734 + (gN f0 2718)) j25) 2718 (nI (1 + (gN f0 2718)))) f1 f3 f4 f13 f14 hv29 (by omega) HP (by omega) (by omega) (by first | assumption | exact Or.inl rfl | exact Or.inr (by omega)) sz) glV_RX12_304 ⟨rfl, rfl⟩ ⟨(Nat.le_of_ble_eq_true rfl), (Nat.le_of_ble_eq_true rfl)⟩ ⟨(Nat.le_of_ble_eq_true rfl), (Nat.le_of_ble_eq_true rfl)⟩ [0, 0, 0, 0, 0, 0, 0] rfl 13 0 rfl rfl rfl rfl (Nat.le_of_ble_eq_true rfl) rfl (fun _ _ _ => rfl) dX12_readMode_77 (fun j30 u31 w32 => ?_)
        refine V_ws [(h0, oC 13 [.ref h1, .ref h2, .int p2, .ref h3, .ref h4, .int (nI k5), .int (nI (u31.1 0)), .int (u31.2.1 0), .int (u31.2.1 1), .int (u31.2.1 2), .int (nI (u31.1 1)), .int j25, .long (u31.2.2.1 0), .ref h5, .ref h6, .int (nI k15), .int (nI k16)]), (h1, aI Y 3640 (upd (upd f0 (2734 + (gN f0 2718)) j25) 2718 (nI (1 + (gN f0 2718))))), (h2, aZ Y 2 f1), (h3, aZ Y 80 f3), (h4, aB Y 1600 f4), (h5, aI Y 200 f13), (h6, aI Y 800 f14)] rfl ?_
        obtain ⟨x33, x34, x35, x36, x37⟩ := w32
        rcases x33 with rfl | ⟨rfl, x38⟩
        ·
          exact V_zret 80 B rfl dX12_readMode_80 (mkW [(u31.1 0), (u31.1 1)] [(u31.2.1 0), (u31.2.1 1), (u31.2.1 2), j25] [(u31.2.2.1 0)] [(upd (upd f0 (2734 + (gN f0 2718)) j25) 2718 (nI (1 + (gN f0 2718))))] [] []) ⟨(Or.inl rfl), hv29, (show k10 ≤ (u31.1 1) by omega), (show (u31.1 1) ≤ (u31.1 0) by omega), (show (u31.1 0) ≤ k5 by omega), (show ((u31.2.1 2) = 0 ∨ (u31.1 1) < (u31.1 0)) by first | assumption | exact Or.inr (by omega))⟩ rfl
        ·
          exact V_zret 80 B rfl dX12_readMode_80 (mkW [(u31.1 0), (u31.1 1)] [(u31.2.1 0), (u31.2.1 1), (u31.2.1 2), j25] [(u31.2.2.1 0)] [(upd (upd f0 (2734 + (gN f0 2718)) j25) 2718 (nI (1 + (gN f0 2718))))] [] []) ⟨(Or.inr ⟨rfl, (show k10 < (u31.1 1) by omega)⟩), hv29, (show k10 ≤ (u31.1 1) by omega), (show (u31.1 1) ≤ (u31.1 0) by omega), (show (u31.1 0) ≤ k5 by omega), (show ((u31.2.1 2) = 0 ∨ (u31.1 1) < (u31.1 0)) by first | assumption | exact Or.inr (by omega))⟩ rfl
    ·
      have x39 := n_eq (a := (gN f0 2718)) (b := 6) kk1 (by omega) (by omega)
      refine V_aload_n 13 B dX12_readMode_13 0 rfl ?_
      refine V_iconst 14 B (v := 3) dX12_readMode_14 (by decide +kernel) ?_
      refine V_cvi 15 B (st := []) (As := [.int 3]) (fun sz => rX12_fail l D Y h0 h1 h2 h3 h4 h5 h6 p2 k5 k6 p7 p8 p9 k10 p11 q12 k15 k16 f0 f1 f3 f4 f13 f14 HI (by omega) HP 3 sz) glV_RX12_291 ⟨rfl, rfl⟩ ⟨(Nat.le_of_ble_eq_true rfl), (Nat.le_of_ble_eq_true rfl)⟩ ⟨(Nat.le_of_ble_eq_true rfl), (Nat.le_of_ble_eq_true rfl)⟩ [0, 0, 0, 0, 0, 0, 0] rfl 13 0 rfl rfl rfl rfl (Nat.le_of_ble_eq_true rfl) rfl (fun _ _ _ => rfl) dX12_readMode_15 (fun j40 u41 w42 => ?_)
      refine V_ws [(h0, oC 13 [.ref h1, .ref h2, .int p2, .ref h3, .ref h4, .int (nI k5), .int (nI k6), .int (u41.2.1 0), .int (u41.2.1 1), .int p9, .int (nI k10), .int p11, .long q12, .ref h5, .ref h6, .int (nI k15), .int (nI k16)]), (h1, aI Y 3640 f0), (h2, aZ Y 2 f1), (h3, aZ Y 80 f3), (h4, aB Y 1600 f4), (h5, aI Y 200 f13), (h6, aI Y 800 f14)] rfl ?_
      have x43 := w42
      clear w42
      obtain rfl := x43
      exact V_zret 18 B rfl dX12_readMode_18 (mkW [k6, k10] [(u41.2.1 0), (u41.2.1 1), p9, p11] [q12] [f0] [] []) ⟨(Or.inl rfl), HI, (show k10 ≤ k10 by omega), (show k10 ≤ k6 by omega), (show k6 ≤ k5 by omega), (show (p9 = 0 ∨ k10 < k6) by first | assumption | exact Or.inr (by omega))⟩ rfl)
theorem dX12_readCommand_0 : decode cX12_readCommand 0 = .ok (.aload_n 0, 1) := by decide +kernel
theorem dX12_readCommand_1 : decode cX12_readCommand 1 = .ok (.getfield 9, 3) := by decide +kernel
theorem dX12_readCommand_4 : decode cX12_readCommand 4 = .ok (.sipush 2719, 3) := by decide +kernel
theorem dX12_readCommand_7 : decode cX12_readCommand 7 = .ok (.iaload, 1) := by decide +kernel
theorem dX12_readCommand_8 : decode cX12_readCommand 8 = .ok (.bipush 40, 2) := by decide +kernel
theorem dX12_readCommand_10 : decode cX12_readCommand 10 = .ok (.if_icmp .ne 9, 3) := by decide +kernel
theorem dX12_readCommand_19 : decode cX12_readCommand 19 = .ok (.aload_n 0, 1) := by decide +kernel
theorem dX12_readCommand_20 : decode cX12_readCommand 20 = .ok (.invokevirtual 288, 3) := by decide +kernel
theorem dX12_readCommand_23 : decode cX12_readCommand 23 = .ok (.aload_n 0, 1) := by decide +kernel
theorem dX12_readCommand_24 : decode cX12_readCommand 24 = .ok (.iconst (-1), 1) := by decide +kernel
theorem dX12_readCommand_25 : decode cX12_readCommand 25 = .ok (.putfield 294, 3) := by decide +kernel
theorem dX12_readCommand_28 : decode cX12_readCommand 28 = .ok (.iload_n 1, 1) := by decide +kernel
theorem dX12_readCommand_29 : decode cX12_readCommand 29 = .ok (.iconst 1, 1) := by decide +kernel
theorem dX12_readCommand_30 : decode cX12_readCommand 30 = .ok (.if_icmp .ne 14, 3) := by decide +kernel
theorem dX12_readCommand_44 : decode cX12_readCommand 44 = .ok (.sipush 2752, 3) := by decide +kernel
theorem dX12_readCommand_47 : decode cX12_readCommand 47 = .ok (.iconst 3, 1) := by decide +kernel
theorem dX12_readCommand_48 : decode cX12_readCommand 48 = .ok (.aload_n 0, 1) := by decide +kernel
theorem dX12_readCommand_49 : decode cX12_readCommand 49 = .ok (.getfield 9, 3) := by decide +kernel
theorem dX12_readCommand_52 : decode cX12_readCommand 52 = .ok (.sipush 2719, 3) := by decide +kernel
theorem dX12_readCommand_55 : decode cX12_readCommand 55 = .ok (.iaload, 1) := by decide +kernel
theorem dX12_readCommand_56 : decode cX12_readCommand 56 = .ok (.imul, 1) := by decide +kernel
theorem dX12_readCommand_57 : decode cX12_readCommand 57 = .ok (.iadd, 1) := by decide +kernel
theorem dX12_readCommand_58 : decode cX12_readCommand 58 = .ok (.istore_n 2, 1) := by decide +kernel
theorem dX12_readCommand_59 : decode cX12_readCommand 59 = .ok (.aload_n 0, 1) := by decide +kernel
theorem dX12_readCommand_60 : decode cX12_readCommand 60 = .ok (.getfield 9, 3) := by decide +kernel
theorem dX12_readCommand_63 : decode cX12_readCommand 63 = .ok (.iload_n 2, 1) := by decide +kernel
theorem dX12_readCommand_64 : decode cX12_readCommand 64 = .ok (.iconst 0, 1) := by decide +kernel
theorem dX12_readCommand_65 : decode cX12_readCommand 65 = .ok (.iadd, 1) := by decide +kernel
theorem dX12_readCommand_66 : decode cX12_readCommand 66 = .ok (.iload_n 1, 1) := by decide +kernel
theorem dX12_readCommand_67 : decode cX12_readCommand 67 = .ok (.iastore, 1) := by decide +kernel
theorem rl27 : ∀ z0, z0 < 40 → bd (2752 + 3 * z0) = FREE := by decide +kernel
theorem dX12_readCommand_68 : decode cX12_readCommand 68 = .ok (.aload_n 0, 1) := by decide +kernel
theorem dX12_readCommand_69 : decode cX12_readCommand 69 = .ok (.getfield 9, 3) := by decide +kernel
theorem dX12_readCommand_72 : decode cX12_readCommand 72 = .ok (.iload_n 2, 1) := by decide +kernel
theorem dX12_readCommand_73 : decode cX12_readCommand 73 = .ok (.iconst 1, 1) := by decide +kernel
theorem dX12_readCommand_74 : decode cX12_readCommand 74 = .ok (.iadd, 1) := by decide +kernel
theorem dX12_readCommand_75 : decode cX12_readCommand 75 = .ok (.aload_n 0, 1) := by decide +kernel
theorem dX12_readCommand_76 : decode cX12_readCommand 76 = .ok (.getfield 294, 3) := by decide +kernel
theorem dX12_readCommand_79 : decode cX12_readCommand 79 = .ok (.iastore, 1) := by decide +kernel
theorem rl28 : ∀ z0, z0 < 40 → bd (2753 + 3 * z0) = ((-1), 5) := by decide +kernel
theorem dX12_readCommand_80 : decode cX12_readCommand 80 = .ok (.aload_n 0, 1) := by decide +kernel
theorem dX12_readCommand_81 : decode cX12_readCommand 81 = .ok (.getfield 9, 3) := by decide +kernel
theorem dX12_readCommand_84 : decode cX12_readCommand 84 = .ok (.sipush 2719, 3) := by decide +kernel
theorem dX12_readCommand_87 : decode cX12_readCommand 87 = .ok (.dup2, 1) := by decide +kernel
theorem dX12_readCommand_88 : decode cX12_readCommand 88 = .ok (.iaload, 1) := by decide +kernel
theorem dX12_readCommand_89 : decode cX12_readCommand 89 = .ok (.iconst 1, 1) := by decide +kernel
theorem dX12_readCommand_90 : decode cX12_readCommand 90 = .ok (.iadd, 1) := by decide +kernel
theorem dX12_readCommand_91 : decode cX12_readCommand 91 = .ok (.iastore, 1) := by decide +kernel
theorem dX12_readCommand_92 : decode cX12_readCommand 92 = .ok (.aload_n 0, 1) := by decide +kernel
theorem dX12_readCommand_93 : decode cX12_readCommand 93 = .ok (.invokevirtual 304, 3) := by decide +kernel
theorem dX12_readCommand_96 : decode cX12_readCommand 96 = .ok (.ireturn, 1) := by decide +kernel
theorem dX12_readCommand_33 : decode cX12_readCommand 33 = .ok (.aload_n 0, 1) := by decide +kernel
theorem dX12_readCommand_34 : decode cX12_readCommand 34 = .ok (.iconst 0, 1) := by decide +kernel
theorem dX12_readCommand_35 : decode cX12_readCommand 35 = .ok (.iconst 5, 1) := by decide +kernel
theorem dX12_readCommand_36 : decode cX12_readCommand 36 = .ok (.invokevirtual 301, 3) := by decide +kernel
theorem dX12_readCommand_39 : decode cX12_readCommand 39 = .ok (.ifCond .ne 5, 3) := by decide +kernel
theorem dX12_readCommand_42 : decode cX12_readCommand 42 = .ok (.iconst 0, 1) := by decide +kernel
theorem dX12_readCommand_43 : decode cX12_readCommand 43 = .ok (.ireturn, 1) := by decide +kernel
theorem dX12_readCommand_13 : decode cX12_readCommand 13 = .ok (.aload_n 0, 1) := by decide +kernel
theorem dX12_readCommand_14 : decode cX12_readCommand 14 = .ok (.iconst 3, 1) := by decide +kernel
theorem dX12_readCommand_15 : decode cX12_readCommand 15 = .ok (.invokevirtual 291, 3) := by decide +kernel
theorem dX12_readCommand_18 : decode cX12_readCommand 18 = .ok (.ireturn, 1) := by decide +kernel
set_option maxRecDepth 100000 in
set_option maxHeartbeats 4000000 in
theorem rX12_readCommand (l : Launch) (D : va_G) (Y : Nat → ClassId) (h0 : Nat) (h1 : Nat) (h2 : Nat) (h3 : Nat) (h4 : Nat) (h5 : Nat) (h6 : Nat) (p2 : Int32) (k5 : Nat) (k6 : Nat) (p7 : Int32) (p8 : Int32) (p9 : Int32) (k10 : Nat) (p11 : Int32) (q12 : Int64) (k15 : Nat) (k16 : Nat) (f0 : Nat → Int32) (f1 : Nat → Int32) (f3 : Nat → Int32) (f4 : Nat → Int32) (f13 : Nat → Int32) (f14 : Nat → Int32) (HI : INV f0) (HL : k5 ≤ 1600) (HP : PLV f13) (s0 : Int32) (hx0 : k10 ≤ k6) (hx1 : k6 ≤ k5) (hx2 : (p9 = 0 ∨ k10 < k6)) (hx3 : k10 < k6) (sz : Nat) : Met l yX12_readCommand (WSm yX12_readCommand cX12_readCommand 3 (some .boolean)) (mkR 5 0 0 108) (PreC D Y [.ref h0, .int s0] [(h0, oC 13 [.ref h1, .ref h2, .int p2, .ref h3, .ref h4, .int (nI k5), .int (nI k6), .int p7, .int p8, .int p9, .int (nI k10), .int p11, .long q12, .ref h5, .ref h6, .int (nI k15), .int (nI k16)]), (h1, aI Y 3640 f0), (h2, aZ Y 2 f1), (h3, aZ Y 80 f3), (h4, aB Y 1600 f4), (h5, aI Y 200 f13), (h6, aI Y 800 f14)] sz) (QI D (fun (r : Int32) (u : WU) => (r = 0 ∨ (r = 1 ∧ k10 < (u.1 1))) ∧ INV (u.2.2.2.1 0) ∧ k10 ≤ (u.1 1) ∧ (u.1 1) ≤ (u.1 0) ∧ (u.1 0) ≤ k5 ∧ ((u.2.1 2) = 0 ∨ (u.1 1) < (u.1 0))) (fun (u : WU) => [(h0, oC 13 [.ref h1, .ref h2, .int p2, .ref h3, .ref h4, .int (nI k5), .int (nI (u.1 0)), .int (u.2.1 0), .int (u.2.1 1), .int (u.2.1 2), .int (nI (u.1 1)), .int (u.2.1 3), .long (u.2.2.1 0), .ref h5, .ref h6, .int (nI k15), .int (nI k16)]), (h1, aI Y 3640 (u.2.2.2.1 0)), (h2, aZ Y 2 f1), (h3, aZ Y 80 f3), (h4, aB Y 1600 f4), (h5, aI Y 200 f13), (h6, aI Y 800 f14)]) (va_A [(h0, oC 13 [.ref h1, .ref h2, .int p2, .ref h3, .ref h4, .int (nI k5), .int (nI k6), .int p7, .int p8, .int p9, .int (nI k10), .int p11, .long q12, .ref h5, .ref h6, .int (nI k15), .int (nI k16)]), (h1, aI Y 3640 f0), (h2, aZ Y 2 f1), (h3, aZ Y 80 f3), (h4, aB Y 1600 f4), (h5, aI Y 200 f13), (h6, aI Y 800 f14)] sz)) 0 0 (va_A [(h0, oC 13 [.ref h1, .ref h2, .int p2, .ref h3, .ref h4, .int (nI k5), .int (nI k6), .int p7, .int p8, .int p9, .int (nI k10), .int p11, .long q12, .ref h5, .ref h6, .int (nI k15), .int (nI k16)]), (h1, aI Y 3640 f0), (h2, aZ Y 2 f1), (h3, aZ Y 80 f3), (h4, aB Y 1600 f4), (h5, aI Y 200 f13), (h6, aI Y 800 f14)] sz) :=
  met_of  (by decide +kernel) (Nat.le_of_ble_eq_true rfl) (fun p e s m args below meth c B hin hsz => by
    have B : VB p s m args meth c D Y (va_A [(h0, oC 13 [.ref h1, .ref h2, .int p2, .ref h3, .ref h4, .int (nI k5), .int (nI k6), .int p7, .int p8, .int p9, .int (nI k10), .int p11, .long q12, .ref h5, .ref h6, .int (nI k15), .int (nI k16)]), (h1, aI Y 3640 f0), (h2, aZ Y 2 f1), (h3, aZ Y 80 f3), (h4, aB Y 1600 f4), (h5, aI Y 200 f13), (h6, aI Y 800 f14)] sz) cX12_readCommand 3 RX12 (some .boolean) := B
    refine V_aload_n 0 B dX12_readCommand_0 0 rfl ?_
    refine V_get 1 B gf_RX12_9 0 rfl rfl dX12_readCommand_1 ?_
    refine V_sipush 4 B (v := 2719) dX12_readCommand_4 (by decide +kernel) ?_
    have x0 : (gN f0 2719) ≤ 40 := gN_le HI (by omega) (show bd 2719 = (0, ((40 : Nat) : Int)) by decide +kernel)
    refine V_iald 7 B (v := (nI (gN f0 2719))) 1 rfl (vpin _ _ (by decide +kernel)) dX12_readCommand_7 (by show f0 2719 = _; exact gN_eq HI (by omega) (show bd 2719 = (0, ((40 : Nat) : Int)) by decide +kernel)) ?_
    refine V_bipush 8 B (v := 40) dX12_readCommand_8 (by decide +kernel) ?_
    refine V_icmp_ne 10 B 19 dX12_readCommand_10 (by decide) (fun kk1 => ?_) (fun kk1 => ?_)
    ·
      have x2 := n_ne (a := (gN f0 2719)) (b := 40) kk1
      refine V_aload_n 19 B dX12_readCommand_19 0 rfl ?_
      refine V_cvv 20 B (st := []) (As := []) (fun sz => rX12_advance l D Y h0 h1 h2 h3 h4 h5 h6 p2 k5 k6 p7 p8 p9 k10 p11 q12 k15 k16 f0 f1 f3 f4 f13 f14 HI (by omega) HP (by omega) sz) glV_RX12_288 ⟨rfl, rfl⟩ ⟨(Nat.le_of_ble_eq_true rfl), (Nat.le_of_ble_eq_true rfl)⟩ ⟨(Nat.le_of_ble_eq_true rfl), (Nat.le_of_ble_eq_true rfl)⟩ [0, 0, 0, 0, 0, 0, 0] rfl 13 0 rfl rfl rfl rfl (Nat.le_of_ble_eq_true rfl) rfl (fun _ _ => rfl) dX12_readCommand_20 (fun u4 w5 => ?_)
      refine V_ws [(h0, oC 13 [.ref h1, .ref h2, .int p2, .ref h3, .ref h4, .int (nI k5), .int (nI (u4.1 0)), .int p7, .int p8, .int (u4.2.1 0), .int (nI (u4.1 1)), .int p11, .long (u4.2.2.1 0), .ref h5, .ref h6, .int (nI k15), .int (nI k16)]), (h1, aI Y 3640 f0), (h2, aZ Y 2 f1), (h3, aZ Y 80 f3), (h4, aB Y 1600 f4), (h5, aI Y 200 f13), (h6, aI Y 800 f14)] rfl ?_
      obtain ⟨x6, x7, x8, x9⟩ := w5
      refine V_aload_n 23 B dX12_readCommand_23 0 rfl ?_
      refine V_iconst 24 B (v := (-1)) dX12_readCommand_24 (by decide +kernel) ?_
      refine V_put 25 B gp_RX12_294 0 rfl (Nat.le_of_ble_eq_true rfl) rfl rfl dX12_readCommand_25 [(h0, oC 13 [.ref h1, .ref h2, .int p2, .ref h3, .ref h4, .int (nI k5), .int (nI (u4.1 0)), .int p7, .int p8, .int (u4.2.1 0), .int (nI (u4.1 1)), .int (-1), .long (u4.2.2.1 0), .ref h5, .ref h6, .int (nI k15), .int (nI k16)]), (h1, aI Y 3640 f0), (h2, aZ Y 2 f1), (h3, aZ Y 80 f3), (h4, aB Y 1600 f4), (h5, aI Y 200 f13), (h6, aI Y 800 f14)] rfl ?_
      refine V_iload_n 28 B dX12_readCommand_28 1 rfl ?_
      refine V_iconst 29 B (v := 1) dX12_readCommand_29 (by decide +kernel) ?_
      refine V_icmp_ne 30 B 44 dX12_readCommand_30 (by decide) (fun kk10 => ?_) (fun kk10 => ?_)
      ·
        have x11 := x_ne kk10
        rw [show (1 : Int32).toInt = 1 by decide +kernel] at x11
        refine V_sipush 44 B (v := 2752) dX12_readCommand_44 (by decide +kernel) ?_
        refine V_iconst 47 B (v := 3) dX12_readCommand_47 (by decide +kernel) ?_
        refine V_aload_n 48 B dX12_readCommand_48 0 rfl ?_
        refine V_get 49 B gf_RX12_9 0 rfl rfl dX12_readCommand_49 ?_
        refine V_sipush 52 B (v := 2719) dX12_readCommand_52 (by decide +kernel) ?_
        have x12 : (gN f0 2719) ≤ 40 := gN_le HI (by omega) (show bd 2719 = (0, ((40 : Nat) : Int)) by decide +kernel)
        refine V_iald 55 B (v := (nI (gN f0 2719))) 1 rfl (vpin _ _ (by decide +kernel)) dX12_readCommand_55 (by show f0 2719 = _; exact gN_eq HI (by omega) (show bd 2719 = (0, ((40 : Nat) : Int)) by decide +kernel)) ?_
        refine V_imul 56 B (v := (nI (3 * (gN f0 2719)))) dX12_readCommand_56 (nI_mulE (a := 3) (b := (gN f0 2719)) (by omega)) ?_
        refine V_iadd 57 B (v := (nI (2752 + 3 * (gN f0 2719)))) dX12_readCommand_57 (nI_addE (a := 2752) (b := 3 * (gN f0 2719)) (by omega)) ?_
        refine V_istore_n 58 B (lv2 := [(2, .int (nI (2752 + 3 * (gN f0 2719)))), (0, .ref h0), (1, .int s0)]) dX12_readCommand_58 (by decide) rfl ?_
        refine V_aload_n 59 B dX12_readCommand_59 1 rfl ?_
        refine V_get 60 B gf_RX12_9 0 rfl rfl dX12_readCommand_60 ?_
        refine V_iload_n 63 B dX12_readCommand_63 0 rfl ?_
        refine V_iconst 64 B (v := 0) dX12_readCommand_64 (by decide +kernel) ?_
        refine V_iadd 65 B (v := (nI (2752 + 3 * (gN f0 2719)))) dX12_readCommand_65 (nI_addE (a := 2752 + 3 * (gN f0 2719)) (b := 0) (by omega)) ?_
        refine V_iload_n 66 B dX12_readCommand_66 2 rfl ?_
        have hv13 : INV (upd f0 (2752 + 3 * (gN f0 2719)) s0) := INV_free HI (rl27 (gN f0 2719) (by omega))
        refine V_iast 67 B 1 rfl (vp_in_nI (n := 2752 + 3 * (gN f0 2719)) (by omega) (by decide)) dX12_readCommand_67 [(h0, oC 13 [.ref h1, .ref h2, .int p2, .ref h3, .ref h4, .int (nI k5), .int (nI (u4.1 0)), .int p7, .int p8, .int (u4.2.1 0), .int (nI (u4.1 1)), .int (-1), .long (u4.2.2.1 0), .ref h5, .ref h6, .int (nI k15), .int (nI k16)]), (h1, aI Y 3640 (upd f0 (2752 + 3 * (gN f0 2719)) s0)), (h2, aZ Y 2 f1), (h3, aZ Y 80 f3), (h4, aB Y 1600 f4), (h5, aI Y 200 f13), (h6, aI Y 800 f14)] (by rw [nI_clamp (show 2752 + 3 * (gN f0 2719) < 2 ^ 31 by omega)]; rfl) ?_
        refine V_aload_n 68 B dX12_readCommand_68 1 rfl ?_
        refine V_get 69 B gf_RX12_9 0 rfl rfl dX12_readCommand_69 ?_
        refine V_iload_n 72 B dX12_readCommand_72 0 rfl ?_
        refine V_iconst 73 B (v := 1) dX12_readCommand_73 (by decide +kernel) ?_
        refine V_iadd 74 B (v := (nI (2753 + 3 * (gN f0 2719)))) dX12_readCommand_74 (nI_addE (a := 2752 + 3 * (gN f0 2719)) (b := 1) (by omega)) ?_
        refine V_aload_n 75 B dX12_readCommand_75 1 rfl ?_
        refine V_get 76 B gf_RX12_294 0 rfl rfl dX12_readCommand_76 ?_
        have hv14 : INV (upd (upd f0 (2752 + 3 * (gN f0 2719)) s0) (2753 + 3 * (gN f0 2719)) (-1)) := INV_upd hv13 (rl28 (gN f0 2719) (by omega)) (by decide +kernel) (by decide +kernel)
        refine V_iast 79 B 1 rfl (vp_in_nI (n := 2753 + 3 * (gN f0 2719)) (by omega) (by decide)) dX12_readCommand_79 [(h0, oC 13 [.ref h1, .ref h2, .int p2, .ref h3, .ref h4, .int (nI k5), .int (nI (u4.1 0)), .int p7, .int p8, .int (u4.2.1 0), .int (nI (u4.1 1)), .int (-1), .long (u4.2.2.1 0), .ref h5, .ref h6, .int (nI k15), .int (nI k16)]), (h1, aI Y 3640 (upd (upd f0 (2752 + 3 * (gN f0 2719)) s0) (2753 + 3 * (gN f0 2719)) (-1))), (h2, aZ Y 2 f1), (h3, aZ Y 80 f3), (h4, aB Y 1600 f4), (h5, aI Y 200 f13), (h6, aI Y 800 f14)] (by rw [nI_clamp (show 2753 + 3 * (gN f0 2719) < 2 ^ 31 by omega)]; rfl) ?_
        refine V_aload_n 80 B dX12_readCommand_80 1 rfl ?_
        refine V_get 81 B gf_RX12_9 0 rfl rfl dX12_readCommand_81 ?_
        refine V_sipush 84 B (v := 2719) dX12_readCommand_84 (by decide +kernel) ?_
        refine V_dup2_11 87 B dX12_readCommand_87 rfl rfl ?_
        have x15 : (gN f0 2719) ≤ 40 := gN_le HI (by omega) (show bd 2719 = (0, ((40 : Nat) : Int)) by decide +kernel)
        refine V_iald 88 B (v := (nI (gN f0 2719))) 1 rfl (vpin _ _ (by decide +kernel)) dX12_readCommand_88 (by show (upd (upd f0 (2752 + 3 * (gN f0 2719)) s0) (2753 + 3 * (gN f0 2719)) (-1)) 2719 = _; rw [upd_ne (by omega)]; rw [upd_ne (by omega)]; exact gN_eq HI (by omega) (show bd 2719 = (0, ((40 : Nat) : Int)) by decide +kernel)) ?_
        refine V_iconst 89 B (v := 1) dX12_readCommand_89 (by decide +kernel) ?_
        refine V_iadd 90 B (v := (nI (1 + (gN f0 2719)))) dX12_readCommand_90 (nI_addE (a := (gN f0 2719)) (b := 1) (by omega)) ?_
        have hv16 : INV (upd (upd (upd f0 (2752 + 3 * (gN f0 2719)) s0) (2753 + 3 * (gN f0 2719)) (-1)) 2719 (nI (1 + (gN f0 2719)))) := INV_nat (v := 1 + (gN f0 2719)) hv14 (show bd 2719 = (0, ((40 : Nat) : Int)) by decide +kernel) (by omega) (by decide)
        refine V_iast 91 B 1 rfl (vpin _ _ (by decide +kernel)) dX12_readCommand_91 [(h0, oC 13 [.ref h1, .ref h2, .int p2, .ref h3, .ref h4, .int (nI k5), .int (nI (u4.1 0)), .int p7, .int p8, .int (u4.2.1 0), .int (nI (u4.1 1)), .int (-1), .long (u4.2.2.1 0), .ref h5, .ref h6, .int (nI k15), .int (nI k16)]), (h1, aI Y 3640 (upd (upd (upd f0 (2752 + 3 * (gN f0 2719)) s0) (2753 + 3 * (gN f0 2719)) (-1)) 2719 (nI (1 + (gN f0 2719))))), (h2, aZ Y 2 f1), (h3, aZ Y 80 f3), (h4, aB Y 1600 f4), (h5, aI Y 200 f13), (h6, aI Y 800 f14)] rfl ?_
        refine V_aload_n 92 B dX12_readCommand_92 1 rfl ?_
        refine V_cvi 93 B (st := []) (As := []) (fun sz => rX12_readEnd l D Y h0 h1 h2 h3 h4 h5 h6 p2 k5 (u4.1 0) p7 p8 (u4.2.1 0) (u4.1 1) (-1) (u4.2.2.1 0) k15 k16 (upd (upd (upd f0 (2752 + 3 * (gN f0 2719)) s0) (2753 + 3 * (gN f0 2719)) (-1)) 2719 (nI (1 + (gN f0 2719)))) f1 f3 f4 f13 f14 hv16 (by omega) HP (by omega) (by omega) (by first | assumption | exact Or.inl rfl | exact Or.inr (by omega)) sz) glV_RX12_304 ⟨rfl, rfl⟩ ⟨(Nat.le_of_ble_eq_true rfl), (Nat.le_of_ble_eq_true rfl)⟩ ⟨(Nat.le_of_ble_eq_true rfl), (Nat.le_of_ble_eq_true rfl)⟩ [0, 0, 0, 0, 0, 0, 0] rfl 13 0 rfl rfl rfl rfl (Nat.le_of_ble_eq_true rfl) rfl (fun _ _ _ => rfl) dX12_readCommand_93 (fun j17 u18 w19 => ?_)
        refine V_ws [(h0, oC 13 [.ref h1, .ref h2, .int p2, .ref h3, .ref h4, .int (nI k5), .int (nI (u18.1 0)), .int (u18.2.1 0), .int (u18.2.1 1), .int (u18.2.1 2), .int (nI (u18.1 1)), .int (-1), .long (u18.2.2.1 0), .ref h5, .ref h6, .int (nI k15), .int (nI k16)]), (h1, aI Y 3640 (upd (upd (upd f0 (2752 + 3 * (gN f0 2719)) s0) (2753 + 3 * (gN f0 2719)) (-1)) 2719 (nI (1 + (gN f0 2719))))), (h2, aZ Y 2 f1), (h3, aZ Y 80 f3), (h4, aB Y 1600 f4), (h5, aI Y 200 f13), (h6, aI Y 800 f14)] rfl ?_
        obtain ⟨x20, x21, x22, x23, x24⟩ := w19
        rcases x20 with rfl | ⟨rfl, x25⟩
        ·
          exact V_zret 96 B rfl dX12_readCommand_96 (mkW [(u18.1 0), (u18.1 1)] [(u18.2.1 0), (u18.2.1 1), (u18.2.1 2), (-1)] [(u18.2.2.1 0)] [(upd (upd (upd f0 (2752 + 3 * (gN f0 2719)) s0) (2753 + 3 * (gN f0 2719)) (-1)) 2719 (nI (1 + (gN f0 2719))))] [] []) ⟨(Or.inl rfl), hv16, (show k10 ≤ (u18.1 1) by omega), (show (u18.1 1) ≤ (u18.1 0) by omega), (show (u18.1 0) ≤ k5 by omega), (show ((u18.2.1 2) = 0 ∨ (u18.1 1) < (u18.1 0)) by first | assumption | exact Or.inr (by omega))⟩ rfl
        ·
          exact V_zret 96 B rfl dX12_readCommand_96 (mkW [(u18.1 0), (u18.1 1)] [(u18.2.1 0), (u18.2.1 1), (u18.2.1 2), (-1)] [(u18.2.2.1 0)] [(upd (upd (upd f0 (2752 + 3 * (gN f0 2719)) s0) (2753 + 3 * (gN f0 2719)) (-1)) 2719 (nI (1 + (gN f0 2719))))] [] []) ⟨(Or.inr ⟨rfl, (show k10 < (u18.1 1) by omega)⟩), hv16, (show k10 ≤ (u18.1 1) by omega), (show (u18.1 1) ≤ (u18.1 0) by omega), (show (u18.1 0) ≤ k5 by omega), (show ((u18.2.1 2) = 0 ∨ (u18.1 1) < (u18.1 0)) by first | assumption | exact Or.inr (by omega))⟩ rfl
      ·
        obtain rfl : s0 = 1 := kk10
        have e27 : (1 : Int32).toInt = 1 := by decide +kernel
        refine V_aload_n 33 B dX12_readCommand_33 0 rfl ?_
        refine V_iconst 34 B (v := 0) dX12_readCommand_34 (by decide +kernel) ?_
        refine V_iconst 35 B (v := 5) dX12_readCommand_35 (by decide +kernel) ?_
        refine V_cvi 36 B (st := []) (As := [.int 0, .int 5]) (fun sz => rX12_readNumber l D Y h0 h1 h2 h3 h4 h5 h6 p2 k5 (u4.1 0) p7 p8 (u4.2.1 0) (u4.1 1) (-1) (u4.2.2.1 0) k15 k16 f0 f1 f3 f4 f13 f14 HI (by omega) HP 0 5 (by omega) (by omega) (by first | assumption | exact Or.inl rfl | exact Or.inr (by omega)) (by decide +kernel) sz) glV_RX12_301 ⟨rfl, rfl⟩ ⟨(Nat.le_of_ble_eq_true rfl), (Nat.le_of_ble_eq_true rfl)⟩ ⟨(Nat.le_of_ble_eq_true rfl), (Nat.le_of_ble_eq_true rfl)⟩ [0, 0, 0, 0, 0, 0, 0] rfl 13 0 rfl rfl rfl rfl (Nat.le_of_ble_eq_true rfl) rfl (fun _ _ _ => rfl) dX12_readCommand_36 (fun j28 u29 w30 => ?_)
        refine V_ws [(h0, oC 13 [.ref h1, .ref h2, .int p2, .ref h3, .ref h4, .int (nI k5), .int (nI (u29.1 0)), .int (u29.2.1 0), .int (u29.2.1 1), .int (u29.2.1 2), .int (nI (u29.1 1)), .int (u29.2.1 3), .long (u29.2.2.1 0), .ref h5, .ref h6, .int (nI k15), .int (nI k16)]), (h1, aI Y 3640 f0), (h2, aZ Y 2 f1), (h3, aZ Y 80 f3), (h4, aB Y 1600 f4), (h5, aI Y 200 f13), (h6, aI Y 800 f14)] rfl ?_
        obtain ⟨x31, x32, x33, x34, x35⟩ := w30
        rcases x31 with rfl | ⟨rfl, x36, x37⟩
        ·
          refine V_if_ne_f 39 B 44 dX12_readCommand_39 (by decide) (by decide +kernel) ?_
          refine V_iconst 42 B (v := 0) dX12_readCommand_42 (by decide +kernel) ?_
          exact V_zret 43 B rfl dX12_readCommand_43 (mkW [(u29.1 0), (u29.1 1)] [(u29.2.1 0), (u29.2.1 1), (u29.2.1 2), (u29.2.1 3)] [(u29.2.2.1 0)] [f0] [] []) ⟨(Or.inl rfl), HI, (show k10 ≤ (u29.1 1) by omega), (show (u29.1 1) ≤ (u29.1 0) by omega), (show (u29.1 0) ≤ k5 by omega), (show ((u29.2.1 2) = 0 ∨ (u29.1 1) < (u29.1 0)) by first | assumption | exact Or.inr (by omega))⟩ rfl
        ·
          have e38 : (0 : Int32).toInt = 0 := by decide +kernel
          have e39 : (5 : Int32).toInt = 5 := by decide +kernel
          generalize u29.2.1 3 = j40 at *
          refine V_if_ne_t 39 B 44 dX12_readCommand_39 (by decide) (by decide +kernel) ?_
          refine V_sipush 44 B (v := 2752) dX12_readCommand_44 (by decide +kernel) ?_
          refine V_iconst 47 B (v := 3) dX12_readCommand_47 (by decide +kernel) ?_
          refine V_aload_n 48 B dX12_readCommand_48 0 rfl ?_
          refine V_get 49 B gf_RX12_9 0 rfl rfl dX12_readCommand_49 ?_
          refine V_sipush 52 B (v := 2719) dX12_readCommand_52 (by decide +kernel) ?_
          have x41 : (gN f0 2719) ≤ 40 := gN_le HI (by omega) (show bd 2719 = (0, ((40 : Nat) : Int)) by decide +kernel)
          refine V_iald 55 B (v := (nI (gN f0 2719))) 1 rfl (vpin _ _ (by decide +kernel)) dX12_readCommand_55 (by show f0 2719 = _; exact gN_eq HI (by omega) (show bd 2719 = (0, ((40 : Nat) : Int)) by decide +kernel)) ?_
          refine V_imul 56 B (v := (nI (3 * (gN f0 2719)))) dX12_readCommand_56 (nI_mulE (a := 3) (b := (gN f0 2719)) (by omega)) ?_
          refine V_iadd 57 B (v := (nI (2752 + 3 * (gN f0 2719)))) dX12_readCommand_57 (nI_addE (a := 2752) (b := 3 * (gN f0 2719)) (by omega)) ?_
          refine V_istore_n 58 B (lv2 := [(2, .int (nI (2752 + 3 * (gN f0 2719)))), (0, .ref h0), (1, .int 1)]) dX12_readCommand_58 (by decide) rfl ?_
          refine V_aload_n 59 B dX12_readCommand_59 1 rfl ?_
          refine V_get 60 B gf_RX12_9 0 rfl rfl dX12_readCommand_60 ?_
          refine V_iload_n 63 B dX12_readCommand_63 0 rfl ?_
          refine V_iconst 64 B (v := 0) dX12_readCommand_64 (by decide +kernel) ?_
          refine V_iadd 65 B (v := (nI (2752 + 3 * (gN f0 2719)))) dX12_readCommand_65 (nI_addE (a := 2752 + 3 * (gN f0 2719)) (b := 0) (by omega)) ?_
          refine V_iload_n 66 B dX12_readCommand_66 2 rfl ?_
          have hv42 : INV (upd f0 (2752 + 3 * (gN f0 2719)) 1) := INV_free HI (rl27 (gN f0 2719) (by omega))
          refine V_iast 67 B 1 rfl (vp_in_nI (n := 2752 + 3 * (gN f0 2719)) (by omega) (by decide)) dX12_readCommand_67 [(h0, oC 13 [.ref h1, .ref h2, .int p2, .ref h3, .ref h4, .int (nI k5), .int (nI (u29.1 0)), .int (u29.2.1 0), .int (u29.2.1 1), .int (u29.2.1 2), .int (nI (u29.1 1)), .int j40, .long (u29.2.2.1 0), .ref h5, .ref h6, .int (nI k15), .int (nI k16)]), (h1, aI Y 3640 (upd f0 (2752 + 3 * (gN f0 2719)) 1)), (h2, aZ Y 2 f1), (h3, aZ Y 80 f3), (h4, aB Y 1600 f4), (h5, aI Y 200 f13), (h6, aI Y 800 f14)] (by rw [nI_clamp (show 2752 + 3 * (gN f0 2719) < 2 ^ 31 by omega)]; rfl) ?_
          refine V_aload_n 68 B dX12_readCommand_68 1 rfl ?_
          refine V_get 69 B gf_RX12_9 0 rfl rfl dX12_readCommand_69 ?_
          refine V_iload_n 72 B dX12_readCommand_72 0 rfl ?_
          refine V_iconst 73 B (v := 1) dX12_readCommand_73 (by decide +kernel) ?_
          refine V_iadd 74 B (v := (nI (2753 + 3 * (gN f0 2719)))) dX12_readCommand_74 (nI_addE (a := 2752 + 3 * (gN f0 2719)) (b := 1) (by omega)) ?_
          refine V_aload_n 75 B dX12_readCommand_75 1 rfl ?_
          refine V_get 76 B gf_RX12_294 0 rfl rfl dX12_readCommand_76 ?_
          have hv43 : INV (upd (upd f0 (2752 + 3 * (gN f0 2719)) 1) (2753 + 3 * (gN f0 2719)) j40) := INV_upd hv42 (rl28 (gN f0 2719) (by omega)) (by omega) (by omega)
          refine V_iast 79 B 1 rfl (vp_in_nI (n := 2753 + 3 * (gN f0 2719)) (by omega) (by decide)) dX12_readCommand_79 [(h0, oC 13 [.ref h1, .ref h2, .int p2, .ref h3, .ref h4, .int (nI k5), .int (nI (u29.1 0)), .int (u29.2.1 0), .int (u29.2.1 1), .int (u29.2.1 2), .int (nI (u29.1 1)), .int j40, .long (u29.2.2.1 0), .ref h5, .ref h6, .int (nI k15), .int (nI k16)]), (h1, aI Y 3640 (upd (upd f0 (2752 + 3 * (gN f0 2719)) 1) (2753 + 3 * (gN f0 2719)) j40)), (h2, aZ Y 2 f1), (h3, aZ Y 80 f3), (h4, aB Y 1600 f4), (h5, aI Y 200 f13), (h6, aI Y 800 f14)] (by rw [nI_clamp (show 2753 + 3 * (gN f0 2719) < 2 ^ 31 by omega)]; rfl) ?_
          refine V_aload_n 80 B dX12_readCommand_80 1 rfl ?_
          refine V_get 81 B gf_RX12_9 0 rfl rfl dX12_readCommand_81 ?_
          refine V_sipush 84 B (v := 2719) dX12_readCommand_84 (by decide +kernel) ?_
          refine V_dup2_11 87 B dX12_readCommand_87 rfl rfl ?_
          have x44 : (gN f0 2719) ≤ 40 := gN_le HI (by omega) (show bd 2719 = (0, ((40 : Nat) : Int)) by decide +kernel)
          refine V_iald 88 B (v := (nI (gN f0 2719))) 1 rfl (vpin _ _ (by decide +kernel)) dX12_readCommand_88 (by show (upd (upd f0 (2752 + 3 * (gN f0 2719)) 1) (2753 + 3 * (gN f0 2719)) j40) 2719 = _; rw [upd_ne (by omega)]; rw [upd_ne (by omega)]; exact gN_eq HI (by omega) (show bd 2719 = (0, ((40 : Nat) : Int)) by decide +kernel)) ?_
          refine V_iconst 89 B (v := 1) dX12_readCommand_89 (by decide +kernel) ?_
          refine V_iadd 90 B (v := (nI (1 + (gN f0 2719)))) dX12_readCommand_90 (nI_addE (a := (gN f0 2719)) (b := 1) (by omega)) ?_
          have hv45 : INV (upd (upd (upd f0 (2752 + 3 * (gN f0 2719)) 1) (2753 + 3 * (gN f0 2719)) j40) 2719 (nI (1 + (gN f0 2719)))) := INV_nat (v := 1 + (gN f0 2719)) hv43 (show bd 2719 = (0, ((40 : Nat) : Int)) by decide +kernel) (by omega) (by decide)
          refine V_iast 91 B 1 rfl (vpin _ _ (by decide +kernel)) dX12_readCommand_91 [(h0, oC 13 [.ref h1, .ref h2, .int p2, .ref h3, .ref h4, .int (nI k5), .int (nI (u29.1 0)), .int (u29.2.1 0), .int (u29.2.1 1), .int (u29.2.1 2), .int (nI (u29.1 1)), .int j40, .long (u29.2.2.1 0), .ref h5, .ref h6, .int (nI k15), .int (nI k16)]), (h1, aI Y 3640 (upd (upd (upd f0 (2752 + 3 * (gN f0 2719)) 1) (2753 + 3 * (gN f0 2719)) j40) 2719 (nI (1 + (gN f0 2719))))), (h2, aZ Y 2 f1), (h3, aZ Y 80 f3), (h4, aB Y 1600 f4), (h5, aI Y 200 f13), (h6, aI Y 800 f14)] rfl ?_
          refine V_aload_n 92 B dX12_readCommand_92 1 rfl ?_
          refine V_cvi 93 B (st := []) (As := []) (fun sz => rX12_readEnd l D Y h0 h1 h2 h3 h4 h5 h6 p2 k5 (u29.1 0) (u29.2.1 0) (u29.2.1 1) (u29.2.1 2) (u29.1 1) j40 (u29.2.2.1 0) k15 k16 (upd (upd (upd f0 (2752 + 3 * (gN f0 2719)) 1) (2753 + 3 * (gN f0 2719)) j40) 2719 (nI (1 + (gN f0 2719)))) f1 f3 f4 f13 f14 hv45 (by omega) HP (by omega) (by omega) (by first | assumption | exact Or.inl rfl | exact Or.inr (by omega)) sz) glV_RX12_304 ⟨rfl, rfl⟩ ⟨(Nat.le_of_ble_eq_true rfl), (Nat.le_of_ble_eq_true rfl)⟩ ⟨(Nat.le_of_ble_eq_true rfl), (Nat.le_of_ble_eq_true rfl)⟩ [0, 0, 0, 0, 0, 0, 0] rfl 13 0 rfl rfl rfl rfl (Nat.le_of_ble_eq_true rfl) rfl (fun _ _ _ => rfl) dX12_readCommand_93 (fun j46 u47 w48 => ?_)
          refine V_ws [(h0, oC 13 [.ref h1, .ref h2, .int p2, .ref h3, .ref h4, .int (nI k5), .int (nI (u47.1 0)), .int (u47.2.1 0), .int (u47.2.1 1), .int (u47.2.1 2), .int (nI (u47.1 1)), .int j40, .long (u47.2.2.1 0), .ref h5, .ref h6, .int (nI k15), .int (nI k16)]), (h1, aI Y 3640 (upd (upd (upd f0 (2752 + 3 * (gN f0 2719)) 1) (2753 + 3 * (gN f0 2719)) j40) 2719 (nI (1 + (gN f0 2719))))), (h2, aZ Y 2 f1), (h3, aZ Y 80 f3), (h4, aB Y 1600 f4), (h5, aI Y 200 f13), (h6, aI Y 800 f14)] rfl ?_
          obtain ⟨x49, x50, x51, x52, x53⟩ := w48
          rcases x49 with rfl | ⟨rfl, x54⟩
          ·
            exact V_zret 96 B rfl dX12_readCommand_96 (mkW [(u47.1 0), (u47.1 1)] [(u47.2.1 0), (u47.2.1 1), (u47.2.1 2), j40] [(u47.2.2.1 0)] [(upd (upd (upd f0 (2752 + 3 * (gN f0 2719)) 1) (2753 + 3 * (gN f0 2719)) j40) 2719 (nI (1 + (gN f0 2719))))] [] []) ⟨(Or.inl rfl), hv45, (show k10 ≤ (u47.1 1) by omega), (show (u47.1 1) ≤ (u47.1 0) by omega), (show (u47.1 0) ≤ k5 by omega), (show ((u47.2.1 2) = 0 ∨ (u47.1 1) < (u47.1 0)) by first | assumption | exact Or.inr (by omega))⟩ rfl
          ·
            exact V_zret 96 B rfl dX12_readCommand_96 (mkW [(u47.1 0), (u47.1 1)] [(u47.2.1 0), (u47.2.1 1), (u47.2.1 2), j40] [(u47.2.2.1 0)] [(upd (upd (upd f0 (2752 + 3 * (gN f0 2719)) 1) (2753 + 3 * (gN f0 2719)) j40) 2719 (nI (1 + (gN f0 2719))))] [] []) ⟨(Or.inr ⟨rfl, (show k10 < (u47.1 1) by omega)⟩), hv45, (show k10 ≤ (u47.1 1) by omega), (show (u47.1 1) ≤ (u47.1 0) by omega), (show (u47.1 0) ≤ k5 by omega), (show ((u47.2.1 2) = 0 ∨ (u47.1 1) < (u47.1 0)) by first | assumption | exact Or.inr (by omega))⟩ rfl
    ·
      have x55 := n_eq (a := (gN f0 2719)) (b := 40) kk1 (by omega) (by omega)
      refine V_aload_n 13 B dX12_readCommand_13 0 rfl ?_
      refine V_iconst 14 B (v := 3) dX12_readCommand_14 (by decide +kernel) ?_
      refine V_cvi 15 B (st := []) (As := [.int 3]) (fun sz => rX12_fail l D Y h0 h1 h2 h3 h4 h5 h6 p2 k5 k6 p7 p8 p9 k10 p11 q12 k15 k16 f0 f1 f3 f4 f13 f14 HI (by omega) HP 3 sz) glV_RX12_291 ⟨rfl, rfl⟩ ⟨(Nat.le_of_ble_eq_true rfl), (Nat.le_of_ble_eq_true rfl)⟩ ⟨(Nat.le_of_ble_eq_true rfl), (Nat.le_of_ble_eq_true rfl)⟩ [0, 0, 0, 0, 0, 0, 0] rfl 13 0 rfl rfl rfl rfl (Nat.le_of_ble_eq_true rfl) rfl (fun _ _ _ => rfl) dX12_readCommand_15 (fun j56 u57 w58 => ?_)
      refine V_ws [(h0, oC 13 [.ref h1, .ref h2, .int p2, .ref h3, .ref h4, .int (nI k5), .int (nI k6), .int (u57.2.1 0), .int (u57.2.1 1), .int p9, .int (nI k10), .int p11, .long q12, .ref h5, .ref h6, .int (nI k15), .int (nI k16)]), (h1, aI Y 3640 f0), (h2, aZ Y 2 f1), (h3, aZ Y 80 f3), (h4, aB Y 1600 f4), (h5, aI Y 200 f13), (h6, aI Y 800 f14)] rfl ?_
      have x59 := w58
      clear w58
      obtain rfl := x59
      exact V_zret 18 B rfl dX12_readCommand_18 (mkW [k6, k10] [(u57.2.1 0), (u57.2.1 1), p9, p11] [q12] [f0] [] []) ⟨(Or.inl rfl), HI, (show k10 ≤ k10 by omega), (show k10 ≤ k6 by omega), (show k6 ≤ k5 by omega), (show (p9 = 0 ∨ k10 < k6) by first | assumption | exact Or.inr (by omega))⟩ rfl)
theorem dX12_clashesRead_0 : decode cX12_clashesRead 0 = .ok (.iconst 0, 1) := by decide +kernel
theorem dX12_clashesRead_1 : decode cX12_clashesRead 1 = .ok (.istore_n 3, 1) := by decide +kernel
theorem dX12_clashesRead_2 : decode cX12_clashesRead 2 = .ok (.iconst 0, 1) := by decide +kernel
theorem dX12_clashesRead_3 : decode cX12_clashesRead 3 = .ok (.istore 4, 2) := by decide +kernel
theorem dX12_clashesRead_5 : decode cX12_clashesRead 5 = .ok (.iload 4, 2) := by decide +kernel
theorem dX12_clashesRead_7 : decode cX12_clashesRead 7 = .ok (.aload_n 0, 1) := by decide +kernel
theorem dX12_clashesRead_8 : decode cX12_clashesRead 8 = .ok (.getfield 9, 3) := by decide +kernel
theorem dX12_clashesRead_11 : decode cX12_clashesRead 11 = .ok (.sipush 2721, 3) := by decide +kernel
theorem dX12_clashesRead_14 : decode cX12_clashesRead 14 = .ok (.iaload, 1) := by decide +kernel
theorem dX12_clashesRead_15 : decode cX12_clashesRead 15 = .ok (.if_icmp .ge 59, 3) := by decide +kernel
theorem dX12_clashesRead_74 : decode cX12_clashesRead 74 = .ok (.iload_n 3, 1) := by decide +kernel
theorem dX12_clashesRead_75 : decode cX12_clashesRead 75 = .ok (.ireturn, 1) := by decide +kernel
theorem dX12_clashesRead_18 : decode cX12_clashesRead 18 = .ok (.iload_n 3, 1) := by decide +kernel
theorem dX12_clashesRead_19 : decode cX12_clashesRead 19 = .ok (.iload_n 1, 1) := by decide +kernel
theorem dX12_clashesRead_20 : decode cX12_clashesRead 20 = .ok (.iconst (-1), 1) := by decide +kernel
theorem dX12_clashesRead_21 : decode cX12_clashesRead 21 = .ok (.if_icmp .eq 23, 3) := by decide +kernel
theorem dX12_clashesRead_44 : decode cX12_clashesRead 44 = .ok (.aload_n 0, 1) := by decide +kernel
theorem dX12_clashesRead_45 : decode cX12_clashesRead 45 = .ok (.sipush 2718, 3) := by decide +kernel
theorem dX12_clashesRead_48 : decode cX12_clashesRead 48 = .ok (.iload 4, 2) := by decide +kernel
theorem dX12_clashesRead_50 : decode cX12_clashesRead 50 = .ok (.invokestatic 85, 3) := by decide +kernel
theorem dX12_clashesRead_53 : decode cX12_clashesRead 53 = .ok (.iadd, 1) := by decide +kernel
theorem dX12_clashesRead_54 : decode cX12_clashesRead 54 = .ok (.iload_n 2, 1) := by decide +kernel
theorem dX12_clashesRead_55 : decode cX12_clashesRead 55 = .ok (.invokevirtual 111, 3) := by decide +kernel
theorem rl29 : ∀ z0, z0 < 80 → SQ (2904 + 7 * z0) := by unfold SQ; decide +kernel
theorem dX12_clashesRead_58 : decode cX12_clashesRead 58 = .ok (.ifCond .eq 7, 3) := by decide +kernel
theorem dX12_clashesRead_65 : decode cX12_clashesRead 65 = .ok (.iconst 0, 1) := by decide +kernel
theorem dX12_clashesRead_66 : decode cX12_clashesRead 66 = .ok (.ior, 1) := by decide +kernel
theorem dX12_clashesRead_67 : decode cX12_clashesRead 67 = .ok (.istore_n 3, 1) := by decide +kernel
theorem dX12_clashesRead_68 : decode cX12_clashesRead 68 = .ok (.iinc 4 1, 3) := by decide +kernel
theorem dX12_clashesRead_71 : decode cX12_clashesRead 71 = .ok (.goto (-66), 3) := by decide +kernel
theorem dX12_clashesRead_61 : decode cX12_clashesRead 61 = .ok (.iconst 1, 1) := by decide +kernel
theorem dX12_clashesRead_62 : decode cX12_clashesRead 62 = .ok (.goto 4, 3) := by decide +kernel
theorem dX12_clashesRead_24 : decode cX12_clashesRead 24 = .ok (.aload_n 0, 1) := by decide +kernel
theorem dX12_clashesRead_25 : decode cX12_clashesRead 25 = .ok (.getfield 9, 3) := by decide +kernel
theorem dX12_clashesRead_28 : decode cX12_clashesRead 28 = .ok (.sipush 2718, 3) := by decide +kernel
theorem dX12_clashesRead_31 : decode cX12_clashesRead 31 = .ok (.iload 4, 2) := by decide +kernel
theorem dX12_clashesRead_33 : decode cX12_clashesRead 33 = .ok (.invokestatic 79, 3) := by decide +kernel
theorem dX12_clashesRead_36 : decode cX12_clashesRead 36 = .ok (.iadd, 1) := by decide +kernel
theorem dX12_clashesRead_37 : decode cX12_clashesRead 37 = .ok (.iconst 0, 1) := by decide +kernel
theorem dX12_clashesRead_38 : decode cX12_clashesRead 38 = .ok (.iadd, 1) := by decide +kernel
theorem dX12_clashesRead_39 : decode cX12_clashesRead 39 = .ok (.iaload, 1) := by decide +kernel
theorem rl30 : ∀ z0, z0 < 80 → bd (2902 + 7 * z0) = FREE := by decide +kernel
theorem dX12_clashesRead_40 : decode cX12_clashesRead 40 = .ok (.iload_n 1, 1) := by decide +kernel
theorem dX12_clashesRead_41 : decode cX12_clashesRead 41 = .ok (.if_icmp .ne 24, 3) := by decide +kernel
set_option maxRecDepth 100000 in
set_option maxHeartbeats 4000000 in
theorem rX12_clashesRead (l : Launch) (D : va_G) (Y : Nat → ClassId) (h0 : Nat) (h1 : Nat) (h2 : Nat) (h3 : Nat) (h4 : Nat) (h5 : Nat) (h6 : Nat) (p2 : Int32) (k5 : Nat) (k6 : Nat) (p7 : Int32) (p8 : Int32) (p9 : Int32) (k10 : Nat) (p11 : Int32) (q12 : Int64) (k15 : Nat) (k16 : Nat) (f0 : Nat → Int32) (f1 : Nat → Int32) (f3 : Nat → Int32) (f4 : Nat → Int32) (f13 : Nat → Int32) (f14 : Nat → Int32) (HI : INV f0) (HL : k5 ≤ 1600) (HP : PLV f13) (s0 : Int32) (s1 : Nat) (hs1 : SQ s1) (sz : Nat) : Met l yX12_clashesRead (WSm yX12_clashesRead cX12_clashesRead 5 (some .boolean)) (mkR 3 0 0 66) (PreC D Y [.ref h0, .int s0, .int (nI s1)] [(h0, oC 13 [.ref h1, .ref h2, .int p2, .ref h3, .ref h4, .int (nI k5), .int (nI k6), .int p7, .int p8, .int p9, .int (nI k10), .int p11, .long q12, .ref h5, .ref h6, .int (nI k15), .int (nI k16)]), (h1, aI Y 3640 f0), (h2, aZ Y 2 f1), (h3, aZ Y 80 f3), (h4, aB Y 1600 f4), (h5, aI Y 200 f13), (h6, aI Y 800 f14)] sz) (QI D (fun (r : Int32) (u : WU) => (r = 0 ∨ r = 1)) (fun (u : WU) => [(h0, oC 13 [.ref h1, .ref h2, .int p2, .ref h3, .ref h4, .int (nI k5), .int (nI k6), .int p7, .int p8, .int p9, .int (nI k10), .int p11, .long q12, .ref h5, .ref h6, .int (nI k15), .int (nI k16)]), (h1, aI Y 3640 f0), (h2, aZ Y 2 f1), (h3, aZ Y 80 f3), (h4, aB Y 1600 f4), (h5, aI Y 200 f13), (h6, aI Y 800 f14)]) (va_A [(h0, oC 13 [.ref h1, .ref h2, .int p2, .ref h3, .ref h4, .int (nI k5), .int (nI k6), .int p7, .int p8, .int p9, .int (nI k10), .int p11, .long q12, .ref h5, .ref h6, .int (nI k15), .int (nI k16)]), (h1, aI Y 3640 f0), (h2, aZ Y 2 f1), (h3, aZ Y 80 f3), (h4, aB Y 1600 f4), (h5, aI Y 200 f13), (h6, aI Y 800 f14)] sz)) 0 0 (va_A [(h0, oC 13 [.ref h1, .ref h2, .int p2, .ref h3, .ref h4, .int (nI k5), .int (nI k6), .int p7, .int p8, .int p9, .int (nI k10), .int p11, .long q12, .ref h5, .ref h6, .int (nI k15), .int (nI k16)]), (h1, aI Y 3640 f0), (h2, aZ Y 2 f1), (h3, aZ Y 80 f3), (h4, aB Y 1600 f4), (h5, aI Y 200 f13), (h6, aI Y 800 f14)] sz) :=
  met_of  (by decide +kernel) (Nat.le_of_ble_eq_true rfl) (fun p e s m args below meth c B hin hsz => by
    have B : VB p s m args meth c D Y (va_A [(h0, oC 13 [.ref h1, .ref h2, .int p2, .ref h3, .ref h4, .int (nI k5), .int (nI k6), .int p7, .int p8, .int p9, .int (nI k10), .int p11, .long q12, .ref h5, .ref h6, .int (nI k15), .int (nI k16)]), (h1, aI Y 3640 f0), (h2, aZ Y 2 f1), (h3, aZ Y 80 f3), (h4, aB Y 1600 f4), (h5, aI Y 200 f13), (h6, aI Y 800 f14)] sz) cX12_clashesRead 5 RX12 (some .boolean) := B
    have hq_s1 := hs1.1
    refine V_iconst 0 B (v := 0) dX12_clashesRead_0 (by decide +kernel) ?_
    refine V_istore_n 1 B (lv2 := [(3, .int 0), (0, .ref h0), (1, .int s0), (2, .int (nI s1))]) dX12_clashesRead_1 (by decide) rfl ?_
    refine V_iconst 2 B (v := 0) dX12_clashesRead_2 (by decide +kernel) ?_
    refine V_istore 3 B (lv2 := [(4, .int 0), (3, .int 0), (0, .ref h0), (1, .int s0), (2, .int (nI s1))]) dX12_clashesRead_3 (by decide) rfl ?_
    refine V_wloop (α := WU) (fun a => 100000 - (a.1 0)) (fun a => (a.1 0) ≤ 80 ∧ ((a.2.1 0) = 0 ∨ (a.2.1 0) = 1)) (fun a => [(4, .int (nI (a.1 0))), (3, .int (a.2.1 0)), (0, .ref h0), (1, .int s0), (2, .int (nI s1))]) (fun a => [(h0, oC 13 [.ref h1, .ref h2, .int p2, .ref h3, .ref h4, .int (nI k5), .int (nI k6), .int p7, .int p8, .int p9, .int (nI k10), .int p11, .long q12, .ref h5, .ref h6, .int (nI k15), .int (nI k16)]), (h1, aI Y 3640 f0), (h2, aZ Y 2 f1), (h3, aZ Y 80 f3), (h4, aB Y 1600 f4), (h5, aI Y 200 f13), (h6, aI Y 800 f14)]) (mkW [0] [0] [] [] [] []) ⟨(show 0 ≤ 80 by omega), (Or.inl rfl)⟩ rfl rfl (fun a0 hI2 IH1 => ?_)
    refine V_lv [(4, .int (nI (a0.1 0))), (3, .int (a0.2.1 0)), (0, .ref h0), (1, .int s0), (2, .int (nI s1))] [0, 1, 2, 3, 4] rfl ?_
    refine V_ws [(h0, oC 13 [.ref h1, .ref h2, .int p2, .ref h3, .ref h4, .int (nI k5), .int (nI k6), .int p7, .int p8, .int p9, .int (nI k10), .int p11, .long q12, .ref h5, .ref h6, .int (nI k15), .int (nI k16)]), (h1, aI Y 3640 f0), (h2, aZ Y 2 f1), (h3, aZ Y 80 f3), (h4, aB Y 1600 f4), (h5, aI Y 200 f13), (h6, aI Y 800 f14)] rfl ?_
    obtain ⟨x3, x4⟩ := hI2
    rcases x4 with e5 | e5
    ·
      refine V_lv [(4, .int (nI (a0.1 0))), (3, .int 0), (0, .ref h0), (1, .int s0), (2, .int (nI s1))] [0, 1, 2, 3, 4] (by rw [e5]; rfl) ?_
      refine V_iload 5 B dX12_clashesRead_5 0 rfl ?_
      refine V_aload_n 7 B dX12_clashesRead_7 2 rfl ?_
      refine V_get 8 B gf_RX12_9 0 rfl rfl dX12_clashesRead_8 ?_
      refine V_sipush 11 B (v := 2721) dX12_clashesRead_11 (by decide +kernel) ?_
      have x6 : (gN f0 2721) ≤ 80 := gN_le HI (by omega) (show bd 2721 = (0, ((80 : Nat) : Int)) by decide +kernel)
      refine V_iald 14 B (v := (nI (gN f0 2721))) 1 rfl (vpin _ _ (by decide +kernel)) dX12_clashesRead_14 (by show f0 2721 = _; exact gN_eq HI (by omega) (show bd 2721 = (0, ((80 : Nat) : Int)) by decide +kernel)) ?_
      refine V_icmp_ge 15 B 74 dX12_clashesRead_15 (by decide) (fun kk7 => ?_) (fun kk7 => ?_)
      ·
        have x8 := n_le (a := (gN f0 2721)) (b := (a0.1 0)) kk7 (by omega) (by omega)
        refine V_iload_n 74 B dX12_clashesRead_74 1 rfl ?_
        exact V_zret 75 B rfl dX12_clashesRead_75 (mkW [] [] [] [] [] []) (Or.inl rfl) rfl
      ·
        have x9 := n_nle (a := (gN f0 2721)) (b := (a0.1 0)) kk7 (by omega) (by omega)
        refine V_iload_n 18 B dX12_clashesRead_18 1 rfl ?_
        refine V_iload_n 19 B dX12_clashesRead_19 3 rfl ?_
        refine V_iconst 20 B (v := (-1)) dX12_clashesRead_20 (by decide +kernel) ?_
        refine V_icmp_eq 21 B 44 dX12_clashesRead_21 (by decide) (fun kk10 => ?_) (fun kk10 => ?_)
        ·
          obtain rfl : s0 = (-1) := kk10
          have e12 : ((-1) : Int32).toInt = (-1) := by decide +kernel
          refine V_aload_n 44 B dX12_clashesRead_44 2 rfl ?_
          refine V_sipush 45 B (v := 2718) dX12_clashesRead_45 (by decide +kernel) ?_
          refine V_iload 48 B dX12_clashesRead_48 0 rfl ?_
          refine V_csi 50 B (st := [.int 2718, .ref h0, .int 0]) (As := [.int (nI (a0.1 0))]) (fun sz => rX12_sequenceOf l D Y (a0.1 0) (by omega) sz) glS_RX12_85 ⟨rfl, rfl⟩ ⟨(Nat.le_of_ble_eq_true rfl), (Nat.le_of_ble_eq_true rfl)⟩ ⟨(Nat.le_of_ble_eq_true rfl), (Nat.le_of_ble_eq_true rfl)⟩ [] rfl rfl (Nat.le_of_ble_eq_true rfl) rfl (fun _ _ _ => rfl) dX12_clashesRead_50 (fun j13 u14 w15 => ?_)
          refine V_ws [(h0, oC 13 [.ref h1, .ref h2, .int p2, .ref h3, .ref h4, .int (nI k5), .int (nI k6), .int p7, .int p8, .int p9, .int (nI k10), .int p11, .long q12, .ref h5, .ref h6, .int (nI k15), .int (nI k16)]), (h1, aI Y 3640 f0), (h2, aZ Y 2 f1), (h3, aZ Y 80 f3), (h4, aB Y 1600 f4), (h5, aI Y 200 f13), (h6, aI Y 800 f14)] rfl ?_
          have x16 := w15
          clear w15
          obtain rfl := x16
          refine V_iadd 53 B (v := (nI (2904 + 7 * (a0.1 0)))) dX12_clashesRead_53 (nI_addE (a := 2718) (b := 186 + 7 * (a0.1 0)) (by omega)) ?_
          refine V_iload_n 54 B dX12_clashesRead_54 4 rfl ?_
          refine V_cvi 55 B (st := [.int 0]) (As := [.int (nI (2904 + 7 * (a0.1 0))), .int (nI s1)]) (fun sz => rX12_doClash l D Y h0 h1 h2 h3 h4 h5 h6 p2 k5 k6 p7 p8 p9 k10 p11 q12 k15 k16 f0 f1 f3 f4 f13 f14 HI (by omega) HP (2904 + 7 * (a0.1 0)) s1 (rl29 (a0.1 0) (by omega)) hs1 sz) glV_RX12_111 ⟨rfl, rfl⟩ ⟨(Nat.le_of_ble_eq_true rfl), (Nat.le_of_ble_eq_true rfl)⟩ ⟨(Nat.le_of_ble_eq_true rfl), (Nat.le_of_ble_eq_true rfl)⟩ [0, 0, 0, 0, 0, 0, 0] rfl 13 0 rfl rfl rfl rfl (Nat.le_of_ble_eq_true rfl) rfl (fun _ _ _ => rfl) dX12_clashesRead_55 (fun j17 u18 w19 => ?_)
          refine V_ws [(h0, oC 13 [.ref h1, .ref h2, .int p2, .ref h3, .ref h4, .int (nI k5), .int (nI k6), .int p7, .int p8, .int p9, .int (nI k10), .int p11, .long q12, .ref h5, .ref h6, .int (nI k15), .int (nI k16)]), (h1, aI Y 3640 f0), (h2, aZ Y 2 f1), (h3, aZ Y 80 f3), (h4, aB Y 1600 f4), (h5, aI Y 200 f13), (h6, aI Y 800 f14)] rfl ?_
          have x20 := w19
          clear w19
          rcases x20 with ⟨rfl, x21⟩ | ⟨rfl, x21⟩
          ·
            refine V_if_eq_t 58 B 65 dX12_clashesRead_58 (by decide) (by decide +kernel) ?_
            refine V_iconst 65 B (v := 0) dX12_clashesRead_65 (by decide +kernel) ?_
            refine V_ior 66 B (v := 0) dX12_clashesRead_66 (by decide +kernel) ?_
            refine V_istore_n 67 B (lv2 := [(3, .int 0), (4, .int (nI (a0.1 0))), (0, .ref h0), (1, .int (-1)), (2, .int (nI s1))]) dX12_clashesRead_67 (by decide) rfl ?_
            refine V_iinc 68 B (v := (nI (1 + (a0.1 0)))) (lv2 := [(4, .int (nI (1 + (a0.1 0)))), (3, .int 0), (0, .ref h0), (1, .int (-1)), (2, .int (nI s1))]) dX12_clashesRead_68 1 rfl (nI_addE (a := (a0.1 0)) (b := 1) (by omega)) (by decide) rfl ?_
            refine V_goto 71 B 5 dX12_clashesRead_71 (by decide) ?_
            refine V_lv [(4, .int (nI (1 + (a0.1 0)))), (3, .int 0), (0, .ref h0), (1, .int (-1)), (2, .int (nI s1))] [0, 1, 2, 3, 4] rfl ?_
            exact IH1 (mkW [1 + (a0.1 0)] [0] [] [] [] []) ⟨(show 1 + (a0.1 0) ≤ 80 by omega), (Or.inl rfl)⟩ (by show 100000 - (1 + (a0.1 0)) < 100000 - (a0.1 0); omega)
          ·
            refine V_if_eq_f 58 B 65 dX12_clashesRead_58 (by decide) (by decide +kernel) ?_
            refine V_iconst 61 B (v := 1) dX12_clashesRead_61 (by decide +kernel) ?_
            refine V_goto 62 B 66 dX12_clashesRead_62 (by decide) ?_
            refine V_ior 66 B (v := 1) dX12_clashesRead_66 (by decide +kernel) ?_
            refine V_istore_n 67 B (lv2 := [(3, .int 1), (4, .int (nI (a0.1 0))), (0, .ref h0), (1, .int (-1)), (2, .int (nI s1))]) dX12_clashesRead_67 (by decide) rfl ?_
            refine V_iinc 68 B (v := (nI (1 + (a0.1 0)))) (lv2 := [(4, .int (nI (1 + (a0.1 0)))), (3, .int 1), (0, .ref h0), (1, .int (-1)), (2, .int (nI s1))]) dX12_clashesRead_68 1 rfl (nI_addE (a := (a0.1 0)) (b := 1) (by omega)) (by decide) rfl ?_
            refine V_goto 71 B 5 dX12_clashesRead_71 (by decide) ?_
            refine V_lv [(4, .int (nI (1 + (a0.1 0)))), (3, .int 1), (0, .ref h0), (1, .int (-1)), (2, .int (nI s1))] [0, 1, 2, 3, 4] rfl ?_
            exact IH1 (mkW [1 + (a0.1 0)] [1] [] [] [] []) ⟨(show 1 + (a0.1 0) ≤ 80 by omega), (Or.inr rfl)⟩ (by show 100000 - (1 + (a0.1 0)) < 100000 - (a0.1 0); omega)
        ·
          have x22 := x_ne kk10
          rw [show ((-1) : Int32).toInt = (-1) by decide +kernel] at x22
          refine V_aload_n 24 B dX12_clashesRead_24 2 rfl ?_
          refine V_get 25 B gf_RX12_9 0 rfl rfl dX12_clashesRead_25 ?_
          refine V_sipush 28 B (v := 2718) dX12_clashesRead_28 (by decide +kernel) ?_
          refine V_iload 31 B dX12_clashesRead_31 0 rfl ?_
          refine V_csi 33 B (st := [.int 2718, .ref h1, .int 0]) (As := [.int (nI (a0.1 0))]) (fun sz => rX12_bindingAt l D Y (a0.1 0) (by omega) sz) glS_RX12_79 ⟨rfl, rfl⟩ ⟨(Nat.le_of_ble_eq_true rfl), (Nat.le_of_ble_eq_true rfl)⟩ ⟨(Nat.le_of_ble_eq_true rfl), (Nat.le_of_ble_eq_true rfl)⟩ [] rfl rfl (Nat.le_of_ble_eq_true rfl) rfl (fun _ _ _ => rfl) dX12_clashesRead_33 (fun j23 u24 w25 => ?_)
          refine V_ws [(h0, oC 13 [.ref h1, .ref h2, .int p2, .ref h3, .ref h4, .int (nI k5), .int (nI k6), .int p7, .int p8, .int p9, .int (nI k10), .int p11, .long q12, .ref h5, .ref h6, .int (nI k15), .int (nI k16)]), (h1, aI Y 3640 f0), (h2, aZ Y 2 f1), (h3, aZ Y 80 f3), (h4, aB Y 1600 f4), (h5, aI Y 200 f13), (h6, aI Y 800 f14)] rfl ?_
          have x26 := w25
          clear w25
          obtain rfl := x26
          refine V_iadd 36 B (v := (nI (2902 + 7 * (a0.1 0)))) dX12_clashesRead_36 (nI_addE (a := 2718) (b := 184 + 7 * (a0.1 0)) (by omega)) ?_
          refine V_iconst 37 B (v := 0) dX12_clashesRead_37 (by decide +kernel) ?_
          refine V_iadd 38 B (v := (nI (2902 + 7 * (a0.1 0)))) dX12_clashesRead_38 (nI_addE (a := 2902 + 7 * (a0.1 0)) (b := 0) (by omega)) ?_
          refine V_iald 39 B (v := f0 (2902 + 7 * (a0.1 0))) 1 rfl (vp_in_nI (n := 2902 + 7 * (a0.1 0)) (by omega) (by decide)) dX12_clashesRead_39 (by rw [nI_clamp (show 2902 + 7 * (a0.1 0) < 2 ^ 31 by omega)]) ?_
          refine V_nmi (fun j27 e28 => ?_)
          refine V_iload_n 40 B dX12_clashesRead_40 3 rfl ?_
          refine V_icmp_ne 41 B 65 dX12_clashesRead_41 (by decide) (fun kk29 => ?_) (fun kk29 => ?_)
          ·
            have x30 := x_ne kk29
            refine V_iconst 65 B (v := 0) dX12_clashesRead_65 (by decide +kernel) ?_
            refine V_ior 66 B (v := 0) dX12_clashesRead_66 (by decide +kernel) ?_
            refine V_istore_n 67 B (lv2 := [(3, .int 0), (4, .int (nI (a0.1 0))), (0, .ref h0), (1, .int s0), (2, .int (nI s1))]) dX12_clashesRead_67 (by decide) rfl ?_
            refine V_iinc 68 B (v := (nI (1 + (a0.1 0)))) (lv2 := [(4, .int (nI (1 + (a0.1 0)))), (3, .int 0), (0, .ref h0), (1, .int s0), (2, .int (nI s1))]) dX12_clashesRead_68 1 rfl (nI_addE (a := (a0.1 0)) (b := 1) (by omega)) (by decide) rfl ?_
            refine V_goto 71 B 5 dX12_clashesRead_71 (by decide) ?_
            refine V_lv [(4, .int (nI (1 + (a0.1 0)))), (3, .int 0), (0, .ref h0), (1, .int s0), (2, .int (nI s1))] [0, 1, 2, 3, 4] rfl ?_
            exact IH1 (mkW [1 + (a0.1 0)] [0] [] [] [] []) ⟨(show 1 + (a0.1 0) ≤ 80 by omega), (Or.inl rfl)⟩ (by show 100000 - (1 + (a0.1 0)) < 100000 - (a0.1 0); omega)
          ·
            have x31 := x_eq kk29
            refine V_aload_n 44 B dX12_clashesRead_44 2 rfl ?_
            refine V_sipush 45 B (v := 2718) dX12_clashesRead_45 (by decide +kernel) ?_
            refine V_iload 48 B dX12_clashesRead_48 0 rfl ?_
            refine V_csi 50 B (st := [.int 2718, .ref h0, .int 0]) (As := [.int (nI (a0.1 0))]) (fun sz => rX12_sequenceOf l D Y (a0.1 0) (by omega) sz) glS_RX12_85 ⟨rfl, rfl⟩ ⟨(Nat.le_of_ble_eq_true rfl), (Nat.le_of_ble_eq_true rfl)⟩ ⟨(Nat.le_of_ble_eq_true rfl), (Nat.le_of_ble_eq_true rfl)⟩ [] rfl rfl (Nat.le_of_ble_eq_true rfl) rfl (fun _ _ _ => rfl) dX12_clashesRead_50 (fun j32 u33 w34 => ?_)
            refine V_ws [(h0, oC 13 [.ref h1, .ref h2, .int p2, .ref h3, .ref h4, .int (nI k5), .int (nI k6), .int p7, .int p8, .int p9, .int (nI k10), .int p11, .long q12, .ref h5, .ref h6, .int (nI k15), .int (nI k16)]), (h1, aI Y 3640 f0), (h2, aZ Y 2 f1), (h3, aZ Y 80 f3), (h4, aB Y 1600 f4), (h5, aI Y 200 f13), (h6, aI Y 800 f14)] rfl ?_
            have x35 := w34
            clear w34
            obtain rfl := x35
            refine V_iadd 53 B (v := (nI (2904 + 7 * (a0.1 0)))) dX12_clashesRead_53 (nI_addE (a := 2718) (b := 186 + 7 * (a0.1 0)) (by omega)) ?_
            refine V_iload_n 54 B dX12_clashesRead_54 4 rfl ?_
            refine V_cvi 55 B (st := [.int 0]) (As := [.int (nI (2904 + 7 * (a0.1 0))), .int (nI s1)]) (fun sz => rX12_doClash l D Y h0 h1 h2 h3 h4 h5 h6 p2 k5 k6 p7 p8 p9 k10 p11 q12 k15 k16 f0 f1 f3 f4 f13 f14 HI (by omega) HP (2904 + 7 * (a0.1 0)) s1 (rl29 (a0.1 0) (by omega)) hs1 sz) glV_RX12_111 ⟨rfl, rfl⟩ ⟨(Nat.le_of_ble_eq_true rfl), (Nat.le_of_ble_eq_true rfl)⟩ ⟨(Nat.le_of_ble_eq_true rfl), (Nat.le_of_ble_eq_true rfl)⟩ [0, 0, 0, 0, 0, 0, 0] rfl 13 0 rfl rfl rfl rfl (Nat.le_of_ble_eq_true rfl) rfl (fun _ _ _ => rfl) dX12_clashesRead_55 (fun j36 u37 w38 => ?_)
            refine V_ws [(h0, oC 13 [.ref h1, .ref h2, .int p2, .ref h3, .ref h4, .int (nI k5), .int (nI k6), .int p7, .int p8, .int p9, .int (nI k10), .int p11, .long q12, .ref h5, .ref h6, .int (nI k15), .int (nI k16)]), (h1, aI Y 3640 f0), (h2, aZ Y 2 f1), (h3, aZ Y 80 f3), (h4, aB Y 1600 f4), (h5, aI Y 200 f13), (h6, aI Y 800 f14)] rfl ?_
            have x39 := w38
            clear w38
            rcases x39 with ⟨rfl, x40⟩ | ⟨rfl, x40⟩
            ·
              refine V_if_eq_t 58 B 65 dX12_clashesRead_58 (by decide) (by decide +kernel) ?_
              refine V_iconst 65 B (v := 0) dX12_clashesRead_65 (by decide +kernel) ?_
              refine V_ior 66 B (v := 0) dX12_clashesRead_66 (by decide +kernel) ?_
              refine V_istore_n 67 B (lv2 := [(3, .int 0), (4, .int (nI (a0.1 0))), (0, .ref h0), (1, .int s0), (2, .int (nI s1))]) dX12_clashesRead_67 (by decide) rfl ?_
              refine V_iinc 68 B (v := (nI (1 + (a0.1 0)))) (lv2 := [(4, .int (nI (1 + (a0.1 0)))), (3, .int 0), (0, .ref h0), (1, .int s0), (2, .int (nI s1))]) dX12_clashesRead_68 1 rfl (nI_addE (a := (a0.1 0)) (b := 1) (by omega)) (by decide) rfl ?_
              refine V_goto 71 B 5 dX12_clashesRead_71 (by decide) ?_
              refine V_lv [(4, .int (nI (1 + (a0.1 0)))), (3, .int 0), (0, .ref h0), (1, .int s0), (2, .int (nI s1))] [0, 1, 2, 3, 4] rfl ?_
              exact IH1 (mkW [1 + (a0.1 0)] [0] [] [] [] []) ⟨(show 1 + (a0.1 0) ≤ 80 by omega), (Or.inl rfl)⟩ (by show 100000 - (1 + (a0.1 0)) < 100000 - (a0.1 0); omega)
            ·
              refine V_if_eq_f 58 B 65 dX12_clashesRead_58 (by decide) (by decide +kernel) ?_
              refine V_iconst 61 B (v := 1) dX12_clashesRead_61 (by decide +kernel) ?_
              refine V_goto 62 B 66 dX12_clashesRead_62 (by decide) ?_
              refine V_ior 66 B (v := 1) dX12_clashesRead_66 (by decide +kernel) ?_
              refine V_istore_n 67 B (lv2 := [(3, .int 1), (4, .int (nI (a0.1 0))), (0, .ref h0), (1, .int s0), (2, .int (nI s1))]) dX12_clashesRead_67 (by decide) rfl ?_
              refine V_iinc 68 B (v := (nI (1 + (a0.1 0)))) (lv2 := [(4, .int (nI (1 + (a0.1 0)))), (3, .int 1), (0, .ref h0), (1, .int s0), (2, .int (nI s1))]) dX12_clashesRead_68 1 rfl (nI_addE (a := (a0.1 0)) (b := 1) (by omega)) (by decide) rfl ?_
              refine V_goto 71 B 5 dX12_clashesRead_71 (by decide) ?_
              refine V_lv [(4, .int (nI (1 + (a0.1 0)))), (3, .int 1), (0, .ref h0), (1, .int s0), (2, .int (nI s1))] [0, 1, 2, 3, 4] rfl ?_
              exact IH1 (mkW [1 + (a0.1 0)] [1] [] [] [] []) ⟨(show 1 + (a0.1 0) ≤ 80 by omega), (Or.inr rfl)⟩ (by show 100000 - (1 + (a0.1 0)) < 100000 - (a0.1 0); omega)
    ·
      refine V_lv [(4, .int (nI (a0.1 0))), (3, .int 1), (0, .ref h0), (1, .int s0), (2, .int (nI s1))] [0, 1, 2, 3, 4] (by rw [e5]; rfl) ?_
      refine V_iload 5 B dX12_clashesRead_5 0 rfl ?_
      refine V_aload_n 7 B dX12_clashesRead_7 2 rfl ?_
      refine V_get 8 B gf_RX12_9 0 rfl rfl dX12_clashesRead_8 ?_
      refine V_sipush 11 B (v := 2721) dX12_clashesRead_11 (by decide +kernel) ?_
      have x41 : (gN f0 2721) ≤ 80 := gN_le HI (by omega) (show bd 2721 = (0, ((80 : Nat) : Int)) by decide +kernel)
      refine V_iald 14 B (v := (nI (gN f0 2721))) 1 rfl (vpin _ _ (by decide +kernel)) dX12_clashesRead_14 (by show f0 2721 = _; exact gN_eq HI (by omega) (show bd 2721 = (0, ((80 : Nat) : Int)) by decide +kernel)) ?_
      refine V_icmp_ge 15 B 74 dX12_clashesRead_15 (by decide) (fun kk42 => ?_) (fun kk42 => ?_)
      ·
        have x43 := n_le (a := (gN f0 2721)) (b := (a0.1 0)) kk42 (by omega) (by omega)
        refine V_iload_n 74 B dX12_clashesRead_74 1 rfl ?_
        exact V_zret 75 B rfl dX12_clashesRead_75 (mkW [] [] [] [] [] []) (Or.inr rfl) rfl
      ·
        have x44 := n_nle (a := (gN f0 2721)) (b := (a0.1 0)) kk42 (by omega) (by omega)
        refine V_iload_n 18 B dX12_clashesRead_18 1 rfl ?_
        refine V_iload_n 19 B dX12_clashesRead_19 3 rfl ?_
        refine V_iconst 20 B (v := (-1)) dX12_clashesRead_20 (by decide +kernel) ?_
        refine V_icmp_eq 21 B 44 dX12_clashesRead_21 (by decide) (fun kk45 => ?_) (fun kk45 => ?_)
        ·
          obtain rfl : s0 = (-1) := kk45
          have e47 : ((-1) : Int32).toInt = (-1) := by decide +kernel
          refine V_aload_n 44 B dX12_clashesRead_44 2 rfl ?_
          refine V_sipush 45 B (v := 2718) dX12_clashesRead_45 (by decide +kernel) ?_
          refine V_iload 48 B dX12_clashesRead_48 0 rfl ?_
          refine V_csi 50 B (st := [.int 2718, .ref h0, .int 1]) (As := [.int (nI (a0.1 0))]) (fun sz => rX12_sequenceOf l D Y (a0.1 0) (by omega) sz) glS_RX12_85 ⟨rfl, rfl⟩ ⟨(Nat.le_of_ble_eq_true rfl), (Nat.le_of_ble_eq_true rfl)⟩ ⟨(Nat.le_of_ble_eq_true rfl), (Nat.le_of_ble_eq_true rfl)⟩ [] rfl rfl (Nat.le_of_ble_eq_true rfl) rfl (fun _ _ _ => rfl) dX12_clashesRead_50 (fun j48 u49 w50 => ?_)
          refine V_ws [(h0, oC 13 [.ref h1, .ref h2, .int p2, .ref h3, .ref h4, .int (nI k5), .int (nI k6), .int p7, .int p8, .int p9, .int (nI k10), .int p11, .long q12, .ref h5, .ref h6, .int (nI k15), .int (nI k16)]), (h1, aI Y 3640 f0), (h2, aZ Y 2 f1), (h3, aZ Y 80 f3), (h4, aB Y 1600 f4), (h5, aI Y 200 f13), (h6, aI Y 800 f14)] rfl ?_
          have x51 := w50
          clear w50
          obtain rfl := x51
          refine V_iadd 53 B (v := (nI (2904 + 7 * (a0.1 0)))) dX12_clashesRead_53 (nI_addE (a := 2718) (b := 186 + 7 * (a0.1 0)) (by omega)) ?_
          refine V_iload_n 54 B dX12_clashesRead_54 4 rfl ?_
          refine V_cvi 55 B (st := [.int 1]) (As := [.int (nI (2904 + 7 * (a0.1 0))), .int (nI s1)]) (fun sz => rX12_doClash l D Y h0 h1 h2 h3 h4 h5 h6 p2 k5 k6 p7 p8 p9 k10 p11 q12 k15 k16 f0 f1 f3 f4 f13 f14 HI (by omega) HP (2904 + 7 * (a0.1 0)) s1 (rl29 (a0.1 0) (by omega)) hs1 sz) glV_RX12_111 ⟨rfl, rfl⟩ ⟨(Nat.le_of_ble_eq_true rfl), (Nat.le_of_ble_eq_true rfl)⟩ ⟨(Nat.le_of_ble_eq_true rfl), (Nat.le_of_ble_eq_true rfl)⟩ [0, 0, 0, 0, 0, 0, 0] rfl 13 0 rfl rfl rfl rfl (Nat.le_of_ble_eq_true rfl) rfl (fun _ _ _ => rfl) dX12_clashesRead_55 (fun j52 u53 w54 => ?_)
          refine V_ws [(h0, oC 13 [.ref h1, .ref h2, .int p2, .ref h3, .ref h4, .int (nI k5), .int (nI k6), .int p7, .int p8, .int p9, .int (nI k10), .int p11, .long q12, .ref h5, .ref h6, .int (nI k15), .int (nI k16)]), (h1, aI Y 3640 f0), (h2, aZ Y 2 f1), (h3, aZ Y 80 f3), (h4, aB Y 1600 f4), (h5, aI Y 200 f13), (h6, aI Y 800 f14)] rfl ?_
          have x55 := w54
          clear w54
          rcases x55 with ⟨rfl, x56⟩ | ⟨rfl, x56⟩
          ·
            refine V_if_eq_t 58 B 65 dX12_clashesRead_58 (by decide) (by decide +kernel) ?_
            refine V_iconst 65 B (v := 0) dX12_clashesRead_65 (by decide +kernel) ?_
            refine V_ior 66 B (v := 1) dX12_clashesRead_66 (by decide +kernel) ?_
            refine V_istore_n 67 B (lv2 := [(3, .int 1), (4, .int (nI (a0.1 0))), (0, .ref h0), (1, .int (-1)), (2, .int (nI s1))]) dX12_clashesRead_67 (by decide) rfl ?_
            refine V_iinc 68 B (v := (nI (1 + (a0.1 0)))) (lv2 := [(4, .int (nI (1 + (a0.1 0)))), (3, .int 1), (0, .ref h0), (1, .int (-1)), (2, .int (nI s1))]) dX12_clashesRead_68 1 rfl (nI_addE (a := (a0.1 0)) (b := 1) (by omega)) (by decide) rfl ?_
            refine V_goto 71 B 5 dX12_clashesRead_71 (by decide) ?_
            refine V_lv [(4, .int (nI (1 + (a0.1 0)))), (3, .int 1), (0, .ref h0), (1, .int (-1)), (2, .int (nI s1))] [0, 1, 2, 3, 4] rfl ?_
            exact IH1 (mkW [1 + (a0.1 0)] [1] [] [] [] []) ⟨(show 1 + (a0.1 0) ≤ 80 by omega), (Or.inr rfl)⟩ (by show 100000 - (1 + (a0.1 0)) < 100000 - (a0.1 0); omega)
          ·
            refine V_if_eq_f 58 B 65 dX12_clashesRead_58 (by decide) (by decide +kernel) ?_
            refine V_iconst 61 B (v := 1) dX12_clashesRead_61 (by decide +kernel) ?_
            refine V_goto 62 B 66 dX12_clashesRead_62 (by decide) ?_
            refine V_ior 66 B (v := 1) dX12_clashesRead_66 (by decide +kernel) ?_
            refine V_istore_n 67 B (lv2 := [(3, .int 1), (4, .int (nI (a0.1 0))), (0, .ref h0), (1, .int (-1)), (2, .int (nI s1))]) dX12_clashesRead_67 (by decide) rfl ?_
            refine V_iinc 68 B (v := (nI (1 + (a0.1 0)))) (lv2 := [(4, .int (nI (1 + (a0.1 0)))), (3, .int 1), (0, .ref h0), (1, .int (-1)), (2, .int (nI s1))]) dX12_clashesRead_68 1 rfl (nI_addE (a := (a0.1 0)) (b := 1) (by omega)) (by decide) rfl ?_
            refine V_goto 71 B 5 dX12_clashesRead_71 (by decide) ?_
            refine V_lv [(4, .int (nI (1 + (a0.1 0)))), (3, .int 1), (0, .ref h0), (1, .int (-1)), (2, .int (nI s1))] [0, 1, 2, 3, 4] rfl ?_
            exact IH1 (mkW [1 + (a0.1 0)] [1] [] [] [] []) ⟨(show 1 + (a0.1 0) ≤ 80 by omega), (Or.inr rfl)⟩ (by show 100000 - (1 + (a0.1 0)) < 100000 - (a0.1 0); omega)
        ·
          have x57 := x_ne kk45
          rw [show ((-1) : Int32).toInt = (-1) by decide +kernel] at x57
          refine V_aload_n 24 B dX12_clashesRead_24 2 rfl ?_
          refine V_get 25 B gf_RX12_9 0 rfl rfl dX12_clashesRead_25 ?_
          refine V_sipush 28 B (v := 2718) dX12_clashesRead_28 (by decide +kernel) ?_
          refine V_iload 31 B dX12_clashesRead_31 0 rfl ?_
          refine V_csi 33 B (st := [.int 2718, .ref h1, .int 1]) (As := [.int (nI (a0.1 0))]) (fun sz => rX12_bindingAt l D Y (a0.1 0) (by omega) sz) glS_RX12_79 ⟨rfl, rfl⟩ ⟨(Nat.le_of_ble_eq_true rfl), (Nat.le_of_ble_eq_true rfl)⟩ ⟨(Nat.le_of_ble_eq_true rfl), (Nat.le_of_ble_eq_true rfl)⟩ [] rfl rfl (Nat.le_of_ble_eq_true rfl) rfl (fun _ _ _ => rfl) dX12_clashesRead_33 (fun j58 u59 w60 => ?_)
          refine V_ws [(h0, oC 13 [.ref h1, .ref h2, .int p2, .ref h3, .ref h4, .int (nI k5), .int (nI k6), .int p7, .int p8, .int p9, .int (nI k10), .int p11, .long q12, .ref h5, .ref h6, .int (nI k15), .int (nI k16)]), (h1, aI Y 3640 f0), (h2, aZ Y 2 f1), (h3, aZ Y 80 f3), (h4, aB Y 1600 f4), (h5, aI Y 200 f13), (h6, aI Y 800 f14)] rfl ?_
          have x61 := w60
          clear w60
          obtain rfl := x61
          refine V_iadd 36 B (v := (nI (2902 + 7 * (a0.1 0)))) dX12_clashesRead_36 (nI_addE (a := 2718) (b := 184 + 7 * (a0.1 0)) (by omega)) ?_
          refine V_iconst 37 B (v := 0) dX12_clashesRead_37 (by decide +kernel) ?_
          refine V_iadd 38 B (v := (nI (2902 + 7 * (a0.1 0)))) dX12_clashesRead_38 (nI_addE (a := 2902 + 7 * (a0.1 0)) (b := 0) (by omega)) ?_
          refine V_iald 39 B (v := f0 (2902 + 7 * (a0.1 0))) 1 rfl (vp_in_nI (n := 2902 + 7 * (a0.1 0)) (by omega) (by decide)) dX12_clashesRead_39 (by rw [nI_clamp (show 2902 + 7 * (a0.1 0) < 2 ^ 31 by omega)]) ?_
          refine V_nmi (fun j62 e63 => ?_)
          refine V_iload_n 40 B dX12_clashesRead_40 3 rfl ?_
          refine V_icmp_ne 41 B 65 dX12_clashesRead_41 (by decide) (fun kk64 => ?_) (fun kk64 => ?_)
          ·
            have x65 := x_ne kk64
            refine V_iconst 65 B (v := 0) dX12_clashesRead_65 (by decide +kernel) ?_
            refine V_ior 66 B (v := 1) dX12_clashesRead_66 (by decide +kernel) ?_
            refine V_istore_n 67 B (lv2 := [(3, .int 1), (4, .int (nI (a0.1 0))), (0, .ref h0), (1, .int s0), (2, .int (nI s1))]) dX12_clashesRead_67 (by decide) rfl ?_
            refine V_iinc 68 B (v := (nI (1 + (a0.1 0)))) (lv2 := [(4, .int (nI (1 + (a0.1 0)))), (3, .int 1), (0, .ref h0), (1, .int s0), (2, .int (nI s1))]) dX12_clashesRead_68 1 rfl (nI_addE (a := (a0.1 0)) (b := 1) (by omega)) (by decide) rfl ?_
            refine V_goto 71 B 5 dX12_clashesRead_71 (by decide) ?_
            refine V_lv [(4, .int (nI (1 + (a0.1 0)))), (3, .int 1), (0, .ref h0), (1, .int s0), (2, .int (nI s1))] [0, 1, 2, 3, 4] rfl ?_
            exact IH1 (mkW [1 + (a0.1 0)] [1] [] [] [] []) ⟨(show 1 + (a0.1 0) ≤ 80 by omega), (Or.inr rfl)⟩ (by show 100000 - (1 + (a0.1 0)) < 100000 - (a0.1 0); omega)
          ·
            have x66 := x_eq kk64
            refine V_aload_n 44 B dX12_clashesRead_44 2 rfl ?_
            refine V_sipush 45 B (v := 2718) dX12_clashesRead_45 (by decide +kernel) ?_
            refine V_iload 48 B dX12_clashesRead_48 0 rfl ?_
            refine V_csi 50 B (st := [.int 2718, .ref h0, .int 1]) (As := [.int (nI (a0.1 0))]) (fun sz => rX12_sequenceOf l D Y (a0.1 0) (by omega) sz) glS_RX12_85 ⟨rfl, rfl⟩ ⟨(Nat.le_of_ble_eq_true rfl), (Nat.le_of_ble_eq_true rfl)⟩ ⟨(Nat.le_of_ble_eq_true rfl), (Nat.le_of_ble_eq_true rfl)⟩ [] rfl rfl (Nat.le_of_ble_eq_true rfl) rfl (fun _ _ _ => rfl) dX12_clashesRead_50 (fun j67 u68 w69 => ?_)
            refine V_ws [(h0, oC 13 [.ref h1, .ref h2, .int p2, .ref h3, .ref h4, .int (nI k5), .int (nI k6), .int p7, .int p8, .int p9, .int (nI k10), .int p11, .long q12, .ref h5, .ref h6, .int (nI k15), .int (nI k16)]), (h1, aI Y 3640 f0), (h2, aZ Y 2 f1), (h3, aZ Y 80 f3), (h4, aB Y 1600 f4), (h5, aI Y 200 f13), (h6, aI Y 800 f14)] rfl ?_
            have x70 := w69
            clear w69
            obtain rfl := x70
            refine V_iadd 53 B (v := (nI (2904 + 7 * (a0.1 0)))) dX12_clashesRead_53 (nI_addE (a := 2718) (b := 186 + 7 * (a0.1 0)) (by omega)) ?_
            refine V_iload_n 54 B dX12_clashesRead_54 4 rfl ?_
            refine V_cvi 55 B (st := [.int 1]) (As := [.int (nI (2904 + 7 * (a0.1 0))), .int (nI s1)]) (fun sz => rX12_doClash l D Y h0 h1 h2 h3 h4 h5 h6 p2 k5 k6 p7 p8 p9 k10 p11 q12 k15 k16 f0 f1 f3 f4 f13 f14 HI (by omega) HP (2904 + 7 * (a0.1 0)) s1 (rl29 (a0.1 0) (by omega)) hs1 sz) glV_RX12_111 ⟨rfl, rfl⟩ ⟨(Nat.le_of_ble_eq_true rfl), (Nat.le_of_ble_eq_true rfl)⟩ ⟨(Nat.le_of_ble_eq_true rfl), (Nat.le_of_ble_eq_true rfl)⟩ [0, 0, 0, 0, 0, 0, 0] rfl 13 0 rfl rfl rfl rfl (Nat.le_of_ble_eq_true rfl) rfl (fun _ _ _ => rfl) dX12_clashesRead_55 (fun j71 u72 w73 => ?_)
            refine V_ws [(h0, oC 13 [.ref h1, .ref h2, .int p2, .ref h3, .ref h4, .int (nI k5), .int (nI k6), .int p7, .int p8, .int p9, .int (nI k10), .int p11, .long q12, .ref h5, .ref h6, .int (nI k15), .int (nI k16)]), (h1, aI Y 3640 f0), (h2, aZ Y 2 f1), (h3, aZ Y 80 f3), (h4, aB Y 1600 f4), (h5, aI Y 200 f13), (h6, aI Y 800 f14)] rfl ?_
            have x74 := w73
            clear w73
            rcases x74 with ⟨rfl, x75⟩ | ⟨rfl, x75⟩
            ·
              refine V_if_eq_t 58 B 65 dX12_clashesRead_58 (by decide) (by decide +kernel) ?_
              refine V_iconst 65 B (v := 0) dX12_clashesRead_65 (by decide +kernel) ?_
              refine V_ior 66 B (v := 1) dX12_clashesRead_66 (by decide +kernel) ?_
              refine V_istore_n 67 B (lv2 := [(3, .int 1), (4, .int (nI (a0.1 0))), (0, .ref h0), (1, .int s0), (2, .int (nI s1))]) dX12_clashesRead_67 (by decide) rfl ?_
              refine V_iinc 68 B (v := (nI (1 + (a0.1 0)))) (lv2 := [(4, .int (nI (1 + (a0.1 0)))), (3, .int 1), (0, .ref h0), (1, .int s0), (2, .int (nI s1))]) dX12_clashesRead_68 1 rfl (nI_addE (a := (a0.1 0)) (b := 1) (by omega)) (by decide) rfl ?_
              refine V_goto 71 B 5 dX12_clashesRead_71 (by decide) ?_
              refine V_lv [(4, .int (nI (1 + (a0.1 0)))), (3, .int 1), (0, .ref h0), (1, .int s0), (2, .int (nI s1))] [0, 1, 2, 3, 4] rfl ?_
              exact IH1 (mkW [1 + (a0.1 0)] [1] [] [] [] []) ⟨(show 1 + (a0.1 0) ≤ 80 by omega), (Or.inr rfl)⟩ (by show 100000 - (1 + (a0.1 0)) < 100000 - (a0.1 0); omega)
            ·
              refine V_if_eq_f 58 B 65 dX12_clashesRead_58 (by decide) (by decide +kernel) ?_
              refine V_iconst 61 B (v := 1) dX12_clashesRead_61 (by decide +kernel) ?_
              refine V_goto 62 B 66 dX12_clashesRead_62 (by decide) ?_
              refine V_ior 66 B (v := 1) dX12_clashesRead_66 (by decide +kernel) ?_
              refine V_istore_n 67 B (lv2 := [(3, .int 1), (4, .int (nI (a0.1 0))), (0, .ref h0), (1, .int s0), (2, .int (nI s1))]) dX12_clashesRead_67 (by decide) rfl ?_
              refine V_iinc 68 B (v := (nI (1 + (a0.1 0)))) (lv2 := [(4, .int (nI (1 + (a0.1 0)))), (3, .int 1), (0, .ref h0), (1, .int s0), (2, .int (nI s1))]) dX12_clashesRead_68 1 rfl (nI_addE (a := (a0.1 0)) (b := 1) (by omega)) (by decide) rfl ?_
              refine V_goto 71 B 5 dX12_clashesRead_71 (by decide) ?_
              refine V_lv [(4, .int (nI (1 + (a0.1 0)))), (3, .int 1), (0, .ref h0), (1, .int s0), (2, .int (nI s1))] [0, 1, 2, 3, 4] rfl ?_
              exact IH1 (mkW [1 + (a0.1 0)] [1] [] [] [] []) ⟨(show 1 + (a0.1 0) ≤ 80 by omega), (Or.inr rfl)⟩ (by show 100000 - (1 + (a0.1 0)) < 100000 - (a0.1 0); omega))
theorem dX12_readReserved_0 : decode cX12_readReserved 0 = .ok (.aload_n 0, 1) := by decide +kernel
theorem dX12_readReserved_1 : decode cX12_readReserved 1 = .ok (.getfield 9, 3) := by decide +kernel
theorem dX12_readReserved_4 : decode cX12_readReserved 4 = .ok (.sipush 2720, 3) := by decide +kernel
theorem dX12_readReserved_7 : decode cX12_readReserved 7 = .ok (.iaload, 1) := by decide +kernel
theorem dX12_readReserved_8 : decode cX12_readReserved 8 = .ok (.bipush 6, 2) := by decide +kernel
theorem dX12_readReserved_10 : decode cX12_readReserved 10 = .ok (.if_icmp .ne 9, 3) := by decide +kernel
theorem dX12_readReserved_19 : decode cX12_readReserved 19 = .ok (.aload_n 0, 1) := by decide +kernel
theorem dX12_readReserved_20 : decode cX12_readReserved 20 = .ok (.getfield 270, 3) := by decide +kernel
theorem dX12_readReserved_23 : decode cX12_readReserved 23 = .ok (.istore_n 1, 1) := by decide +kernel
theorem dX12_readReserved_24 : decode cX12_readReserved 24 = .ok (.sipush 2718, 3) := by decide +kernel
theorem dX12_readReserved_27 : decode cX12_readReserved 27 = .ok (.aload_n 0, 1) := by decide +kernel
theorem dX12_readReserved_28 : decode cX12_readReserved 28 = .ok (.getfield 9, 3) := by decide +kernel
theorem dX12_readReserved_31 : decode cX12_readReserved 31 = .ok (.sipush 2720, 3) := by decide +kernel
theorem dX12_readReserved_34 : decode cX12_readReserved 34 = .ok (.iaload, 1) := by decide +kernel
theorem dX12_readReserved_35 : decode cX12_readReserved 35 = .ok (.invokestatic 108, 3) := by decide +kernel
theorem dX12_readReserved_38 : decode cX12_readReserved 38 = .ok (.iadd, 1) := by decide +kernel
theorem dX12_readReserved_39 : decode cX12_readReserved 39 = .ok (.istore_n 2, 1) := by decide +kernel
theorem dX12_readReserved_40 : decode cX12_readReserved 40 = .ok (.aload_n 0, 1) := by decide +kernel
theorem dX12_readReserved_41 : decode cX12_readReserved 41 = .ok (.invokevirtual 288, 3) := by decide +kernel
theorem dX12_readReserved_44 : decode cX12_readReserved 44 = .ok (.aload_n 0, 1) := by decide +kernel
theorem dX12_readReserved_45 : decode cX12_readReserved 45 = .ok (.iload_n 2, 1) := by decide +kernel
theorem dX12_readReserved_46 : decode cX12_readReserved 46 = .ok (.invokevirtual 307, 3) := by decide +kernel
theorem rl31 : ∀ z0, z0 < 6 → SQ (2872 + 5 * z0) := by unfold SQ; decide +kernel
theorem glV_RX12_307 : GLV RX12 307 yX12_readSequence RX12 cX12_readSequence 3 (some .boolean) 1 := ⟨⟨(mT10 17 rfl rfl), (mT10 19 rfl rfl), (mTs 83 rfl rfl), (mT1 13 rfl rfl), (mT10 20 rfl rfl)⟩, by decide +kernel⟩
theorem dX12_readReserved_49 : decode cX12_readReserved 49 = .ok (.ifCond .eq 10, 3) := by decide +kernel
theorem dX12_readReserved_59 : decode cX12_readReserved 59 = .ok (.iconst 0, 1) := by decide +kernel
theorem dX12_readReserved_60 : decode cX12_readReserved 60 = .ok (.ireturn, 1) := by decide +kernel
theorem dX12_readReserved_52 : decode cX12_readReserved 52 = .ok (.aload_n 0, 1) := by decide +kernel
theorem dX12_readReserved_53 : decode cX12_readReserved 53 = .ok (.invokevirtual 304, 3) := by decide +kernel
theorem dX12_readReserved_56 : decode cX12_readReserved 56 = .ok (.ifCond .ne 5, 3) := by decide +kernel
theorem dX12_readReserved_61 : decode cX12_readReserved 61 = .ok (.aload_n 0, 1) := by decide +kernel
theorem dX12_readReserved_62 : decode cX12_readReserved 62 = .ok (.iconst (-1), 1) := by decide +kernel
theorem dX12_readReserved_63 : decode cX12_readReserved 63 = .ok (.iload_n 2, 1) := by decide +kernel
theorem dX12_readReserved_64 : decode cX12_readReserved 64 = .ok (.invokevirtual 310, 3) := by decide +kernel
theorem glV_RX12_310 : GLV RX12 310 yX12_clashesRead RX12 cX12_clashesRead 5 (some .boolean) 2 := ⟨⟨(mT10 25 rfl rfl), (mT10 27 rfl rfl), (mTs 85 rfl rfl), (mT1 13 rfl rfl), (mT10 28 rfl rfl)⟩, by decide +kernel⟩
theorem dX12_readReserved_67 : decode cX12_readReserved 67 = .ok (.ifCond .eq 10, 3) := by decide +kernel
theorem dX12_readReserved_77 : decode cX12_readReserved 77 = .ok (.aload_n 0, 1) := by decide +kernel
theorem dX12_readReserved_78 : decode cX12_readReserved 78 = .ok (.getfield 9, 3) := by decide +kernel
theorem dX12_readReserved_81 : decode cX12_readReserved 81 = .ok (.sipush 2720, 3) := by decide +kernel
theorem dX12_readReserved_84 : decode cX12_readReserved 84 = .ok (.dup2, 1) := by decide +kernel
theorem dX12_readReserved_85 : decode cX12_readReserved 85 = .ok (.iaload, 1) := by decide +kernel
theorem dX12_readReserved_86 : decode cX12_readReserved 86 = .ok (.iconst 1, 1) := by decide +kernel
theorem dX12_readReserved_87 : decode cX12_readReserved 87 = .ok (.iadd, 1) := by decide +kernel
theorem dX12_readReserved_88 : decode cX12_readReserved 88 = .ok (.iastore, 1) := by decide +kernel
theorem dX12_readReserved_89 : decode cX12_readReserved 89 = .ok (.iconst 1, 1) := by decide +kernel
theorem dX12_readReserved_90 : decode cX12_readReserved 90 = .ok (.ireturn, 1) := by decide +kernel
theorem dX12_readReserved_70 : decode cX12_readReserved 70 = .ok (.aload_n 0, 1) := by decide +kernel
theorem dX12_readReserved_71 : decode cX12_readReserved 71 = .ok (.iconst 4, 1) := by decide +kernel
theorem dX12_readReserved_72 : decode cX12_readReserved 72 = .ok (.iload_n 1, 1) := by decide +kernel
theorem dX12_readReserved_73 : decode cX12_readReserved 73 = .ok (.invokevirtual 313, 3) := by decide +kernel
theorem glV_RX12_313 : GLV RX12 313 yX12_failAt RX12 cX12_failAt 3 (some .boolean) 2 := ⟨⟨(mT10 29 rfl rfl), (mT10 31 rfl rfl), (mTs 86 rfl rfl), (mT1 13 rfl rfl), (mT10 32 rfl rfl)⟩, by decide +kernel⟩
theorem dX12_readReserved_76 : decode cX12_readReserved 76 = .ok (.ireturn, 1) := by decide +kernel
theorem dX12_readReserved_13 : decode cX12_readReserved 13 = .ok (.aload_n 0, 1) := by decide +kernel
theorem dX12_readReserved_14 : decode cX12_readReserved 14 = .ok (.iconst 3, 1) := by decide +kernel
theorem dX12_readReserved_15 : decode cX12_readReserved 15 = .ok (.invokevirtual 291, 3) := by decide +kernel
theorem dX12_readReserved_18 : decode cX12_readReserved 18 = .ok (.ireturn, 1) := by decide +kernel
set_option maxRecDepth 100000 in
set_option maxHeartbeats 4000000 in
theorem rX12_readReserved (l : Launch) (D : va_G) (Y : Nat → ClassId) (h0 : Nat) (h1 : Nat) (h2 : Nat) (h3 : Nat) (h4 : Nat) (h5 : Nat) (h6 : Nat) (p2 : Int32) (k5 : Nat) (k6 : Nat) (p7 : Int32) (p8 : Int32) (p9 : Int32) (k10 : Nat) (p11 : Int32) (q12 : Int64) (k15 : Nat) (k16 : Nat) (f0 : Nat → Int32) (f1 : Nat → Int32) (f3 : Nat → Int32) (f4 : Nat → Int32) (f13 : Nat → Int32) (f14 : Nat → Int32) (HI : INV f0) (HL : k5 ≤ 1600) (HP : PLV f13)  (hx0 : k10 ≤ k6) (hx1 : k6 ≤ k5) (hx2 : (p9 = 0 ∨ k10 < k6)) (hx3 : k10 < k6) (sz : Nat) : Met l yX12_readReserved (WSm yX12_readReserved cX12_readReserved 3 (some .boolean)) (mkR 5 0 0 108) (PreC D Y [.ref h0] [(h0, oC 13 [.ref h1, .ref h2, .int p2, .ref h3, .ref h4, .int (nI k5), .int (nI k6), .int p7, .int p8, .int p9, .int (nI k10), .int p11, .long q12, .ref h5, .ref h6, .int (nI k15), .int (nI k16)]), (h1, aI Y 3640 f0), (h2, aZ Y 2 f1), (h3, aZ Y 80 f3), (h4, aB Y 1600 f4), (h5, aI Y 200 f13), (h6, aI Y 800 f14)] sz) (QI D (fun (r : Int32) (u : WU) => (r = 0 ∨ (r = 1 ∧ k10 < (u.1 1))) ∧ INV (u.2.2.2.1 0) ∧ k10 ≤ (u.1 1) ∧ (u.1 1) ≤ (u.1 0) ∧ (u.1 0) ≤ k5 ∧ ((u.2.1 2) = 0 ∨ (u.1 1) < (u.1 0))) (fun (u : WU) => [(h0, oC 13 [.ref h1, .ref h2, .int p2, .ref h3, .ref h4, .int (nI k5), .int (nI (u.1 0)), .int (u.2.1 0), .int (u.2.1 1), .int (u.2.1 2), .int (nI (u.1 1)), .int p11, .long (u.2.2.1 0), .ref h5, .ref h6, .int (nI k15), .int (nI k16)]), (h1, aI Y 3640 (u.2.2.2.1 0)), (h2, aZ Y 2 f1), (h3, aZ Y 80 f3), (h4, aB Y 1600 f4), (h5, aI Y 200 f13), (h6, aI Y 800 f14)]) (va_A [(h0, oC 13 [.ref h1, .ref h2, .int p2, .ref h3, .ref h4, .int (nI k5), .int (nI k6), .int p7, .int p8, .int p9, .int (nI k10), .int p11, .long q12, .ref h5, .ref h6, .int (nI k15), .int (nI k16)]), (h1, aI Y 3640 f0), (h2, aZ Y 2 f1), (h3, aZ Y 80 f3), (h4, aB Y 1600 f4), (h5, aI Y 200 f13), (h6, aI Y 800 f14)] sz)) 0 0 (va_A [(h0, oC 13 [.ref h1, .ref h2, .int p2, .ref h3, .ref h4, .int (nI k5), .int (nI k6), .int p7, .int p8, .int p9, .int (nI k10), .int p11, .long q12, .ref h5, .ref h6, .int (nI k15), .int (nI k16)]), (h1, aI Y 3640 f0), (h2, aZ Y 2 f1), (h3, aZ Y 80 f3), (h4, aB Y 1600 f4), (h5, aI Y 200 f13), (h6, aI Y 800 f14)] sz) :=
  met_of  (by decide +kernel) (Nat.le_of_ble_eq_true rfl) (fun p e s m args below meth c B hin hsz => by
    have B : VB p s m args meth c D Y (va_A [(h0, oC 13 [.ref h1, .ref h2, .int p2, .ref h3, .ref h4, .int (nI k5), .int (nI k6), .int p7, .int p8, .int p9, .int (nI k10), .int p11, .long q12, .ref h5, .ref h6, .int (nI k15), .int (nI k16)]), (h1, aI Y 3640 f0), (h2, aZ Y 2 f1), (h3, aZ Y 80 f3), (h4, aB Y 1600 f4), (h5, aI Y 200 f13), (h6, aI Y 800 f14)] sz) cX12_readReserved 3 RX12 (some .boolean) := B
    refine V_aload_n 0 B dX12_readReserved_0 0 rfl ?_
    refine V_get 1 B gf_RX12_9 0 rfl rfl dX12_readReserved_1 ?_
    refine V_sipush 4 B (v := 2720) dX12_readReserved_4 (by decide +kernel) ?_
    have x0 : (gN f0 2720) ≤ 6 := gN_le HI (by omega) (show bd 2720 = (0, ((6 : Nat) : Int)) by decide +kernel)
    refine V_iald 7 B (v := (nI (gN f0 2720))) 1 rfl (vpin _ _ (by decide +kernel)) dX12_readReserved_7 (by show f0 2720 = _; exact gN_eq HI (by omega) (show bd 2720 = (0, ((6 : Nat) : Int)) by decide +kernel)) ?_
    refine V_bipush 8 B (v := 6) dX12_readReserved_8 (by decide +kernel) ?_
    refine V_icmp_ne 10 B 19 dX12_readReserved_10 (by decide) (fun kk1 => ?_) (fun kk1 => ?_)
    ·
      have x2 := n_ne (a := (gN f0 2720)) (b := 6) kk1
      refine V_aload_n 19 B dX12_readReserved_19 0 rfl ?_
      refine V_get 20 B gf_RX12_270 0 rfl rfl dX12_readReserved_20 ?_
      refine V_istore_n 23 B (lv2 := [(1, .int (nI k10)), (0, .ref h0)]) dX12_readReserved_23 (by decide) rfl ?_
      refine V_sipush 24 B (v := 2718) dX12_readReserved_24 (by decide +kernel) ?_
      refine V_aload_n 27 B dX12_readReserved_27 1 rfl ?_
      refine V_get 28 B gf_RX12_9 0 rfl rfl dX12_readReserved_28 ?_
      refine V_sipush 31 B (v := 2720) dX12_readReserved_31 (by decide +kernel) ?_
      have x3 : (gN f0 2720) ≤ 6 := gN_le HI (by omega) (show bd 2720 = (0, ((6 : Nat) : Int)) by decide +kernel)
      refine V_iald 34 B (v := (nI (gN f0 2720))) 1 rfl (vpin _ _ (by decide +kernel)) dX12_readReserved_34 (by show f0 2720 = _; exact gN_eq HI (by omega) (show bd 2720 = (0, ((6 : Nat) : Int)) by decide +kernel)) ?_
      refine V_csi 35 B (st := [.int 2718]) (As := [.int (nI (gN f0 2720))]) (fun sz => rX12_reservedAt l D Y (gN f0 2720) (by omega) sz) glS_RX12_108 ⟨rfl, rfl⟩ ⟨(Nat.le_of_ble_eq_true rfl), (Nat.le_of_ble_eq_true rfl)⟩ ⟨(Nat.le_of_ble_eq_true rfl), (Nat.le_of_ble_eq_true rfl)⟩ [] rfl rfl (Nat.le_of_ble_eq_true rfl) rfl (fun _ _ _ => rfl) dX12_readReserved_35 (fun j4 u5 w6 => ?_)
      refine V_ws [(h0, oC 13 [.ref h1, .ref h2, .int p2, .ref h3, .ref h4, .int (nI k5), .int (nI k6), .int p7, .int p8, .int p9, .int (nI k10), .int p11, .long q12, .ref h5, .ref h6, .int (nI k15), .int (nI k16)]), (h1, aI Y 3640 f0), (h2, aZ Y 2 f1), (h3, aZ Y 80 f3), (h4, aB Y 1600 f4), (h5, aI Y 200 f13), (h6, aI Y 800 f14)] rfl ?_
      have x7 := w6
      clear w6
      obtain rfl := x7
      refine V_iadd 38 B (v := (nI (2872 + 5 * (gN f0 2720)))) dX12_readReserved_38 (nI_addE (a := 2718) (b := 154 + 5 * (gN f0 2720)) (by omega)) ?_
      refine V_istore_n 39 B (lv2 := [(2, .int (nI (2872 + 5 * (gN f0 2720)))), (1, .int (nI k10)), (0, .ref h0)]) dX12_readReserved_39 (by decide) rfl ?_
      refine V_aload_n 40 B dX12_readReserved_40 2 rfl ?_
      refine V_cvv 41 B (st := []) (As := []) (fun sz => rX12_advance l D Y h0 h1 h2 h3 h4 h5 h6 p2 k5 k6 p7 p8 p9 k10 p11 q12 k15 k16 f0 f1 f3 f4 f13 f14 HI (by omega) HP (by omega) sz) glV_RX12_288 ⟨rfl, rfl⟩ ⟨(Nat.le_of_ble_eq_true rfl), (Nat.le_of_ble_eq_true rfl)⟩ ⟨(Nat.le_of_ble_eq_true rfl), (Nat.le_of_ble_eq_true rfl)⟩ [0, 0, 0, 0, 0, 0, 0] rfl 13 0 rfl rfl rfl rfl (Nat.le_of_ble_eq_true rfl) rfl (fun _ _ => rfl) dX12_readReserved_41 (fun u9 w10 => ?_)
      refine V_ws [(h0, oC 13 [.ref h1, .ref h2, .int p2, .ref h3, .ref h4, .int (nI k5), .int (nI (u9.1 0)), .int p7, .int p8, .int (u9.2.1 0), .int (nI (u9.1 1)), .int p11, .long (u9.2.2.1 0), .ref h5, .ref h6, .int (nI k15), .int (nI k16)]), (h1, aI Y 3640 f0), (h2, aZ Y 2 f1), (h3, aZ Y 80 f3), (h4, aB Y 1600 f4), (h5, aI Y 200 f13), (h6, aI Y 800 f14)] rfl ?_
      obtain ⟨x11, x12, x13, x14⟩ := w10
      refine V_aload_n 44 B dX12_readReserved_44 2 rfl ?_
      refine V_iload_n 45 B dX12_readReserved_45 0 rfl ?_
      refine V_cvi 46 B (st := []) (As := [.int (nI (2872 + 5 * (gN f0 2720)))]) (fun sz => rX12_readSequence l D Y h0 h1 h2 h3 h4 h5 h6 p2 k5 (u9.1 0) p7 p8 (u9.2.1 0) (u9.1 1) p11 (u9.2.2.1 0) k15 k16 f0 f1 f3 f4 f13 f14 HI (by omega) HP (2872 + 5 * (gN f0 2720)) (rl31 (gN f0 2720) (by omega)) (by omega) (by omega) (by first | assumption | exact Or.inl rfl | exact Or.inr (by omega)) sz) glV_RX12_307 ⟨rfl, rfl⟩ ⟨(Nat.le_of_ble_eq_true rfl), (Nat.le_of_ble_eq_true rfl)⟩ ⟨(Nat.le_of_ble_eq_true rfl), (Nat.le_of_ble_eq_true rfl)⟩ [0, 0, 0, 0, 0, 0, 0] rfl 13 0 rfl rfl rfl rfl (Nat.le_of_ble_eq_true rfl) rfl (fun _ _ _ => rfl) dX12_readReserved_46 (fun j15 u16 w17 => ?_)
      refine V_ws [(h0, oC 13 [.ref h1, .ref h2, .int p2, .ref h3, .ref h4, .int (nI k5), .int (nI (u16.1 0)), .int (u16.2.1 0), .int (u16.2.1 1), .int (u16.2.1 2), .int (nI (u16.1 1)), .int p11, .long (u16.2.2.1 0), .ref h5, .ref h6, .int (nI k15), .int (nI k16)]), (h1, aI Y 3640 (u16.2.2.2.1 0)), (h2, aZ Y 2 f1), (h3, aZ Y 80 f3), (h4, aB Y 1600 f4), (h5, aI Y 200 f13), (h6, aI Y 800 f14)] rfl ?_
      obtain ⟨x18, x19, x20, x21, x22, x23, x24⟩ := w17
      rcases x18 with rfl | ⟨rfl, x25⟩
      ·
        refine V_if_eq_t 49 B 59 dX12_readReserved_49 (by decide) (by decide +kernel) ?_
        refine V_iconst 59 B (v := 0) dX12_readReserved_59 (by decide +kernel) ?_
        exact V_zret 60 B rfl dX12_readReserved_60 (mkW [(u16.1 0), (u16.1 1)] [(u16.2.1 0), (u16.2.1 1), (u16.2.1 2)] [(u16.2.2.1 0)] [(u16.2.2.2.1 0)] [] []) ⟨(Or.inl rfl), x19, (show k10 ≤ (u16.1 1) by omega), (show (u16.1 1) ≤ (u16.1 0) by omega), (show (u16.1 0) ≤ k5 by omega), (show ((u16.2.1 2) = 0 ∨ (u16.1 1) < (u16.1 0)) by first | assumption | exact Or.inr (by omega))⟩ rfl
      ·
        refine V_if_eq_f 49 B 59 dX12_readReserved_49 (by decide) (by decide +kernel) ?_
        refine V_aload_n 52 B dX12_readReserved_52 2 rfl ?_
        refine V_cvi 53 B (st := []) (As := []) (fun sz => rX12_readEnd l D Y h0 h1 h2 h3 h4 h5 h6 p2 k5 (u16.1 0) (u16.2.1 0) (u16.2.1 1) (u16.2.1 2) (u16.1 1) p11 (u16.2.2.1 0) k15 k16 (u16.2.2.2.1 0) f1 f3 f4 f13 f14 x19 (by omega) HP (by omega) (by omega) (by first | assumption | exact Or.inl rfl | exact Or.inr (by omega)) sz) glV_RX12_304 ⟨rfl, rfl⟩ ⟨(Nat.le_of_ble_eq_true rfl), (Nat.le_of_ble_eq_true rfl)⟩ ⟨(Nat.le_of_ble_eq_true rfl), (Nat.le_of_ble_eq_true rfl)⟩ [0, 0, 0, 0, 0, 0, 0] rfl 13 0 rfl rfl rfl rfl (Nat.le_of_ble_eq_true rfl) rfl (fun _ _ _ => rfl) dX12_readReserved_53 (fun j26 u27 w28 => ?_)
        refine V_ws [(h0, oC 13 [.ref h1, .ref h2, .int p2, .ref h3, .ref h4, .int (nI k5), .int (nI (u27.1 0)), .int (u27.2.1 0), .int (u27.2.1 1), .int (u27.2.1 2), .int (nI (u27.1 1)), .int p11, .long (u27.2.2.1 0), .ref h5, .ref h6, .int (nI k15), .int (nI k16)]), (h1, aI Y 3640 (u16.2.2.2.1 0)), (h2, aZ Y 2 f1), (h3, aZ Y 80 f3), (h4, aB Y 1600 f4), (h5, aI Y 200 f13), (h6, aI Y 800 f14)] rfl ?_
        obtain ⟨x29, x30, x31, x32, x33⟩ := w28
        rcases x29 with rfl | ⟨rfl, x34⟩
        ·
          refine V_if_ne_f 56 B 61 dX12_readReserved_56 (by decide) (by decide +kernel) ?_
          refine V_iconst 59 B (v := 0) dX12_readReserved_59 (by decide +kernel) ?_
          exact V_zret 60 B rfl dX12_readReserved_60 (mkW [(u27.1 0), (u27.1 1)] [(u27.2.1 0), (u27.2.1 1), (u27.2.1 2)] [(u27.2.2.1 0)] [(u16.2.2.2.1 0)] [] []) ⟨(Or.inl rfl), x19, (show k10 ≤ (u27.1 1) by omega), (show (u27.1 1) ≤ (u27.1 0) by omega), (show (u27.1 0) ≤ k5 by omega), (show ((u27.2.1 2) = 0 ∨ (u27.1 1) < (u27.1 0)) by first | assumption | exact Or.inr (by omega))⟩ rfl
        ·
          refine V_if_ne_t 56 B 61 dX12_readReserved_56 (by decide) (by decide +kernel) ?_
          refine V_aload_n 61 B dX12_readReserved_61 2 rfl ?_
          refine V_iconst 62 B (v := (-1)) dX12_readReserved_62 (by decide +kernel) ?_
          refine V_iload_n 63 B dX12_readReserved_63 0 rfl ?_
          refine V_cvi 64 B (st := []) (As := [.int (-1), .int (nI (2872 + 5 * (gN f0 2720)))]) (fun sz => rX12_clashesRead l D Y h0 h1 h2 h3 h4 h5 h6 p2 k5 (u27.1 0) (u27.2.1 0) (u27.2.1 1) (u27.2.1 2) (u27.1 1) p11 (u27.2.2.1 0) k15 k16 (u16.2.2.2.1 0) f1 f3 f4 f13 f14 x19 (by omega) HP (-1) (2872 + 5 * (gN f0 2720)) (rl31 (gN f0 2720) (by omega)) sz) glV_RX12_310 ⟨rfl, rfl⟩ ⟨(Nat.le_of_ble_eq_true rfl), (Nat.le_of_ble_eq_true rfl)⟩ ⟨(Nat.le_of_ble_eq_true rfl), (Nat.le_of_ble_eq_true rfl)⟩ [0, 0, 0, 0, 0, 0, 0] rfl 13 0 rfl rfl rfl rfl (Nat.le_of_ble_eq_true rfl) rfl (fun _ _ _ => rfl) dX12_readReserved_64 (fun j35 u36 w37 => ?_)
          refine V_ws [(h0, oC 13 [.ref h1, .ref h2, .int p2, .ref h3, .ref h4, .int (nI k5), .int (nI (u27.1 0)), .int (u27.2.1 0), .int (u27.2.1 1), .int (u27.2.1 2), .int (nI (u27.1 1)), .int p11, .long (u27.2.2.1 0), .ref h5, .ref h6, .int (nI k15), .int (nI k16)]), (h1, aI Y 3640 (u16.2.2.2.1 0)), (h2, aZ Y 2 f1), (h3, aZ Y 80 f3), (h4, aB Y 1600 f4), (h5, aI Y 200 f13), (h6, aI Y 800 f14)] rfl ?_
          have x38 := w37
          clear w37
          rcases x38 with rfl | rfl
          ·
            refine V_if_eq_t 67 B 77 dX12_readReserved_67 (by decide) (by decide +kernel) ?_
            refine V_aload_n 77 B dX12_readReserved_77 2 rfl ?_
            refine V_get 78 B gf_RX12_9 0 rfl rfl dX12_readReserved_78 ?_
            refine V_sipush 81 B (v := 2720) dX12_readReserved_81 (by decide +kernel) ?_
            refine V_dup2_11 84 B dX12_readReserved_84 rfl rfl ?_
            have x39 : (gN f0 2720) ≤ 6 := gN_le HI (by omega) (show bd 2720 = (0, ((6 : Nat) : Int)) by decide +kernel)
            refine V_iald 85 B (v := (nI (gN f0 2720))) 1 rfl (vpin _ _ (by decide +kernel)) dX12_readReserved_85 (by show (u16.2.2.2.1 0) 2720 = _; rw [x24 _ (by omega)]; exact gN_eq HI (by omega) (show bd 2720 = (0, ((6 : Nat) : Int)) by decide +kernel)) ?_
            refine V_iconst 86 B (v := 1) dX12_readReserved_86 (by decide +kernel) ?_
            refine V_iadd 87 B (v := (nI (1 + (gN f0 2720)))) dX12_readReserved_87 (nI_addE (a := (gN f0 2720)) (b := 1) (by omega)) ?_
            have hv40 : INV (upd (u16.2.2.2.1 0) 2720 (nI (1 + (gN f0 2720)))) := INV_nat (v := 1 + (gN f0 2720)) x19 (show bd 2720 = (0, ((6 : Nat) : Int)) by decide +kernel) (by omega) (by decide)
            refine V_iast 88 B 1 rfl (vpin _ _ (by decide +kernel)) dX12_readReserved_88 [(h0, oC 13 [.ref h1, .ref h2, .int p2, .ref h3, .ref h4, .int (nI k5), .int (nI (u27.1 0)), .int (u27.2.1 0), .int (u27.2.1 1), .int (u27.2.1 2), .int (nI (u27.1 1)), .int p11, .long (u27.2.2.1 0), .ref h5, .ref h6, .int (nI k15), .int (nI k16)]), (h1, aI Y 3640 (upd (u16.2.2.2.1 0) 2720 (nI (1 + (gN f0 2720))))), (h2, aZ Y 2 f1), (h3, aZ Y 80 f3), (h4, aB Y 1600 f4), (h5, aI Y 200 f13), (h6, aI Y 800 f14)] rfl ?_
            refine V_iconst 89 B (v := 1) dX12_readReserved_89 (by decide +kernel) ?_
            exact V_zret 90 B rfl dX12_readReserved_90 (mkW [(u27.1 0), (u27.1 1)] [(u27.2.1 0), (u27.2.1 1), (u27.2.1 2)] [(u27.2.2.1 0)] [(upd (u16.2.2.2.1 0) 2720 (nI (1 + (gN f0 2720))))] [] []) ⟨(Or.inr ⟨rfl, (show k10 < (u27.1 1) by omega)⟩), hv40, (show k10 ≤ (u27.1 1) by omega), (show (u27.1 1) ≤ (u27.1 0) by omega), (show (u27.1 0) ≤ k5 by omega), (show ((u27.2.1 2) = 0 ∨ (u27.1 1) < (u27.1 0)) by first | assumption | exact Or.inr (by omega))⟩ rfl
          ·
            refine V_if_eq_f 67 B 77 dX12_readReserved_67 (by decide) (by decide +kernel) ?_
            refine V_aload_n 70 B dX12_readReserved_70 2 rfl ?_
            refine V_iconst 71 B (v := 4) dX12_readReserved_71 (by decide +kernel) ?_
            refine V_iload_n 72 B dX12_readReserved_72 1 rfl ?_
            refine V_cvi 73 B (st := []) (As := [.int 4, .int (nI k10)]) (fun sz => rX12_failAt l D Y h0 h1 h2 h3 h4 h5 h6 p2 k5 (u27.1 0) (u27.2.1 0) (u27.2.1 1) (u27.2.1 2) (u27.1 1) p11 (u27.2.2.1 0) k15 k16 (u16.2.2.2.1 0) f1 f3 f4 f13 f14 x19 (by omega) HP 4 (nI k10) sz) glV_RX12_313 ⟨rfl, rfl⟩ ⟨(Nat.le_of_ble_eq_true rfl), (Nat.le_of_ble_eq_true rfl)⟩ ⟨(Nat.le_of_ble_eq_true rfl), (Nat.le_of_ble_eq_true rfl)⟩ [0, 0, 0, 0, 0, 0, 0] rfl 13 0 rfl rfl rfl rfl (Nat.le_of_ble_eq_true rfl) rfl (fun _ _ _ => rfl) dX12_readReserved_73 (fun j41 u42 w43 => ?_)
            refine V_ws [(h0, oC 13 [.ref h1, .ref h2, .int p2, .ref h3, .ref h4, .int (nI k5), .int (nI (u27.1 0)), .int (u42.2.1 0), .int (u42.2.1 1), .int (u27.2.1 2), .int (nI (u27.1 1)), .int p11, .long (u27.2.2.1 0), .ref h5, .ref h6, .int (nI k15), .int (nI k16)]), (h1, aI Y 3640 (u16.2.2.2.1 0)), (h2, aZ Y 2 f1), (h3, aZ Y 80 f3), (h4, aB Y 1600 f4), (h5, aI Y 200 f13), (h6, aI Y 800 f14)] rfl ?_
            have x44 := w43
            clear w43
            obtain rfl := x44
            exact V_zret 76 B rfl dX12_readReserved_76 (mkW [(u27.1 0), (u27.1 1)] [(u42.2.1 0), (u42.2.1 1), (u27.2.1 2)] [(u27.2.2.1 0)] [(u16.2.2.2.1 0)] [] []) ⟨(Or.inl rfl), x19, (show k10 ≤ (u27.1 1) by omega), (show (u27.1 1) ≤ (u27.1 0) by omega), (show (u27.1 0) ≤ k5 by omega), (show ((u27.2.1 2) = 0 ∨ (u27.1 1) < (u27.1 0)) by first | assumption | exact Or.inr (by omega))⟩ rfl
    ·
      have x45 := n_eq (a := (gN f0 2720)) (b := 6) kk1 (by omega) (by omega)
      refine V_aload_n 13 B dX12_readReserved_13 0 rfl ?_
      refine V_iconst 14 B (v := 3) dX12_readReserved_14 (by decide +kernel) ?_
      refine V_cvi 15 B (st := []) (As := [.int 3]) (fun sz => rX12_fail l D Y h0 h1 h2 h3 h4 h5 h6 p2 k5 k6 p7 p8 p9 k10 p11 q12 k15 k16 f0 f1 f3 f4 f13 f14 HI (by omega) HP 3 sz) glV_RX12_291 ⟨rfl, rfl⟩ ⟨(Nat.le_of_ble_eq_true rfl), (Nat.le_of_ble_eq_true rfl)⟩ ⟨(Nat.le_of_ble_eq_true rfl), (Nat.le_of_ble_eq_true rfl)⟩ [0, 0, 0, 0, 0, 0, 0] rfl 13 0 rfl rfl rfl rfl (Nat.le_of_ble_eq_true rfl) rfl (fun _ _ _ => rfl) dX12_readReserved_15 (fun j46 u47 w48 => ?_)
      refine V_ws [(h0, oC 13 [.ref h1, .ref h2, .int p2, .ref h3, .ref h4, .int (nI k5), .int (nI k6), .int (u47.2.1 0), .int (u47.2.1 1), .int p9, .int (nI k10), .int p11, .long q12, .ref h5, .ref h6, .int (nI k15), .int (nI k16)]), (h1, aI Y 3640 f0), (h2, aZ Y 2 f1), (h3, aZ Y 80 f3), (h4, aB Y 1600 f4), (h5, aI Y 200 f13), (h6, aI Y 800 f14)] rfl ?_
      have x49 := w48
      clear w48
      obtain rfl := x49
      exact V_zret 18 B rfl dX12_readReserved_18 (mkW [k6, k10] [(u47.2.1 0), (u47.2.1 1), p9] [q12] [f0] [] []) ⟨(Or.inl rfl), HI, (show k10 ≤ k10 by omega), (show k10 ≤ k6 by omega), (show k6 ≤ k5 by omega), (show (p9 = 0 ∨ k10 < k6) by first | assumption | exact Or.inr (by omega))⟩ rfl)
theorem dX12_readBinding_0 : decode cX12_readBinding 0 = .ok (.aload_n 0, 1) := by decide +kernel
theorem dX12_readBinding_1 : decode cX12_readBinding 1 = .ok (.getfield 9, 3) := by decide +kernel
theorem dX12_readBinding_4 : decode cX12_readBinding 4 = .ok (.sipush 2721, 3) := by decide +kernel
theorem dX12_readBinding_7 : decode cX12_readBinding 7 = .ok (.iaload, 1) := by decide +kernel
theorem dX12_readBinding_8 : decode cX12_readBinding 8 = .ok (.bipush 80, 2) := by decide +kernel
theorem dX12_readBinding_10 : decode cX12_readBinding 10 = .ok (.if_icmp .ne 9, 3) := by decide +kernel
theorem dX12_readBinding_19 : decode cX12_readBinding 19 = .ok (.aload_n 0, 1) := by decide +kernel
theorem dX12_readBinding_20 : decode cX12_readBinding 20 = .ok (.getfield 270, 3) := by decide +kernel
theorem dX12_readBinding_23 : decode cX12_readBinding 23 = .ok (.istore_n 1, 1) := by decide +kernel
theorem dX12_readBinding_24 : decode cX12_readBinding 24 = .ok (.sipush 2718, 3) := by decide +kernel
theorem dX12_readBinding_27 : decode cX12_readBinding 27 = .ok (.aload_n 0, 1) := by decide +kernel
theorem dX12_readBinding_28 : decode cX12_readBinding 28 = .ok (.getfield 9, 3) := by decide +kernel
theorem dX12_readBinding_31 : decode cX12_readBinding 31 = .ok (.sipush 2721, 3) := by decide +kernel
theorem dX12_readBinding_34 : decode cX12_readBinding 34 = .ok (.iaload, 1) := by decide +kernel
theorem dX12_readBinding_35 : decode cX12_readBinding 35 = .ok (.invokestatic 79, 3) := by decide +kernel
theorem dX12_readBinding_38 : decode cX12_readBinding 38 = .ok (.iadd, 1) := by decide +kernel
theorem dX12_readBinding_39 : decode cX12_readBinding 39 = .ok (.istore_n 2, 1) := by decide +kernel
theorem dX12_readBinding_40 : decode cX12_readBinding 40 = .ok (.aload_n 0, 1) := by decide +kernel
theorem dX12_readBinding_41 : decode cX12_readBinding 41 = .ok (.invokevirtual 288, 3) := by decide +kernel
theorem dX12_readBinding_44 : decode cX12_readBinding 44 = .ok (.aload_n 0, 1) := by decide +kernel
theorem dX12_readBinding_45 : decode cX12_readBinding 45 = .ok (.iconst 0, 1) := by decide +kernel
theorem dX12_readBinding_46 : decode cX12_readBinding 46 = .ok (.aload_n 0, 1) := by decide +kernel
theorem dX12_readBinding_47 : decode cX12_readBinding 47 = .ok (.getfield 9, 3) := by decide +kernel
theorem dX12_readBinding_50 : decode cX12_readBinding 50 = .ok (.sipush 2718, 3) := by decide +kernel
theorem dX12_readBinding_53 : decode cX12_readBinding 53 = .ok (.iaload, 1) := by decide +kernel
theorem dX12_readBinding_54 : decode cX12_readBinding 54 = .ok (.iconst 1, 1) := by decide +kernel
theorem dX12_readBinding_55 : decode cX12_readBinding 55 = .ok (.isub, 1) := by decide +kernel
theorem dX12_readBinding_56 : decode cX12_readBinding 56 = .ok (.invokevirtual 301, 3) := by decide +kernel
theorem dX12_readBinding_59 : decode cX12_readBinding 59 = .ok (.ifCond .ne 5, 3) := by decide +kernel
theorem dX12_readBinding_62 : decode cX12_readBinding 62 = .ok (.iconst 0, 1) := by decide +kernel
theorem dX12_readBinding_63 : decode cX12_readBinding 63 = .ok (.ireturn, 1) := by decide +kernel
theorem dX12_readBinding_64 : decode cX12_readBinding 64 = .ok (.aload_n 0, 1) := by decide +kernel
theorem dX12_readBinding_65 : decode cX12_readBinding 65 = .ok (.getfield 9, 3) := by decide +kernel
theorem dX12_readBinding_68 : decode cX12_readBinding 68 = .ok (.iload_n 2, 1) := by decide +kernel
theorem dX12_readBinding_69 : decode cX12_readBinding 69 = .ok (.iconst 0, 1) := by decide +kernel
theorem dX12_readBinding_70 : decode cX12_readBinding 70 = .ok (.iadd, 1) := by decide +kernel
theorem dX12_readBinding_71 : decode cX12_readBinding 71 = .ok (.aload_n 0, 1) := by decide +kernel
theorem dX12_readBinding_72 : decode cX12_readBinding 72 = .ok (.getfield 294, 3) := by decide +kernel
theorem dX12_readBinding_75 : decode cX12_readBinding 75 = .ok (.iastore, 1) := by decide +kernel
theorem dX12_readBinding_76 : decode cX12_readBinding 76 = .ok (.aload_n 0, 1) := by decide +kernel
theorem dX12_readBinding_77 : decode cX12_readBinding 77 = .ok (.iconst 0, 1) := by decide +kernel
theorem dX12_readBinding_78 : decode cX12_readBinding 78 = .ok (.aload_n 0, 1) := by decide +kernel
theorem dX12_readBinding_79 : decode cX12_readBinding 79 = .ok (.getfield 9, 3) := by decide +kernel
theorem dX12_readBinding_82 : decode cX12_readBinding 82 = .ok (.sipush 2719, 3) := by decide +kernel
theorem dX12_readBinding_85 : decode cX12_readBinding 85 = .ok (.iaload, 1) := by decide +kernel
theorem dX12_readBinding_86 : decode cX12_readBinding 86 = .ok (.iconst 1, 1) := by decide +kernel
theorem dX12_readBinding_87 : decode cX12_readBinding 87 = .ok (.isub, 1) := by decide +kernel
theorem dX12_readBinding_88 : decode cX12_readBinding 88 = .ok (.invokevirtual 301, 3) := by decide +kernel
theorem dX12_readBinding_91 : decode cX12_readBinding 91 = .ok (.ifCond .ne 5, 3) := by decide +kernel
theorem dX12_readBinding_94 : decode cX12_readBinding 94 = .ok (.iconst 0, 1) := by decide +kernel
theorem dX12_readBinding_95 : decode cX12_readBinding 95 = .ok (.ireturn, 1) := by decide +kernel
theorem dX12_readBinding_96 : decode cX12_readBinding 96 = .ok (.aload_n 0, 1) := by decide +kernel
theorem dX12_readBinding_97 : decode cX12_readBinding 97 = .ok (.getfield 9, 3) := by decide +kernel
theorem dX12_readBinding_100 : decode cX12_readBinding 100 = .ok (.iload_n 2, 1) := by decide +kernel
theorem dX12_readBinding_101 : decode cX12_readBinding 101 = .ok (.iconst 1, 1) := by decide +kernel
theorem dX12_readBinding_102 : decode cX12_readBinding 102 = .ok (.iadd, 1) := by decide +kernel
theorem dX12_readBinding_103 : decode cX12_readBinding 103 = .ok (.aload_n 0, 1) := by decide +kernel
theorem dX12_readBinding_104 : decode cX12_readBinding 104 = .ok (.getfield 294, 3) := by decide +kernel
theorem dX12_readBinding_107 : decode cX12_readBinding 107 = .ok (.iastore, 1) := by decide +kernel
theorem rl32 : ∀ z0, z0 < 80 → bd (2903 + 7 * z0) = (0, ((39 : Nat) : Int)) := by decide +kernel
theorem dX12_readBinding_108 : decode cX12_readBinding 108 = .ok (.aload_n 0, 1) := by decide +kernel
theorem dX12_readBinding_109 : decode cX12_readBinding 109 = .ok (.iload_n 2, 1) := by decide +kernel
theorem dX12_readBinding_110 : decode cX12_readBinding 110 = .ok (.iconst 2, 1) := by decide +kernel
theorem dX12_readBinding_111 : decode cX12_readBinding 111 = .ok (.iadd, 1) := by decide +kernel
theorem dX12_readBinding_112 : decode cX12_readBinding 112 = .ok (.invokevirtual 307, 3) := by decide +kernel
theorem dX12_readBinding_115 : decode cX12_readBinding 115 = .ok (.ifCond .eq 10, 3) := by decide +kernel
theorem dX12_readBinding_125 : decode cX12_readBinding 125 = .ok (.iconst 0, 1) := by decide +kernel
theorem dX12_readBinding_126 : decode cX12_readBinding 126 = .ok (.ireturn, 1) := by decide +kernel
theorem dX12_readBinding_118 : decode cX12_readBinding 118 = .ok (.aload_n 0, 1) := by decide +kernel
theorem dX12_readBinding_119 : decode cX12_readBinding 119 = .ok (.invokevirtual 304, 3) := by decide +kernel
theorem dX12_readBinding_122 : decode cX12_readBinding 122 = .ok (.ifCond .ne 5, 3) := by decide +kernel
theorem dX12_readBinding_127 : decode cX12_readBinding 127 = .ok (.aload_n 0, 1) := by decide +kernel
theorem dX12_readBinding_128 : decode cX12_readBinding 128 = .ok (.aload_n 0, 1) := by decide +kernel
theorem dX12_readBinding_129 : decode cX12_readBinding 129 = .ok (.getfield 9, 3) := by decide +kernel
theorem dX12_readBinding_132 : decode cX12_readBinding 132 = .ok (.iload_n 2, 1) := by decide +kernel
theorem dX12_readBinding_133 : decode cX12_readBinding 133 = .ok (.iconst 0, 1) := by decide +kernel
theorem dX12_readBinding_134 : decode cX12_readBinding 134 = .ok (.iadd, 1) := by decide +kernel
theorem dX12_readBinding_135 : decode cX12_readBinding 135 = .ok (.iaload, 1) := by decide +kernel
theorem dX12_readBinding_136 : decode cX12_readBinding 136 = .ok (.iload_n 2, 1) := by decide +kernel
theorem dX12_readBinding_137 : decode cX12_readBinding 137 = .ok (.iconst 2, 1) := by decide +kernel
theorem dX12_readBinding_138 : decode cX12_readBinding 138 = .ok (.iadd, 1) := by decide +kernel
theorem dX12_readBinding_139 : decode cX12_readBinding 139 = .ok (.invokevirtual 310, 3) := by decide +kernel
theorem dX12_readBinding_142 : decode cX12_readBinding 142 = .ok (.istore_n 3, 1) := by decide +kernel
theorem dX12_readBinding_143 : decode cX12_readBinding 143 = .ok (.iconst 0, 1) := by decide +kernel
theorem dX12_readBinding_144 : decode cX12_readBinding 144 = .ok (.istore 4, 2) := by decide +kernel
theorem dX12_readBinding_146 : decode cX12_readBinding 146 = .ok (.iload 4, 2) := by decide +kernel
theorem dX12_readBinding_148 : decode cX12_readBinding 148 = .ok (.aload_n 0, 1) := by decide +kernel
theorem dX12_readBinding_149 : decode cX12_readBinding 149 = .ok (.getfield 9, 3) := by decide +kernel
theorem dX12_readBinding_152 : decode cX12_readBinding 152 = .ok (.sipush 2720, 3) := by decide +kernel
theorem dX12_readBinding_155 : decode cX12_readBinding 155 = .ok (.iaload, 1) := by decide +kernel
theorem dX12_readBinding_156 : decode cX12_readBinding 156 = .ok (.if_icmp .ge 28, 3) := by decide +kernel
theorem dX12_readBinding_184 : decode cX12_readBinding 184 = .ok (.iload_n 3, 1) := by decide +kernel
theorem dX12_readBinding_185 : decode cX12_readBinding 185 = .ok (.ifCond .eq 10, 3) := by decide +kernel
theorem dX12_readBinding_195 : decode cX12_readBinding 195 = .ok (.aload_n 0, 1) := by decide +kernel
theorem dX12_readBinding_196 : decode cX12_readBinding 196 = .ok (.getfield 9, 3) := by decide +kernel
theorem dX12_readBinding_199 : decode cX12_readBinding 199 = .ok (.sipush 2721, 3) := by decide +kernel
theorem dX12_readBinding_202 : decode cX12_readBinding 202 = .ok (.dup2, 1) := by decide +kernel
theorem dX12_readBinding_203 : decode cX12_readBinding 203 = .ok (.iaload, 1) := by decide +kernel
theorem dX12_readBinding_204 : decode cX12_readBinding 204 = .ok (.iconst 1, 1) := by decide +kernel
theorem dX12_readBinding_205 : decode cX12_readBinding 205 = .ok (.iadd, 1) := by decide +kernel
theorem dX12_readBinding_206 : decode cX12_readBinding 206 = .ok (.iastore, 1) := by decide +kernel
theorem dX12_readBinding_207 : decode cX12_readBinding 207 = .ok (.iconst 1, 1) := by decide +kernel
theorem dX12_readBinding_208 : decode cX12_readBinding 208 = .ok (.ireturn, 1) := by decide +kernel
theorem dX12_readBinding_159 : decode cX12_readBinding 159 = .ok (.iload_n 3, 1) := by decide +kernel
theorem dX12_readBinding_160 : decode cX12_readBinding 160 = .ok (.aload_n 0, 1) := by decide +kernel
theorem dX12_readBinding_161 : decode cX12_readBinding 161 = .ok (.sipush 2718, 3) := by decide +kernel
theorem dX12_readBinding_164 : decode cX12_readBinding 164 = .ok (.iload 4, 2) := by decide +kernel
theorem dX12_readBinding_166 : decode cX12_readBinding 166 = .ok (.invokestatic 108, 3) := by decide +kernel
theorem dX12_readBinding_169 : decode cX12_readBinding 169 = .ok (.iadd, 1) := by decide +kernel
theorem dX12_readBinding_170 : decode cX12_readBinding 170 = .ok (.iload_n 2, 1) := by decide +kernel
theorem dX12_readBinding_171 : decode cX12_readBinding 171 = .ok (.iconst 2, 1) := by decide +kernel
theorem dX12_readBinding_172 : decode cX12_readBinding 172 = .ok (.iadd, 1) := by decide +kernel
theorem dX12_readBinding_173 : decode cX12_readBinding 173 = .ok (.invokevirtual 111, 3) := by decide +kernel
theorem dX12_readBinding_176 : decode cX12_readBinding 176 = .ok (.ior, 1) := by decide +kernel
theorem dX12_readBinding_177 : decode cX12_readBinding 177 = .ok (.istore_n 3, 1) := by decide +kernel
theorem dX12_readBinding_178 : decode cX12_readBinding 178 = .ok (.iinc 4 1, 3) := by decide +kernel
theorem dX12_readBinding_181 : decode cX12_readBinding 181 = .ok (.goto (-35), 3) := by decide +kernel
theorem dX12_readBinding_188 : decode cX12_readBinding 188 = .ok (.aload_n 0, 1) := by decide +kernel
theorem dX12_readBinding_189 : decode cX12_readBinding 189 = .ok (.iconst 4, 1) := by decide +kernel
theorem dX12_readBinding_190 : decode cX12_readBinding 190 = .ok (.iload_n 1, 1) := by decide +kernel
theorem dX12_readBinding_191 : decode cX12_readBinding 191 = .ok (.invokevirtual 313, 3) := by decide +kernel
theorem dX12_readBinding_194 : decode cX12_readBinding 194 = .ok (.ireturn, 1) := by decide +kernel
theorem dX12_readBinding_13 : decode cX12_readBinding 13 = .ok (.aload_n 0, 1) := by decide +kernel
theorem dX12_readBinding_14 : decode cX12_readBinding 14 = .ok (.iconst 3, 1) := by decide +kernel
theorem dX12_readBinding_15 : decode cX12_readBinding 15 = .ok (.invokevirtual 291, 3) := by decide +kernel
theorem dX12_readBinding_18 : decode cX12_readBinding 18 = .ok (.ireturn, 1) := by decide +kernel
set_option maxRecDepth 100000 in
set_option maxHeartbeats 4000000 in
theorem rX12_readBinding (l : Launch) (D : va_G) (Y : Nat → ClassId) (h0 : Nat) (h1 : Nat) (h2 : Nat) (h3 : Nat) (h4 : Nat) (h5 : Nat) (h6 : Nat) (p2 : Int32) (k5 : Nat) (k6 : Nat) (p7 : Int32) (p8 : Int32) (p9 : Int32) (k10 : Nat) (p11 : Int32) (q12 : Int64) (k15 : Nat) (k16 : Nat) (f0 : Nat → Int32) (f1 : Nat → Int32) (f3 : Nat → Int32) (f4 : Nat → Int32) (f13 : Nat → Int32) (f14 : Nat → Int32) (HI : INV f0) (HL : k5 ≤ 1600) (HP : PLV f13)  (hx0 : k10 ≤ k6) (hx1 : k6 ≤ k5) (hx2 : (p9 = 0 ∨ k10 < k6)) (hx3 : k10 < k6) (sz : Nat) : Met l yX12_readBinding (WSm yX12_readBinding cX12_readBinding 5 (some .boolean)) (mkR 5 0 0 108) (PreC D Y [.ref h0] [(h0, oC 13 [.ref h1, .ref h2, .int p2, .ref h3, .ref h4, .int (nI k5), .int (nI k6), .int p7, .int p8, .int p9, .int (nI k10), .int p11, .long q12, .ref h5, .ref h6, .int (nI k15), .int (nI k16)]), (h1, aI Y 3640 f0), (h2, aZ Y 2 f1), (h3, aZ Y 80 f3), (h4, aB Y 1600 f4), (h5, aI Y 200 f13), (h6, aI Y 800 f14)] sz) (QI D (fun (r : Int32) (u : WU) => (r = 0 ∨ (r = 1 ∧ k10 < (u.1 1))) ∧ INV (u.2.2.2.1 0) ∧ k10 ≤ (u.1 1) ∧ (u.1 1) ≤ (u.1 0) ∧ (u.1 0) ≤ k5 ∧ ((u.2.1 2) = 0 ∨ (u.1 1) < (u.1 0))) (fun (u : WU) => [(h0, oC 13 [.ref h1, .ref h2, .int p2, .ref h3, .ref h4, .int (nI k5), .int (nI (u.1 0)), .int (u.2.1 0), .int (u.2.1 1), .int (u.2.1 2), .int (nI (u.1 1)), .int (u.2.1 3), .long (u.2.2.1 0), .ref h5, .ref h6, .int (nI k15), .int (nI k16)]), (h1, aI Y 3640 (u.2.2.2.1 0)), (h2, aZ Y 2 f1), (h3, aZ Y 80 f3), (h4, aB Y 1600 f4), (h5, aI Y 200 f13), (h6, aI Y 800 f14)]) (va_A [(h0, oC 13 [.ref h1, .ref h2, .int p2, .ref h3, .ref h4, .int (nI k5), .int (nI k6), .int p7, .int p8, .int p9, .int (nI k10), .int p11, .long q12, .ref h5, .ref h6, .int (nI k15), .int (nI k16)]), (h1, aI Y 3640 f0), (h2, aZ Y 2 f1), (h3, aZ Y 80 f3), (h4, aB Y 1600 f4), (h5, aI Y 200 f13), (h6, aI Y 800 f14)] sz)) 0 0 (va_A [(h0, oC 13 [.ref h1, .ref h2, .int p2, .ref h3, .ref h4, .int (nI k5), .int (nI k6), .int p7, .int p8, .int p9, .int (nI k10), .int p11, .long q12, .ref h5, .ref h6, .int (nI k15), .int (nI k16)]), (h1, aI Y 3640 f0), (h2, aZ Y 2 f1), (h3, aZ Y 80 f3), (h4, aB Y 1600 f4), (h5, aI Y 200 f13), (h6, aI Y 800 f14)] sz) :=
  met_of  (by decide +kernel) (Nat.le_of_ble_eq_true rfl) (fun p e s m args below meth c B hin hsz => by
    have B : VB p s m args meth c D Y (va_A [(h0, oC 13 [.ref h1, .ref h2, .int p2, .ref h3, .ref h4, .int (nI k5), .int (nI k6), .int p7, .int p8, .int p9, .int (nI k10), .int p11, .long q12, .ref h5, .ref h6, .int (nI k15), .int (nI k16)]), (h1, aI Y 3640 f0), (h2, aZ Y 2 f1), (h3, aZ Y 80 f3), (h4, aB Y 1600 f4), (h5, aI Y 200 f13), (h6, aI Y 800 f14)] sz) cX12_readBinding 5 RX12 (some .boolean) := B
    refine V_aload_n 0 B dX12_readBinding_0 0 rfl ?_
    refine V_get 1 B gf_RX12_9 0 rfl rfl dX12_readBinding_1 ?_
    refine V_sipush 4 B (v := 2721) dX12_readBinding_4 (by decide +kernel) ?_
    have x0 : (gN f0 2721) ≤ 80 := gN_le HI (by omega) (show bd 2721 = (0, ((80 : Nat) : Int)) by decide +kernel)
    refine V_iald 7 B (v := (nI (gN f0 2721))) 1 rfl (vpin _ _ (by decide +kernel)) dX12_readBinding_7 (by show f0 2721 = _; exact gN_eq HI (by omega) (show bd 2721 = (0, ((80 : Nat) : Int)) by decide +kernel)) ?_
    refine V_bipush 8 B (v := 80) dX12_readBinding_8 (by decide +kernel) ?_
    refine V_icmp_ne 10 B 19 dX12_readBinding_10 (by decide) (fun kk1 => ?_) (fun kk1 => ?_)
    ·
      have x2 := n_ne (a := (gN f0 2721)) (b := 80) kk1
      refine V_aload_n 19 B dX12_readBinding_19 0 rfl ?_
      refine V_get 20 B gf_RX12_270 0 rfl rfl dX12_readBinding_20 ?_
      refine V_istore_n 23 B (lv2 := [(1, .int (nI k10)), (0, .ref h0)]) dX12_readBinding_23 (by decide) rfl ?_
      refine V_sipush 24 B (v := 2718) dX12_readBinding_24 (by decide +kernel) ?_
      refine V_aload_n 27 B dX12_readBinding_27 1 rfl ?_
      refine V_get 28 B gf_RX12_9 0 rfl rfl dX12_readBinding_28 ?_
      refine V_sipush 31 B (v := 2721) dX12_readBinding_31 (by decide +kernel) ?_
      have x3 : (gN f0 2721) ≤ 80 := gN_le HI (by omega) (show bd 2721 = (0, ((80 : Nat) : Int)) by decide +kernel)
      refine V_iald 34 B (v := (nI (gN f0 2721))) 1 rfl (vpin _ _ (by decide +kernel)) dX12_readBinding_34 (by show f0 2721 = _; exact gN_eq HI (by omega) (show bd 2721 = (0, ((80 : Nat) : Int)) by decide +kernel)) ?_
      refine V_csi 35 B (st := [.int 2718]) (As := [.int (nI (gN f0 2721))]) (fun sz => rX12_bindingAt l D Y (gN f0 2721) (by omega) sz) glS_RX12_79 ⟨rfl, rfl⟩ ⟨(Nat.le_of_ble_eq_true rfl), (Nat.le_of_ble_eq_true rfl)⟩ ⟨(Nat.le_of_ble_eq_true rfl), (Nat.le_of_ble_eq_true rfl)⟩ [] rfl rfl (Nat.le_of_ble_eq_true rfl) rfl (fun _ _ _ => rfl) dX12_readBinding_35 (fun j4 u5 w6 => ?_)
      refine V_ws [(h0, oC 13 [.ref h1, .ref h2, .int p2, .ref h3, .ref h4, .int (nI k5), .int (nI k6), .int p7, .int p8, .int p9, .int (nI k10), .int p11, .long q12, .ref h5, .ref h6, .int (nI k15), .int (nI k16)]), (h1, aI Y 3640 f0), (h2, aZ Y 2 f1), (h3, aZ Y 80 f3), (h4, aB Y 1600 f4), (h5, aI Y 200 f13), (h6, aI Y 800 f14)] rfl ?_
      have x7 := w6
      clear w6
      obtain rfl := x7
      refine V_iadd 38 B (v := (nI (2902 + 7 * (gN f0 2721)))) dX12_readBinding_38 (nI_addE (a := 2718) (b := 184 + 7 * (gN f0 2721)) (by omega)) ?_
      refine V_istore_n 39 B (lv2 := [(2, .int (nI (2902 + 7 * (gN f0 2721)))), (1, .int (nI k10)), (0, .ref h0)]) dX12_readBinding_39 (by decide) rfl ?_
      refine V_aload_n 40 B dX12_readBinding_40 2 rfl ?_
      refine V_cvv 41 B (st := []) (As := []) (fun sz => rX12_advance l D Y h0 h1 h2 h3 h4 h5 h6 p2 k5 k6 p7 p8 p9 k10 p11 q12 k15 k16 f0 f1 f3 f4 f13 f14 HI (by omega) HP (by omega) sz) glV_RX12_288 ⟨rfl, rfl⟩ ⟨(Nat.le_of_ble_eq_true rfl), (Nat.le_of_ble_eq_true rfl)⟩ ⟨(Nat.le_of_ble_eq_true rfl), (Nat.le_of_ble_eq_true rfl)⟩ [0, 0, 0, 0, 0, 0, 0] rfl 13 0 rfl rfl rfl rfl (Nat.le_of_ble_eq_true rfl) rfl (fun _ _ => rfl) dX12_readBinding_41 (fun u9 w10 => ?_)
      refine V_ws [(h0, oC 13 [.ref h1, .ref h2, .int p2, .ref h3, .ref h4, .int (nI k5), .int (nI (u9.1 0)), .int p7, .int p8, .int (u9.2.1 0), .int (nI (u9.1 1)), .int p11, .long (u9.2.2.1 0), .ref h5, .ref h6, .int (nI k15), .int (nI k16)]), (h1, aI Y 3640 f0), (h2, aZ Y 2 f1), (h3, aZ Y 80 f3), (h4, aB Y 1600 f4), (h5, aI Y 200 f13), (h6, aI Y 800 f14)] rfl ?_
      obtain ⟨x11, x12, x13, x14⟩ := w10
      refine V_aload_n 44 B dX12_readBinding_44 2 rfl ?_
      refine V_iconst 45 B (v := 0) dX12_readBinding_45 (by decide +kernel) ?_
      refine V_aload_n 46 B dX12_readBinding_46 2 rfl ?_
      refine V_get 47 B gf_RX12_9 0 rfl rfl dX12_readBinding_47 ?_
      refine V_sipush 50 B (v := 2718) dX12_readBinding_50 (by decide +kernel) ?_
      have x15 : (gN f0 2718) ≤ 6 := gN_le HI (by omega) (show bd 2718 = (0, ((6 : Nat) : Int)) by decide +kernel)
      refine V_iald 53 B (v := (nI (gN f0 2718))) 1 rfl (vpin _ _ (by decide +kernel)) dX12_readBinding_53 (by show f0 2718 = _; exact gN_eq HI (by omega) (show bd 2718 = (0, ((6 : Nat) : Int)) by decide +kernel)) ?_
      refine V_iconst 54 B (v := 1) dX12_readBinding_54 (by decide +kernel) ?_
      refine V_isub 55 B dX12_readBinding_55 rfl ?_
      refine V_nmi (fun j16 e17 => ?_)
      have x18 : j16.toInt = (((gN f0 2718) : Nat) : Int) - ((1 : Nat) : Int) := by rw [e17]; exact nI_subT (a := (gN f0 2718)) (b := 1) (by omega) (by omega)
      refine V_cvi 56 B (st := []) (As := [.int 0, .int j16]) (fun sz => rX12_readNumber l D Y h0 h1 h2 h3 h4 h5 h6 p2 k5 (u9.1 0) p7 p8 (u9.2.1 0) (u9.1 1) p11 (u9.2.2.1 0) k15 k16 f0 f1 f3 f4 f13 f14 HI (by omega) HP 0 j16 (by omega) (by omega) (by first | assumption | exact Or.inl rfl | exact Or.inr (by omega)) (by decide +kernel) sz) glV_RX12_301 ⟨rfl, rfl⟩ ⟨(Nat.le_of_ble_eq_true rfl), (Nat.le_of_ble_eq_true rfl)⟩ ⟨(Nat.le_of_ble_eq_true rfl), (Nat.le_of_ble_eq_true rfl)⟩ [0, 0, 0, 0, 0, 0, 0] rfl 13 0 rfl rfl rfl rfl (Nat.le_of_ble_eq_true rfl) rfl (fun _ _ _ => rfl) dX12_readBinding_56 (fun j19 u20 w21 => ?_)
      refine V_ws [(h0, oC 13 [.ref h1, .ref h2, .int p2, .ref h3, .ref h4, .int (nI k5), .int (nI (u20.1 0)), .int (u20.2.1 0), .int (u20.2.1 1), .int (u20.2.1 2), .int (nI (u20.1 1)), .int (u20.2.1 3), .long (u20.2.2.1 0), .ref h5, .ref h6, .int (nI k15), .int (nI k16)]), (h1, aI Y 3640 f0), (h2, aZ Y 2 f1), (h3, aZ Y 80 f3), (h4, aB Y 1600 f4), (h5, aI Y 200 f13), (h6, aI Y 800 f14)] rfl ?_
      obtain ⟨x22, x23, x24, x25, x26⟩ := w21
      rcases x22 with rfl | ⟨rfl, x27, x28⟩
      ·
        refine V_if_ne_f 59 B 64 dX12_readBinding_59 (by decide) (by decide +kernel) ?_
        refine V_iconst 62 B (v := 0) dX12_readBinding_62 (by decide +kernel) ?_
        exact V_zret 63 B rfl dX12_readBinding_63 (mkW [(u20.1 0), (u20.1 1)] [(u20.2.1 0), (u20.2.1 1), (u20.2.1 2), (u20.2.1 3)] [(u20.2.2.1 0)] [f0] [] []) ⟨(Or.inl rfl), HI, (show k10 ≤ (u20.1 1) by omega), (show (u20.1 1) ≤ (u20.1 0) by omega), (show (u20.1 0) ≤ k5 by omega), (show ((u20.2.1 2) = 0 ∨ (u20.1 1) < (u20.1 0)) by first | assumption | exact Or.inr (by omega))⟩ rfl
      ·
        have e29 : (0 : Int32).toInt = 0 := by decide +kernel
        generalize u20.2.1 3 = j30 at *
        refine V_if_ne_t 59 B 64 dX12_readBinding_59 (by decide) (by decide +kernel) ?_
        refine V_aload_n 64 B dX12_readBinding_64 2 rfl ?_
        refine V_get 65 B gf_RX12_9 0 rfl rfl dX12_readBinding_65 ?_
        refine V_iload_n 68 B dX12_readBinding_68 0 rfl ?_
        refine V_iconst 69 B (v := 0) dX12_readBinding_69 (by decide +kernel) ?_
        refine V_iadd 70 B (v := (nI (2902 + 7 * (gN f0 2721)))) dX12_readBinding_70 (nI_addE (a := 2902 + 7 * (gN f0 2721)) (b := 0) (by omega)) ?_
        refine V_aload_n 71 B dX12_readBinding_71 2 rfl ?_
        refine V_get 72 B gf_RX12_294 0 rfl rfl dX12_readBinding_72 ?_
        have hv31 : INV (upd f0 (2902 + 7 * (gN f0 2721)) j30) := INV_free HI (rl30 (gN f0 2721) (by omega))
        refine V_iast 75 B 1 rfl (vp_in_nI (n := 2902 + 7 * (gN f0 2721)) (by omega) (by decide)) dX12_readBinding_75 [(h0, oC 13 [.ref h1, .ref h2, .int p2, .ref h3, .ref h4, .int (nI k5), .int (nI (u20.1 0)), .int (u20.2.1 0), .int (u20.2.1 1), .int (u20.2.1 2), .int (nI (u20.1 1)), .int j30, .long (u20.2.2.1 0), .ref h5, .ref h6, .int (nI k15), .int (nI k16)]), (h1, aI Y 3640 (upd f0 (2902 + 7 * (gN f0 2721)) j30)), (h2, aZ Y 2 f1), (h3, aZ Y 80 f3), (h4, aB Y 1600 f4), (h5, aI Y 200 f13), (h6, aI Y 800 f14)] (by rw [nI_clamp (show 2902 + 7 * (gN f0 2721) < 2 ^ 31 by omega)]; rfl) ?_
        refine V_aload_n 76 B dX12_readBinding_76 2 rfl ?_
        refine V_iconst 77 B (v := 0) dX12_readBinding_77 (by decide +kernel) ?_
        refine V_aload_n 78 B dX12_readBinding_78 2 rfl ?_
        refine V_get 79 B gf_RX12_9 0 rfl rfl dX12_readBinding_79 ?_
        refine V_sipush 82 B (v := 2719) dX12_readBinding_82 (by decide +kernel) ?_
        have x32 : (gN f0 2719) ≤ 40 := gN_le HI (by omega) (show bd 2719 = (0, ((40 : Nat) : Int)) by decide +kernel)
        refine V_iald 85 B (v := (nI (gN f0 2719))) 1 rfl (vpin _ _ (by decide +kernel)) dX12_readBinding_85 (by show (upd f0 (2902 + 7 * (gN f0 2721)) j30) 2719 = _; rw [upd_ne (by omega)]; exact gN_eq HI (by omega) (show bd 2719 = (0, ((40 : Nat) : Int)) by decide +kernel)) ?_
        refine V_iconst 86 B (v := 1) dX12_readBinding_86 (by decide +kernel) ?_
        refine V_isub 87 B dX12_readBinding_87 rfl ?_
        refine V_nmi (fun j33 e34 => ?_)
        have x35 : j33.toInt = (((gN f0 2719) : Nat) : Int) - ((1 : Nat) : Int) := by rw [e34]; exact nI_subT (a := (gN f0 2719)) (b := 1) (by omega) (by omega)
        refine V_cvi 88 B (st := []) (As := [.int 0, .int j33]) (fun sz => rX12_readNumber l D Y h0 h1 h2 h3 h4 h5 h6 p2 k5 (u20.1 0) (u20.2.1 0) (u20.2.1 1) (u20.2.1 2) (u20.1 1) j30 (u20.2.2.1 0) k15 k16 (upd f0 (2902 + 7 * (gN f0 2721)) j30) f1 f3 f4 f13 f14 hv31 (by omega) HP 0 j33 (by omega) (by omega) (by first | assumption | exact Or.inl rfl | exact Or.inr (by omega)) (by decide +kernel) sz) glV_RX12_301 ⟨rfl, rfl⟩ ⟨(Nat.le_of_ble_eq_true rfl), (Nat.le_of_ble_eq_true rfl)⟩ ⟨(Nat.le_of_ble_eq_true rfl), (Nat.le_of_ble_eq_true rfl)⟩ [0, 0, 0, 0, 0, 0, 0] rfl 13 0 rfl rfl rfl rfl (Nat.le_of_ble_eq_true rfl) rfl (fun _ _ _ => rfl) dX12_readBinding_88 (fun j36 u37 w38 => ?_)
        refine V_ws [(h0, oC 13 [.ref h1, .ref h2, .int p2, .ref h3, .ref h4, .int (nI k5), .int (nI (u37.1 0)), .int (u37.2.1 0), .int (u37.2.1 1), .int (u37.2.1 2), .int (nI (u37.1 1)), .int (u37.2.1 3), .long (u37.2.2.1 0), .ref h5, .ref h6, .int (nI k15), .int (nI k16)]), (h1, aI Y 3640 (upd f0 (2902 + 7 * (gN f0 2721)) j30)), (h2, aZ Y 2 f1), (h3, aZ Y 80 f3), (h4, aB Y 1600 f4), (h5, aI Y 200 f13), (h6, aI Y 800 f14)] rfl ?_
        obtain ⟨x39, x40, x41, x42, x43⟩ := w38
        rcases x39 with rfl | ⟨rfl, x44, x45⟩
        ·
          refine V_if_ne_f 91 B 96 dX12_readBinding_91 (by decide) (by decide +kernel) ?_
          refine V_iconst 94 B (v := 0) dX12_readBinding_94 (by decide +kernel) ?_
          exact V_zret 95 B rfl dX12_readBinding_95 (mkW [(u37.1 0), (u37.1 1)] [(u37.2.1 0), (u37.2.1 1), (u37.2.1 2), (u37.2.1 3)] [(u37.2.2.1 0)] [(upd f0 (2902 + 7 * (gN f0 2721)) j30)] [] []) ⟨(Or.inl rfl), hv31, (show k10 ≤ (u37.1 1) by omega), (show (u37.1 1) ≤ (u37.1 0) by omega), (show (u37.1 0) ≤ k5 by omega), (show ((u37.2.1 2) = 0 ∨ (u37.1 1) < (u37.1 0)) by first | assumption | exact Or.inr (by omega))⟩ rfl
        ·
          have e46 : (0 : Int32).toInt = 0 := by decide +kernel
          generalize u37.2.1 3 = j47 at *
          refine V_if_ne_t 91 B 96 dX12_readBinding_91 (by decide) (by decide +kernel) ?_
          refine V_aload_n 96 B dX12_readBinding_96 2 rfl ?_
          refine V_get 97 B gf_RX12_9 0 rfl rfl dX12_readBinding_97 ?_
          refine V_iload_n 100 B dX12_readBinding_100 0 rfl ?_
          refine V_iconst 101 B (v := 1) dX12_readBinding_101 (by decide +kernel) ?_
          refine V_iadd 102 B (v := (nI (2903 + 7 * (gN f0 2721)))) dX12_readBinding_102 (nI_addE (a := 2902 + 7 * (gN f0 2721)) (b := 1) (by omega)) ?_
          refine V_aload_n 103 B dX12_readBinding_103 2 rfl ?_
          refine V_get 104 B gf_RX12_294 0 rfl rfl dX12_readBinding_104 ?_
          have hv48 : INV (upd (upd f0 (2902 + 7 * (gN f0 2721)) j30) (2903 + 7 * (gN f0 2721)) j47) := INV_upd hv31 (rl32 (gN f0 2721) (by omega)) (by omega) (by omega)
          refine V_iast 107 B 1 rfl (vp_in_nI (n := 2903 + 7 * (gN f0 2721)) (by omega) (by decide)) dX12_readBinding_107 [(h0, oC 13 [.ref h1, .ref h2, .int p2, .ref h3, .ref h4, .int (nI k5), .int (nI (u37.1 0)), .int (u37.2.1 0), .int (u37.2.1 1), .int (u37.2.1 2), .int (nI (u37.1 1)), .int j47, .long (u37.2.2.1 0), .ref h5, .ref h6, .int (nI k15), .int (nI k16)]), (h1, aI Y 3640 (upd (upd f0 (2902 + 7 * (gN f0 2721)) j30) (2903 + 7 * (gN f0 2721)) j47)), (h2, aZ Y 2 f1), (h3, aZ Y 80 f3), (h4, aB Y 1600 f4), (h5, aI Y 200 f13), (h6, aI Y 800 f14)] (by rw [nI_clamp (show 2903 + 7 * (gN f0 2721) < 2 ^ 31 by omega)]; rfl) ?_
          refine V_aload_n 108 B dX12_readBinding_108 2 rfl ?_
          refine V_iload_n 109 B dX12_readBinding_109 0 rfl ?_
          refine V_iconst 110 B (v := 2) dX12_readBinding_110 (by decide +kernel) ?_
          refine V_iadd 111 B (v := (nI (2904 + 7 * (gN f0 2721)))) dX12_readBinding_111 (nI_addE (a := 2902 + 7 * (gN f0 2721)) (b := 2) (by omega)) ?_
          refine V_cvi 112 B (st := []) (As := [.int (nI (2904 + 7 * (gN f0 2721)))]) (fun sz => rX12_readSequence l D Y h0 h1 h2 h3 h4 h5 h6 p2 k5 (u37.1 0) (u37.2.1 0) (u37.2.1 1) (u37.2.1 2) (u37.1 1) j47 (u37.2.2.1 0) k15 k16 (upd (upd f0 (2902 + 7 * (gN f0 2721)) j30) (2903 + 7 * (gN f0 2721)) j47) f1 f3 f4 f13 f14 hv48 (by omega) HP (2904 + 7 * (gN f0 2721)) (rl29 (gN f0 2721) (by omega)) (by omega) (by omega) (by first | assumption | exact Or.inl rfl | exact Or.inr (by omega)) sz) glV_RX12_307 ⟨rfl, rfl⟩ ⟨(Nat.le_of_ble_eq_true rfl), (Nat.le_of_ble_eq_true rfl)⟩ ⟨(Nat.le_of_ble_eq_true rfl), (Nat.le_of_ble_eq_true rfl)⟩ [0, 0, 0, 0, 0, 0, 0] rfl 13 0 rfl rfl rfl rfl (Nat.le_of_ble_eq_true rfl) rfl (fun _ _ _ => rfl) dX12_readBinding_112 (fun j49 u50 w51 => ?_)
          refine V_ws [(h0, oC 13 [.ref h1, .ref h2, .int p2, .ref h3, .ref h4, .int (nI k5), .int (nI (u50.1 0)), .int (u50.2.1 0), .int (u50.2.1 1), .int (u50.2.1 2), .int (nI (u50.1 1)), .int j47, .long (u50.2.2.1 0), .ref h5, .ref h6, .int (nI k15), .int (nI k16)]), (h1, aI Y 3640 (u50.2.2.2.1 0)), (h2, aZ Y 2 f1), (h3, aZ Y 80 f3), (h4, aB Y 1600 f4), (h5, aI Y 200 f13), (h6, aI Y 800 f14)] rfl ?_
          obtain ⟨x52, x53, x54, x55, x56, x57, x58⟩ := w51
          rcases x52 with rfl | ⟨rfl, x59⟩
          ·
            refine V_if_eq_t 115 B 125 dX12_readBinding_115 (by decide) (by decide +kernel) ?_
            refine V_iconst 125 B (v := 0) dX12_readBinding_125 (by decide +kernel) ?_
            exact V_zret 126 B rfl dX12_readBinding_126 (mkW [(u50.1 0), (u50.1 1)] [(u50.2.1 0), (u50.2.1 1), (u50.2.1 2), j47] [(u50.2.2.1 0)] [(u50.2.2.2.1 0)] [] []) ⟨(Or.inl rfl), x53, (show k10 ≤ (u50.1 1) by omega), (show (u50.1 1) ≤ (u50.1 0) by omega), (show (u50.1 0) ≤ k5 by omega), (show ((u50.2.1 2) = 0 ∨ (u50.1 1) < (u50.1 0)) by first | assumption | exact Or.inr (by omega))⟩ rfl
          ·
            refine V_if_eq_f 115 B 125 dX12_readBinding_115 (by decide) (by decide +kernel) ?_
            refine V_aload_n 118 B dX12_readBinding_118 2 rfl ?_
            refine V_cvi 119 B (st := []) (As := []) (fun sz => rX12_readEnd l D Y h0 h1 h2 h3 h4 h5 h6 p2 k5 (u50.1 0) (u50.2.1 0) (u50.2.1 1) (u50.2.1 2) (u50.1 1) j47 (u50.2.2.1 0) k15 k16 (u50.2.2.2.1 0) f1 f3 f4 f13 f14 x53 (by omega) HP (by omega) (by omega) (by first | assumption | exact Or.inl rfl | exact Or.inr (by omega)) sz) glV_RX12_304 ⟨rfl, rfl⟩ ⟨(Nat.le_of_ble_eq_true rfl), (Nat.le_of_ble_eq_true rfl)⟩ ⟨(Nat.le_of_ble_eq_true rfl), (Nat.le_of_ble_eq_true rfl)⟩ [0, 0, 0, 0, 0, 0, 0] rfl 13 0 rfl rfl rfl rfl (Nat.le_of_ble_eq_true rfl) rfl (fun _ _ _ => rfl) dX12_readBinding_119 (fun j60 u61 w62 => ?_)
            refine V_ws [(h0, oC 13 [.ref h1, .ref h2, .int p2, .ref h3, .ref h4, .int (nI k5), .int (nI (u61.1 0)), .int (u61.2.1 0), .int (u61.2.1 1), .int (u61.2.1 2), .int (nI (u61.1 1)), .int j47, .long (u61.2.2.1 0), .ref h5, .ref h6, .int (nI k15), .int (nI k16)]), (h1, aI Y 3640 (u50.2.2.2.1 0)), (h2, aZ Y 2 f1), (h3, aZ Y 80 f3), (h4, aB Y 1600 f4), (h5, aI Y 200 f13), (h6, aI Y 800 f14)] rfl ?_
            obtain ⟨x63, x64, x65, x66, x67⟩ := w62
            rcases x63 with rfl | ⟨rfl, x68⟩
            ·
              refine V_if_ne_f 122 B 127 dX12_readBinding_122 (by decide) (by decide +kernel) ?_
              refine V_iconst 125 B (v := 0) dX12_readBinding_125 (by decide +kernel) ?_
              exact V_zret 126 B rfl dX12_readBinding_126 (mkW [(u61.1 0), (u61.1 1)] [(u61.2.1 0), (u61.2.1 1), (u61.2.1 2), j47] [(u61.2.2.1 0)] [(u50.2.2.2.1 0)] [] []) ⟨(Or.inl rfl), x53, (show k10 ≤ (u61.1 1) by omega), (show (u61.1 1) ≤ (u61.1 0) by omega), (show (u61.1 0) ≤ k5 by omega), (show ((u61.2.1 2) = 0 ∨ (u61.1 1) < (u61.1 0)) by first | assumption | exact Or.inr (by omega))⟩ rfl
            ·
              refine V_if_ne_t 122 B 127 dX12_readBinding_122 (by decide) (by decide +kernel) ?_
              refine V_aload_n 127 B dX12_readBinding_127 2 rfl ?_
              refine V_aload_n 128 B dX12_readBinding_128 2 rfl ?_
              refine V_get 129 B gf_RX12_9 0 rfl rfl dX12_readBinding_129 ?_
              refine V_iload_n 132 B dX12_readBinding_132 0 rfl ?_
              refine V_iconst 133 B (v := 0) dX12_readBinding_133 (by decide +kernel) ?_
              refine V_iadd 134 B (v := (nI (2902 + 7 * (gN f0 2721)))) dX12_readBinding_134 (nI_addE (a := 2902 + 7 * (gN f0 2721)) (b := 0) (by omega)) ?_
              refine V_iald 135 B (v := j30) 1 rfl (vp_in_nI (n := 2902 + 7 * (gN f0 2721)) (by omega) (by decide)) dX12_readBinding_135 (by rw [nI_clamp (show 2902 + 7 * (gN f0 2721) < 2 ^ 31 by omega)]; rw [x58 _ (by omega)]; rw [upd_ne (by omega)]; exact upd_at) ?_
              refine V_iload_n 136 B dX12_readBinding_136 0 rfl ?_
              refine V_iconst 137 B (v := 2) dX12_readBinding_137 (by decide +kernel) ?_
              refine V_iadd 138 B (v := (nI (2904 + 7 * (gN f0 2721)))) dX12_readBinding_138 (nI_addE (a := 2902 + 7 * (gN f0 2721)) (b := 2) (by omega)) ?_
              refine V_cvi 139 B (st := []) (As := [.int j30, .int (nI (2904 + 7 * (gN f0 2721)))]) (fun sz => rX12_clashesRead l D Y h0 h1 h2 h3 h4 h5 h6 p2 k5 (u61.1 0) (u61.2.1 0) (u61.2.1 1) (u61.2.1 2) (u61.1 1) j47 (u61.2.2.1 0) k15 k16 (u50.2.2.2.1 0) f1 f3 f4 f13 f14 x53 (by omega) HP j30 (2904 + 7 * (gN f0 2721)) (rl29 (gN f0 2721) (by omega)) sz) glV_RX12_310 ⟨rfl, rfl⟩ ⟨(Nat.le_of_ble_eq_true rfl), (Nat.le_of_ble_eq_true rfl)⟩ ⟨(Nat.le_of_ble_eq_true rfl), (Nat.le_of_ble_eq_true rfl)⟩ [0, 0, 0, 0, 0, 0, 0] rfl 13 0 rfl rfl rfl rfl (Nat.le_of_ble_eq_true rfl) rfl (fun _ _ _ => rfl) dX12_readBinding_139 (fun j69 u70 w71 => ?_)
              refine V_ws [(h0, oC 13 [.ref h1, .ref h2, .int p2, .ref h3, .ref h4, .int (nI k5), .int (nI (u61.1 0)), .int (u61.2.1 0), .int (u61.2.1 1), .int (u61.2.1 2), .int (nI (u61.1 1)), .int j47, .long (u61.2.2.1 0), .ref h5, .ref h6, .int (nI k15), .int (nI k16)]), (h1, aI Y 3640 (u50.2.2.2.1 0)), (h2, aZ Y 2 f1), (h3, aZ Y 80 f3), (h4, aB Y 1600 f4), (h5, aI Y 200 f13), (h6, aI Y 800 f14)] rfl ?_
              have x72 := w71
              clear w71
              rcases x72 with rfl | rfl
              ·
                refine V_istore_n 142 B (lv2 := [(3, .int 0), (2, .int (nI (2902 + 7 * (gN f0 2721)))), (1, .int (nI k10)), (0, .ref h0)]) dX12_readBinding_142 (by decide) rfl ?_
                refine V_iconst 143 B (v := 0) dX12_readBinding_143 (by decide +kernel) ?_
                refine V_istore 144 B (lv2 := [(4, .int 0), (3, .int 0), (2, .int (nI (2902 + 7 * (gN f0 2721)))), (1, .int (nI k10)), (0, .ref h0)]) dX12_readBinding_144 (by decide) rfl ?_
                refine V_wloop (α := WU) (fun a => 100000 - (a.1 0)) (fun a => (a.1 0) ≤ 4000 ∧ ((a.2.1 0) = 0 ∨ (a.2.1 0) = 1)) (fun a => [(4, .int (nI (a.1 0))), (3, .int (a.2.1 0)), (2, .int (nI (2902 + 7 * (gN f0 2721)))), (1, .int (nI k10)), (0, .ref h0)]) (fun a => [(h0, oC 13 [.ref h1, .ref h2, .int p2, .ref h3, .ref h4, .int (nI k5), .int (nI (u61.1 0)), .int (u61.2.1 0), .int (u61.2.1 1), .int (u61.2.1 2), .int (nI (u61.1 1)), .int j47, .long (u61.2.2.1 0), .ref h5, .ref h6, .int (nI k15), .int (nI k16)]), (h1, aI Y 3640 (u50.2.2.2.1 0)), (h2, aZ Y 2 f1), (h3, aZ Y 80 f3), (h4, aB Y 1600 f4), (h5, aI Y 200 f13), (h6, aI Y 800 f14)]) (mkW [0] [0] [] [] [] []) ⟨(show 0 ≤ 4000 by omega), (Or.inl rfl)⟩ rfl rfl (fun a73 hI75 IH74 => ?_)
                refine V_lv [(4, .int (nI (a73.1 0))), (3, .int (a73.2.1 0)), (2, .int (nI (2902 + 7 * (gN f0 2721)))), (1, .int (nI k10)), (0, .ref h0)] [0, 1, 2, 3, 4] rfl ?_
                refine V_ws [(h0, oC 13 [.ref h1, .ref h2, .int p2, .ref h3, .ref h4, .int (nI k5), .int (nI (u61.1 0)), .int (u61.2.1 0), .int (u61.2.1 1), .int (u61.2.1 2), .int (nI (u61.1 1)), .int j47, .long (u61.2.2.1 0), .ref h5, .ref h6, .int (nI k15), .int (nI k16)]), (h1, aI Y 3640 (u50.2.2.2.1 0)), (h2, aZ Y 2 f1), (h3, aZ Y 80 f3), (h4, aB Y 1600 f4), (h5, aI Y 200 f13), (h6, aI Y 800 f14)] rfl ?_
                obtain ⟨x76, x77⟩ := hI75
                rcases x77 with e78 | e78
                ·
                  refine V_lv [(4, .int (nI (a73.1 0))), (3, .int 0), (2, .int (nI (2902 + 7 * (gN f0 2721)))), (1, .int (nI k10)), (0, .ref h0)] [0, 1, 2, 3, 4] (by rw [e78]; rfl) ?_
                  refine V_iload 146 B dX12_readBinding_146 0 rfl ?_
                  refine V_aload_n 148 B dX12_readBinding_148 4 rfl ?_
                  refine V_get 149 B gf_RX12_9 0 rfl rfl dX12_readBinding_149 ?_
                  refine V_sipush 152 B (v := 2720) dX12_readBinding_152 (by decide +kernel) ?_
                  have x79 : (gN f0 2720) ≤ 6 := gN_le HI (by omega) (show bd 2720 = (0, ((6 : Nat) : Int)) by decide +kernel)
                  refine V_iald 155 B (v := (nI (gN f0 2720))) 1 rfl (vpin _ _ (by decide +kernel)) dX12_readBinding_155 (by show (u50.2.2.2.1 0) 2720 = _; rw [x58 _ (by omega)]; rw [upd_ne (by omega)]; rw [upd_ne (by omega)]; exact gN_eq HI (by omega) (show bd 2720 = (0, ((6 : Nat) : Int)) by decide +kernel)) ?_
                  refine V_icmp_ge 156 B 184 dX12_readBinding_156 (by decide) (fun kk80 => ?_) (fun kk80 => ?_)
                  ·
                    have x81 := n_le (a := (gN f0 2720)) (b := (a73.1 0)) kk80 (by omega) (by omega)
                    refine V_iload_n 184 B dX12_readBinding_184 1 rfl ?_
                    refine V_if_eq_t 185 B 195 dX12_readBinding_185 (by decide) (by decide +kernel) ?_
                    refine V_aload_n 195 B dX12_readBinding_195 4 rfl ?_
                    refine V_get 196 B gf_RX12_9 0 rfl rfl dX12_readBinding_196 ?_
                    refine V_sipush 199 B (v := 2721) dX12_readBinding_199 (by decide +kernel) ?_
                    refine V_dup2_11 202 B dX12_readBinding_202 rfl rfl ?_
                    have x82 : (gN f0 2721) ≤ 80 := gN_le HI (by omega) (show bd 2721 = (0, ((80 : Nat) : Int)) by decide +kernel)
                    refine V_iald 203 B (v := (nI (gN f0 2721))) 1 rfl (vpin _ _ (by decide +kernel)) dX12_readBinding_203 (by show (u50.2.2.2.1 0) 2721 = _; rw [x58 _ (by omega)]; rw [upd_ne (by omega)]; rw [upd_ne (by omega)]; exact gN_eq HI (by omega) (show bd 2721 = (0, ((80 : Nat) : Int)) by decide +kernel)) ?_
                    refine V_iconst 204 B (v := 1) dX12_readBinding_204 (by decide +kernel) ?_
                    refine V_iadd 205 B (v := (nI (1 + (gN f0 2721)))) dX12_readBinding_205 (nI_addE (a := (gN f0 2721)) (b := 1) (by omega)) ?_
                    have hv83 : INV (upd (u50.2.2.2.1 0) 2721 (nI (1 + (gN f0 2721)))) := INV_nat (v := 1 + (gN f0 2721)) x53 (show bd 2721 = (0, ((80 : Nat) : Int)) by decide +kernel) (by omega) (by decide)
                    refine V_iast 206 B 1 rfl (vpin _ _ (by decide +kernel)) dX12_readBinding_206 [(h0, oC 13 [.ref h1, .ref h2, .int p2, .ref h3, .ref h4, .int (nI k5), .int (nI (u61.1 0)), .int (u61.2.1 0), .int (u61.2.1 1), .int (u61.2.1 2), .int (nI (u61.1 1)), .int j47, .long (u61.2.2.1 0), .ref h5, .ref h6, .int (nI k15), .int (nI k16)]), (h1, aI Y 3640 (upd (u50.2.2.2.1 0) 2721 (nI (1 + (gN f0 2721))))), (h2, aZ Y 2 f1), (h3, aZ Y 80 f3), (h4, aB Y 1600 f4), (h5, aI Y 200 f13), (h6, aI Y 800 f14)] rfl ?_
                    refine V_iconst 207 B (v := 1) dX12_readBinding_207 (by decide +kernel) ?_
                    exact V_zret 208 B rfl dX12_readBinding_208 (mkW [(u61.1 0), (u61.1 1)] [(u61.2.1 0), (u61.2.1 1), (u61.2.1 2), j47] [(u61.2.2.1 0)] [(upd (u50.2.2.2.1 0) 2721 (nI (1 + (gN f0 2721))))] [] []) ⟨(Or.inr ⟨rfl, (show k10 < (u61.1 1) by omega)⟩), hv83, (show k10 ≤ (u61.1 1) by omega), (show (u61.1 1) ≤ (u61.1 0) by omega), (show (u61.1 0) ≤ k5 by omega), (show ((u61.2.1 2) = 0 ∨ (u61.1 1) < (u61.1 0)) by first | assumption | exact Or.inr (by omega))⟩ rfl
                  ·
                    have x84 := n_nle (a := (gN f0 2720)) (b := (a73.1 0)) kk80 (by omega) (by omega)
                    refine V_iload_n 159 B dX12_readBinding_159 1 rfl ?_
                    refine V_aload_n 160 B dX12_readBinding_160 4 rfl ?_
                    refine V_sipush 161 B (v := 2718) dX12_readBinding_161 (by decide +kernel) ?_
                    refine V_iload 164 B dX12_readBinding_164 0 rfl ?_
                    refine V_csi 166 B (st := [.int 2718, .ref h0, .int 0]) (As := [.int (nI (a73.1 0))]) (fun sz => rX12_reservedAt l D Y (a73.1 0) (by omega) sz) glS_RX12_108 ⟨rfl, rfl⟩ ⟨(Nat.le_of_ble_eq_true rfl), (Nat.le_of_ble_eq_true rfl)⟩ ⟨(Nat.le_of_ble_eq_true rfl), (Nat.le_of_ble_eq_true rfl)⟩ [] rfl rfl (Nat.le_of_ble_eq_true rfl) rfl (fun _ _ _ => rfl) dX12_readBinding_166 (fun j85 u86 w87 => ?_)
                    refine V_ws [(h0, oC 13 [.ref h1, .ref h2, .int p2, .ref h3, .ref h4, .int (nI k5), .int (nI (u61.1 0)), .int (u61.2.1 0), .int (u61.2.1 1), .int (u61.2.1 2), .int (nI (u61.1 1)), .int j47, .long (u61.2.2.1 0), .ref h5, .ref h6, .int (nI k15), .int (nI k16)]), (h1, aI Y 3640 (u50.2.2.2.1 0)), (h2, aZ Y 2 f1), (h3, aZ Y 80 f3), (h4, aB Y 1600 f4), (h5, aI Y 200 f13), (h6, aI Y 800 f14)] rfl ?_
                    have x88 := w87
                    clear w87
                    obtain rfl := x88
                    refine V_iadd 169 B (v := (nI (2872 + 5 * (a73.1 0)))) dX12_readBinding_169 (nI_addE (a := 2718) (b := 154 + 5 * (a73.1 0)) (by omega)) ?_
                    refine V_iload_n 170 B dX12_readBinding_170 2 rfl ?_
                    refine V_iconst 171 B (v := 2) dX12_readBinding_171 (by decide +kernel) ?_
                    refine V_iadd 172 B (v := (nI (2904 + 7 * (gN f0 2721)))) dX12_readBinding_172 (nI_addE (a := 2902 + 7 * (gN f0 2721)) (b := 2) (by omega)) ?_
                    refine V_cvi 173 B (st := [.int 0]) (As := [.int (nI (2872 + 5 * (a73.1 0))), .int (nI (2904 + 7 * (gN f0 2721)))]) (fun sz => rX12_doClash l D Y h0 h1 h2 h3 h4 h5 h6 p2 k5 (u61.1 0) (u61.2.1 0) (u61.2.1 1) (u61.2.1 2) (u61.1 1) j47 (u61.2.2.1 0) k15 k16 (u50.2.2.2.1 0) f1 f3 f4 f13 f14 x53 (by omega) HP (2872 + 5 * (a73.1 0)) (2904 + 7 * (gN f0 2721)) (rl31 (a73.1 0) (by omega)) (rl29 (gN f0 2721) (by omega)) sz) glV_RX12_111 ⟨rfl, rfl⟩ ⟨(Nat.le_of_ble_eq_true rfl), (Nat.le_of_ble_eq_true rfl)⟩ ⟨(Nat.le_of_ble_eq_true rfl), (Nat.le_of_ble_eq_true rfl)⟩ [0, 0, 0, 0, 0, 0, 0] rfl 13 0 rfl rfl rfl rfl (Nat.le_of_ble_eq_true rfl) rfl (fun _ _ _ => rfl) dX12_readBinding_173 (fun j89 u90 w91 => ?_)
                    refine V_ws [(h0, oC 13 [.ref h1, .ref h2, .int p2, .ref h3, .ref h4, .int (nI k5), .int (nI (u61.1 0)), .int (u61.2.1 0), .int (u61.2.1 1), .int (u61.2.1 2), .int (nI (u61.1 1)), .int j47, .long (u61.2.2.1 0), .ref h5, .ref h6, .int (nI k15), .int (nI k16)]), (h1, aI Y 3640 (u50.2.2.2.1 0)), (h2, aZ Y 2 f1), (h3, aZ Y 80 f3), (h4, aB Y 1600 f4), (h5, aI Y 200 f13), (h6, aI Y 800 f14)] rfl ?_
                    have x92 := w91
                    clear w91
                    rcases x92 with ⟨rfl, x93⟩ | ⟨rfl, x93⟩
                    ·
                      refine V_ior 176 B (v := 0) dX12_readBinding_176 (by decide +kernel) ?_
                      refine V_istore_n 177 B (lv2 := [(3, .int 0), (4, .int (nI (a73.1 0))), (2, .int (nI (2902 + 7 * (gN f0 2721)))), (1, .int (nI k10)), (0, .ref h0)]) dX12_readBinding_177 (by decide) rfl ?_
                      refine V_iinc 178 B (v := (nI (1 + (a73.1 0)))) (lv2 := [(4, .int (nI (1 + (a73.1 0)))), (3, .int 0), (2, .int (nI (2902 + 7 * (gN f0 2721)))), (1, .int (nI k10)), (0, .ref h0)]) dX12_readBinding_178 1 rfl (nI_addE (a := (a73.1 0)) (b := 1) (by omega)) (by decide) rfl ?_
                      refine V_goto 181 B 146 dX12_readBinding_181 (by decide) ?_
                      refine V_lv [(4, .int (nI (1 + (a73.1 0)))), (3, .int 0), (2, .int (nI (2902 + 7 * (gN f0 2721)))), (1, .int (nI k10)), (0, .ref h0)] [0, 1, 2, 3, 4] rfl ?_
                      exact IH74 (mkW [1 + (a73.1 0)] [0] [] [] [] []) ⟨(show 1 + (a73.1 0) ≤ 4000 by omega), (Or.inl rfl)⟩ (by show 100000 - (1 + (a73.1 0)) < 100000 - (a73.1 0); omega)
                    ·
                      refine V_ior 176 B (v := 1) dX12_readBinding_176 (by decide +kernel) ?_
                      refine V_istore_n 177 B (lv2 := [(3, .int 1), (4, .int (nI (a73.1 0))), (2, .int (nI (2902 + 7 * (gN f0 2721)))), (1, .int (nI k10)), (0, .ref h0)]) dX12_readBinding_177 (by decide) rfl ?_
                      refine V_iinc 178 B (v := (nI (1 + (a73.1 0)))) (lv2 := [(4, .int (nI (1 + (a73.1 0)))), (3, .int 1), (2, .int (nI (2902 + 7 * (gN f0 2721)))), (1, .int (nI k10)), (0, .ref h0)]) dX12_readBinding_178 1 rfl (nI_addE (a := (a73.1 0)) (b := 1) (by omega)) (by decide) rfl ?_
                      refine V_goto 181 B 146 dX12_readBinding_181 (by decide) ?_
                      refine V_lv [(4, .int (nI (1 + (a73.1 0)))), (3, .int 1), (2, .int (nI (2902 + 7 * (gN f0 2721)))), (1, .int (nI k10)), (0, .ref h0)] [0, 1, 2, 3, 4] rfl ?_
                      exact IH74 (mkW [1 + (a73.1 0)] [1] [] [] [] []) ⟨(show 1 + (a73.1 0) ≤ 4000 by omega), (Or.inr rfl)⟩ (by show 100000 - (1 + (a73.1 0)) < 100000 - (a73.1 0); omega)
                ·
                  refine V_lv [(4, .int (nI (a73.1 0))), (3, .int 1), (2, .int (nI (2902 + 7 * (gN f0 2721)))), (1, .int (nI k10)), (0, .ref h0)] [0, 1, 2, 3, 4] (by rw [e78]; rfl) ?_
                  refine V_iload 146 B dX12_readBinding_146 0 rfl ?_
                  refine V_aload_n 148 B dX12_readBinding_148 4 rfl ?_
                  refine V_get 149 B gf_RX12_9 0 rfl rfl dX12_readBinding_149 ?_
                  refine V_sipush 152 B (v := 2720) dX12_readBinding_152 (by decide +kernel) ?_
                  have x94 : (gN f0 2720) ≤ 6 := gN_le HI (by omega) (show bd 2720 = (0, ((6 : Nat) : Int)) by decide +kernel)
                  refine V_iald 155 B (v := (nI (gN f0 2720))) 1 rfl (vpin _ _ (by decide +kernel)) dX12_readBinding_155 (by show (u50.2.2.2.1 0) 2720 = _; rw [x58 _ (by omega)]; rw [upd_ne (by omega)]; rw [upd_ne (by omega)]; exact gN_eq HI (by omega) (show bd 2720 = (0, ((6 : Nat) : Int)) by decide +kernel)) ?_
                  refine V_icmp_ge 156 B 184 dX12_readBinding_156 (by decide) (fun kk95 => ?_) (fun kk95 => ?_)
                  ·
                    have x96 := n_le (a := (gN f0 2720)) (b := (a73.1 0)) kk95 (by omega) (by omega)
                    refine V_iload_n 184 B dX12_readBinding_184 1 rfl ?_
                    refine V_if_eq_f 185 B 195 dX12_readBinding_185 (by decide) (by decide +kernel) ?_
                    refine V_aload_n 188 B dX12_readBinding_188 4 rfl ?_
                    refine V_iconst 189 B (v := 4) dX12_readBinding_189 (by decide +kernel) ?_
                    refine V_iload_n 190 B dX12_readBinding_190 3 rfl ?_
                    refine V_cvi 191 B (st := []) (As := [.int 4, .int (nI k10)]) (fun sz => rX12_failAt l D Y h0 h1 h2 h3 h4 h5 h6 p2 k5 (u61.1 0) (u61.2.1 0) (u61.2.1 1) (u61.2.1 2) (u61.1 1) j47 (u61.2.2.1 0) k15 k16 (u50.2.2.2.1 0) f1 f3 f4 f13 f14 x53 (by omega) HP 4 (nI k10) sz) glV_RX12_313 ⟨rfl, rfl⟩ ⟨(Nat.le_of_ble_eq_true rfl), (Nat.le_of_ble_eq_true rfl)⟩ ⟨(Nat.le_of_ble_eq_true rfl), (Nat.le_of_ble_eq_true rfl)⟩ [0, 0, 0, 0, 0, 0, 0] rfl 13 0 rfl rfl rfl rfl (Nat.le_of_ble_eq_true rfl) rfl (fun _ _ _ => rfl) dX12_readBinding_191 (fun j97 u98 w99 => ?_)
                    refine V_ws [(h0, oC 13 [.ref h1, .ref h2, .int p2, .ref h3, .ref h4, .int (nI k5), .int (nI (u61.1 0)), .int (u98.2.1 0), .int (u98.2.1 1), .int (u61.2.1 2), .int (nI (u61.1 1)), .int j47, .long (u61.2.2.1 0), .ref h5, .ref h6, .int (nI k15), .int (nI k16)]), (h1, aI Y 3640 (u50.2.2.2.1 0)), (h2, aZ Y 2 f1), (h3, aZ Y 80 f3), (h4, aB Y 1600 f4), (h5, aI Y 200 f13), (h6, aI Y 800 f14)] rfl ?_
                    have x100 := w99
                    clear w99
                    obtain rfl := x100
                    exact V_zret 194 B rfl dX12_readBinding_194 (mkW [(u61.1 0), (u61.1 1)] [(u98.2.1 0), (u98.2.1 1), (u61.2.1 2), j47] [(u61.2.2.1 0)] [(u50.2.2.2.1 0)] [] []) ⟨(Or.inl rfl), x53, (show k10 ≤ (u61.1 1) by omega), (show (u61.1 1) ≤ (u61.1 0) by omega), (show (u61.1 0) ≤ k5 by omega), (show ((u61.2.1 2) = 0 ∨ (u61.1 1) < (u61.1 0)) by first | assumption | exact Or.inr (by omega))⟩ rfl
                  ·
                    have x101 := n_nle (a := (gN f0 2720)) (b := (a73.1 0)) kk95 (by omega) (by omega)
                    refine V_iload_n 159 B dX12_readBinding_159 1 rfl ?_
                    refine V_aload_n 160 B dX12_readBinding_160 4 rfl ?_
                    refine V_sipush 161 B (v := 2718) dX12_readBinding_161 (by decide +kernel) ?_
                    refine V_iload 164 B dX12_readBinding_164 0 rfl ?_
                    refine V_csi 166 B (st := [.int 2718, .ref h0, .int 1]) (As := [.int (nI (a73.1 0))]) (fun sz => rX12_reservedAt l D Y (a73.1 0) (by omega) sz) glS_RX12_108 ⟨rfl, rfl⟩ ⟨(Nat.le_of_ble_eq_true rfl), (Nat.le_of_ble_eq_true rfl)⟩ ⟨(Nat.le_of_ble_eq_true rfl), (Nat.le_of_ble_eq_true rfl)⟩ [] rfl rfl (Nat.le_of_ble_eq_true rfl) rfl (fun _ _ _ => rfl) dX12_readBinding_166 (fun j102 u103 w104 => ?_)
                    refine V_ws [(h0, oC 13 [.ref h1, .ref h2, .int p2, .ref h3, .ref h4, .int (nI k5), .int (nI (u61.1 0)), .int (u61.2.1 0), .int (u61.2.1 1), .int (u61.2.1 2), .int (nI (u61.1 1)), .int j47, .long (u61.2.2.1 0), .ref h5, .ref h6, .int (nI k15), .int (nI k16)]), (h1, aI Y 3640 (u50.2.2.2.1 0)), (h2, aZ Y 2 f1), (h3, aZ Y 80 f3), (h4, aB Y 1600 f4), (h5, aI Y 200 f13), (h6, aI Y 800 f14)] rfl ?_
                    have x105 := w104
                    clear w104
                    obtain rfl := x105
                    refine V_iadd 169 B (v := (nI (2872 + 5 * (a73.1 0)))) dX12_readBinding_169 (nI_addE (a := 2718) (b := 154 + 5 * (a73.1 0)) (by omega)) ?_
                    refine V_iload_n 170 B dX12_readBinding_170 2 rfl ?_
                    refine V_iconst 171 B (v := 2) dX12_readBinding_171 (by decide +kernel) ?_
                    refine V_iadd 172 B (v := (nI (2904 + 7 * (gN f0 2721)))) dX12_readBinding_172 (nI_addE (a := 2902 + 7 * (gN f0 2721)) (b := 2) (by omega)) ?_
                    refine V_cvi 173 B (st := [.int 1]) (As := [.int (nI (2872 + 5 * (a73.1 0))), .int (nI (2904 + 7 * (gN f0 2721)))]) (fun sz => rX12_doClash l D Y h0 h1 h2 h3 h4 h5 h6 p2 k5 (u61.1 0) (u61.2.1 0) (u61.2.1 1) (u61.2.1 2) (u61.1 1) j47 (u61.2.2.1 0) k15 k16 (u50.2.2.2.1 0) f1 f3 f4 f13 f14 x53 (by omega) HP (2872 + 5 * (a73.1 0)) (2904 + 7 * (gN f0 2721)) (rl31 (a73.1 0) (by omega)) (rl29 (gN f0 2721) (by omega)) sz) glV_RX12_111 ⟨rfl, rfl⟩ ⟨(Nat.le_of_ble_eq_true rfl), (Nat.le_of_ble_eq_true rfl)⟩ ⟨(Nat.le_of_ble_eq_true rfl), (Nat.le_of_ble_eq_true rfl)⟩ [0, 0, 0, 0, 0, 0, 0] rfl 13 0 rfl rfl rfl rfl (Nat.le_of_ble_eq_true rfl) rfl (fun _ _ _ => rfl) dX12_readBinding_173 (fun j106 u107 w108 => ?_)
                    refine V_ws [(h0, oC 13 [.ref h1, .ref h2, .int p2, .ref h3, .ref h4, .int (nI k5), .int (nI (u61.1 0)), .int (u61.2.1 0), .int (u61.2.1 1), .int (u61.2.1 2), .int (nI (u61.1 1)), .int j47, .long (u61.2.2.1 0), .ref h5, .ref h6, .int (nI k15), .int (nI k16)]), (h1, aI Y 3640 (u50.2.2.2.1 0)), (h2, aZ Y 2 f1), (h3, aZ Y 80 f3), (h4, aB Y 1600 f4), (h5, aI Y 200 f13), (h6, aI Y 800 f14)] rfl ?_
                    have x109 := w108
                    clear w108
                    rcases x109 with ⟨rfl, x110⟩ | ⟨rfl, x110⟩
                    ·
                      refine V_ior 176 B (v := 1) dX12_readBinding_176 (by decide +kernel) ?_
                      refine V_istore_n 177 B (lv2 := [(3, .int 1), (4, .int (nI (a73.1 0))), (2, .int (nI (2902 + 7 * (gN f0 2721)))), (1, .int (nI k10)), (0, .ref h0)]) dX12_readBinding_177 (by decide) rfl ?_
                      refine V_iinc 178 B (v := (nI (1 + (a73.1 0)))) (lv2 := [(4, .int (nI (1 + (a73.1 0)))), (3, .int 1), (2, .int (nI (2902 + 7 * (gN f0 2721)))), (1, .int (nI k10)), (0, .ref h0)]) dX12_readBinding_178 1 rfl (nI_addE (a := (a73.1 0)) (b := 1) (by omega)) (by decide) rfl ?_
                      refine V_goto 181 B 146 dX12_readBinding_181 (by decide) ?_
                      refine V_lv [(4, .int (nI (1 + (a73.1 0)))), (3, .int 1), (2, .int (nI (2902 + 7 * (gN f0 2721)))), (1, .int (nI k10)), (0, .ref h0)] [0, 1, 2, 3, 4] rfl ?_
                      exact IH74 (mkW [1 + (a73.1 0)] [1] [] [] [] []) ⟨(show 1 + (a73.1 0) ≤ 4000 by omega), (Or.inr rfl)⟩ (by show 100000 - (1 + (a73.1 0)) < 100000 - (a73.1 0); omega)
                    ·
                      refine V_ior 176 B (v := 1) dX12_readBinding_176 (by decide +kernel) ?_
                      refine V_istore_n 177 B (lv2 := [(3, .int 1), (4, .int (nI (a73.1 0))), (2, .int (nI (2902 + 7 * (gN f0 2721)))), (1, .int (nI k10)), (0, .ref h0)]) dX12_readBinding_177 (by decide) rfl ?_
                      refine V_iinc 178 B (v := (nI (1 + (a73.1 0)))) (lv2 := [(4, .int (nI (1 + (a73.1 0)))), (3, .int 1), (2, .int (nI (2902 + 7 * (gN f0 2721)))), (1, .int (nI k10)), (0, .ref h0)]) dX12_readBinding_178 1 rfl (nI_addE (a := (a73.1 0)) (b := 1) (by omega)) (by decide) rfl ?_
                      refine V_goto 181 B 146 dX12_readBinding_181 (by decide) ?_
                      refine V_lv [(4, .int (nI (1 + (a73.1 0)))), (3, .int 1), (2, .int (nI (2902 + 7 * (gN f0 2721)))), (1, .int (nI k10)), (0, .ref h0)] [0, 1, 2, 3, 4] rfl ?_
                      exact IH74 (mkW [1 + (a73.1 0)] [1] [] [] [] []) ⟨(show 1 + (a73.1 0) ≤ 4000 by omega), (Or.inr rfl)⟩ (by show 100000 - (1 + (a73.1 0)) < 100000 - (a73.1 0); omega)
              ·
                refine V_istore_n 142 B (lv2 := [(3, .int 1), (2, .int (nI (2902 + 7 * (gN f0 2721)))), (1, .int (nI k10)), (0, .ref h0)]) dX12_readBinding_142 (by decide) rfl ?_
                refine V_iconst 143 B (v := 0) dX12_readBinding_143 (by decide +kernel) ?_
                refine V_istore 144 B (lv2 := [(4, .int 0), (3, .int 1), (2, .int (nI (2902 + 7 * (gN f0 2721)))), (1, .int (nI k10)), (0, .ref h0)]) dX12_readBinding_144 (by decide) rfl ?_
                refine V_wloop (α := WU) (fun a => 100000 - (a.1 0)) (fun a => (a.1 0) ≤ 4000 ∧ ((a.2.1 0) = 0 ∨ (a.2.1 0) = 1)) (fun a => [(4, .int (nI (a.1 0))), (3, .int (a.2.1 0)), (2, .int (nI (2902 + 7 * (gN f0 2721)))), (1, .int (nI k10)), (0, .ref h0)]) (fun a => [(h0, oC 13 [.ref h1, .ref h2, .int p2, .ref h3, .ref h4, .int (nI k5), .int (nI (u61.1 0)), .int (u61.2.1 0), .int (u61.2.1 1), .int (u61.2.1 2), .int (nI (u61.1 1)), .int j47, .long (u61.2.2.1 0), .ref h5, .ref h6, .int (nI k15), .int (nI k16)]), (h1, aI Y 3640 (u50.2.2.2.1 0)), (h2, aZ Y 2 f1), (h3, aZ Y 80 f3), (h4, aB Y 1600 f4), (h5, aI Y 200 f13), (h6, aI Y 800 f14)]) (mkW [0] [1] [] [] [] []) ⟨(show 0 ≤ 4000 by omega), (Or.inr rfl)⟩ rfl rfl (fun a111 hI113 IH112 => ?_)
                refine V_lv [(4, .int (nI (a111.1 0))), (3, .int (a111.2.1 0)), (2, .int (nI (2902 + 7 * (gN f0 2721)))), (1, .int (nI k10)), (0, .ref h0)] [0, 1, 2, 3, 4] rfl ?_
                refine V_ws [(h0, oC 13 [.ref h1, .ref h2, .int p2, .ref h3, .ref h4, .int (nI k5), .int (nI (u61.1 0)), .int (u61.2.1 0), .int (u61.2.1 1), .int (u61.2.1 2), .int (nI (u61.1 1)), .int j47, .long (u61.2.2.1 0), .ref h5, .ref h6, .int (nI k15), .int (nI k16)]), (h1, aI Y 3640 (u50.2.2.2.1 0)), (h2, aZ Y 2 f1), (h3, aZ Y 80 f3), (h4, aB Y 1600 f4), (h5, aI Y 200 f13), (h6, aI Y 800 f14)] rfl ?_
                obtain ⟨x114, x115⟩ := hI113
                rcases x115 with e116 | e116
                ·
                  refine V_lv [(4, .int (nI (a111.1 0))), (3, .int 0), (2, .int (nI (2902 + 7 * (gN f0 2721)))), (1, .int (nI k10)), (0, .ref h0)] [0, 1, 2, 3, 4] (by rw [e116]; rfl) ?_
                  refine V_iload 146 B dX12_readBinding_146 0 rfl ?_
                  refine V_aload_n 148 B dX12_readBinding_148 4 rfl ?_
                  refine V_get 149 B gf_RX12_9 0 rfl rfl dX12_readBinding_149 ?_
                  refine V_sipush 152 B (v := 2720) dX12_readBinding_152 (by decide +kernel) ?_
                  have x117 : (gN f0 2720) ≤ 6 := gN_le HI (by omega) (show bd 2720 = (0, ((6 : Nat) : Int)) by decide +kernel)
                  refine V_iald 155 B (v := (nI (gN f0 2720))) 1 rfl (vpin _ _ (by decide +kernel)) dX12_readBinding_155 (by show (u50.2.2.2.1 0) 2720 = _; rw [x58 _ (by omega)]; rw [upd_ne (by omega)]; rw [upd_ne (by omega)]; exact gN_eq HI (by omega) (show bd 2720 = (0, ((6 : Nat) : Int)) by decide +kernel)) ?_
                  refine V_icmp_ge 156 B 184 dX12_readBinding_156 (by decide) (fun kk118 => ?_) (fun kk118 => ?_)
                  ·
                    have x119 := n_le (a := (gN f0 2720)) (b := (a111.1 0)) kk118 (by omega) (by omega)
                    refine V_iload_n 184 B dX12_readBinding_184 1 rfl ?_
                    refine V_if_eq_t 185 B 195 dX12_readBinding_185 (by decide) (by decide +kernel) ?_
                    refine V_aload_n 195 B dX12_readBinding_195 4 rfl ?_
                    refine V_get 196 B gf_RX12_9 0 rfl rfl dX12_readBinding_196 ?_
                    refine V_sipush 199 B (v := 2721) dX12_readBinding_199 (by decide +kernel) ?_
                    refine V_dup2_11 202 B dX12_readBinding_202 rfl rfl ?_
                    have x120 : (gN f0 2721) ≤ 80 := gN_le HI (by omega) (show bd 2721 = (0, ((80 : Nat) : Int)) by decide +kernel)
                    refine V_iald 203 B (v := (nI (gN f0 2721))) 1 rfl (vpin _ _ (by decide +kernel)) dX12_readBinding_203 (by show (u50.2.2.2.1 0) 2721 = _; rw [x58 _ (by omega)]; rw [upd_ne (by omega)]; rw [upd_ne (by omega)]; exact gN_eq HI (by omega) (show bd 2721 = (0, ((80 : Nat) : Int)) by decide +kernel)) ?_
                    refine V_iconst 204 B (v := 1) dX12_readBinding_204 (by decide +kernel) ?_
                    refine V_iadd 205 B (v := (nI (1 + (gN f0 2721)))) dX12_readBinding_205 (nI_addE (a := (gN f0 2721)) (b := 1) (by omega)) ?_
                    have hv121 : INV (upd (u50.2.2.2.1 0) 2721 (nI (1 + (gN f0 2721)))) := INV_nat (v := 1 + (gN f0 2721)) x53 (show bd 2721 = (0, ((80 : Nat) : Int)) by decide +kernel) (by omega) (by decide)
                    refine V_iast 206 B 1 rfl (vpin _ _ (by decide +kernel)) dX12_readBinding_206 [(h0, oC 13 [.ref h1, .ref h2, .int p2, .ref h3, .ref h4, .int (nI k5), .int (nI (u61.1 0)), .int (u61.2.1 0), .int (u61.2.1 1), .int (u61.2.1 2), .int (nI (u61.1 1)), .int j47, .long (u61.2.2.1 0), .ref h5, .ref h6, .int (nI k15), .int (nI k16)]), (h1, aI Y 3640 (upd (u50.2.2.2.1 0) 2721 (nI (1 + (gN f0 2721))))), (h2, aZ Y 2 f1), (h3, aZ Y 80 f3), (h4, aB Y 1600 f4), (h5, aI Y 200 f13), (h6, aI Y 800 f14)] rfl ?_
                    refine V_iconst 207 B (v := 1) dX12_readBinding_207 (by decide +kernel) ?_
                    exact V_zret 208 B rfl dX12_readBinding_208 (mkW [(u61.1 0), (u61.1 1)] [(u61.2.1 0), (u61.2.1 1), (u61.2.1 2), j47] [(u61.2.2.1 0)] [(upd (u50.2.2.2.1 0) 2721 (nI (1 + (gN f0 2721))))] [] []) ⟨(Or.inr ⟨rfl, (show k10 < (u61.1 1) by omega)⟩), hv121, (show k10 ≤ (u61.1 1) by omega), (show (u61.1 1) ≤ (u61.1 0) by omega), (show (u61.1 0) ≤ k5 by omega), (show ((u61.2.1 2) = 0 ∨ (u61.1 1) < (u61.1 0)) by first | assumption | exact Or.inr (by omega))⟩ rfl
                  ·
                    have x122 := n_nle (a := (gN f0 2720)) (b := (a111.1 0)) kk118 (by omega) (by omega)
                    refine V_iload_n 159 B dX12_readBinding_159 1 rfl ?_
                    refine V_aload_n 160 B dX12_readBinding_160 4 rfl ?_
                    refine V_sipush 161 B (v := 2718) dX12_readBinding_161 (by decide +kernel) ?_
                    refine V_iload 164 B dX12_readBinding_164 0 rfl ?_
                    refine V_csi 166 B (st := [.int 2718, .ref h0, .int 0]) (As := [.int (nI (a111.1 0))]) (fun sz => rX12_reservedAt l D Y (a111.1 0) (by omega) sz) glS_RX12_108 ⟨rfl, rfl⟩ ⟨(Nat.le_of_ble_eq_true rfl), (Nat.le_of_ble_eq_true rfl)⟩ ⟨(Nat.le_of_ble_eq_true rfl), (Nat.le_of_ble_eq_true rfl)⟩ [] rfl rfl (Nat.le_of_ble_eq_true rfl) rfl (fun _ _ _ => rfl) dX12_readBinding_166 (fun j123 u124 w125 => ?_)
                    refine V_ws [(h0, oC 13 [.ref h1, .ref h2, .int p2, .ref h3, .ref h4, .int (nI k5), .int (nI (u61.1 0)), .int (u61.2.1 0), .int (u61.2.1 1), .int (u61.2.1 2), .int (nI (u61.1 1)), .int j47, .long (u61.2.2.1 0), .ref h5, .ref h6, .int (nI k15), .int (nI k16)]), (h1, aI Y 3640 (u50.2.2.2.1 0)), (h2, aZ Y 2 f1), (h3, aZ Y 80 f3), (h4, aB Y 1600 f4), (h5, aI Y 200 f13), (h6, aI Y 800 f14)] rfl ?_
                    have x126 := w125
                    clear w125
                    obtain rfl := x126
                    refine V_iadd 169 B (v := (nI (2872 + 5 * (a111.1 0)))) dX12_readBinding_169 (nI_addE (a := 2718) (b := 154 + 5 * (a111.1 0)) (by omega)) ?_
                    refine V_iload_n 170 B dX12_readBinding_170 2 rfl ?_
                    refine V_iconst 171 B (v := 2) dX12_readBinding_171 (by decide +kernel) ?_
                    refine V_iadd 172 B (v := (nI (2904 + 7 * (gN f0 2721)))) dX12_readBinding_172 (nI_addE (a := 2902 + 7 * (gN f0 2721)) (b := 2) (by omega)) ?_
                    refine V_cvi 173 B (st := [.int 0]) (As := [.int (nI (2872 + 5 * (a111.1 0))), .int (nI (2904 + 7 * (gN f0 2721)))]) (fun sz => rX12_doClash l D Y h0 h1 h2 h3 h4 h5 h6 p2 k5 (u61.1 0) (u61.2.1 0) (u61.2.1 1) (u61.2.1 2) (u61.1 1) j47 (u61.2.2.1 0) k15 k16 (u50.2.2.2.1 0) f1 f3 f4 f13 f14 x53 (by omega) HP (2872 + 5 * (a111.1 0)) (2904 + 7 * (gN f0 2721)) (rl31 (a111.1 0) (by omega)) (rl29 (gN f0 2721) (by omega)) sz) glV_RX12_111 ⟨rfl, rfl⟩ ⟨(Nat.le_of_ble_eq_true rfl), (Nat.le_of_ble_eq_true rfl)⟩ ⟨(Nat.le_of_ble_eq_true rfl), (Nat.le_of_ble_eq_true rfl)⟩ [0, 0, 0, 0, 0, 0, 0] rfl 13 0 rfl rfl rfl rfl (Nat.le_of_ble_eq_true rfl) rfl (fun _ _ _ => rfl) dX12_readBinding_173 (fun j127 u128 w129 => ?_)
                    refine V_ws [(h0, oC 13 [.ref h1, .ref h2, .int p2, .ref h3, .ref h4, .int (nI k5), .int (nI (u61.1 0)), .int (u61.2.1 0), .int (u61.2.1 1), .int (u61.2.1 2), .int (nI (u61.1 1)), .int j47, .long (u61.2.2.1 0), .ref h5, .ref h6, .int (nI k15), .int (nI k16)]), (h1, aI Y 3640 (u50.2.2.2.1 0)), (h2, aZ Y 2 f1), (h3, aZ Y 80 f3), (h4, aB Y 1600 f4), (h5, aI Y 200 f13), (h6, aI Y 800 f14)] rfl ?_
                    have x130 := w129
                    clear w129
                    rcases x130 with ⟨rfl, x131⟩ | ⟨rfl, x131⟩
                    ·
                      refine V_ior 176 B (v := 0) dX12_readBinding_176 (by decide +kernel) ?_
                      refine V_istore_n 177 B (lv2 := [(3, .int 0), (4, .int (nI (a111.1 0))), (2, .int (nI (2902 + 7 * (gN f0 2721)))), (1, .int (nI k10)), (0, .ref h0)]) dX12_readBinding_177 (by decide) rfl ?_
                      refine V_iinc 178 B (v := (nI (1 + (a111.1 0)))) (lv2 := [(4, .int (nI (1 + (a111.1 0)))), (3, .int 0), (2, .int (nI (2902 + 7 * (gN f0 2721)))), (1, .int (nI k10)), (0, .ref h0)]) dX12_readBinding_178 1 rfl (nI_addE (a := (a111.1 0)) (b := 1) (by omega)) (by decide) rfl ?_
                      refine V_goto 181 B 146 dX12_readBinding_181 (by decide) ?_
                      refine V_lv [(4, .int (nI (1 + (a111.1 0)))), (3, .int 0), (2, .int (nI (2902 + 7 * (gN f0 2721)))), (1, .int (nI k10)), (0, .ref h0)] [0, 1, 2, 3, 4] rfl ?_
                      exact IH112 (mkW [1 + (a111.1 0)] [0] [] [] [] []) ⟨(show 1 + (a111.1 0) ≤ 4000 by omega), (Or.inl rfl)⟩ (by show 100000 - (1 + (a111.1 0)) < 100000 - (a111.1 0); omega)
                    ·
                      refine V_ior 176 B (v := 1) dX12_readBinding_176 (by decide +kernel) ?_
                      refine V_istore_n 177 B (lv2 := [(3, .int 1), (4, .int (nI (a111.1 0))), (2, .int (nI (2902 + 7 * (gN f0 2721)))), (1, .int (nI k10)), (0, .ref h0)]) dX12_readBinding_177 (by decide) rfl ?_
                      refine V_iinc 178 B (v := (nI (1 + (a111.1 0)))) (lv2 := [(4, .int (nI (1 + (a111.1 0)))), (3, .int 1), (2, .int (nI (2902 + 7 * (gN f0 2721)))), (1, .int (nI k10)), (0, .ref h0)]) dX12_readBinding_178 1 rfl (nI_addE (a := (a111.1 0)) (b := 1) (by omega)) (by decide) rfl ?_
                      refine V_goto 181 B 146 dX12_readBinding_181 (by decide) ?_
                      refine V_lv [(4, .int (nI (1 + (a111.1 0)))), (3, .int 1), (2, .int (nI (2902 + 7 * (gN f0 2721)))), (1, .int (nI k10)), (0, .ref h0)] [0, 1, 2, 3, 4] rfl ?_
                      exact IH112 (mkW [1 + (a111.1 0)] [1] [] [] [] []) ⟨(show 1 + (a111.1 0) ≤ 4000 by omega), (Or.inr rfl)⟩ (by show 100000 - (1 + (a111.1 0)) < 100000 - (a111.1 0); omega)
                ·
                  refine V_lv [(4, .int (nI (a111.1 0))), (3, .int 1), (2, .int (nI (2902 + 7 * (gN f0 2721)))), (1, .int (nI k10)), (0, .ref h0)] [0, 1, 2, 3, 4] (by rw [e116]; rfl) ?_
                  refine V_iload 146 B dX12_readBinding_146 0 rfl ?_
                  refine V_aload_n 148 B dX12_readBinding_148 4 rfl ?_
                  refine V_get 149 B gf_RX12_9 0 rfl rfl dX12_readBinding_149 ?_
                  refine V_sipush 152 B (v := 2720) dX12_readBinding_152 (by decide +kernel) ?_
                  have x132 : (gN f0 2720) ≤ 6 := gN_le HI (by omega) (show bd 2720 = (0, ((6 : Nat) : Int)) by decide +kernel)
                  refine V_iald 155 B (v := (nI (gN f0 2720))) 1 rfl (vpin _ _ (by decide +kernel)) dX12_readBinding_155 (by show (u50.2.2.2.1 0) 2720 = _; rw [x58 _ (by omega)]; rw [upd_ne (by omega)]; rw [upd_ne (by omega)]; exact gN_eq HI (by omega) (show bd 2720 = (0, ((6 : Nat) : Int)) by decide +kernel)) ?_
                  refine V_icmp_ge 156 B 184 dX12_readBinding_156 (by decide) (fun kk133 => ?_) (fun kk133 => ?_)
                  ·
                    have x134 := n_le (a := (gN f0 2720)) (b := (a111.1 0)) kk133 (by omega) (by omega)
                    refine V_iload_n 184 B dX12_readBinding_184 1 rfl ?_
                    refine V_if_eq_f 185 B 195 dX12_readBinding_185 (by decide) (by decide +kernel) ?_
                    refine V_aload_n 188 B dX12_readBinding_188 4 rfl ?_
                    refine V_iconst 189 B (v := 4) dX12_readBinding_189 (by decide +kernel) ?_
                    refine V_iload_n 190 B dX12_readBinding_190 3 rfl ?_
                    refine V_cvi 191 B (st := []) (As := [.int 4, .int (nI k10)]) (fun sz => rX12_failAt l D Y h0 h1 h2 h3 h4 h5 h6 p2 k5 (u61.1 0) (u61.2.1 0) (u61.2.1 1) (u61.2.1 2) (u61.1 1) j47 (u61.2.2.1 0) k15 k16 (u50.2.2.2.1 0) f1 f3 f4 f13 f14 x53 (by omega) HP 4 (nI k10) sz) glV_RX12_313 ⟨rfl, rfl⟩ ⟨(Nat.le_of_ble_eq_true rfl), (Nat.le_of_ble_eq_true rfl)⟩ ⟨(Nat.le_of_ble_eq_true rfl), (Nat.le_of_ble_eq_true rfl)⟩ [0, 0, 0, 0, 0, 0, 0] rfl 13 0 rfl rfl rfl rfl (Nat.le_of_ble_eq_true rfl) rfl (fun _ _ _ => rfl) dX12_readBinding_191 (fun j135 u136 w137 => ?_)
                    refine V_ws [(h0, oC 13 [.ref h1, .ref h2, .int p2, .ref h3, .ref h4, .int (nI k5), .int (nI (u61.1 0)), .int (u136.2.1 0), .int (u136.2.1 1), .int (u61.2.1 2), .int (nI (u61.1 1)), .int j47, .long (u61.2.2.1 0), .ref h5, .ref h6, .int (nI k15), .int (nI k16)]), (h1, aI Y 3640 (u50.2.2.2.1 0)), (h2, aZ Y 2 f1), (h3, aZ Y 80 f3), (h4, aB Y 1600 f4), (h5, aI Y 200 f13), (h6, aI Y 800 f14)] rfl ?_
                    have x138 := w137
                    clear w137
                    obtain rfl := x138
                    exact V_zret 194 B rfl dX12_readBinding_194 (mkW [(u61.1 0), (u61.1 1)] [(u136.2.1 0), (u136.2.1 1), (u61.2.1 2), j47] [(u61.2.2.1 0)] [(u50.2.2.2.1 0)] [] []) ⟨(Or.inl rfl), x53, (show k10 ≤ (u61.1 1) by omega), (show (u61.1 1) ≤ (u61.1 0) by omega), (show (u61.1 0) ≤ k5 by omega), (show ((u61.2.1 2) = 0 ∨ (u61.1 1) < (u61.1 0)) by first | assumption | exact Or.inr (by omega))⟩ rfl
                  ·
                    have x139 := n_nle (a := (gN f0 2720)) (b := (a111.1 0)) kk133 (by omega) (by omega)
                    refine V_iload_n 159 B dX12_readBinding_159 1 rfl ?_
                    refine V_aload_n 160 B dX12_readBinding_160 4 rfl ?_
                    refine V_sipush 161 B (v := 2718) dX12_readBinding_161 (by decide +kernel) ?_
                    refine V_iload 164 B dX12_readBinding_164 0 rfl ?_
                    refine V_csi 166 B (st := [.int 2718, .ref h0, .int 1]) (As := [.int (nI (a111.1 0))]) (fun sz => rX12_reservedAt l D Y (a111.1 0) (by omega) sz) glS_RX12_108 ⟨rfl, rfl⟩ ⟨(Nat.le_of_ble_eq_true rfl), (Nat.le_of_ble_eq_true rfl)⟩ ⟨(Nat.le_of_ble_eq_true rfl), (Nat.le_of_ble_eq_true rfl)⟩ [] rfl rfl (Nat.le_of_ble_eq_true rfl) rfl (fun _ _ _ => rfl) dX12_readBinding_166 (fun j140 u141 w142 => ?_)
                    refine V_ws [(h0, oC 13 [.ref h1, .ref h2, .int p2, .ref h3, .ref h4, .int (nI k5), .int (nI (u61.1 0)), .int (u61.2.1 0), .int (u61.2.1 1), .int (u61.2.1 2), .int (nI (u61.1 1)), .int j47, .long (u61.2.2.1 0), .ref h5, .ref h6, .int (nI k15), .int (nI k16)]), (h1, aI Y 3640 (u50.2.2.2.1 0)), (h2, aZ Y 2 f1), (h3, aZ Y 80 f3), (h4, aB Y 1600 f4), (h5, aI Y 200 f13), (h6, aI Y 800 f14)] rfl ?_
                    have x143 := w142
                    clear w142
                    obtain rfl := x143
                    refine V_iadd 169 B (v := (nI (2872 + 5 * (a111.1 0)))) dX12_readBinding_169 (nI_addE (a := 2718) (b := 154 + 5 * (a111.1 0)) (by omega)) ?_
                    refine V_iload_n 170 B dX12_readBinding_170 2 rfl ?_
                    refine V_iconst 171 B (v := 2) dX12_readBinding_171 (by decide +kernel) ?_
                    refine V_iadd 172 B (v := (nI (2904 + 7 * (gN f0 2721)))) dX12_readBinding_172 (nI_addE (a := 2902 + 7 * (gN f0 2721)) (b := 2) (by omega)) ?_
                    refine V_cvi 173 B (st := [.int 1]) (As := [.int (nI (2872 + 5 * (a111.1 0))), .int (nI (2904 + 7 * (gN f0 2721)))]) (fun sz => rX12_doClash l D Y h0 h1 h2 h3 h4 h5 h6 p2 k5 (u61.1 0) (u61.2.1 0) (u61.2.1 1) (u61.2.1 2) (u61.1 1) j47 (u61.2.2.1 0) k15 k16 (u50.2.2.2.1 0) f1 f3 f4 f13 f14 x53 (by omega) HP (2872 + 5 * (a111.1 0)) (2904 + 7 * (gN f0 2721)) (rl31 (a111.1 0) (by omega)) (rl29 (gN f0 2721) (by omega)) sz) glV_RX12_111 ⟨rfl, rfl⟩ ⟨(Nat.le_of_ble_eq_true rfl), (Nat.le_of_ble_eq_true rfl)⟩ ⟨(Nat.le_of_ble_eq_true rfl), (Nat.le_of_ble_eq_true rfl)⟩ [0, 0, 0, 0, 0, 0, 0] rfl 13 0 rfl rfl rfl rfl (Nat.le_of_ble_eq_true rfl) rfl (fun _ _ _ => rfl) dX12_readBinding_173 (fun j144 u145 w146 => ?_)
                    refine V_ws [(h0, oC 13 [.ref h1, .ref h2, .int p2, .ref h3, .ref h4, .int (nI k5), .int (nI (u61.1 0)), .int (u61.2.1 0), .int (u61.2.1 1), .int (u61.2.1 2), .int (nI (u61.1 1)), .int j47, .long (u61.2.2.1 0), .ref h5, .ref h6, .int (nI k15), .int (nI k16)]), (h1, aI Y 3640 (u50.2.2.2.1 0)), (h2, aZ Y 2 f1), (h3, aZ Y 80 f3), (h4, aB Y 1600 f4), (h5, aI Y 200 f13), (h6, aI Y 800 f14)] rfl ?_
                    have x147 := w146
                    clear w146
                    rcases x147 with ⟨rfl, x148⟩ | ⟨rfl, x148⟩
                    ·
                      refine V_ior 176 B (v := 1) dX12_readBinding_176 (by decide +kernel) ?_
                      refine V_istore_n 177 B (lv2 := [(3, .int 1), (4, .int (nI (a111.1 0))), (2, .int (nI (2902 + 7 * (gN f0 2721)))), (1, .int (nI k10)), (0, .ref h0)]) dX12_readBinding_177 (by decide) rfl ?_
                      refine V_iinc 178 B (v := (nI (1 + (a111.1 0)))) (lv2 := [(4, .int (nI (1 + (a111.1 0)))), (3, .int 1), (2, .int (nI (2902 + 7 * (gN f0 2721)))), (1, .int (nI k10)), (0, .ref h0)]) dX12_readBinding_178 1 rfl (nI_addE (a := (a111.1 0)) (b := 1) (by omega)) (by decide) rfl ?_
                      refine V_goto 181 B 146 dX12_readBinding_181 (by decide) ?_
                      refine V_lv [(4, .int (nI (1 + (a111.1 0)))), (3, .int 1), (2, .int (nI (2902 + 7 * (gN f0 2721)))), (1, .int (nI k10)), (0, .ref h0)] [0, 1, 2, 3, 4] rfl ?_
                      exact IH112 (mkW [1 + (a111.1 0)] [1] [] [] [] []) ⟨(show 1 + (a111.1 0) ≤ 4000 by omega), (Or.inr rfl)⟩ (by show 100000 - (1 + (a111.1 0)) < 100000 - (a111.1 0); omega)
                    ·
                      refine V_ior 176 B (v := 1) dX12_readBinding_176 (by decide +kernel) ?_
                      refine V_istore_n 177 B (lv2 := [(3, .int 1), (4, .int (nI (a111.1 0))), (2, .int (nI (2902 + 7 * (gN f0 2721)))), (1, .int (nI k10)), (0, .ref h0)]) dX12_readBinding_177 (by decide) rfl ?_
                      refine V_iinc 178 B (v := (nI (1 + (a111.1 0)))) (lv2 := [(4, .int (nI (1 + (a111.1 0)))), (3, .int 1), (2, .int (nI (2902 + 7 * (gN f0 2721)))), (1, .int (nI k10)), (0, .ref h0)]) dX12_readBinding_178 1 rfl (nI_addE (a := (a111.1 0)) (b := 1) (by omega)) (by decide) rfl ?_
                      refine V_goto 181 B 146 dX12_readBinding_181 (by decide) ?_
                      refine V_lv [(4, .int (nI (1 + (a111.1 0)))), (3, .int 1), (2, .int (nI (2902 + 7 * (gN f0 2721)))), (1, .int (nI k10)), (0, .ref h0)] [0, 1, 2, 3, 4] rfl ?_
                      exact IH112 (mkW [1 + (a111.1 0)] [1] [] [] [] []) ⟨(show 1 + (a111.1 0) ≤ 4000 by omega), (Or.inr rfl)⟩ (by show 100000 - (1 + (a111.1 0)) < 100000 - (a111.1 0); omega)
    ·
      have x149 := n_eq (a := (gN f0 2721)) (b := 80) kk1 (by omega) (by omega)
      refine V_aload_n 13 B dX12_readBinding_13 0 rfl ?_
      refine V_iconst 14 B (v := 3) dX12_readBinding_14 (by decide +kernel) ?_
      refine V_cvi 15 B (st := []) (As := [.int 3]) (fun sz => rX12_fail l D Y h0 h1 h2 h3 h4 h5 h6 p2 k5 k6 p7 p8 p9 k10 p11 q12 k15 k16 f0 f1 f3 f4 f13 f14 HI (by omega) HP 3 sz) glV_RX12_291 ⟨rfl, rfl⟩ ⟨(Nat.le_of_ble_eq_true rfl), (Nat.le_of_ble_eq_true rfl)⟩ ⟨(Nat.le_of_ble_eq_true rfl), (Nat.le_of_ble_eq_true rfl)⟩ [0, 0, 0, 0, 0, 0, 0] rfl 13 0 rfl rfl rfl rfl (Nat.le_of_ble_eq_true rfl) rfl (fun _ _ _ => rfl) dX12_readBinding_15 (fun j150 u151 w152 => ?_)
      refine V_ws [(h0, oC 13 [.ref h1, .ref h2, .int p2, .ref h3, .ref h4, .int (nI k5), .int (nI k6), .int (u151.2.1 0), .int (u151.2.1 1), .int p9, .int (nI k10), .int p11, .long q12, .ref h5, .ref h6, .int (nI k15), .int (nI k16)]), (h1, aI Y 3640 f0), (h2, aZ Y 2 f1), (h3, aZ Y 80 f3), (h4, aB Y 1600 f4), (h5, aI Y 200 f13), (h6, aI Y 800 f14)] rfl ?_
      have x153 := w152
      clear w152
      obtain rfl := x153
      exact V_zret 18 B rfl dX12_readBinding_18 (mkW [k6, k10] [(u151.2.1 0), (u151.2.1 1), p9, p11] [q12] [f0] [] []) ⟨(Or.inl rfl), HI, (show k10 ≤ k10 by omega), (show k10 ≤ k6 by omega), (show k6 ≤ k5 by omega), (show (p9 = 0 ∨ k10 < k6) by first | assumption | exact Or.inr (by omega))⟩ rfl)
