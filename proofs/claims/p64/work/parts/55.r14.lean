theorem dX12_readReserved_0 : decode cX12_readReserved 0 = .ok (.aload_n 0, 1) := by decide +kernel
theorem dX12_readReserved_1 : decode cX12_readReserved 1 = .ok (.getfield 9, 3) := by decide +kernel
theorem dX12_readReserved_4 : decode cX12_readReserved 4 = .ok (.sipush 2720, 3) := by decide +kernel
theorem dX12_readReserved_7 : decode cX12_readReserved 7 = .ok (.iaload, 1) := by decide +kernel
theorem dX12_readReserved_8 : decode cX12_readReserved 8 = .ok (.bipush 6, 2) := by decide +kernel
theorem dX12_readReserved_10 : decode cX12_readReserved 10 = .ok (.if_icmp .ne 9, 3) := by decide +kernel
theorem dX12_readReserved_19 : decode cX12_readReserved 19 = .ok (.aload_n 0, 1) := by decide +kernel
theorem dX12_readReserved_20 : decode cX12_readReserved 20 = .ok (.getfield 270, 3) := by decide +kernel
theorem dX12_readReserved_23 : decode cX12_readReserved 23 = .ok (.istore_n 1, 1) := by decide +kernel
theorem dX12_readReserved_24 : decode cX12_readReserved 24 = .ok (.sipush 2718, 3) := by decide +kernel
theorem dX12_readReserved_27 : decode cX12_readReserved 27 = .ok (.aload_n 0, 1) := by decide +kernel
theorem dX12_readReserved_28 : decode cX12_readReserved 28 = .ok (.getfield 9, 3) := by decide +kernel
theorem dX12_readReserved_31 : decode cX12_readReserved 31 = .ok (.sipush 2720, 3) := by decide +kernel
theorem dX12_readReserved_34 : decode cX12_readReserved 34 = .ok (.iaload, 1) := by decide +kernel
theorem dX12_readReserved_35 : decode cX12_readReserved 35 = .ok (.invokestatic 108, 3) := by decide +kernel
theorem dX12_readReserved_38 : decode cX12_readReserved 38 = .ok (.iadd, 1) := by decide +kernel
theorem dX12_readReserved_39 : decode cX12_readReserved 39 = .ok (.istore_n 2, 1) := by decide +kernel
theorem dX12_readReserved_40 : decode cX12_readReserved 40 = .ok (.aload_n 0, 1) := by decide +kernel
theorem dX12_readReserved_41 : decode cX12_readReserved 41 = .ok (.invokevirtual 288, 3) := by decide +kernel
theorem dX12_readReserved_44 : decode cX12_readReserved 44 = .ok (.aload_n 0, 1) := by decide +kernel
theorem dX12_readReserved_45 : decode cX12_readReserved 45 = .ok (.iload_n 2, 1) := by decide +kernel
theorem dX12_readReserved_46 : decode cX12_readReserved 46 = .ok (.invokevirtual 307, 3) := by decide +kernel
theorem rl31 : ∀ z0, z0 < 6 → SQ (2872 + 5 * z0) := by unfold SQ; decide +kernel
theorem glV_RX12_307 : GLV RX12 307 yX12_readSequence RX12 cX12_readSequence 3 (some .boolean) 1 := ⟨⟨(mT10 17 rfl rfl), (mT10 19 rfl rfl), (mTs 83 rfl rfl), (mT1 13 rfl rfl), (mT10 20 rfl rfl)⟩, by decide +kernel⟩
theorem dX12_readReserved_49 : decode cX12_readReserved 49 = .ok (.ifCond .eq 10, 3) := by decide +kernel
theorem dX12_readReserved_59 : decode cX12_readReserved 59 = .ok (.iconst 0, 1) := by decide +kernel
theorem dX12_readReserved_60 : decode cX12_readReserved 60 = .ok (.ireturn, 1) := by decide +kernel
theorem dX12_readReserved_52 : decode cX12_readReserved 52 = .ok (.aload_n 0, 1) := by decide +kernel
theorem dX12_readReserved_53 : decode cX12_readReserved 53 = .ok (.invokevirtual 304, 3) := by decide +kernel
theorem dX12_readReserved_56 : decode cX12_readReserved 56 = .ok (.ifCond .ne 5, 3) := by decide +kernel
theorem dX12_readReserved_61 : decode cX12_readReserved 61 = .ok (.aload_n 0, 1) := by decide +kernel
theorem dX12_readReserved_62 : decode cX12_readReserved 62 = .ok (.iconst (-1), 1) := by decide +kernel
theorem dX12_readReserved_63 : decode cX12_readReserved 63 = .ok (.iload_n 2, 1) := by decide +kernel
theorem dX12_readReserved_64 : decode cX12_readReserved 64 = .ok (.invokevirtual 310, 3) := by decide +kernel
theorem glV_RX12_310 : GLV RX12 310 yX12_clashesRead RX12 cX12_clashesRead 5 (some .boolean) 2 := ⟨⟨(mT10 25 rfl rfl), (mT10 27 rfl rfl), (mTs 85 rfl rfl), (mT1 13 rfl rfl), (mT10 28 rfl rfl)⟩, by decide +kernel⟩
theorem dX12_readReserved_67 : decode cX12_readReserved 67 = .ok (.ifCond .eq 10, 3) := by decide +kernel
theorem dX12_readReserved_77 : decode cX12_readReserved 77 = .ok (.aload_n 0, 1) := by decide +kernel
theorem dX12_readReserved_78 : decode cX12_readReserved 78 = .ok (.getfield 9, 3) := by decide +kernel
theorem dX12_readReserved_81 : decode cX12_readReserved 81 = .ok (.sipush 2720, 3) := by decide +kernel
theorem dX12_readReserved_84 : decode cX12_readReserved 84 = .ok (.dup2, 1) := by decide +kernel
theorem dX12_readReserved_85 : decode cX12_readReserved 85 = .ok (.iaload, 1) := by decide +kernel
theorem dX12_readReserved_86 : decode cX12_readReserved 86 = .ok (.iconst 1, 1) := by decide +kernel
theorem dX12_readReserved_87 : decode cX12_readReserved 87 = .ok (.iadd, 1) := by decide +kernel
theorem dX12_readReserved_88 : decode cX12_readReserved 88 = .ok (.iastore, 1) := by decide +kernel
theorem dX12_readReserved_89 : decode cX12_readReserved 89 = .ok (.iconst 1, 1) := by decide +kernel
theorem dX12_readReserved_90 : decode cX12_readReserved 90 = .ok (.ireturn, 1) := by decide +kernel
theorem dX12_readReserved_70 : decode cX12_readReserved 70 = .ok (.aload_n 0, 1) := by decide +kernel
theorem dX12_readReserved_71 : decode cX12_readReserved 71 = .ok (.iconst 4, 1) := by decide +kernel
theorem dX12_readReserved_72 : decode cX12_readReserved 72 = .ok (.iload_n 1, 1) := by decide +kernel
theorem dX12_readReserved_73 : decode cX12_readReserved 73 = .ok (.invokevirtual 313, 3) := by decide +kernel
theorem glV_RX12_313 : GLV RX12 313 yX12_failAt RX12 cX12_failAt 3 (some .boolean) 2 := ⟨⟨(mT10 29 rfl rfl), (mT10 31 rfl rfl), (mTs 86 rfl rfl), (mT1 13 rfl rfl), (mT10 32 rfl rfl)⟩, by decide +kernel⟩
theorem dX12_readReserved_76 : decode cX12_readReserved 76 = .ok (.ireturn, 1) := by decide +kernel
theorem dX12_readReserved_13 : decode cX12_readReserved 13 = .ok (.aload_n 0, 1) := by decide +kernel
theorem dX12_readReserved_14 : decode cX12_readReserved 14 = .ok (.iconst 3, 1) := by decide +kernel
theorem dX12_readReserved_15 : decode cX12_readReserved 15 = .ok (.invokevirtual 291, 3) := by decide +kernel
theorem dX12_readReserved_18 : decode cX12_readReserved 18 = .ok (.ireturn, 1) := by decide +kernel
set_option maxRecDepth 100000 in
set_option maxHeartbeats 4000000 in
theorem rX12_readReserved (l : Launch) (D : va_G) (Y : Nat → ClassId) (h0 : Nat) (h1 : Nat) (h2 : Nat) (h3 : Nat) (h4 : Nat) (h5 : Nat) (h6 : Nat) (p2 : Int32) (k5 : Nat) (k6 : Nat) (p7 : Int32) (p8 : Int32) (p9 : Int32) (k10 : Nat) (p11 : Int32) (q12 : Int64) (k15 : Nat) (k16 : Nat) (f0 : Nat → Int32) (f1 : Nat → Int32) (f3 : Nat → Int32) (f4 : Nat → Int32) (f13 : Nat → Int32) (f14 : Nat → Int32) (ph : Nat → Int32) (HI : INV ph f0) (HL : k5 ≤ 1600) (HP : PLV f13)  (hx0 : k10 ≤ k6) (hx1 : k6 ≤ k5) (hx2 : (p9 = 0 ∨ k10 < k6)) (hx3 : k10 < k6) (sz : Nat) : Met l yX12_readReserved (WSm yX12_readReserved cX12_readReserved 3 (some .boolean)) (mkR 5 0 0 108) (PreC D Y [.ref h0] [(h0, oC 13 [.ref h1, .ref h2, .int p2, .ref h3, .ref h4, .int (nI k5), .int (nI k6), .int p7, .int p8, .int p9, .int (nI k10), .int p11, .long q12, .ref h5, .ref h6, .int (nI k15), .int (nI k16)]), (h1, aI Y 3640 f0), (h2, aZ Y 2 f1), (h3, aZ Y 80 f3), (h4, aB Y 1600 f4), (h5, aI Y 200 f13), (h6, aI Y 800 f14)] sz) (QI D (fun (r : Int32) (u : WU) => (r = 0 ∨ (r = 1 ∧ k10 < (u.1 1))) ∧ INV ph (u.2.2.2.1 0) ∧ k10 ≤ (u.1 1) ∧ (u.1 1) ≤ (u.1 0) ∧ (u.1 0) ≤ k5 ∧ ((u.2.1 2) = 0 ∨ (u.1 1) < (u.1 0))) (fun (u : WU) => [(h0, oC 13 [.ref h1, .ref h2, .int p2, .ref h3, .ref h4, .int (nI k5), .int (nI (u.1 0)), .int (u.2.1 0), .int (u.2.1 1), .int (u.2.1 2), .int (nI (u.1 1)), .int p11, .long (u.2.2.1 0), .ref h5, .ref h6, .int (nI k15), .int (nI k16)]), (h1, aI Y 3640 (u.2.2.2.1 0)), (h2, aZ Y 2 f1), (h3, aZ Y 80 f3), (h4, aB Y 1600 f4), (h5, aI Y 200 f13), (h6, aI Y 800 f14)]) (va_A [(h0, oC 13 [.ref h1, .ref h2, .int p2, .ref h3, .ref h4, .int (nI k5), .int (nI k6), .int p7, .int p8, .int p9, .int (nI k10), .int p11, .long q12, .ref h5, .ref h6, .int (nI k15), .int (nI k16)]), (h1, aI Y 3640 f0), (h2, aZ Y 2 f1), (h3, aZ Y 80 f3), (h4, aB Y 1600 f4), (h5, aI Y 200 f13), (h6, aI Y 800 f14)] sz)) 0 0 (va_A [(h0, oC 13 [.ref h1, .ref h2, .int p2, .ref h3, .ref h4, .int (nI k5), .int (nI k6), .int p7, .int p8, .int p9, .int (nI k10), .int p11, .long q12, .ref h5, .ref h6, .int (nI k15), .int (nI k16)]), (h1, aI Y 3640 f0), (h2, aZ Y 2 f1), (h3, aZ Y 80 f3), (h4, aB Y 1600 f4), (h5, aI Y 200 f13), (h6, aI Y 800 f14)] sz) :=
  met_of  (by decide +kernel) (Nat.le_of_ble_eq_true rfl) (fun p e s m args below meth c B hin hsz => by
    have B : VB p s m args meth c D Y (va_A [(h0, oC 13 [.ref h1, .ref h2, .int p2, .ref h3, .ref h4, .int (nI k5), .int (nI k6), .int p7, .int p8, .int p9, .int (nI k10), .int p11, .long q12, .ref h5, .ref h6, .int (nI k15), .int (nI k16)]), (h1, aI Y 3640 f0), (h2, aZ Y 2 f1), (h3, aZ Y 80 f3), (h4, aB Y 1600 f4), (h5, aI Y 200 f13), (h6, aI Y 800 f14)] sz) cX12_readReserved 3 RX12 (some .boolean) := B
    refine V_aload_n 0 B dX12_readReserved_0 0 rfl ?_
    refine V_get 1 B gf_RX12_9 0 rfl rfl dX12_readReserved_1 ?_
    refine V_sipush 4 B (v := 2720) dX12_readReserved_4 (by decide +kernel) ?_
    have x0 : (gN f0 2720) ≤ 6 := gN_le HI (by omega) (show bd 2720 = (0, ((6 : Nat) : Int)) by decide +kernel)
    refine V_iald 7 B (v := (nI (gN f0 2720))) 1 rfl (vpin _ _ (by decide +kernel)) dX12_readReserved_7 (by show f0 2720 = _; exact gN_eq HI (by omega) (show bd 2720 = (0, ((6 : Nat) : Int)) by decide +kernel)) ?_
    refine V_bipush 8 B (v := 6) dX12_readReserved_8 (by decide +kernel) ?_
    refine V_icmp_ne 10 B 19 dX12_readReserved_10 (by decide) (fun kk1 => ?_) (fun kk1 => ?_)
    ·
      have x2 := n_ne (a := (gN f0 2720)) (b := 6) kk1
      refine V_aload_n 19 B dX12_readReserved_19 0 rfl ?_
      refine V_get 20 B gf_RX12_270 0 rfl rfl dX12_readReserved_20 ?_
      refine V_istore_n 23 B (lv2 := [(1, .int (nI k10)), (0, .ref h0)]) dX12_readReserved_23 (by decide) rfl ?_
      refine V_sipush 24 B (v := 2718) dX12_readReserved_24 (by decide +kernel) ?_
      refine V_aload_n 27 B dX12_readReserved_27 1 rfl ?_
      refine V_get 28 B gf_RX12_9 0 rfl rfl dX12_readReserved_28 ?_
      refine V_sipush 31 B (v := 2720) dX12_readReserved_31 (by decide +kernel) ?_
      have x3 : (gN f0 2720) ≤ 6 := gN_le HI (by omega) (show bd 2720 = (0, ((6 : Nat) : Int)) by decide +kernel)
      refine V_iald 34 B (v := (nI (gN f0 2720))) 1 rfl (vpin _ _ (by decide +kernel)) dX12_readReserved_34 (by show f0 2720 = _; exact gN_eq HI (by omega) (show bd 2720 = (0, ((6 : Nat) : Int)) by decide +kernel)) ?_
      refine V_csi 35 B (st := [.int 2718]) (As := [.int (nI (gN f0 2720))]) (fun sz => rX12_reservedAt l D Y (gN f0 2720) (by omega) sz) glS_RX12_108 ⟨rfl, rfl⟩ ⟨(Nat.le_of_ble_eq_true rfl), (Nat.le_of_ble_eq_true rfl)⟩ ⟨(Nat.le_of_ble_eq_true rfl), (Nat.le_of_ble_eq_true rfl)⟩ [] rfl rfl (Nat.le_of_ble_eq_true rfl) rfl (fun _ _ _ => rfl) dX12_readReserved_35 (fun j4 u5 w6 => ?_)
      refine V_ws [(h0, oC 13 [.ref h1, .ref h2, .int p2, .ref h3, .ref h4, .int (nI k5), .int (nI k6), .int p7, .int p8, .int p9, .int (nI k10), .int p11, .long q12, .ref h5, .ref h6, .int (nI k15), .int (nI k16)]), (h1, aI Y 3640 f0), (h2, aZ Y 2 f1), (h3, aZ Y 80 f3), (h4, aB Y 1600 f4), (h5, aI Y 200 f13), (h6, aI Y 800 f14)] rfl ?_
      have x7 := w6
      clear w6
      obtain rfl := x7
      refine V_iadd 38 B (v := (nI (2872 + 5 * (gN f0 2720)))) dX12_readReserved_38 (nI_addE (a := 2718) (b := 154 + 5 * (gN f0 2720)) (by omega)) ?_
      refine V_istore_n 39 B (lv2 := [(2, .int (nI (2872 + 5 * (gN f0 2720)))), (1, .int (nI k10)), (0, .ref h0)]) dX12_readReserved_39 (by decide) rfl ?_
      refine V_aload_n 40 B dX12_readReserved_40 2 rfl ?_
      refine V_cvv 41 B (st := []) (As := []) (fun sz => rX12_advance l D Y h0 h1 h2 h3 h4 h5 h6 p2 k5 k6 p7 p8 p9 k10 p11 q12 k15 k16 f0 f1 f3 f4 f13 f14 ph HI (by omega) HP (by omega) sz) glV_RX12_288 ⟨rfl, rfl⟩ ⟨(Nat.le_of_ble_eq_true rfl), (Nat.le_of_ble_eq_true rfl)⟩ ⟨(Nat.le_of_ble_eq_true rfl), (Nat.le_of_ble_eq_true rfl)⟩ [0, 0, 0, 0, 0, 0, 0] rfl 13 0 rfl rfl rfl rfl (Nat.le_of_ble_eq_true rfl) rfl (fun _ _ => rfl) dX12_readReserved_41 (fun u9 w10 => ?_)
      refine V_ws [(h0, oC 13 [.ref h1, .ref h2, .int p2, .ref h3, .ref h4, .int (nI k5), .int (nI (u9.1 0)), .int p7, .int p8, .int (u9.2.1 0), .int (nI (u9.1 1)), .int p11, .long (u9.2.2.1 0), .ref h5, .ref h6, .int (nI k15), .int (nI k16)]), (h1, aI Y 3640 f0), (h2, aZ Y 2 f1), (h3, aZ Y 80 f3), (h4, aB Y 1600 f4), (h5, aI Y 200 f13), (h6, aI Y 800 f14)] rfl ?_
      obtain ⟨x11, x12, x13, x14⟩ := w10
      refine V_aload_n 44 B dX12_readReserved_44 2 rfl ?_
      refine V_iload_n 45 B dX12_readReserved_45 0 rfl ?_
      refine V_cvi 46 B (st := []) (As := [.int (nI (2872 + 5 * (gN f0 2720)))]) (fun sz => rX12_readSequence l D Y h0 h1 h2 h3 h4 h5 h6 p2 k5 (u9.1 0) p7 p8 (u9.2.1 0) (u9.1 1) p11 (u9.2.2.1 0) k15 k16 f0 f1 f3 f4 f13 f14 ph HI (by omega) HP (2872 + 5 * (gN f0 2720)) (rl31 (gN f0 2720) (by omega)) (by omega) (by omega) (by first | assumption | exact Or.inl rfl | exact Or.inr (by omega)) sz) glV_RX12_307 ⟨rfl, rfl⟩ ⟨(Nat.le_of_ble_eq_true rfl), (Nat.le_of_ble_eq_true rfl)⟩ ⟨(Nat.le_of_ble_eq_true rfl), (Nat.le_of_ble_eq_true rfl)⟩ [0, 0, 0, 0, 0, 0, 0] rfl 13 0 rfl rfl rfl rfl (Nat.le_of_ble_eq_true rfl) rfl (fun _ _ _ => rfl) dX12_readReserved_46 (fun j15 u16 w17 => ?_)
      refine V_ws [(h0, oC 13 [.ref h1, .ref h2, .int p2, .ref h3, .ref h4, .int (nI k5), .int (nI (u16.1 0)), .int (u16.2.1 0), .int (u16.2.1 1), .int (u16.2.1 2), .int (nI (u16.1 1)), .int p11, .long (u16.2.2.1 0), .ref h5, .ref h6, .int (nI k15), .int (nI k16)]), (h1, aI Y 3640 (u16.2.2.2.1 0)), (h2, aZ Y 2 f1), (h3, aZ Y 80 f3), (h4, aB Y 1600 f4), (h5, aI Y 200 f13), (h6, aI Y 800 f14)] rfl ?_
      obtain ⟨x18, x19, x20, x21, x22, x23, x24⟩ := w17
      rcases x18 with rfl | ⟨rfl, x25⟩
      ·
        refine V_if_eq_t 49 B 59 dX12_readReserved_49 (by decide) (by decide +kernel) ?_
        refine V_iconst 59 B (v := 0) dX12_readReserved_59 (by decide +kernel) ?_
        exact V_zret 60 B rfl dX12_readReserved_60 (mkW [(u16.1 0), (u16.1 1)] [(u16.2.1 0), (u16.2.1 1), (u16.2.1 2)] [(u16.2.2.1 0)] [(u16.2.2.2.1 0)] [] []) ⟨(Or.inl rfl), x19, (show k10 ≤ (u16.1 1) by omega), (show (u16.1 1) ≤ (u16.1 0) by omega), (show (u16.1 0) ≤ k5 by omega), (show ((u16.2.1 2) = 0 ∨ (u16.1 1) < (u16.1 0)) by first | assumption | exact Or.inr (by omega))⟩ rfl
      ·
        refine V_if_eq_f 49 B 59 dX12_readReserved_49 (by decide) (by decide +kernel) ?_
        refine V_aload_n 52 B dX12_readReserved_52 2 rfl ?_
        refine V_cvi 53 B (st := []) (As := []) (fun sz => rX12_readEnd l D Y h0 h1 h2 h3 h4 h5 h6 p2 k5 (u16.1 0) (u16.2.1 0) (u16.2.1 1) (u16.2.1 2) (u16.1 1) p11 (u16.2.2.1 0) k15 k16 (u16.2.2.2.1 0) f1 f3 f4 f13 f14 ph x19 (by omega) HP (by omega) (by omega) (by first | assumption | exact Or.inl rfl | exact Or.inr (by omega)) sz) glV_RX12_304 ⟨rfl, rfl⟩ ⟨(Nat.le_of_ble_eq_true rfl), (Nat.le_of_ble_eq_true rfl)⟩ ⟨(Nat.le_of_ble_eq_true rfl), (Nat.le_of_ble_eq_true rfl)⟩ [0, 0, 0, 0, 0, 0, 0] rfl 13 0 rfl rfl rfl rfl (Nat.le_of_ble_eq_true rfl) rfl (fun _ _ _ => rfl) dX12_readReserved_53 (fun j26 u27 w28 => ?_)
        refine V_ws [(h0, oC 13 [.ref h1, .ref h2, .int p2, .ref h3, .ref h4, .int (nI k5), .int (nI (u27.1 0)), .int (u27.2.1 0), .int (u27.2.1 1), .int (u27.2.1 2), .int (nI (u27.1 1)), .int p11, .long (u27.2.2.1 0), .ref h5, .ref h6, .int (nI k15), .int (nI k16)]), (h1, aI Y 3640 (u16.2.2.2.1 0)), (h2, aZ Y 2 f1), (h3, aZ Y 80 f3), (h4, aB Y 1600 f4), (h5, aI Y 200 f13), (h6, aI Y 800 f14)] rfl ?_
        obtain ⟨x29, x30, x31, x32, x33⟩ := w28
        rcases x29 with rfl | ⟨rfl, x34⟩
        ·
          refine V_if_ne_f 56 B 61 dX12_readReserved_56 (by decide) (by decide +kernel) ?_
          refine V_iconst 59 B (v := 0) dX12_readReserved_59 (by decide +kernel) ?_
          exact V_zret 60 B rfl dX12_readReserved_60 (mkW [(u27.1 0), (u27.1 1)] [(u27.2.1 0), (u27.2.1 1), (u27.2.1 2)] [(u27.2.2.1 0)] [(u16.2.2.2.1 0)] [] []) ⟨(Or.inl rfl), x19, (show k10 ≤ (u27.1 1) by omega), (show (u27.1 1) ≤ (u27.1 0) by omega), (show (u27.1 0) ≤ k5 by omega), (show ((u27.2.1 2) = 0 ∨ (u27.1 1) < (u27.1 0)) by first | assumption | exact Or.inr (by omega))⟩ rfl
        ·
          refine V_if_ne_t 56 B 61 dX12_readReserved_56 (by decide) (by decide +kernel) ?_
          refine V_aload_n 61 B dX12_readReserved_61 2 rfl ?_
          refine V_iconst 62 B (v := (-1)) dX12_readReserved_62 (by decide +kernel) ?_
          refine V_iload_n 63 B dX12_readReserved_63 0 rfl ?_
          refine V_cvi 64 B (st := []) (As := [.int (-1), .int (nI (2872 + 5 * (gN f0 2720)))]) (fun sz => rX12_clashesRead l D Y h0 h1 h2 h3 h4 h5 h6 p2 k5 (u27.1 0) (u27.2.1 0) (u27.2.1 1) (u27.2.1 2) (u27.1 1) p11 (u27.2.2.1 0) k15 k16 (u16.2.2.2.1 0) f1 f3 f4 f13 f14 ph x19 (by omega) HP (-1) (2872 + 5 * (gN f0 2720)) (rl31 (gN f0 2720) (by omega)) sz) glV_RX12_310 ⟨rfl, rfl⟩ ⟨(Nat.le_of_ble_eq_true rfl), (Nat.le_of_ble_eq_true rfl)⟩ ⟨(Nat.le_of_ble_eq_true rfl), (Nat.le_of_ble_eq_true rfl)⟩ [0, 0, 0, 0, 0, 0, 0] rfl 13 0 rfl rfl rfl rfl (Nat.le_of_ble_eq_true rfl) rfl (fun _ _ _ => rfl) dX12_readReserved_64 (fun j35 u36 w37 => ?_)
          refine V_ws [(h0, oC 13 [.ref h1, .ref h2, .int p2, .ref h3, .ref h4, .int (nI k5), .int (nI (u27.1 0)), .int (u27.2.1 0), .int (u27.2.1 1), .int (u27.2.1 2), .int (nI (u27.1 1)), .int p11, .long (u27.2.2.1 0), .ref h5, .ref h6, .int (nI k15), .int (nI k16)]), (h1, aI Y 3640 (u16.2.2.2.1 0)), (h2, aZ Y 2 f1), (h3, aZ Y 80 f3), (h4, aB Y 1600 f4), (h5, aI Y 200 f13), (h6, aI Y 800 f14)] rfl ?_
          have x38 := w37
          clear w37
          rcases x38 with rfl | rfl
          ·
            refine V_if_eq_t 67 B 77 dX12_readReserved_67 (by decide) (by decide +kernel) ?_
            refine V_aload_n 77 B dX12_readReserved_77 2 rfl ?_
            refine V_get 78 B gf_RX12_9 0 rfl rfl dX12_readReserved_78 ?_
            refine V_sipush 81 B (v := 2720) dX12_readReserved_81 (by decide +kernel) ?_
            refine V_dup2_11 84 B dX12_readReserved_84 rfl rfl ?_
            have x39 : (gN f0 2720) ≤ 6 := gN_le HI (by omega) (show bd 2720 = (0, ((6 : Nat) : Int)) by decide +kernel)
            refine V_iald 85 B (v := (nI (gN f0 2720))) 1 rfl (vpin _ _ (by decide +kernel)) dX12_readReserved_85 (by show (u16.2.2.2.1 0) 2720 = _; rw [x24 _ (by omega)]; exact gN_eq HI (by omega) (show bd 2720 = (0, ((6 : Nat) : Int)) by decide +kernel)) ?_
            refine V_iconst 86 B (v := 1) dX12_readReserved_86 (by decide +kernel) ?_
            refine V_iadd 87 B (v := (nI (1 + (gN f0 2720)))) dX12_readReserved_87 (nI_addE (a := (gN f0 2720)) (b := 1) (by omega)) ?_
            have hv40 : INV ph (upd (u16.2.2.2.1 0) 2720 (nI (1 + (gN f0 2720)))) := INV_nat (v := 1 + (gN f0 2720)) x19 (show bd 2720 = (0, ((6 : Nat) : Int)) by decide +kernel) (by omega) (by decide)
            refine V_iast 88 B 1 rfl (vpin _ _ (by decide +kernel)) dX12_readReserved_88 [(h0, oC 13 [.ref h1, .ref h2, .int p2, .ref h3, .ref h4, .int (nI k5), .int (nI (u27.1 0)), .int (u27.2.1 0), .int (u27.2.1 1), .int (u27.2.1 2), .int (nI (u27.1 1)), .int p11, .long (u27.2.2.1 0), .ref h5, .ref h6, .int (nI k15), .int (nI k16)]), (h1, aI Y 3640 (upd (u16.2.2.2.1 0) 2720 (nI (1 + (gN f0 2720))))), (h2, aZ Y 2 f1), (h3, aZ Y 80 f3), (h4, aB Y 1600 f4), (h5, aI Y 200 f13), (h6, aI Y 800 f14)] rfl ?_
            refine V_iconst 89 B (v := 1) dX12_readReserved_89 (by decide +kernel) ?_
            exact V_zret 90 B rfl dX12_readReserved_90 (mkW [(u27.1 0), (u27.1 1)] [(u27.2.1 0), (u27.2.1 1), (u27.2.1 2)] [(u27.2.2.1 0)] [(upd (u16.2.2.2.1 0) 2720 (nI (1 + (gN f0 2720))))] [] []) ⟨(Or.inr ⟨rfl, (show k10 < (u27.1 1) by omega)⟩), hv40, (show k10 ≤ (u27.1 1) by omega), (show (u27.1 1) ≤ (u27.1 0) by omega), (show (u27.1 0) ≤ k5 by omega), (show ((u27.2.1 2) = 0 ∨ (u27.1 1) < (u27.1 0)) by first | assumption | exact Or.inr (by omega))⟩ rfl
          ·
            refine V_if_eq_f 67 B 77 dX12_readReserved_67 (by decide) (by decide +kernel) ?_
            refine V_aload_n 70 B dX12_readReserved_70 2 rfl ?_
            refine V_iconst 71 B (v := 4) dX12_readReserved_71 (by decide +kernel) ?_
            refine V_iload_n 72 B dX12_readReserved_72 1 rfl ?_
            refine V_cvi 73 B (st := []) (As := [.int 4, .int (nI k10)]) (fun sz => rX12_failAt l D Y h0 h1 h2 h3 h4 h5 h6 p2 k5 (u27.1 0) (u27.2.1 0) (u27.2.1 1) (u27.2.1 2) (u27.1 1) p11 (u27.2.2.1 0) k15 k16 (u16.2.2.2.1 0) f1 f3 f4 f13 f14 ph x19 (by omega) HP 4 (nI k10) sz) glV_RX12_313 ⟨rfl, rfl⟩ ⟨(Nat.le_of_ble_eq_true rfl), (Nat.le_of_ble_eq_true rfl)⟩ ⟨(Nat.le_of_ble_eq_true rfl), (Nat.le_of_ble_eq_true rfl)⟩ [0, 0, 0, 0, 0, 0, 0] rfl 13 0 rfl rfl rfl rfl (Nat.le_of_ble_eq_true rfl) rfl (fun _ _ _ => rfl) dX12_readReserved_73 (fun j41 u42 w43 => ?_)
            refine V_ws [(h0, oC 13 [.ref h1, .ref h2, .int p2, .ref h3, .ref h4, .int (nI k5), .int (nI (u27.1 0)), .int (u42.2.1 0), .int (u42.2.1 1), .int (u27.2.1 2), .int (nI (u27.1 1)), .int p11, .long (u27.2.2.1 0), .ref h5, .ref h6, .int (nI k15), .int (nI k16)]), (h1, aI Y 3640 (u16.2.2.2.1 0)), (h2, aZ Y 2 f1), (h3, aZ Y 80 f3), (h4, aB Y 1600 f4), (h5, aI Y 200 f13), (h6, aI Y 800 f14)] rfl ?_
            have x44 := w43
            clear w43
            obtain rfl := x44
            exact V_zret 76 B rfl dX12_readReserved_76 (mkW [(u27.1 0), (u27.1 1)] [(u42.2.1 0), (u42.2.1 1), (u27.2.1 2)] [(u27.2.2.1 0)] [(u16.2.2.2.1 0)] [] []) ⟨(Or.inl rfl), x19, (show k10 ≤ (u27.1 1) by omega), (show (u27.1 1) ≤ (u27.1 0) by omega), (show (u27.1 0) ≤ k5 by omega), (show ((u27.2.1 2) = 0 ∨ (u27.1 1) < (u27.1 0)) by first | assumption | exact Or.inr (by omega))⟩ rfl
    ·
      have x45 := n_eq (a := (gN f0 2720)) (b := 6) kk1 (by omega) (by omega)
      refine V_aload_n 13 B dX12_readReserved_13 0 rfl ?_
      refine V_iconst 14 B (v := 3) dX12_readReserved_14 (by decide +kernel) ?_
      refine V_cvi 15 B (st := []) (As := [.int 3]) (fun sz => rX12_fail l D Y h0 h1 h2 h3 h4 h5 h6 p2 k5 k6 p7 p8 p9 k10 p11 q12 k15 k16 f0 f1 f3 f4 f13 f14 ph HI (by omega) HP 3 sz) glV_RX12_291 ⟨rfl, rfl⟩ ⟨(Nat.le_of_ble_eq_true rfl), (Nat.le_of_ble_eq_true rfl)⟩ ⟨(Nat.le_of_ble_eq_true rfl), (Nat.le_of_ble_eq_true rfl)⟩ [0, 0, 0, 0, 0, 0, 0] rfl 13 0 rfl rfl rfl rfl (Nat.le_of_ble_eq_true rfl) rfl (fun _ _ _ => rfl) dX12_readReserved_15 (fun j46 u47 w48 => ?_)
      refine V_ws [(h0, oC 13 [.ref h1, .ref h2, .int p2, .ref h3, .ref h4, .int (nI k5), .int (nI k6), .int (u47.2.1 0), .int (u47.2.1 1), .int p9, .int (nI k10), .int p11, .long q12, .ref h5, .ref h6, .int (nI k15), .int (nI k16)]), (h1, aI Y 3640 f0), (h2, aZ Y 2 f1), (h3, aZ Y 80 f3), (h4, aB Y 1600 f4), (h5, aI Y 200 f13), (h6, aI Y 800 f14)] rfl ?_
      have x49 := w48
      clear w48
      obtain rfl := x49
      exact V_zret 18 B rfl dX12_readReserved_18 (mkW [k6, k10] [(u47.2.1 0), (u47.2.1 1), p9] [q12] [f0] [] []) ⟨(Or.inl rfl), HI, (show k10 ≤ k10 by omega), (show k10 ≤ k6 by omega), (show k6 ≤ k5 by omega), (show (p9 = 0 ∨ k10 < k6) by first | assumption | exact Or.inr (by omega))⟩ rfl)
theorem dX12_readBinding_0 : decode cX12_readBinding 0 = .ok (.aload_n 0, 1) := by decide +kernel
theorem dX12_readBinding_1 : decode cX12_readBinding 1 = .ok (.getfield 9, 3) := by decide +kernel
theorem dX12_readBinding_4 : decode cX12_readBinding 4 = .ok (.sipush 2721, 3) := by decide +kernel
theorem dX12_readBinding_7 : decode cX12_readBinding 7 = .ok (.iaload, 1) := by decide +kernel
theorem dX12_readBinding_8 : decode cX12_readBinding 8 = .ok (.bipush 80, 2) := by decide +kernel
theorem dX12_readBinding_10 : decode cX12_readBinding 10 = .ok (.if_icmp .ne 9, 3) := by decide +kernel
theorem dX12_readBinding_19 : decode cX12_readBinding 19 = .ok (.aload_n 0, 1) := by decide +kernel
theorem dX12_readBinding_20 : decode cX12_readBinding 20 = .ok (.getfield 270, 3) := by decide +kernel
theorem dX12_readBinding_23 : decode cX12_readBinding 23 = .ok (.istore_n 1, 1) := by decide +kernel
theorem dX12_readBinding_24 : decode cX12_readBinding 24 = .ok (.sipush 2718, 3) := by decide +kernel
theorem dX12_readBinding_27 : decode cX12_readBinding 27 = .ok (.aload_n 0, 1) := by decide +kernel
theorem dX12_readBinding_28 : decode cX12_readBinding 28 = .ok (.getfield 9, 3) := by decide +kernel
theorem dX12_readBinding_31 : decode cX12_readBinding 31 = .ok (.sipush 2721, 3) := by decide +kernel
theorem dX12_readBinding_34 : decode cX12_readBinding 34 = .ok (.iaload, 1) := by decide +kernel
theorem dX12_readBinding_35 : decode cX12_readBinding 35 = .ok (.invokestatic 79, 3) := by decide +kernel
theorem dX12_readBinding_38 : decode cX12_readBinding 38 = .ok (.iadd, 1) := by decide +kernel
theorem dX12_readBinding_39 : decode cX12_readBinding 39 = .ok (.istore_n 2, 1) := by decide +kernel
theorem dX12_readBinding_40 : decode cX12_readBinding 40 = .ok (.aload_n 0, 1) := by decide +kernel
theorem dX12_readBinding_41 : decode cX12_readBinding 41 = .ok (.invokevirtual 288, 3) := by decide +kernel
theorem dX12_readBinding_44 : decode cX12_readBinding 44 = .ok (.aload_n 0, 1) := by decide +kernel
theorem dX12_readBinding_45 : decode cX12_readBinding 45 = .ok (.iconst 0, 1) := by decide +kernel
theorem dX12_readBinding_46 : decode cX12_readBinding 46 = .ok (.aload_n 0, 1) := by decide +kernel
theorem dX12_readBinding_47 : decode cX12_readBinding 47 = .ok (.getfield 9, 3) := by decide +kernel
theorem dX12_readBinding_50 : decode cX12_readBinding 50 = .ok (.sipush 2718, 3) := by decide +kernel
theorem dX12_readBinding_53 : decode cX12_readBinding 53 = .ok (.iaload, 1) := by decide +kernel
theorem dX12_readBinding_54 : decode cX12_readBinding 54 = .ok (.iconst 1, 1) := by decide +kernel
theorem dX12_readBinding_55 : decode cX12_readBinding 55 = .ok (.isub, 1) := by decide +kernel
theorem dX12_readBinding_56 : decode cX12_readBinding 56 = .ok (.invokevirtual 301, 3) := by decide +kernel
theorem dX12_readBinding_59 : decode cX12_readBinding 59 = .ok (.ifCond .ne 5, 3) := by decide +kernel
theorem dX12_readBinding_62 : decode cX12_readBinding 62 = .ok (.iconst 0, 1) := by decide +kernel
theorem dX12_readBinding_63 : decode cX12_readBinding 63 = .ok (.ireturn, 1) := by decide +kernel
theorem dX12_readBinding_64 : decode cX12_readBinding 64 = .ok (.aload_n 0, 1) := by decide +kernel
theorem dX12_readBinding_65 : decode cX12_readBinding 65 = .ok (.getfield 9, 3) := by decide +kernel
theorem dX12_readBinding_68 : decode cX12_readBinding 68 = .ok (.iload_n 2, 1) := by decide +kernel
theorem dX12_readBinding_69 : decode cX12_readBinding 69 = .ok (.iconst 0, 1) := by decide +kernel
theorem dX12_readBinding_70 : decode cX12_readBinding 70 = .ok (.iadd, 1) := by decide +kernel
theorem dX12_readBinding_71 : decode cX12_readBinding 71 = .ok (.aload_n 0, 1) := by decide +kernel
theorem dX12_readBinding_72 : decode cX12_readBinding 72 = .ok (.getfield 294, 3) := by decide +kernel
theorem dX12_readBinding_75 : decode cX12_readBinding 75 = .ok (.iastore, 1) := by decide +kernel
theorem dX12_readBinding_76 : decode cX12_readBinding 76 = .ok (.aload_n 0, 1) := by decide +kernel
theorem dX12_readBinding_77 : decode cX12_readBinding 77 = .ok (.iconst 0, 1) := by decide +kernel
theorem dX12_readBinding_78 : decode cX12_readBinding 78 = .ok (.aload_n 0, 1) := by decide +kernel
theorem dX12_readBinding_79 : decode cX12_readBinding 79 = .ok (.getfield 9, 3) := by decide +kernel
theorem dX12_readBinding_82 : decode cX12_readBinding 82 = .ok (.sipush 2719, 3) := by decide +kernel
theorem dX12_readBinding_85 : decode cX12_readBinding 85 = .ok (.iaload, 1) := by decide +kernel
theorem dX12_readBinding_86 : decode cX12_readBinding 86 = .ok (.iconst 1, 1) := by decide +kernel
theorem dX12_readBinding_87 : decode cX12_readBinding 87 = .ok (.isub, 1) := by decide +kernel
theorem dX12_readBinding_88 : decode cX12_readBinding 88 = .ok (.invokevirtual 301, 3) := by decide +kernel
theorem dX12_readBinding_91 : decode cX12_readBinding 91 = .ok (.ifCond .ne 5, 3) := by decide +kernel
theorem dX12_readBinding_94 : decode cX12_readBinding 94 = .ok (.iconst 0, 1) := by decide +kernel
theorem dX12_readBinding_95 : decode cX12_readBinding 95 = .ok (.ireturn, 1) := by decide +kernel
theorem dX12_readBinding_96 : decode cX12_readBinding 96 = .ok (.aload_n 0, 1) := by decide +kernel
theorem dX12_readBinding_97 : decode cX12_readBinding 97 = .ok (.getfield 9, 3) := by decide +kernel
theorem dX12_readBinding_100 : decode cX12_readBinding 100 = .ok (.iload_n 2, 1) := by decide +kernel
theorem dX12_readBinding_101 : decode cX12_readBinding 101 = .ok (.iconst 1, 1) := by decide +kernel
theorem dX12_readBinding_102 : decode cX12_readBinding 102 = .ok (.iadd, 1) := by decide +kernel
theorem dX12_readBinding_103 : decode cX12_readBinding 103 = .ok (.aload_n 0, 1) := by decide +kernel
theorem dX12_readBinding_104 : decode cX12_readBinding 104 = .ok (.getfield 294, 3) := by decide +kernel
theorem dX12_readBinding_107 : decode cX12_readBinding 107 = .ok (.iastore, 1) := by decide +kernel
theorem rl32 : ∀ z0, z0 < 80 → bd (2903 + 7 * z0) = (0, ((39 : Nat) : Int)) := by decide +kernel
theorem dX12_readBinding_108 : decode cX12_readBinding 108 = .ok (.aload_n 0, 1) := by decide +kernel
theorem dX12_readBinding_109 : decode cX12_readBinding 109 = .ok (.iload_n 2, 1) := by decide +kernel
theorem dX12_readBinding_110 : decode cX12_readBinding 110 = .ok (.iconst 2, 1) := by decide +kernel
theorem dX12_readBinding_111 : decode cX12_readBinding 111 = .ok (.iadd, 1) := by decide +kernel
theorem dX12_readBinding_112 : decode cX12_readBinding 112 = .ok (.invokevirtual 307, 3) := by decide +kernel
theorem dX12_readBinding_115 : decode cX12_readBinding 115 = .ok (.ifCond .eq 10, 3) := by decide +kernel
theorem dX12_readBinding_125 : decode cX12_readBinding 125 = .ok (.iconst 0, 1) := by decide +kernel
theorem dX12_readBinding_126 : decode cX12_readBinding 126 = .ok (.ireturn, 1) := by decide +kernel
theorem dX12_readBinding_118 : decode cX12_readBinding 118 = .ok (.aload_n 0, 1) := by decide +kernel
theorem dX12_readBinding_119 : decode cX12_readBinding 119 = .ok (.invokevirtual 304, 3) := by decide +kernel
theorem dX12_readBinding_122 : decode cX12_readBinding 122 = .ok (.ifCond .ne 5, 3) := by decide +kernel
theorem dX12_readBinding_127 : decode cX12_readBinding 127 = .ok (.aload_n 0, 1) := by decide +kernel
theorem dX12_readBinding_128 : decode cX12_readBinding 128 = .ok (.aload_n 0, 1) := by decide +kernel
theorem dX12_readBinding_129 : decode cX12_readBinding 129 = .ok (.getfield 9, 3) := by decide +kernel
theorem dX12_readBinding_132 : decode cX12_readBinding 132 = .ok (.iload_n 2, 1) := by decide +kernel
theorem dX12_readBinding_133 : decode cX12_readBinding 133 = .ok (.iconst 0, 1) := by decide +kernel
theorem dX12_readBinding_134 : decode cX12_readBinding 134 = .ok (.iadd, 1) := by decide +kernel
theorem dX12_readBinding_135 : decode cX12_readBinding 135 = .ok (.iaload, 1) := by decide +kernel
theorem dX12_readBinding_136 : decode cX12_readBinding 136 = .ok (.iload_n 2, 1) := by decide +kernel
theorem dX12_readBinding_137 : decode cX12_readBinding 137 = .ok (.iconst 2, 1) := by decide +kernel
theorem dX12_readBinding_138 : decode cX12_readBinding 138 = .ok (.iadd, 1) := by decide +kernel
theorem dX12_readBinding_139 : decode cX12_readBinding 139 = .ok (.invokevirtual 310, 3) := by decide +kernel
theorem dX12_readBinding_142 : decode cX12_readBinding 142 = .ok (.istore_n 3, 1) := by decide +kernel
theorem dX12_readBinding_143 : decode cX12_readBinding 143 = .ok (.iconst 0, 1) := by decide +kernel
theorem dX12_readBinding_144 : decode cX12_readBinding 144 = .ok (.istore 4, 2) := by decide +kernel
theorem dX12_readBinding_146 : decode cX12_readBinding 146 = .ok (.iload 4, 2) := by decide +kernel
theorem dX12_readBinding_148 : decode cX12_readBinding 148 = .ok (.aload_n 0, 1) := by decide +kernel
theorem dX12_readBinding_149 : decode cX12_readBinding 149 = .ok (.getfield 9, 3) := by decide +kernel
theorem dX12_readBinding_152 : decode cX12_readBinding 152 = .ok (.sipush 2720, 3) := by decide +kernel
theorem dX12_readBinding_155 : decode cX12_readBinding 155 = .ok (.iaload, 1) := by decide +kernel
theorem dX12_readBinding_156 : decode cX12_readBinding 156 = .ok (.if_icmp .ge 28, 3) := by decide +kernel
theorem dX12_readBinding_184 : decode cX12_readBinding 184 = .ok (.iload_n 3, 1) := by decide +kernel
theorem dX12_readBinding_185 : decode cX12_readBinding 185 = .ok (.ifCond .eq 10, 3) := by decide +kernel
theorem dX12_readBinding_195 : decode cX12_readBinding 195 = .ok (.aload_n 0, 1) := by decide +kernel
theorem dX12_readBinding_196 : decode cX12_readBinding 196 = .ok (.getfield 9, 3) := by decide +kernel
theorem dX12_readBinding_199 : decode cX12_readBinding 199 = .ok (.sipush 2721, 3) := by decide +kernel
theorem dX12_readBinding_202 : decode cX12_readBinding 202 = .ok (.dup2, 1) := by decide +kernel
theorem dX12_readBinding_203 : decode cX12_readBinding 203 = .ok (.iaload, 1) := by decide +kernel
theorem dX12_readBinding_204 : decode cX12_readBinding 204 = .ok (.iconst 1, 1) := by decide +kernel
theorem dX12_readBinding_205 : decode cX12_readBinding 205 = .ok (.iadd, 1) := by decide +kernel
theorem dX12_readBinding_206 : decode cX12_readBinding 206 = .ok (.iastore, 1) := by decide +kernel
theorem dX12_readBinding_207 : decode cX12_readBinding 207 = .ok (.iconst 1, 1) := by decide +kernel
theorem dX12_readBinding_208 : decode cX12_readBinding 208 = .ok (.ireturn, 1) := by decide +kernel
theorem dX12_readBinding_159 : decode cX12_readBinding 159 = .ok (.iload_n 3, 1) := by decide +kernel
theorem dX12_readBinding_160 : decode cX12_readBinding 160 = .ok (.aload_n 0, 1) := by decide +kernel
theorem dX12_readBinding_161 : decode cX12_readBinding 161 = .ok (.sipush 2718, 3) := by decide +kernel
theorem dX12_readBinding_164 : decode cX12_readBinding 164 = .ok (.iload 4, 2) := by decide +kernel
theorem dX12_readBinding_166 : decode cX12_readBinding 166 = .ok (.invokestatic 108, 3) := by decide +kernel
theorem dX12_readBinding_169 : decode cX12_readBinding 169 = .ok (.iadd, 1) := by decide +kernel
theorem dX12_readBinding_170 : decode cX12_readBinding 170 = .ok (.iload_n 2, 1) := by decide +kernel
theorem dX12_readBinding_171 : decode cX12_readBinding 171 = .ok (.iconst 2, 1) := by decide +kernel
theorem dX12_readBinding_172 : decode cX12_readBinding 172 = .ok (.iadd, 1) := by decide +kernel
theorem dX12_readBinding_173 : decode cX12_readBinding 173 = .ok (.invokevirtual 111, 3) := by decide +kernel
theorem dX12_readBinding_176 : decode cX12_readBinding 176 = .ok (.ior, 1) := by decide +kernel
theorem dX12_readBinding_177 : decode cX12_readBinding 177 = .ok (.istore_n 3, 1) := by decide +kernel
theorem dX12_readBinding_178 : decode cX12_readBinding 178 = .ok (.iinc 4 1, 3) := by decide +kernel
theorem dX12_readBinding_181 : decode cX12_readBinding 181 = .ok (.goto (-35), 3) := by decide +kernel
theorem dX12_readBinding_188 : decode cX12_readBinding 188 = .ok (.aload_n 0, 1) := by decide +kernel
theorem dX12_readBinding_189 : decode cX12_readBinding 189 = .ok (.iconst 4, 1) := by decide +kernel
theorem dX12_readBinding_190 : decode cX12_readBinding 190 = .ok (.iload_n 1, 1) := by decide +kernel
theorem dX12_readBinding_191 : decode cX12_readBinding 191 = .ok (.invokevirtual 313, 3) := by decide +kernel
theorem dX12_readBinding_194 : decode cX12_readBinding 194 = .ok (.ireturn, 1) := by decide +kernel
theorem dX12_readBinding_13 : decode cX12_readBinding 13 = .ok (.aload_n 0, 1) := by decide +kernel
theorem dX12_readBinding_14 : decode cX12_readBinding 14 = .ok (.iconst 3, 1) := by decide +kernel
theorem dX12_readBinding_15 : decode cX12_readBinding 15 = .ok (.invokevirtual 291, 3) := by decide +kernel
theorem dX12_readBinding_18 : decode cX12_readBinding 18 = .ok (.ireturn, 1) := by decide +kernel
set_option maxRecDepth 100000 in
set_option maxHeartbeats 4000000 in
theorem rX12_readBinding (l : Launch) (D : va_G) (Y : Nat → ClassId) (h0 : Nat) (h1 : Nat) (h2 : Nat) (h3 : Nat) (h4 : Nat) (h5 : Nat) (h6 : Nat) (p2 : Int32) (k5 : Nat) (k6 : Nat) (p7 : Int32) (p8 : Int32) (p9 : Int32) (k10 : Nat) (p11 : Int32) (q12 : Int64) (k15 : Nat) (k16 : Nat) (f0 : Nat → Int32) (f1 : Nat → Int32) (f3 : Nat → Int32) (f4 : Nat → Int32) (f13 : Nat → Int32) (f14 : Nat → Int32) (ph : Nat → Int32) (HI : INV ph f0) (HL : k5 ≤ 1600) (HP : PLV f13)  (hx0 : k10 ≤ k6) (hx1 : k6 ≤ k5) (hx2 : (p9 = 0 ∨ k10 < k6)) (hx3 : k10 < k6) (sz : Nat) : Met l yX12_readBinding (WSm yX12_readBinding cX12_readBinding 5 (some .boolean)) (mkR 5 0 0 108) (PreC D Y [.ref h0] [(h0, oC 13 [.ref h1, .ref h2, .int p2, .ref h3, .ref h4, .int (nI k5), .int (nI k6), .int p7, .int p8, .int p9, .int (nI k10), .int p11, .long q12, .ref h5, .ref h6, .int (nI k15), .int (nI k16)]), (h1, aI Y 3640 f0), (h2, aZ Y 2 f1), (h3, aZ Y 80 f3), (h4, aB Y 1600 f4), (h5, aI Y 200 f13), (h6, aI Y 800 f14)] sz) (QI D (fun (r : Int32) (u : WU) => (r = 0 ∨ (r = 1 ∧ k10 < (u.1 1))) ∧ INV ph (u.2.2.2.1 0) ∧ k10 ≤ (u.1 1) ∧ (u.1 1) ≤ (u.1 0) ∧ (u.1 0) ≤ k5 ∧ ((u.2.1 2) = 0 ∨ (u.1 1) < (u.1 0))) (fun (u : WU) => [(h0, oC 13 [.ref h1, .ref h2, .int p2, .ref h3, .ref h4, .int (nI k5), .int (nI (u.1 0)), .int (u.2.1 0), .int (u.2.1 1), .int (u.2.1 2), .int (nI (u.1 1)), .int (u.2.1 3), .long (u.2.2.1 0), .ref h5, .ref h6, .int (nI k15), .int (nI k16)]), (h1, aI Y 3640 (u.2.2.2.1 0)), (h2, aZ Y 2 f1), (h3, aZ Y 80 f3), (h4, aB Y 1600 f4), (h5, aI Y 200 f13), (h6, aI Y 800 f14)]) (va_A [(h0, oC 13 [.ref h1, .ref h2, .int p2, .ref h3, .ref h4, .int (nI k5), .int (nI k6), .int p7, .int p8, .int p9, .int (nI k10), .int p11, .long q12, .ref h5, .ref h6, .int (nI k15), .int (nI k16)]), (h1, aI Y 3640 f0), (h2, aZ Y 2 f1), (h3, aZ Y 80 f3), (h4, aB Y 1600 f4), (h5, aI Y 200 f13), (h6, aI Y 800 f14)] sz)) 0 0 (va_A [(h0, oC 13 [.ref h1, .ref h2, .int p2, .ref h3, .ref h4, .int (nI k5), .int (nI k6), .int p7, .int p8, .int p9, .int (nI k10), .int p11, .long q12, .ref h5, .ref h6, .int (nI k15), .int (nI k16)]), (h1, aI Y 3640 f0), (h2, aZ Y 2 f1), (h3, aZ Y 80 f3), (h4, aB Y 1600 f4), (h5, aI Y 200 f13), (h6, aI Y 800 f14)] sz) :=
  met_of  (by decide +kernel) (Nat.le_of_ble_eq_true rfl) (fun p e s m args below meth c B hin hsz => by
    have B : VB p s m args meth c D Y (va_A [(h0, oC 13 [.ref h1, .ref h2, .int p2, .ref h3, .ref h4, .int (nI k5), .int (nI k6), .int p7, .int p8, .int p9, .int (nI k10), .int p11, .long q12, .ref h5, .ref h6, .int (nI k15), .int (nI k16)]), (h1, aI Y 3640 f0), (h2, aZ Y 2 f1), (h3, aZ Y 80 f3), (h4, aB Y 1600 f4), (h5, aI Y 200 f13), (h6, aI Y 800 f14)] sz) cX12_readBinding 5 RX12 (some .boolean) := B
    refine V_aload_n 0 B dX12_readBinding_0 0 rfl ?_
    refine V_get 1 B gf_RX12_9 0 rfl rfl dX12_readBinding_1 ?_
    refine V_sipush 4 B (v := 2721) dX12_readBinding_4 (by decide +kernel) ?_
    have x0 : (gN f0 2721) ≤ 80 := gN_le HI (by omega) (show bd 2721 = (0, ((80 : Nat) : Int)) by decide +kernel)
    refine V_iald 7 B (v := (nI (gN f0 2721))) 1 rfl (vpin _ _ (by decide +kernel)) dX12_readBinding_7 (by show f0 2721 = _; exact gN_eq HI (by omega) (show bd 2721 = (0, ((80 : Nat) : Int)) by decide +kernel)) ?_
    refine V_bipush 8 B (v := 80) dX12_readBinding_8 (by decide +kernel) ?_
    refine V_icmp_ne 10 B 19 dX12_readBinding_10 (by decide) (fun kk1 => ?_) (fun kk1 => ?_)
    ·
      have x2 := n_ne (a := (gN f0 2721)) (b := 80) kk1
      refine V_aload_n 19 B dX12_readBinding_19 0 rfl ?_
      refine V_get 20 B gf_RX12_270 0 rfl rfl dX12_readBinding_20 ?_
      refine V_istore_n 23 B (lv2 := [(1, .int (nI k10)), (0, .ref h0)]) dX12_readBinding_23 (by decide) rfl ?_
      refine V_sipush 24 B (v := 2718) dX12_readBinding_24 (by decide +kernel) ?_
      refine V_aload_n 27 B dX12_readBinding_27 1 rfl ?_
      refine V_get 28 B gf_RX12_9 0 rfl rfl dX12_readBinding_28 ?_
      refine V_sipush 31 B (v := 2721) dX12_readBinding_31 (by decide +kernel) ?_
      have x3 : (gN f0 2721) ≤ 80 := gN_le HI (by omega) (show bd 2721 = (0, ((80 : Nat) : Int)) by decide +kernel)
      refine V_iald 34 B (v := (nI (gN f0 2721))) 1 rfl (vpin _ _ (by decide +kernel)) dX12_readBinding_34 (by show f0 2721 = _; exact gN_eq HI (by omega) (show bd 2721 = (0, ((80 : Nat) : Int)) by decide +kernel)) ?_
      refine V_csi 35 B (st := [.int 2718]) (As := [.int (nI (gN f0 2721))]) (fun sz => rX12_bindingAt l D Y (gN f0 2721) (by omega) sz) glS_RX12_79 ⟨rfl, rfl⟩ ⟨(Nat.le_of_ble_eq_true rfl), (Nat.le_of_ble_eq_true rfl)⟩ ⟨(Nat.le_of_ble_eq_true rfl), (Nat.le_of_ble_eq_true rfl)⟩ [] rfl rfl (Nat.le_of_ble_eq_true rfl) rfl (fun _ _ _ => rfl) dX12_readBinding_35 (fun j4 u5 w6 => ?_)
      refine V_ws [(h0, oC 13 [.ref h1, .ref h2, .int p2, .ref h3, .ref h4, .int (nI k5), .int (nI k6), .int p7, .int p8, .int p9, .int (nI k10), .int p11, .long q12, .ref h5, .ref h6, .int (nI k15), .int (nI k16)]), (h1, aI Y 3640 f0), (h2, aZ Y 2 f1), (h3, aZ Y 80 f3), (h4, aB Y 1600 f4), (h5, aI Y 200 f13), (h6, aI Y 800 f14)] rfl ?_
      have x7 := w6
      clear w6
      obtain rfl := x7
      refine V_iadd 38 B (v := (nI (2902 + 7 * (gN f0 2721)))) dX12_readBinding_38 (nI_addE (a := 2718) (b := 184 + 7 * (gN f0 2721)) (by omega)) ?_
      refine V_istore_n 39 B (lv2 := [(2, .int (nI (2902 + 7 * (gN f0 2721)))), (1, .int (nI k10)), (0, .ref h0)]) dX12_readBinding_39 (by decide) rfl ?_
      refine V_aload_n 40 B dX12_readBinding_40 2 rfl ?_
      refine V_cvv 41 B (st := []) (As := []) (fun sz => rX12_advance l D Y h0 h1 h2 h3 h4 h5 h6 p2 k5 k6 p7 p8 p9 k10 p11 q12 k15 k16 f0 f1 f3 f4 f13 f14 ph HI (by omega) HP (by omega) sz) glV_RX12_288 ⟨rfl, rfl⟩ ⟨(Nat.le_of_ble_eq_true rfl), (Nat.le_of_ble_eq_true rfl)⟩ ⟨(Nat.le_of_ble_eq_true rfl), (Nat.le_of_ble_eq_true rfl)⟩ [0, 0, 0, 0, 0, 0, 0] rfl 13 0 rfl rfl rfl rfl (Nat.le_of_ble_eq_true rfl) rfl (fun _ _ => rfl) dX12_readBinding_41 (fun u9 w10 => ?_)
      refine V_ws [(h0, oC 13 [.ref h1, .ref h2, .int p2, .ref h3, .ref h4, .int (nI k5), .int (nI (u9.1 0)), .int p7, .int p8, .int (u9.2.1 0), .int (nI (u9.1 1)), .int p11, .long (u9.2.2.1 0), .ref h5, .ref h6, .int (nI k15), .int (nI k16)]), (h1, aI Y 3640 f0), (h2, aZ Y 2 f1), (h3, aZ Y 80 f3), (h4, aB Y 1600 f4), (h5, aI Y 200 f13), (h6, aI Y 800 f14)] rfl ?_
      obtain ⟨x11, x12, x13, x14⟩ := w10
      refine V_aload_n 44 B dX12_readBinding_44 2 rfl ?_
      refine V_iconst 45 B (v := 0) dX12_readBinding_45 (by decide +kernel) ?_
      refine V_aload_n 46 B dX12_readBinding_46 2 rfl ?_
      refine V_get 47 B gf_RX12_9 0 rfl rfl dX12_readBinding_47 ?_
      refine V_sipush 50 B (v := 2718) dX12_readBinding_50 (by decide +kernel) ?_
      have x15 : (gN f0 2718) ≤ 6 := gN_le HI (by omega) (show bd 2718 = (0, ((6 : Nat) : Int)) by decide +kernel)
      refine V_iald 53 B (v := (nI (gN f0 2718))) 1 rfl (vpin _ _ (by decide +kernel)) dX12_readBinding_53 (by show f0 2718 = _; exact gN_eq HI (by omega) (show bd 2718 = (0, ((6 : Nat) : Int)) by decide +kernel)) ?_
      refine V_iconst 54 B (v := 1) dX12_readBinding_54 (by decide +kernel) ?_
      refine V_isub 55 B dX12_readBinding_55 rfl ?_
      refine V_nmi (fun j16 e17 => ?_)
      have x18 : j16.toInt = (((gN f0 2718) : Nat) : Int) - ((1 : Nat) : Int) := by rw [e17]; exact nI_subT (a := (gN f0 2718)) (b := 1) (by omega) (by omega)
      refine V_cvi 56 B (st := []) (As := [.int 0, .int j16]) (fun sz => rX12_readNumber l D Y h0 h1 h2 h3 h4 h5 h6 p2 k5 (u9.1 0) p7 p8 (u9.2.1 0) (u9.1 1) p11 (u9.2.2.1 0) k15 k16 f0 f1 f3 f4 f13 f14 ph HI (by omega) HP 0 j16 (by omega) (by omega) (by first | assumption | exact Or.inl rfl | exact Or.inr (by omega)) (by decide +kernel) sz) glV_RX12_301 ⟨rfl, rfl⟩ ⟨(Nat.le_of_ble_eq_true rfl), (Nat.le_of_ble_eq_true rfl)⟩ ⟨(Nat.le_of_ble_eq_true rfl), (Nat.le_of_ble_eq_true rfl)⟩ [0, 0, 0, 0, 0, 0, 0] rfl 13 0 rfl rfl rfl rfl (Nat.le_of_ble_eq_true rfl) rfl (fun _ _ _ => rfl) dX12_readBinding_56 (fun j19 u20 w21 => ?_)
      refine V_ws [(h0, oC 13 [.ref h1, .ref h2, .int p2, .ref h3, .ref h4, .int (nI k5), .int (nI (u20.1 0)), .int (u20.2.1 0), .int (u20.2.1 1), .int (u20.2.1 2), .int (nI (u20.1 1)), .int (u20.2.1 3), .long (u20.2.2.1 0), .ref h5, .ref h6, .int (nI k15), .int (nI k16)]), (h1, aI Y 3640 f0), (h2, aZ Y 2 f1), (h3, aZ Y 80 f3), (h4, aB Y 1600 f4), (h5, aI Y 200 f13), (h6, aI Y 800 f14)] rfl ?_
      obtain ⟨x22, x23, x24, x25, x26⟩ := w21
      rcases x22 with rfl | ⟨rfl, x27, x28⟩
      ·
        refine V_if_ne_f 59 B 64 dX12_readBinding_59 (by decide) (by decide +kernel) ?_
        refine V_iconst 62 B (v := 0) dX12_readBinding_62 (by decide +kernel) ?_
        exact V_zret 63 B rfl dX12_readBinding_63 (mkW [(u20.1 0), (u20.1 1)] [(u20.2.1 0), (u20.2.1 1), (u20.2.1 2), (u20.2.1 3)] [(u20.2.2.1 0)] [f0] [] []) ⟨(Or.inl rfl), HI, (show k10 ≤ (u20.1 1) by omega), (show (u20.1 1) ≤ (u20.1 0) by omega), (show (u20.1 0) ≤ k5 by omega), (show ((u20.2.1 2) = 0 ∨ (u20.1 1) < (u20.1 0)) by first | assumption | exact Or.inr (by omega))⟩ rfl
      ·
        have e29 : (0 : Int32).toInt = 0 := by decide +kernel
        generalize u20.2.1 3 = j30 at *
        refine V_if_ne_t 59 B 64 dX12_readBinding_59 (by decide) (by decide +kernel) ?_
        refine V_aload_n 64 B dX12_readBinding_64 2 rfl ?_
        refine V_get 65 B gf_RX12_9 0 rfl rfl dX12_readBinding_65 ?_
        refine V_iload_n 68 B dX12_readBinding_68 0 rfl ?_
        refine V_iconst 69 B (v := 0) dX12_readBinding_69 (by decide +kernel) ?_
        refine V_iadd 70 B (v := (nI (2902 + 7 * (gN f0 2721)))) dX12_readBinding_70 (nI_addE (a := 2902 + 7 * (gN f0 2721)) (b := 0) (by omega)) ?_
        refine V_aload_n 71 B dX12_readBinding_71 2 rfl ?_
        refine V_get 72 B gf_RX12_294 0 rfl rfl dX12_readBinding_72 ?_
        have hv31 : INV ph (upd f0 (2902 + 7 * (gN f0 2721)) j30) := INV_free HI (rl30 (gN f0 2721) (by omega))
        refine V_iast 75 B 1 rfl (vp_in_nI (n := 2902 + 7 * (gN f0 2721)) (by omega) (by decide)) dX12_readBinding_75 [(h0, oC 13 [.ref h1, .ref h2, .int p2, .ref h3, .ref h4, .int (nI k5), .int (nI (u20.1 0)), .int (u20.2.1 0), .int (u20.2.1 1), .int (u20.2.1 2), .int (nI (u20.1 1)), .int j30, .long (u20.2.2.1 0), .ref h5, .ref h6, .int (nI k15), .int (nI k16)]), (h1, aI Y 3640 (upd f0 (2902 + 7 * (gN f0 2721)) j30)), (h2, aZ Y 2 f1), (h3, aZ Y 80 f3), (h4, aB Y 1600 f4), (h5, aI Y 200 f13), (h6, aI Y 800 f14)] (by rw [nI_clamp (show 2902 + 7 * (gN f0 2721) < 2 ^ 31 by omega)]; rfl) ?_
        refine V_aload_n 76 B dX12_readBinding_76 2 rfl ?_
        refine V_iconst 77 B (v := 0) dX12_readBinding_77 (by decide +kernel) ?_
        refine V_aload_n 78 B dX12_readBinding_78 2 rfl ?_
        refine V_get 79 B gf_RX12_9 0 rfl rfl dX12_readBinding_79 ?_
        refine V_sipush 82 B (v := 2719) dX12_readBinding_82 (by decide +kernel) ?_
        have x32 : (gN f0 2719) ≤ 40 := gN_le HI (by omega) (show bd 2719 = (0, ((40 : Nat) : Int)) by decide +kernel)
        refine V_iald 85 B (v := (nI (gN f0 2719))) 1 rfl (vpin _ _ (by decide +kernel)) dX12_readBinding_85 (by show (upd f0 (2902 + 7 * (gN f0 2721)) j30) 2719 = _; rw [upd_ne (by omega)]; exact gN_eq HI (by omega) (show bd 2719 = (0, ((40 : Nat) : Int)) by decide +kernel)) ?_
        refine V_iconst 86 B (v := 1) dX12_readBinding_86 (by decide +kernel) ?_
        refine V_isub 87 B dX12_readBinding_87 rfl ?_
        refine V_nmi (fun j33 e34 => ?_)
        have x35 : j33.toInt = (((gN f0 2719) : Nat) : Int) - ((1 : Nat) : Int) := by rw [e34]; exact nI_subT (a := (gN f0 2719)) (b := 1) (by omega) (by omega)
        refine V_cvi 88 B (st := []) (As := [.int 0, .int j33]) (fun sz => rX12_readNumber l D Y h0 h1 h2 h3 h4 h5 h6 p2 k5 (u20.1 0) (u20.2.1 0) (u20.2.1 1) (u20.2.1 2) (u20.1 1) j30 (u20.2.2.1 0) k15 k16 (upd f0 (2902 + 7 * (gN f0 2721)) j30) f1 f3 f4 f13 f14 ph hv31 (by omega) HP 0 j33 (by omega) (by omega) (by first | assumption | exact Or.inl rfl | exact Or.inr (by omega)) (by decide +kernel) sz) glV_RX12_301 ⟨rfl, rfl⟩ ⟨(Nat.le_of_ble_eq_true rfl), (Nat.le_of_ble_eq_true rfl)⟩ ⟨(Nat.le_of_ble_eq_true rfl), (Nat.le_of_ble_eq_true rfl)⟩ [0, 0, 0, 0, 0, 0, 0] rfl 13 0 rfl rfl rfl rfl (Nat.le_of_ble_eq_true rfl) rfl (fun _ _ _ => rfl) dX12_readBinding_88 (fun j36 u37 w38 => ?_)
        refine V_ws [(h0, oC 13 [.ref h1, .ref h2, .int p2, .ref h3, .ref h4, .int (nI k5), .int (nI (u37.1 0)), .int (u37.2.1 0), .int (u37.2.1 1), .int (u37.2.1 2), .int (nI (u37.1 1)), .int (u37.2.1 3), .long (u37.2.2.1 0), .ref h5, .ref h6, .int (nI k15), .int (nI k16)]), (h1, aI Y 3640 (upd f0 (2902 + 7 * (gN f0 2721)) j30)), (h2, aZ Y 2 f1), (h3, aZ Y 80 f3), (h4, aB Y 1600 f4), (h5, aI Y 200 f13), (h6, aI Y 800 f14)] rfl ?_
        obtain ⟨x39, x40, x41, x42, x43⟩ := w38
        rcases x39 with rfl | ⟨rfl, x44, x45⟩
        ·
          refine V_if_ne_f 91 B 96 dX12_readBinding_91 (by decide) (by decide +kernel) ?_
          refine V_iconst 94 B (v := 0) dX12_readBinding_94 (by decide +kernel) ?_
          exact V_zret 95 B rfl dX12_readBinding_95 (mkW [(u37.1 0), (u37.1 1)] [(u37.2.1 0), (u37.2.1 1), (u37.2.1 2), (u37.2.1 3)] [(u37.2.2.1 0)] [(upd f0 (2902 + 7 * (gN f0 2721)) j30)] [] []) ⟨(Or.inl rfl), hv31, (show k10 ≤ (u37.1 1) by omega), (show (u37.1 1) ≤ (u37.1 0) by omega), (show (u37.1 0) ≤ k5 by omega), (show ((u37.2.1 2) = 0 ∨ (u37.1 1) < (u37.1 0)) by first | assumption | exact Or.inr (by omega))⟩ rfl
        ·
          have e46 : (0 : Int32).toInt = 0 := by decide +kernel
          generalize u37.2.1 3 = j47 at *
          refine V_if_ne_t 91 B 96 dX12_readBinding_91 (by decide) (by decide +kernel) ?_
          refine V_aload_n 96 B dX12_readBinding_96 2 rfl ?_
          refine V_get 97 B gf_RX12_9 0 rfl rfl dX12_readBinding_97 ?_
          refine V_iload_n 100 B dX12_readBinding_100 0 rfl ?_
          refine V_iconst 101 B (v := 1) dX12_readBinding_101 (by decide +kernel) ?_
          refine V_iadd 102 B (v := (nI (2903 + 7 * (gN f0 2721)))) dX12_readBinding_102 (nI_addE (a := 2902 + 7 * (gN f0 2721)) (b := 1) (by omega)) ?_
          refine V_aload_n 103 B dX12_readBinding_103 2 rfl ?_
          refine V_get 104 B gf_RX12_294 0 rfl rfl dX12_readBinding_104 ?_
          have hv48 : INV ph (upd (upd f0 (2902 + 7 * (gN f0 2721)) j30) (2903 + 7 * (gN f0 2721)) j47) := INV_upd hv31 (rl32 (gN f0 2721) (by omega)) (by omega) (by omega)
          refine V_iast 107 B 1 rfl (vp_in_nI (n := 2903 + 7 * (gN f0 2721)) (by omega) (by decide)) dX12_readBinding_107 [(h0, oC 13 [.ref h1, .ref h2, .int p2, .ref h3, .ref h4, .int (nI k5), .int (nI (u37.1 0)), .int (u37.2.1 0), .int (u37.2.1 1), .int (u37.2.1 2), .int (nI (u37.1 1)), .int j47, .long (u37.2.2.1 0), .ref h5, .ref h6, .int (nI k15), .int (nI k16)]), (h1, aI Y 3640 (upd (upd f0 (2902 + 7 * (gN f0 2721)) j30) (2903 + 7 * (gN f0 2721)) j47)), (h2, aZ Y 2 f1), (h3, aZ Y 80 f3), (h4, aB Y 1600 f4), (h5, aI Y 200 f13), (h6, aI Y 800 f14)] (by rw [nI_clamp (show 2903 + 7 * (gN f0 2721) < 2 ^ 31 by omega)]; rfl) ?_
          refine V_aload_n 108 B dX12_readBinding_108 2 rfl ?_
          refine V_iload_n 109 B dX12_readBinding_109 0 rfl ?_
          refine V_iconst 110 B (v := 2) dX12_readBinding_110 (by decide +kernel) ?_
          refine V_iadd 111 B (v := (nI (2904 + 7 * (gN f0 2721)))) dX12_readBinding_111 (nI_addE (a := 2902 + 7 * (gN f0 2721)) (b := 2) (by omega)) ?_
          refine V_cvi 112 B (st := []) (As := [.int (nI (2904 + 7 * (gN f0 2721)))]) (fun sz => rX12_readSequence l D Y h0 h1 h2 h3 h4 h5 h6 p2 k5 (u37.1 0) (u37.2.1 0) (u37.2.1 1) (u37.2.1 2) (u37.1 1) j47 (u37.2.2.1 0) k15 k16 (upd (upd f0 (2902 + 7 * (gN f0 2721)) j30) (2903 + 7 * (gN f0 2721)) j47) f1 f3 f4 f13 f14 ph hv48 (by omega) HP (2904 + 7 * (gN f0 2721)) (rl29 (gN f0 2721) (by omega)) (by omega) (by omega) (by first | assumption | exact Or.inl rfl | exact Or.inr (by omega)) sz) glV_RX12_307 ⟨rfl, rfl⟩ ⟨(Nat.le_of_ble_eq_true rfl), (Nat.le_of_ble_eq_true rfl)⟩ ⟨(Nat.le_of_ble_eq_true rfl), (Nat.le_of_ble_eq_true rfl)⟩ [0, 0, 0, 0, 0, 0, 0] rfl 13 0 rfl rfl rfl rfl (Nat.le_of_ble_eq_true rfl) rfl (fun _ _ _ => rfl) dX12_readBinding_112 (fun j49 u50 w51 => ?_)
          refine V_ws [(h0, oC 13 [.ref h1, .ref h2, .int p2, .ref h3, .ref h4, .int (nI k5), .int (nI (u50.1 0)), .int (u50.2.1 0), .int (u50.2.1 1), .int (u50.2.1 2), .int (nI (u50.1 1)), .int j47, .long (u50.2.2.1 0), .ref h5, .ref h6, .int (nI k15), .int (nI k16)]), (h1, aI Y 3640 (u50.2.2.2.1 0)), (h2, aZ Y 2 f1), (h3, aZ Y 80 f3), (h4, aB Y 1600 f4), (h5, aI Y 200 f13), (h6, aI Y 800 f14)] rfl ?_
          obtain ⟨x52, x53, x54, x55, x56, x57, x58⟩ := w51
          rcases x52 with rfl | ⟨rfl, x59⟩
          ·
            refine V_if_eq_t 115 B 125 dX12_readBinding_115 (by decide) (by decide +kernel) ?_
            refine V_iconst 125 B (v := 0) dX12_readBinding_125 (by decide +kernel) ?_
            exact V_zret 126 B rfl dX12_readBinding_126 (mkW [(u50.1 0), (u50.1 1)] [(u50.2.1 0), (u50.2.1 1), (u50.2.1 2), j47] [(u50.2.2.1 0)] [(u50.2.2.2.1 0)] [] []) ⟨(Or.inl rfl), x53, (show k10 ≤ (u50.1 1) by omega), (show (u50.1 1) ≤ (u50.1 0) by omega), (show (u50.1 0) ≤ k5 by omega), (show ((u50.2.1 2) = 0 ∨ (u50.1 1) < (u50.1 0)) by first | assumption | exact Or.inr (by omega))⟩ rfl
          ·
            refine V_if_eq_f 115 B 125 dX12_readBinding_115 (by decide) (by decide +kernel) ?_
            refine V_aload_n 118 B dX12_readBinding_118 2 rfl ?_
            refine V_cvi 119 B (st := []) (As := []) (fun sz => rX12_readEnd l D Y h0 h1 h2 h3 h4 h5 h6 p2 k5 (u50.1 0) (u50.2.1 0) (u50.2.1 1) (u50.2.1 2) (u50.1 1) j47 (u50.2.2.1 0) k15 k16 (u50.2.2.2.1 0) f1 f3 f4 f13 f14 ph x53 (by omega) HP (by omega) (by omega) (by first | assumption | exact Or.inl rfl | exact Or.inr (by omega)) sz) glV_RX12_304 ⟨rfl, rfl⟩ ⟨(Nat.le_of_ble_eq_true rfl), (Nat.le_of_ble_eq_true rfl)⟩ ⟨(Nat.le_of_ble_eq_true rfl), (Nat.le_of_ble_eq_true rfl)⟩ [0, 0, 0, 0, 0, 0, 0] rfl 13 0 rfl rfl rfl rfl (Nat.le_of_ble_eq_true rfl) rfl (fun _ _ _ => rfl) dX12_readBinding_119 (fun j60 u61 w62 => ?_)
            refine V_ws [(h0, oC 13 [.ref h1, .ref h2, .int p2, .ref h3, .ref h4, .int (nI k5), .int (nI (u61.1 0)), .int (u61.2.1 0), .int (u61.2.1 1), .int (u61.2.1 2), .int (nI (u61.1 1)), .int j47, .long (u61.2.2.1 0), .ref h5, .ref h6, .int (nI k15), .int (nI k16)]), (h1, aI Y 3640 (u50.2.2.2.1 0)), (h2, aZ Y 2 f1), (h3, aZ Y 80 f3), (h4, aB Y 1600 f4), (h5, aI Y 200 f13), (h6, aI Y 800 f14)] rfl ?_
            obtain ⟨x63, x64, x65, x66, x67⟩ := w62
            rcases x63 with rfl | ⟨rfl, x68⟩
            ·
              refine V_if_ne_f 122 B 127 dX12_readBinding_122 (by decide) (by decide +kernel) ?_
              refine V_iconst 125 B (v := 0) dX12_readBinding_125 (by decide +kernel) ?_
              exact V_zret 126 B rfl dX12_readBinding_126 (mkW [(u61.1 0), (u61.1 1)] [(u61.2.1 0), (u61.2.1 1), (u61.2.1 2), j47] [(u61.2.2.1 0)] [(u50.2.2.2.1 0)] [] []) ⟨(Or.inl rfl), x53, (show k10 ≤ (u61.1 1) by omega), (show (u61.1 1) ≤ (u61.1 0) by omega), (show (u61.1 0) ≤ k5 by omega), (show ((u61.2.1 2) = 0 ∨ (u61.1 1) < (u61.1 0)) by first | assumption | exact Or.inr (by omega))⟩ rfl
            ·
              refine V_if_ne_t 122 B 127 dX12_readBinding_122 (by decide) (by decide +kernel) ?_
              refine V_aload_n 127 B dX12_readBinding_127 2 rfl ?_
              refine V_aload_n 128 B dX12_readBinding_128 2 rfl ?_
              refine V_get 129 B gf_RX12_9 0 rfl rfl dX12_readBinding_129 ?_
              refine V_iload_n 132 B dX12_readBinding_132 0 rfl ?_
              refine V_iconst 133 B (v := 0) dX12_readBinding_133 (by decide +kernel) ?_
              refine V_iadd 134 B (v := (nI (2902 + 7 * (gN f0 2721)))) dX12_readBinding_134 (nI_addE (a := 2902 + 7 * (gN f0 2721)) (b := 0) (by omega)) ?_
              refine V_iald 135 B (v := j30) 1 rfl (vp_in_nI (n := 2902 + 7 * (gN f0 2721)) (by omega) (by decide)) dX12_readBinding_135 (by rw [nI_clamp (show 2902 + 7 * (gN f0 2721) < 2 ^ 31 by omega)]; rw [x58 _ (by omega)]; rw [upd_ne (by omega)]; exact upd_at) ?_
              refine V_iload_n 136 B dX12_readBinding_136 0 rfl ?_
              refine V_iconst 137 B (v := 2) dX12_readBinding_137 (by decide +kernel) ?_
              refine V_iadd 138 B (v := (nI (2904 + 7 * (gN f0 2721)))) dX12_readBinding_138 (nI_addE (a := 2902 + 7 * (gN f0 2721)) (b := 2) (by omega)) ?_
              refine V_cvi 139 B (st := []) (As := [.int j30, .int (nI (2904 + 7 * (gN f0 2721)))]) (fun sz => rX12_clashesRead l D Y h0 h1 h2 h3 h4 h5 h6 p2 k5 (u61.1 0) (u61.2.1 0) (u61.2.1 1) (u61.2.1 2) (u61.1 1) j47 (u61.2.2.1 0) k15 k16 (u50.2.2.2.1 0) f1 f3 f4 f13 f14 ph x53 (by omega) HP j30 (2904 + 7 * (gN f0 2721)) (rl29 (gN f0 2721) (by omega)) sz) glV_RX12_310 ⟨rfl, rfl⟩ ⟨(Nat.le_of_ble_eq_true rfl), (Nat.le_of_ble_eq_true rfl)⟩ ⟨(Nat.le_of_ble_eq_true rfl), (Nat.le_of_ble_eq_true rfl)⟩ [0, 0, 0, 0, 0, 0, 0] rfl 13 0 rfl rfl rfl rfl (Nat.le_of_ble_eq_true rfl) rfl (fun _ _ _ => rfl) dX12_readBinding_139 (fun j69 u70 w71 => ?_)
              refine V_ws [(h0, oC 13 [.ref h1, .ref h2, .int p2, .ref h3, .ref h4, .int (nI k5), .int (nI (u61.1 0)), .int (u61.2.1 0), .int (u61.2.1 1), .int (u61.2.1 2), .int (nI (u61.1 1)), .int j47, .long (u61.2.2.1 0), .ref h5, .ref h6, .int (nI k15), .int (nI k16)]), (h1, aI Y 3640 (u50.2.2.2.1 0)), (h2, aZ Y 2 f1), (h3, aZ Y 80 f3), (h4, aB Y 1600 f4), (h5, aI Y 200 f13), (h6, aI Y 800 f14)] rfl ?_
              have x72 := w71
              clear w71
              rcases x72 with rfl | rfl
              ·
                refine V_istore_n 142 B (lv2 := [(3, .int 0), (2, .int (nI (2902 + 7 * (gN f0 2721)))), (1, .int (nI k10)), (0, .ref h0)]) dX12_readBinding_142 (by decide) rfl ?_
                refine V_iconst 143 B (v := 0) dX12_readBinding_143 (by decide +kernel) ?_
                refine V_istore 144 B (lv2 := [(4, .int 0), (3, .int 0), (2, .int (nI (2902 + 7 * (gN f0 2721)))), (1, .int (nI k10)), (0, .ref h0)]) dX12_readBinding_144 (by decide) rfl ?_
                refine V_wloop (α := WU) (fun a => 100000 - (a.1 0)) (fun a => (a.1 0) ≤ 4000 ∧ ((a.2.1 0) = 0 ∨ (a.2.1 0) = 1)) (fun a => [(4, .int (nI (a.1 0))), (3, .int (a.2.1 0)), (2, .int (nI (2902 + 7 * (gN f0 2721)))), (1, .int (nI k10)), (0, .ref h0)]) (fun a => [(h0, oC 13 [.ref h1, .ref h2, .int p2, .ref h3, .ref h4, .int (nI k5), .int (nI (u61.1 0)), .int (u61.2.1 0), .int (u61.2.1 1), .int (u61.2.1 2), .int (nI (u61.1 1)), .int j47, .long (u61.2.2.1 0), .ref h5, .ref h6, .int (nI k15), .int (nI k16)]), (h1, aI Y 3640 (u50.2.2.2.1 0)), (h2, aZ Y 2 f1), (h3, aZ Y 80 f3), (h4, aB Y 1600 f4), (h5, aI Y 200 f13), (h6, aI Y 800 f14)]) (mkW [0] [0] [] [] [] []) ⟨(show 0 ≤ 4000 by omega), (Or.inl rfl)⟩ rfl rfl (fun a73 hI75 IH74 => ?_)
                refine V_lv [(4, .int (nI (a73.1 0))), (3, .int (a73.2.1 0)), (2, .int (nI (2902 + 7 * (gN f0 2721)))), (1, .int (nI k10)), (0, .ref h0)] [0, 1, 2, 3, 4] rfl ?_
                refine V_ws [(h0, oC 13 [.ref h1, .ref h2, .int p2, .ref h3, .ref h4, .int (nI k5), .int (nI (u61.1 0)), .int (u61.2.1 0), .int (u61.2.1 1), .int (u61.2.1 2), .int (nI (u61.1 1)), .int j47, .long (u61.2.2.1 0), .ref h5, .ref h6, .int (nI k15), .int (nI k16)]), (h1, aI Y 3640 (u50.2.2.2.1 0)), (h2, aZ Y 2 f1), (h3, aZ Y 80 f3), (h4, aB Y 1600 f4), (h5, aI Y 200 f13), (h6, aI Y 800 f14)] rfl ?_
                obtain ⟨x76, x77⟩ := hI75
                rcases x77 with e78 | e78
                ·
                  refine V_lv [(4, .int (nI (a73.1 0))), (3, .int 0), (2, .int (nI (2902 + 7 * (gN f0 2721)))), (1, .int (nI k10)), (0, .ref h0)] [0, 1, 2, 3, 4] (by rw [e78]; rfl) ?_
                  refine V_iload 146 B dX12_readBinding_146 0 rfl ?_
                  refine V_aload_n 148 B dX12_readBinding_148 4 rfl ?_
                  refine V_get 149 B gf_RX12_9 0 rfl rfl dX12_readBinding_149 ?_
                  refine V_sipush 152 B (v := 2720) dX12_readBinding_152 (by decide +kernel) ?_
                  have x79 : (gN f0 2720) ≤ 6 := gN_le HI (by omega) (show bd 2720 = (0, ((6 : Nat) : Int)) by decide +kernel)
                  refine V_iald 155 B (v := (nI (gN f0 2720))) 1 rfl (vpin _ _ (by decide +kernel)) dX12_readBinding_155 (by show (u50.2.2.2.1 0) 2720 = _; rw [x58 _ (by omega)]; rw [upd_ne (by omega)]; rw [upd_ne (by omega)]; exact gN_eq HI (by omega) (show bd 2720 = (0, ((6 : Nat) : Int)) by decide +kernel)) ?_
                  refine V_icmp_ge 156 B 184 dX12_readBinding_156 (by decide) (fun kk80 => ?_) (fun kk80 => ?_)
                  ·
                    have x81 := n_le (a := (gN f0 2720)) (b := (a73.1 0)) kk80 (by omega) (by omega)
                    refine V_iload_n 184 B dX12_readBinding_184 1 rfl ?_
                    refine V_if_eq_t 185 B 195 dX12_readBinding_185 (by decide) (by decide +kernel) ?_
                    refine V_aload_n 195 B dX12_readBinding_195 4 rfl ?_
                    refine V_get 196 B gf_RX12_9 0 rfl rfl dX12_readBinding_196 ?_
                    refine V_sipush 199 B (v := 2721) dX12_readBinding_199 (by decide +kernel) ?_
                    refine V_dup2_11 202 B dX12_readBinding_202 rfl rfl ?_
                    have x82 : (gN f0 2721) ≤ 80 := gN_le HI (by omega) (show bd 2721 = (0, ((80 : Nat) : Int)) by decide +kernel)
                    refine V_iald 203 B (v := (nI (gN f0 2721))) 1 rfl (vpin _ _ (by decide +kernel)) dX12_readBinding_203 (by show (u50.2.2.2.1 0) 2721 = _; rw [x58 _ (by omega)]; rw [upd_ne (by omega)]; rw [upd_ne (by omega)]; exact gN_eq HI (by omega) (show bd 2721 = (0, ((80 : Nat) : Int)) by decide +kernel)) ?_
                    refine V_iconst 204 B (v := 1) dX12_readBinding_204 (by decide +kernel) ?_
                    refine V_iadd 205 B (v := (nI (1 + (gN f0 2721)))) dX12_readBinding_205 (nI_addE (a := (gN f0 2721)) (b := 1) (by omega)) ?_
                    have hv83 : INV ph (upd (u50.2.2.2.1 0) 2721 (nI (1 + (gN f0 2721)))) := INV_nat (v := 1 + (gN f0 2721)) x53 (show bd 2721 = (0, ((80 : Nat) : Int)) by decide +kernel) (by omega) (by decide)
                    refine V_iast 206 B 1 rfl (vpin _ _ (by decide +kernel)) dX12_readBinding_206 [(h0, oC 13 [.ref h1, .ref h2, .int p2, .ref h3, .ref h4, .int (nI k5), .int (nI (u61.1 0)), .int (u61.2.1 0), .int (u61.2.1 1), .int (u61.2.1 2), .int (nI (u61.1 1)), .int j47, .long (u61.2.2.1 0), .ref h5, .ref h6, .int (nI k15), .int (nI k16)]), (h1, aI Y 3640 (upd (u50.2.2.2.1 0) 2721 (nI (1 + (gN f0 2721))))), (h2, aZ Y 2 f1), (h3, aZ Y 80 f3), (h4, aB Y 1600 f4), (h5, aI Y 200 f13), (h6, aI Y 800 f14)] rfl ?_
                    refine V_iconst 207 B (v := 1) dX12_readBinding_207 (by decide +kernel) ?_
                    exact V_zret 208 B rfl dX12_readBinding_208 (mkW [(u61.1 0), (u61.1 1)] [(u61.2.1 0), (u61.2.1 1), (u61.2.1 2), j47] [(u61.2.2.1 0)] [(upd (u50.2.2.2.1 0) 2721 (nI (1 + (gN f0 2721))))] [] []) ⟨(Or.inr ⟨rfl, (show k10 < (u61.1 1) by omega)⟩), hv83, (show k10 ≤ (u61.1 1) by omega), (show (u61.1 1) ≤ (u61.1 0) by omega), (show (u61.1 0) ≤ k5 by omega), (show ((u61.2.1 2) = 0 ∨ (u61.1 1) < (u61.1 0)) by first | assumption | exact Or.inr (by omega))⟩ rfl
                  ·
                    have x84 := n_nle (a := (gN f0 2720)) (b := (a73.1 0)) kk80 (by omega) (by omega)
                    refine V_iload_n 159 B dX12_readBinding_159 1 rfl ?_
                    refine V_aload_n 160 B dX12_readBinding_160 4 rfl ?_
                    refine V_sipush 161 B (v := 2718) dX12_readBinding_161 (by decide +kernel) ?_
                    refine V_iload 164 B dX12_readBinding_164 0 rfl ?_
                    refine V_csi 166 B (st := [.int 2718, .ref h0, .int 0]) (As := [.int (nI (a73.1 0))]) (fun sz => rX12_reservedAt l D Y (a73.1 0) (by omega) sz) glS_RX12_108 ⟨rfl, rfl⟩ ⟨(Nat.le_of_ble_eq_true rfl), (Nat.le_of_ble_eq_true rfl)⟩ ⟨(Nat.le_of_ble_eq_true rfl), (Nat.le_of_ble_eq_true rfl)⟩ [] rfl rfl (Nat.le_of_ble_eq_true rfl) rfl (fun _ _ _ => rfl) dX12_readBinding_166 (fun j85 u86 w87 => ?_)
                    refine V_ws [(h0, oC 13 [.ref h1, .ref h2, .int p2, .ref h3, .ref h4, .int (nI k5), .int (nI (u61.1 0)), .int (u61.2.1 0), .int (u61.2.1 1), .int (u61.2.1 2), .int (nI (u61.1 1)), .int j47, .long (u61.2.2.1 0), .ref h5, .ref h6, .int (nI k15), .int (nI k16)]), (h1, aI Y 3640 (u50.2.2.2.1 0)), (h2, aZ Y 2 f1), (h3, aZ Y 80 f3), (h4, aB Y 1600 f4), (h5, aI Y 200 f13), (h6, aI Y 800 f14)] rfl ?_
                    have x88 := w87
                    clear w87
                    obtain rfl := x88
                    refine V_iadd 169 B (v := (nI (2872 + 5 * (a73.1 0)))) dX12_readBinding_169 (nI_addE (a := 2718) (b := 154 + 5 * (a73.1 0)) (by omega)) ?_
                    refine V_iload_n 170 B dX12_readBinding_170 2 rfl ?_
                    refine V_iconst 171 B (v := 2) dX12_readBinding_171 (by decide +kernel) ?_
                    refine V_iadd 172 B (v := (nI (2904 + 7 * (gN f0 2721)))) dX12_readBinding_172 (nI_addE (a := 2902 + 7 * (gN f0 2721)) (b := 2) (by omega)) ?_
                    refine V_cvi 173 B (st := [.int 0]) (As := [.int (nI (2872 + 5 * (a73.1 0))), .int (nI (2904 + 7 * (gN f0 2721)))]) (fun sz => rX12_doClash l D Y h0 h1 h2 h3 h4 h5 h6 p2 k5 (u61.1 0) (u61.2.1 0) (u61.2.1 1) (u61.2.1 2) (u61.1 1) j47 (u61.2.2.1 0) k15 k16 (u50.2.2.2.1 0) f1 f3 f4 f13 f14 ph x53 (by omega) HP (2872 + 5 * (a73.1 0)) (2904 + 7 * (gN f0 2721)) (rl31 (a73.1 0) (by omega)) (rl29 (gN f0 2721) (by omega)) sz) glV_RX12_111 ⟨rfl, rfl⟩ ⟨(Nat.le_of_ble_eq_true rfl), (Nat.le_of_ble_eq_true rfl)⟩ ⟨(Nat.le_of_ble_eq_true rfl), (Nat.le_of_ble_eq_true rfl)⟩ [0, 0, 0, 0, 0, 0, 0] rfl 13 0 rfl rfl rfl rfl (Nat.le_of_ble_eq_true rfl) rfl (fun _ _ _ => rfl) dX12_readBinding_173 (fun j89 u90 w91 => ?_)
                    refine V_ws [(h0, oC 13 [.ref h1, .ref h2, .int p2, .ref h3, .ref h4, .int (nI k5), .int (nI (u61.1 0)), .int (u61.2.1 0), .int (u61.2.1 1), .int (u61.2.1 2), .int (nI (u61.1 1)), .int j47, .long (u61.2.2.1 0), .ref h5, .ref h6, .int (nI k15), .int (nI k16)]), (h1, aI Y 3640 (u50.2.2.2.1 0)), (h2, aZ Y 2 f1), (h3, aZ Y 80 f3), (h4, aB Y 1600 f4), (h5, aI Y 200 f13), (h6, aI Y 800 f14)] rfl ?_
                    have x92 := w91
                    clear w91
                    rcases x92 with ⟨rfl, x93⟩ | ⟨rfl, x93⟩
                    ·
                      refine V_ior 176 B (v := 0) dX12_readBinding_176 (by decide +kernel) ?_
                      refine V_istore_n 177 B (lv2 := [(3, .int 0), (4, .int (nI (a73.1 0))), (2, .int (nI (2902 + 7 * (gN f0 2721)))), (1, .int (nI k10)), (0, .ref h0)]) dX12_readBinding_177 (by decide) rfl ?_
                      refine V_iinc 178 B (v := (nI (1 + (a73.1 0)))) (lv2 := [(4, .int (nI (1 + (a73.1 0)))), (3, .int 0), (2, .int (nI (2902 + 7 * (gN f0 2721)))), (1, .int (nI k10)), (0, .ref h0)]) dX12_readBinding_178 1 rfl (nI_addE (a := (a73.1 0)) (b := 1) (by omega)) (by decide) rfl ?_
                      refine V_goto 181 B 146 dX12_readBinding_181 (by decide) ?_
                      refine V_lv [(4, .int (nI (1 + (a73.1 0)))), (3, .int 0), (2, .int (nI (2902 + 7 * (gN f0 2721)))), (1, .int (nI k10)), (0, .ref h0)] [0, 1, 2, 3, 4] rfl ?_
                      exact IH74 (mkW [1 + (a73.1 0)] [0] [] [] [] []) ⟨(show 1 + (a73.1 0) ≤ 4000 by omega), (Or.inl rfl)⟩ (by show 100000 - (1 + (a73.1 0)) < 100000 - (a73.1 0); omega)
                    ·
                      refine V_ior 176 B (v := 1) dX12_readBinding_176 (by decide +kernel) ?_
                      refine V_istore_n 177 B (lv2 := [(3, .int 1), (4, .int (nI (a73.1 0))), (2, .int (nI (2902 + 7 * (gN f0 2721)))), (1, .int (nI k10)), (0, .ref h0)]) dX12_readBinding_177 (by decide) rfl ?_
                      refine V_iinc 178 B (v := (nI (1 + (a73.1 0)))) (lv2 := [(4, .int (nI (1 + (a73.1 0)))), (3, .int 1), (2, .int (nI (2902 + 7 * (gN f0 2721)))), (1, .int (nI k10)), (0, .ref h0)]) dX12_readBinding_178 1 rfl (nI_addE (a := (a73.1 0)) (b := 1) (by omega)) (by decide) rfl ?_
                      refine V_goto 181 B 146 dX12_readBinding_181 (by decide) ?_
                      refine V_lv [(4, .int (nI (1 + (a73.1 0)))), (3, .int 1), (2, .int (nI (2902 + 7 * (gN f0 2721)))), (1, .int (nI k10)), (0, .ref h0)] [0, 1, 2, 3, 4] rfl ?_
                      exact IH74 (mkW [1 + (a73.1 0)] [1] [] [] [] []) ⟨(show 1 + (a73.1 0) ≤ 4000 by omega), (Or.inr rfl)⟩ (by show 100000 - (1 + (a73.1 0)) < 100000 - (a73.1 0); omega)
                ·
                  refine V_lv [(4, .int (nI (a73.1 0))), (3, .int 1), (2, .int (nI (2902 + 7 * (gN f0 2721)))), (1, .int (nI k10)), (0, .ref h0)] [0, 1, 2, 3, 4] (by rw [e78]; rfl) ?_
                  refine V_iload 146 B dX12_readBinding_146 0 rfl ?_
                  refine V_aload_n 148 B dX12_readBinding_148 4 rfl ?_
                  refine V_get 149 B gf_RX12_9 0 rfl rfl dX12_readBinding_149 ?_
                  refine V_sipush 152 B (v := 2720) dX12_readBinding_152 (by decide +kernel) ?_
                  have x94 : (gN f0 2720) ≤ 6 := gN_le HI (by omega) (show bd 2720 = (0, ((6 : Nat) : Int)) by decide +kernel)
                  refine V_iald 155 B (v := (nI (gN f0 2720))) 1 rfl (vpin _ _ (by decide +kernel)) dX12_readBinding_155 (by show (u50.2.2.2.1 0) 2720 = _; rw [x58 _ (by omega)]; rw [upd_ne (by omega)]; rw [upd_ne (by omega)]; exact gN_eq HI (by omega) (show bd 2720 = (0, ((6 : Nat) : Int)) by decide +kernel)) ?_
                  refine V_icmp_ge 156 B 184 dX12_readBinding_156 (by decide) (fun kk95 => ?_) (fun kk95 => ?_)
                  ·
                    have x96 := n_le (a := (gN f0 2720)) (b := (a73.1 0)) kk95 (by omega) (by omega)
                    refine V_iload_n 184 B dX12_readBinding_184 1 rfl ?_
                    refine V_if_eq_f 185 B 195 dX12_readBinding_185 (by decide) (by decide +kernel) ?_
                    refine V_aload_n 188 B dX12_readBinding_188 4 rfl ?_
                    refine V_iconst 189 B (v := 4) dX12_readBinding_189 (by decide +kernel) ?_
                    refine V_iload_n 190 B dX12_readBinding_190 3 rfl ?_
                    refine V_cvi 191 B (st := []) (As := [.int 4, .int (nI k10)]) (fun sz => rX12_failAt l D Y h0 h1 h2 h3 h4 h5 h6 p2 k5 (u61.1 0) (u61.2.1 0) (u61.2.1 1) (u61.2.1 2) (u61.1 1) j47 (u61.2.2.1 0) k15 k16 (u50.2.2.2.1 0) f1 f3 f4 f13 f14 ph x53 (by omega) HP 4 (nI k10) sz) glV_RX12_313 ⟨rfl, rfl⟩ ⟨(Nat.le_of_ble_eq_true rfl), (Nat.le_of_ble_eq_true rfl)⟩ ⟨(Nat.le_of_ble_eq_true rfl), (Nat.le_of_ble_eq_true rfl)⟩ [0, 0, 0, 0, 0, 0, 0] rfl 13 0 rfl rfl rfl rfl (Nat.le_of_ble_eq_true rfl) rfl (fun _ _ _ => rfl) dX12_readBinding_191 (fun j97 u98 w99 => ?_)
                    refine V_ws [(h0, oC 13 [.ref h1, .ref h2, .int p2, .ref h3, .ref h4, .int (nI k5), .int (nI (u61.1 0)), .int (u98.2.1 0), .int (u98.2.1 1), .int (u61.2.1 2), .int (nI (u61.1 1)), .int j47, .long (u61.2.2.1 0), .ref h5, .ref h6, .int (nI k15), .int (nI k16)]), (h1, aI Y 3640 (u50.2.2.2.1 0)), (h2, aZ Y 2 f1), (h3, aZ Y 80 f3), (h4, aB Y 1600 f4), (h5, aI Y 200 f13), (h6, aI Y 800 f14)] rfl ?_
                    have x100 := w99
                    clear w99
                    obtain rfl := x100
                    exact V_zret 194 B rfl dX12_readBinding_194 (mkW [(u61.1 0), (u61.1 1)] [(u98.2.1 0), (u98.2.1 1), (u61.2.1 2), j47] [(u61.2.2.1 0)] [(u50.2.2.2.1 0)] [] []) ⟨(Or.inl rfl), x53, (show k10 ≤ (u61.1 1) by omega), (show (u61.1 1) ≤ (u61.1 0) by omega), (show (u61.1 0) ≤ k5 by omega), (show ((u61.2.1 2) = 0 ∨ (u61.1 1) < (u61.1 0)) by first | assumption | exact Or.inr (by omega))⟩ rfl
                  ·
                    have x101 := n_nle (a := (gN f0 2720)) (b := (a73.1 0)) kk95 (by omega) (by omega)
                    refine V_iload_n 159 B dX12_readBinding_159 1 rfl ?_
                    refine V_aload_n 160 B dX12_readBinding_160 4 rfl ?_
                    refine V_sipush 161 B (v := 2718) dX12_readBinding_161 (by decide +kernel) ?_
                    refine V_iload 164 B dX12_readBinding_164 0 rfl ?_
                    refine V_csi 166 B (st := [.int 2718, .ref h0, .int 1]) (As := [.int (nI (a73.1 0))]) (fun sz => rX12_reservedAt l D Y (a73.1 0) (by omega) sz) glS_RX12_108 ⟨rfl, rfl⟩ ⟨(Nat.le_of_ble_eq_true rfl), (Nat.le_of_ble_eq_true rfl)⟩ ⟨(Nat.le_of_ble_eq_true rfl), (Nat.le_of_ble_eq_true rfl)⟩ [] rfl rfl (Nat.le_of_ble_eq_true rfl) rfl (fun _ _ _ => rfl) dX12_readBinding_166 (fun j102 u103 w104 => ?_)
                    refine V_ws [(h0, oC 13 [.ref h1, .ref h2, .int p2, .ref h3, .ref h4, .int (nI k5), .int (nI (u61.1 0)), .int (u61.2.1 0), .int (u61.2.1 1), .int (u61.2.1 2), .int (nI (u61.1 1)), .int j47, .long (u61.2.2.1 0), .ref h5, .ref h6, .int (nI k15), .int (nI k16)]), (h1, aI Y 3640 (u50.2.2.2.1 0)), (h2, aZ Y 2 f1), (h3, aZ Y 80 f3), (h4, aB Y 1600 f4), (h5, aI Y 200 f13), (h6, aI Y 800 f14)] rfl ?_
                    have x105 := w104
                    clear w104
                    obtain rfl := x105
                    refine V_iadd 169 B (v := (nI (2872 + 5 * (a73.1 0)))) dX12_readBinding_169 (nI_addE (a := 2718) (b := 154 + 5 * (a73.1 0)) (by omega)) ?_
                    refine V_iload_n 170 B dX12_readBinding_170 2 rfl ?_
                    refine V_iconst 171 B (v := 2) dX12_readBinding_171 (by decide +kernel) ?_
                    refine V_iadd 172 B (v := (nI (2904 + 7 * (gN f0 2721)))) dX12_readBinding_172 (nI_addE (a := 2902 + 7 * (gN f0 2721)) (b := 2) (by omega)) ?_
                    refine V_cvi 173 B (st := [.int 1]) (As := [.int (nI (2872 + 5 * (a73.1 0))), .int (nI (2904 + 7 * (gN f0 2721)))]) (fun sz => rX12_doClash l D Y h0 h1 h2 h3 h4 h5 h6 p2 k5 (u61.1 0) (u61.2.1 0) (u61.2.1 1) (u61.2.1 2) (u61.1 1) j47 (u61.2.2.1 0) k15 k16 (u50.2.2.2.1 0) f1 f3 f4 f13 f14 ph x53 (by omega) HP (2872 + 5 * (a73.1 0)) (2904 + 7 * (gN f0 2721)) (rl31 (a73.1 0) (by omega)) (rl29 (gN f0 2721) (by omega)) sz) glV_RX12_111 ⟨rfl, rfl⟩ ⟨(Nat.le_of_ble_eq_true rfl), (Nat.le_of_ble_eq_true rfl)⟩ ⟨(Nat.le_of_ble_eq_true rfl), (Nat.le_of_ble_eq_true rfl)⟩ [0, 0, 0, 0, 0, 0, 0] rfl 13 0 rfl rfl rfl rfl (Nat.le_of_ble_eq_true rfl) rfl (fun _ _ _ => rfl) dX12_readBinding_173 (fun j106 u107 w108 => ?_)
                    refine V_ws [(h0, oC 13 [.ref h1, .ref h2, .int p2, .ref h3, .ref h4, .int (nI k5), .int (nI (u61.1 0)), .int (u61.2.1 0), .int (u61.2.1 1), .int (u61.2.1 2), .int (nI (u61.1 1)), .int j47, .long (u61.2.2.1 0), .ref h5, .ref h6, .int (nI k15), .int (nI k16)]), (h1, aI Y 3640 (u50.2.2.2.1 0)), (h2, aZ Y 2 f1), (h3, aZ Y 80 f3), (h4, aB Y 1600 f4), (h5, aI Y 200 f13), (h6, aI Y 800 f14)] rfl ?_
                    have x109 := w108
                    clear w108
                    rcases x109 with ⟨rfl, x110⟩ | ⟨rfl, x110⟩
                    ·
                      refine V_ior 176 B (v := 1) dX12_readBinding_176 (by decide +kernel) ?_
                      refine V_istore_n 177 B (lv2 := [(3, .int 1), (4, .int (nI (a73.1 0))), (2, .int (nI (2902 + 7 * (gN f0 2721)))), (1, .int (nI k10)), (0, .ref h0)]) dX12_readBinding_177 (by decide) rfl ?_
                      refine V_iinc 178 B (v := (nI (1 + (a73.1 0)))) (lv2 := [(4, .int (nI (1 + (a73.1 0)))), (3, .int 1), (2, .int (nI (2902 + 7 * (gN f0 2721)))), (1, .int (nI k10)), (0, .ref h0)]) dX12_readBinding_178 1 rfl (nI_addE (a := (a73.1 0)) (b := 1) (by omega)) (by decide) rfl ?_
                      refine V_goto 181 B 146 dX12_readBinding_181 (by decide) ?_
                      refine V_lv [(4, .int (nI (1 + (a73.1 0)))), (3, .int 1), (2, .int (nI (2902 + 7 * (gN f0 2721)))), (1, .int (nI k10)), (0, .ref h0)] [0, 1, 2, 3, 4] rfl ?_
                      exact IH74 (mkW [1 + (a73.1 0)] [1] [] [] [] []) ⟨(show 1 + (a73.1 0) ≤ 4000 by omega), (Or.inr rfl)⟩ (by show 100000 - (1 + (a73.1 0)) < 100000 - (a73.1 0); omega)
                    ·
                      refine V_ior 176 B (v := 1) dX12_readBinding_176 (by decide +kernel) ?_
                      refine V_istore_n 177 B (lv2 := [(3, .int 1), (4, .int (nI (a73.1 0))), (2, .int (nI (2902 + 7 * (gN f0 2721)))), (1, .int (nI k10)), (0, .ref h0)]) dX12_readBinding_177 (by decide) rfl ?_
                      refine V_iinc 178 B (v := (nI (1 + (a73.1 0)))) (lv2 := [(4, .int (nI (1 + (a73.1 0)))), (3, .int 1), (2, .int (nI (2902 + 7 * (gN f0 2721)))), (1, .int (nI k10)), (0, .ref h0)]) dX12_readBinding_178 1 rfl (nI_addE (a := (a73.1 0)) (b := 1) (by omega)) (by decide) rfl ?_
                      refine V_goto 181 B 146 dX12_readBinding_181 (by decide) ?_
                      refine V_lv [(4, .int (nI (1 + (a73.1 0)))), (3, .int 1), (2, .int (nI (2902 + 7 * (gN f0 2721)))), (1, .int (nI k10)), (0, .ref h0)] [0, 1, 2, 3, 4] rfl ?_
                      exact IH74 (mkW [1 + (a73.1 0)] [1] [] [] [] []) ⟨(show 1 + (a73.1 0) ≤ 4000 by omega), (Or.inr rfl)⟩ (by show 100000 - (1 + (a73.1 0)) < 100000 - (a73.1 0); omega)
              ·
                refine V_istore_n 142 B (lv2 := [(3, .int 1), (2, .int (nI (2902 + 7 * (gN f0 2721)))), (1, .int (nI k10)), (0, .ref h0)]) dX12_readBinding_142 (by decide) rfl ?_
                refine V_iconst 143 B (v := 0) dX12_readBinding_143 (by decide +kernel) ?_
                refine V_istore 144 B (lv2 := [(4, .int 0), (3, .int 1), (2, .int (nI (2902 + 7 * (gN f0 2721)))), (1, .int (nI k10)), (0, .ref h0)]) dX12_readBinding_144 (by decide) rfl ?_
                refine V_wloop (α := WU) (fun a => 100000 - (a.1 0)) (fun a => (a.1 0) ≤ 4000 ∧ ((a.2.1 0) = 0 ∨ (a.2.1 0) = 1)) (fun a => [(4, .int (nI (a.1 0))), (3, .int (a.2.1 0)), (2, .int (nI (2902 + 7 * (gN f0 2721)))), (1, .int (nI k10)), (0, .ref h0)]) (fun a => [(h0, oC 13 [.ref h1, .ref h2, .int p2, .ref h3, .ref h4, .int (nI k5), .int (nI (u61.1 0)), .int (u61.2.1 0), .int (u61.2.1 1), .int (u61.2.1 2), .int (nI (u61.1 1)), .int j47, .long (u61.2.2.1 0), .ref h5, .ref h6, .int (nI k15), .int (nI k16)]), (h1, aI Y 3640 (u50.2.2.2.1 0)), (h2, aZ Y 2 f1), (h3, aZ Y 80 f3), (h4, aB Y 1600 f4), (h5, aI Y 200 f13), (h6, aI Y 800 f14)]) (mkW [0] [1] [] [] [] []) ⟨(show 0 ≤ 4000 by omega), (Or.inr rfl)⟩ rfl rfl (fun a111 hI113 IH112 => ?_)
                refine V_lv [(4, .int (nI (a111.1 0))), (3, .int (a111.2.1 0)), (2, .int (nI (2902 + 7 * (gN f0 2721)))), (1, .int (nI k10)), (0, .ref h0)] [0, 1, 2, 3, 4] rfl ?_
                refine V_ws [(h0, oC 13 [.ref h1, .ref h2, .int p2, .ref h3, .ref h4, .int (nI k5), .int (nI (u61.1 0)), .int (u61.2.1 0), .int (u61.2.1 1), .int (u61.2.1 2), .int (nI (u61.1 1)), .int j47, .long (u61.2.2.1 0), .ref h5, .ref h6, .int (nI k15), .int (nI k16)]), (h1, aI Y 3640 (u50.2.2.2.1 0)), (h2, aZ Y 2 f1), (h3, aZ Y 80 f3), (h4, aB Y 1600 f4), (h5, aI Y 200 f13), (h6, aI Y 800 f14)] rfl ?_
                obtain ⟨x114, x115⟩ := hI113
                rcases x115 with e116 | e116
                ·
                  refine V_lv [(4, .int (nI (a111.1 0))), (3, .int 0), (2, .int (nI (2902 + 7 * (gN f0 2721)))), (1, .int (nI k10)), (0, .ref h0)] [0, 1, 2, 3, 4] (by rw [e116]; rfl) ?_
                  refine V_iload 146 B dX12_readBinding_146 0 rfl ?_
                  refine V_aload_n 148 B dX12_readBinding_148 4 rfl ?_
                  refine V_get 149 B gf_RX12_9 0 rfl rfl dX12_readBinding_149 ?_
                  refine V_sipush 152 B (v := 2720) dX12_readBinding_152 (by decide +kernel) ?_
                  have x117 : (gN f0 2720) ≤ 6 := gN_le HI (by omega) (show bd 2720 = (0, ((6 : Nat) : Int)) by decide +kernel)
                  refine V_iald 155 B (v := (nI (gN f0 2720))) 1 rfl (vpin _ _ (by decide +kernel)) dX12_readBinding_155 (by show (u50.2.2.2.1 0) 2720 = _; rw [x58 _ (by omega)]; rw [upd_ne (by omega)]; rw [upd_ne (by omega)]; exact gN_eq HI (by omega) (show bd 2720 = (0, ((6 : Nat) : Int)) by decide +kernel)) ?_
                  refine V_icmp_ge 156 B 184 dX12_readBinding_156 (by decide) (fun kk118 => ?_) (fun kk118 => ?_)
                  ·
                    have x119 := n_le (a := (gN f0 2720)) (b := (a111.1 0)) kk118 (by omega) (by omega)
                    refine V_iload_n 184 B dX12_readBinding_184 1 rfl ?_
                    refine V_if_eq_t 185 B 195 dX12_readBinding_185 (by decide) (by decide +kernel) ?_
                    refine V_aload_n 195 B dX12_readBinding_195 4 rfl ?_
                    refine V_get 196 B gf_RX12_9 0 rfl rfl dX12_readBinding_196 ?_
                    refine V_sipush 199 B (v := 2721) dX12_readBinding_199 (by decide +kernel) ?_
                    refine V_dup2_11 202 B dX12_readBinding_202 rfl rfl ?_
                    have x120 : (gN f0 2721) ≤ 80 := gN_le HI (by omega) (show bd 2721 = (0, ((80 : Nat) : Int)) by decide +kernel)
                    refine V_iald 203 B (v := (nI (gN f0 2721))) 1 rfl (vpin _ _ (by decide +kernel)) dX12_readBinding_203 (by show (u50.2.2.2.1 0) 2721 = _; rw [x58 _ (by omega)]; rw [upd_ne (by omega)]; rw [upd_ne (by omega)]; exact gN_eq HI (by omega) (show bd 2721 = (0, ((80 : Nat) : Int)) by decide +kernel)) ?_
                    refine V_iconst 204 B (v := 1) dX12_readBinding_204 (by decide +kernel) ?_
                    refine V_iadd 205 B (v := (nI (1 + (gN f0 2721)))) dX12_readBinding_205 (nI_addE (a := (gN f0 2721)) (b := 1) (by omega)) ?_
                    have hv121 : INV ph (upd (u50.2.2.2.1 0) 2721 (nI (1 + (gN f0 2721)))) := INV_nat (v := 1 + (gN f0 2721)) x53 (show bd 2721 = (0, ((80 : Nat) : Int)) by decide +kernel) (by omega) (by decide)
                    refine V_iast 206 B 1 rfl (vpin _ _ (by decide +kernel)) dX12_readBinding_206 [(h0, oC 13 [.ref h1, .ref h2, .int p2, .ref h3, .ref h4, .int (nI k5), .int (nI (u61.1 0)), .int (u61.2.1 0), .int (u61.2.1 1), .int (u61.2.1 2), .int (nI (u61.1 1)), .int j47, .long (u61.2.2.1 0), .ref h5, .ref h6, .int (nI k15), .int (nI k16)]), (h1, aI Y 3640 (upd (u50.2.2.2.1 0) 2721 (nI (1 + (gN f0 2721))))), (h2, aZ Y 2 f1), (h3, aZ Y 80 f3), (h4, aB Y 1600 f4), (h5, aI Y 200 f13), (h6, aI Y 800 f14)] rfl ?_
                    refine V_iconst 207 B (v := 1) dX12_readBinding_207 (by decide +kernel) ?_
                    exact V_zret 208 B rfl dX12_readBinding_208 (mkW [(u61.1 0), (u61.1 1)] [(u61.2.1 0), (u61.2.1 1), (u61.2.1 2), j47] [(u61.2.2.1 0)] [(upd (u50.2.2.2.1 0) 2721 (nI (1 + (gN f0 2721))))] [] []) ⟨(Or.inr ⟨rfl, (show k10 < (u61.1 1) by omega)⟩), hv121, (show k10 ≤ (u61.1 1) by omega), (show (u61.1 1) ≤ (u61.1 0) by omega), (show (u61.1 0) ≤ k5 by omega), (show ((u61.2.1 2) = 0 ∨ (u61.1 1) < (u61.1 0)) by first | assumption | exact Or.inr (by omega))⟩ rfl
                  ·
                    have x122 := n_nle (a := (gN f0 2720)) (b := (a111.1 0)) kk118 (by omega) (by omega)
                    refine V_iload_n 159 B dX12_readBinding_159 1 rfl ?_
                    refine V_aload_n 160 B dX12_readBinding_160 4 rfl ?_
                    refine V_sipush 161 B (v := 2718) dX12_readBinding_161 (by decide +kernel) ?_
                    refine V_iload 164 B dX12_readBinding_164 0 rfl ?_
                    refine V_csi 166 B (st := [.int 2718, .ref h0, .int 0]) (As := [.int (nI (a111.1 0))]) (fun sz => rX12_reservedAt l D Y (a111.1 0) (by omega) sz) glS_RX12_108 ⟨rfl, rfl⟩ ⟨(Nat.le_of_ble_eq_true rfl), (Nat.le_of_ble_eq_true rfl)⟩ ⟨(Nat.le_of_ble_eq_true rfl), (Nat.le_of_ble_eq_true rfl)⟩ [] rfl rfl (Nat.le_of_ble_eq_true rfl) rfl (fun _ _ _ => rfl) dX12_readBinding_166 (fun j123 u124 w125 => ?_)
                    refine V_ws [(h0, oC 13 [.ref h1, .ref h2, .int p2, .ref h3, .ref h4, .int (nI k5), .int (nI (u61.1 0)), .int (u61.2.1 0), .int (u61.2.1 1), .int (u61.2.1 2), .int (nI (u61.1 1)), .int j47, .long (u61.2.2.1 0), .ref h5, .ref h6, .int (nI k15), .int (nI k16)]), (h1, aI Y 3640 (u50.2.2.2.1 0)), (h2, aZ Y 2 f1), (h3, aZ Y 80 f3), (h4, aB Y 1600 f4), (h5, aI Y 200 f13), (h6, aI Y 800 f14)] rfl ?_
                    have x126 := w125
                    clear w125
                    obtain rfl := x126
                    refine V_iadd 169 B (v := (nI (2872 + 5 * (a111.1 0)))) dX12_readBinding_169 (nI_addE (a := 2718) (b := 154 + 5 * (a111.1 0)) (by omega)) ?_
                    refine V_iload_n 170 B dX12_readBinding_170 2 rfl ?_
                    refine V_iconst 171 B (v := 2) dX12_readBinding_171 (by decide +kernel) ?_
                    refine V_iadd 172 B (v := (nI (2904 + 7 * (gN f0 2721)))) dX12_readBinding_172 (nI_addE (a := 2902 + 7 * (gN f0 2721)) (b := 2) (by omega)) ?_
                    refine V_cvi 173 B (st := [.int 0]) (As := [.int (nI (2872 + 5 * (a111.1 0))), .int (nI (2904 + 7 * (gN f0 2721)))]) (fun sz => rX12_doClash l D Y h0 h1 h2 h3 h4 h5 h6 p2 k5 (u61.1 0) (u61.2.1 0) (u61.2.1 1) (u61.2.1 2) (u61.1 1) j47 (u61.2.2.1 0) k15 k16 (u50.2.2.2.1 0) f1 f3 f4 f13 f14 ph x53 (by omega) HP (2872 + 5 * (a111.1 0)) (2904 + 7 * (gN f0 2721)) (rl31 (a111.1 0) (by omega)) (rl29 (gN f0 2721) (by omega)) sz) glV_RX12_111 ⟨rfl, rfl⟩ ⟨(Nat.le_of_ble_eq_true rfl), (Nat.le_of_ble_eq_true rfl)⟩ ⟨(Nat.le_of_ble_eq_true rfl), (Nat.le_of_ble_eq_true rfl)⟩ [0, 0, 0, 0, 0, 0, 0] rfl 13 0 rfl rfl rfl rfl (Nat.le_of_ble_eq_true rfl) rfl (fun _ _ _ => rfl) dX12_readBinding_173 (fun j127 u128 w129 => ?_)
                    refine V_ws [(h0, oC 13 [.ref h1, .ref h2, .int p2, .ref h3, .ref h4, .int (nI k5), .int (nI (u61.1 0)), .int (u61.2.1 0), .int (u61.2.1 1), .int (u61.2.1 2), .int (nI (u61.1 1)), .int j47, .long (u61.2.2.1 0), .ref h5, .ref h6, .int (nI k15), .int (nI k16)]), (h1, aI Y 3640 (u50.2.2.2.1 0)), (h2, aZ Y 2 f1), (h3, aZ Y 80 f3), (h4, aB Y 1600 f4), (h5, aI Y 200 f13), (h6, aI Y 800 f14)] rfl ?_
                    have x130 := w129
                    clear w129
                    rcases x130 with ⟨rfl, x131⟩ | ⟨rfl, x131⟩
                    ·
                      refine V_ior 176 B (v := 0) dX12_readBinding_176 (by decide +kernel) ?_
                      refine V_istore_n 177 B (lv2 := [(3, .int 0), (4, .int (nI (a111.1 0))), (2, .int (nI (2902 + 7 * (gN f0 2721)))), (1, .int (nI k10)), (0, .ref h0)]) dX12_readBinding_177 (by decide) rfl ?_
                      refine V_iinc 178 B (v := (nI (1 + (a111.1 0)))) (lv2 := [(4, .int (nI (1 + (a111.1 0)))), (3, .int 0), (2, .int (nI (2902 + 7 * (gN f0 2721)))), (1, .int (nI k10)), (0, .ref h0)]) dX12_readBinding_178 1 rfl (nI_addE (a := (a111.1 0)) (b := 1) (by omega)) (by decide) rfl ?_
                      refine V_goto 181 B 146 dX12_readBinding_181 (by decide) ?_
                      refine V_lv [(4, .int (nI (1 + (a111.1 0)))), (3, .int 0), (2, .int (nI (2902 + 7 * (gN f0 2721)))), (1, .int (nI k10)), (0, .ref h0)] [0, 1, 2, 3, 4] rfl ?_
                      exact IH112 (mkW [1 + (a111.1 0)] [0] [] [] [] []) ⟨(show 1 + (a111.1 0) ≤ 4000 by omega), (Or.inl rfl)⟩ (by show 100000 - (1 + (a111.1 0)) < 100000 - (a111.1 0); omega)
                    ·
                      refine V_ior 176 B (v := 1) dX12_readBinding_176 (by decide +kernel) ?_
                      refine V_istore_n 177 B (lv2 := [(3, .int 1), (4, .int (nI (a111.1 0))), (2, .int (nI (2902 + 7 * (gN f0 2721)))), (1, .int (nI k10)), (0, .ref h0)]) dX12_readBinding_177 (by decide) rfl ?_
                      refine V_iinc 178 B (v := (nI (1 + (a111.1 0)))) (lv2 := [(4, .int (nI (1 + (a111.1 0)))), (3, .int 1), (2, .int (nI (2902 + 7 * (gN f0 2721)))), (1, .int (nI k10)), (0, .ref h0)]) dX12_readBinding_178 1 rfl (nI_addE (a := (a111.1 0)) (b := 1) (by omega)) (by decide) rfl ?_
                      refine V_goto 181 B 146 dX12_readBinding_181 (by decide) ?_
                      refine V_lv [(4, .int (nI (1 + (a111.1 0)))), (3, .int 1), (2, .int (nI (2902 + 7 * (gN f0 2721)))), (1, .int (nI k10)), (0, .ref h0)] [0, 1, 2, 3, 4] rfl ?_
                      exact IH112 (mkW [1 + (a111.1 0)] [1] [] [] [] []) ⟨(show 1 + (a111.1 0) ≤ 4000 by omega), (Or.inr rfl)⟩ (by show 100000 - (1 + (a111.1 0)) < 100000 - (a111.1 0); omega)
                ·
                  refine V_lv [(4, .int (nI (a111.1 0))), (3, .int 1), (2, .int (nI (2902 + 7 * (gN f0 2721)))), (1, .int (nI k10)), (0, .ref h0)] [0, 1, 2, 3, 4] (by rw [e116]; rfl) ?_
                  refine V_iload 146 B dX12_readBinding_146 0 rfl ?_
                  refine V_aload_n 148 B dX12_readBinding_148 4 rfl ?_
                  refine V_get 149 B gf_RX12_9 0 rfl rfl dX12_readBinding_149 ?_
                  refine V_sipush 152 B (v := 2720) dX12_readBinding_152 (by decide +kernel) ?_
                  have x132 : (gN f0 2720) ≤ 6 := gN_le HI (by omega) (show bd 2720 = (0, ((6 : Nat) : Int)) by decide +kernel)
                  refine V_iald 155 B (v := (nI (gN f0 2720))) 1 rfl (vpin _ _ (by decide +kernel)) dX12_readBinding_155 (by show (u50.2.2.2.1 0) 2720 = _; rw [x58 _ (by omega)]; rw [upd_ne (by omega)]; rw [upd_ne (by omega)]; exact gN_eq HI (by omega) (show bd 2720 = (0, ((6 : Nat) : Int)) by decide +kernel)) ?_
                  refine V_icmp_ge 156 B 184 dX12_readBinding_156 (by decide) (fun kk133 => ?_) (fun kk133 => ?_)
                  ·
                    have x134 := n_le (a := (gN f0 2720)) (b := (a111.1 0)) kk133 (by omega) (by omega)
                    refine V_iload_n 184 B dX12_readBinding_184 1 rfl ?_
                    refine V_if_eq_f 185 B 195 dX12_readBinding_185 (by decide) (by decide +kernel) ?_
                    refine V_aload_n 188 B dX12_readBinding_188 4 rfl ?_
                    refine V_iconst 189 B (v := 4) dX12_readBinding_189 (by decide +kernel) ?_
                    refine V_iload_n 190 B dX12_readBinding_190 3 rfl ?_
                    refine V_cvi 191 B (st := []) (As := [.int 4, .int (nI k10)]) (fun sz => rX12_failAt l D Y h0 h1 h2 h3 h4 h5 h6 p2 k5 (u61.1 0) (u61.2.1 0) (u61.2.1 1) (u61.2.1 2) (u61.1 1) j47 (u61.2.2.1 0) k15 k16 (u50.2.2.2.1 0) f1 f3 f4 f13 f14 ph x53 (by omega) HP 4 (nI k10) sz) glV_RX12_313 ⟨rfl, rfl⟩ ⟨(Nat.le_of_ble_eq_true rfl), (Nat.le_of_ble_eq_true rfl)⟩ ⟨(Nat.le_of_ble_eq_true rfl), (Nat.le_of_ble_eq_true rfl)⟩ [0, 0, 0, 0, 0, 0, 0] rfl 13 0 rfl rfl rfl rfl (Nat.le_of_ble_eq_true rfl) rfl (fun _ _ _ => rfl) dX12_readBinding_191 (fun j135 u136 w137 => ?_)
                    refine V_ws [(h0, oC 13 [.ref h1, .ref h2, .int p2, .ref h3, .ref h4, .int (nI k5), .int (nI (u61.1 0)), .int (u136.2.1 0), .int (u136.2.1 1), .int (u61.2.1 2), .int (nI (u61.1 1)), .int j47, .long (u61.2.2.1 0), .ref h5, .ref h6, .int (nI k15), .int (nI k16)]), (h1, aI Y 3640 (u50.2.2.2.1 0)), (h2, aZ Y 2 f1), (h3, aZ Y 80 f3), (h4, aB Y 1600 f4), (h5, aI Y 200 f13), (h6, aI Y 800 f14)] rfl ?_
                    have x138 := w137
                    clear w137
                    obtain rfl := x138
                    exact V_zret 194 B rfl dX12_readBinding_194 (mkW [(u61.1 0), (u61.1 1)] [(u136.2.1 0), (u136.2.1 1), (u61.2.1 2), j47] [(u61.2.2.1 0)] [(u50.2.2.2.1 0)] [] []) ⟨(Or.inl rfl), x53, (show k10 ≤ (u61.1 1) by omega), (show (u61.1 1) ≤ (u61.1 0) by omega), (show (u61.1 0) ≤ k5 by omega), (show ((u61.2.1 2) = 0 ∨ (u61.1 1) < (u61.1 0)) by first | assumption | exact Or.inr (by omega))⟩ rfl
                  ·
                    have x139 := n_nle (a := (gN f0 2720)) (b := (a111.1 0)) kk133 (by omega) (by omega)
                    refine V_iload_n 159 B dX12_readBinding_159 1 rfl ?_
                    refine V_aload_n 160 B dX12_readBinding_160 4 rfl ?_
                    refine V_sipush 161 B (v := 2718) dX12_readBinding_161 (by decide +kernel) ?_
                    refine V_iload 164 B dX12_readBinding_164 0 rfl ?_
                    refine V_csi 166 B (st := [.int 2718, .ref h0, .int 1]) (As := [.int (nI (a111.1 0))]) (fun sz => rX12_reservedAt l D Y (a111.1 0) (by omega) sz) glS_RX12_108 ⟨rfl, rfl⟩ ⟨(Nat.le_of_ble_eq_true rfl), (Nat.le_of_ble_eq_true rfl)⟩ ⟨(Nat.le_of_ble_eq_true rfl), (Nat.le_of_ble_eq_true rfl)⟩ [] rfl rfl (Nat.le_of_ble_eq_true rfl) rfl (fun _ _ _ => rfl) dX12_readBinding_166 (fun j140 u141 w142 => ?_)
                    refine V_ws [(h0, oC 13 [.ref h1, .ref h2, .int p2, .ref h3, .ref h4, .int (nI k5), .int (nI (u61.1 0)), .int (u61.2.1 0), .int (u61.2.1 1), .int (u61.2.1 2), .int (nI (u61.1 1)), .int j47, .long (u61.2.2.1 0), .ref h5, .ref h6, .int (nI k15), .int (nI k16)]), (h1, aI Y 3640 (u50.2.2.2.1 0)), (h2, aZ Y 2 f1), (h3, aZ Y 80 f3), (h4, aB Y 1600 f4), (h5, aI Y 200 f13), (h6, aI Y 800 f14)] rfl ?_
                    have x143 := w142
                    clear w142
                    obtain rfl := x143
                    refine V_iadd 169 B (v := (nI (2872 + 5 * (a111.1 0)))) dX12_readBinding_169 (nI_addE (a := 2718) (b := 154 + 5 * (a111.1 0)) (by omega)) ?_
                    refine V_iload_n 170 B dX12_readBinding_170 2 rfl ?_
                    refine V_iconst 171 B (v := 2) dX12_readBinding_171 (by decide +kernel) ?_
                    refine V_iadd 172 B (v := (nI (2904 + 7 * (gN f0 2721)))) dX12_readBinding_172 (nI_addE (a := 2902 + 7 * (gN f0 2721)) (b := 2) (by omega)) ?_
                    refine V_cvi 173 B (st := [.int 1]) (As := [.int (nI (2872 + 5 * (a111.1 0))), .int (nI (2904 + 7 * (gN f0 2721)))]) (fun sz => rX12_doClash l D Y h0 h1 h2 h3 h4 h5 h6 p2 k5 (u61.1 0) (u61.2.1 0) (u61.2.1 1) (u61.2.1 2) (u61.1 1) j47 (u61.2.2.1 0) k15 k16 (u50.2.2.2.1 0) f1 f3 f4 f13 f14 ph x53 (by omega) HP (2872 + 5 * (a111.1 0)) (2904 + 7 * (gN f0 2721)) (rl31 (a111.1 0) (by omega)) (rl29 (gN f0 2721) (by omega)) sz) glV_RX12_111 ⟨rfl, rfl⟩ ⟨(Nat.le_of_ble_eq_true rfl), (Nat.le_of_ble_eq_true rfl)⟩ ⟨(Nat.le_of_ble_eq_true rfl), (Nat.le_of_ble_eq_true rfl)⟩ [0, 0, 0, 0, 0, 0, 0] rfl 13 0 rfl rfl rfl rfl (Nat.le_of_ble_eq_true rfl) rfl (fun _ _ _ => rfl) dX12_readBinding_173 (fun j144 u145 w146 => ?_)
                    refine V_ws [(h0, oC 13 [.ref h1, .ref h2, .int p2, .ref h3, .ref h4, .int (nI k5), .int (nI (u61.1 0)), .int (u61.2.1 0), .int (u61.2.1 1), .int (u61.2.1 2), .int (nI (u61.1 1)), .int j47, .long (u61.2.2.1 0), .ref h5, .ref h6, .int (nI k15), .int (nI k16)]), (h1, aI Y 3640 (u50.2.2.2.1 0)), (h2, aZ Y 2 f1), (h3, aZ Y 80 f3), (h4, aB Y 1600 f4), (h5, aI Y 200 f13), (h6, aI Y 800 f14)] rfl ?_
                    have x147 := w146
                    clear w146
                    rcases x147 with ⟨rfl, x148⟩ | ⟨rfl, x148⟩
                    ·
                      refine V_ior 176 B (v := 1) dX12_readBinding_176 (by decide +kernel) ?_
                      refine V_istore_n 177 B (lv2 := [(3, .int 1), (4, .int (nI (a111.1 0))), (2, .int (nI (2902 + 7 * (gN f0 2721)))), (1, .int (nI k10)), (0, .ref h0)]) dX12_readBinding_177 (by decide) rfl ?_
                      refine V_iinc 178 B (v := (nI (1 + (a111.1 0)))) (lv2 := [(4, .int (nI (1 + (a111.1 0)))), (3, .int 1), (2, .int (nI (2902 + 7 * (gN f0 2721)))), (1, .int (nI k10)), (0, .ref h0)]) dX12_readBinding_178 1 rfl (nI_addE (a := (a111.1 0)) (b := 1) (by omega)) (by decide) rfl ?_
                      refine V_goto 181 B 146 dX12_readBinding_181 (by decide) ?_
                      refine V_lv [(4, .int (nI (1 + (a111.1 0)))), (3, .int 1), (2, .int (nI (2902 + 7 * (gN f0 2721)))), (1, .int (nI k10)), (0, .ref h0)] [0, 1, 2, 3, 4] rfl ?_
                      exact IH112 (mkW [1 + (a111.1 0)] [1] [] [] [] []) ⟨(show 1 + (a111.1 0) ≤ 4000 by omega), (Or.inr rfl)⟩ (by show 100000 - (1 + (a111.1 0)) < 100000 - (a111.1 0); omega)
                    ·
                      refine V_ior 176 B (v := 1) dX12_readBinding_176 (by decide +kernel) ?_
                      refine V_istore_n 177 B (lv2 := [(3, .int 1), (4, .int (nI (a111.1 0))), (2, .int (nI (2902 + 7 * (gN f0 2721)))), (1, .int (nI k10)), (0, .ref h0)]) dX12_readBinding_177 (by decide) rfl ?_
                      refine V_iinc 178 B (v := (nI (1 + (a111.1 0)))) (lv2 := [(4, .int (nI (1 + (a111.1 0)))), (3, .int 1), (2, .int (nI (2902 + 7 * (gN f0 2721)))), (1, .int (nI k10)), (0, .ref h0)]) dX12_readBinding_178 1 rfl (nI_addE (a := (a111.1 0)) (b := 1) (by omega)) (by decide) rfl ?_
                      refine V_goto 181 B 146 dX12_readBinding_181 (by decide) ?_
                      refine V_lv [(4, .int (nI (1 + (a111.1 0)))), (3, .int 1), (2, .int (nI (2902 + 7 * (gN f0 2721)))), (1, .int (nI k10)), (0, .ref h0)] [0, 1, 2, 3, 4] rfl ?_
                      exact IH112 (mkW [1 + (a111.1 0)] [1] [] [] [] []) ⟨(show 1 + (a111.1 0) ≤ 4000 by omega), (Or.inr rfl)⟩ (by show 100000 - (1 + (a111.1 0)) < 100000 - (a111.1 0); omega)
    ·
      have x149 := n_eq (a := (gN f0 2721)) (b := 80) kk1 (by omega) (by omega)
      refine V_aload_n 13 B dX12_readBinding_13 0 rfl ?_
      refine V_iconst 14 B (v := 3) dX12_readBinding_14 (by decide +kernel) ?_
      refine V_cvi 15 B (st := []) (As := [.int 3]) (fun sz => rX12_fail l D Y h0 h1 h2 h3 h4 h5 h6 p2 k5 k6 p7 p8 p9 k10 p11 q12 k15 k16 f0 f1 f3 f4 f13 f14 ph HI (by omega) HP 3 sz) glV_RX12_291 ⟨rfl, rfl⟩ ⟨(Nat.le_of_ble_eq_true rfl), (Nat.le_of_ble_eq_true rfl)⟩ ⟨(Nat.le_of_ble_eq_true rfl), (Nat.le_of_ble_eq_true rfl)⟩ [0, 0, 0, 0, 0, 0, 0] rfl 13 0 rfl rfl rfl rfl (Nat.le_of_ble_eq_true rfl) rfl (fun _ _ _ => rfl) dX12_readBinding_15 (fun j150 u151 w152 => ?_)
      refine V_ws [(h0, oC 13 [.ref h1, .ref h2, .int p2, .ref h3, .ref h4, .int (nI k5), .int (nI k6), .int (u151.2.1 0), .int (u151.2.1 1), .int p9, .int (nI k10), .int p11, .long q12, .ref h5, .ref h6, .int (nI k15), .int (nI k16)]), (h1, aI Y 3640 f0), (h2, aZ Y 2 f1), (h3, aZ Y 80 f3), (h4, aB Y 1600 f4), (h5, aI Y 200 f13), (h6, aI Y 800 f14)] rfl ?_
      have x153 := w152
      clear w152
      obtain rfl := x153
      exact V_zret 18 B rfl dX12_readBinding_18 (mkW [k6, k10] [(u151.2.1 0), (u151.2.1 1), p9, p11] [q12] [f0] [] []) ⟨(Or.inl rfl), HI, (show k10 ≤ k10 by omega), (show k10 ≤ k6 by omega), (show k6 ≤ k5 by omega), (show (p9 = 0 ∨ k10 < k6) by first | assumption | exact Or.inr (by omega))⟩ rfl)
theorem dX12_readLayer_0 : decode cX12_readLayer 0 = .ok (.aload_n 0, 1) := by decide +kernel
theorem dX12_readLayer_1 : decode cX12_readLayer 1 = .ok (.getfield 9, 3) := by decide +kernel
theorem dX12_readLayer_4 : decode cX12_readLayer 4 = .ok (.sipush 2722, 3) := by decide +kernel
theorem dX12_readLayer_7 : decode cX12_readLayer 7 = .ok (.iaload, 1) := by decide +kernel
theorem dX12_readLayer_8 : decode cX12_readLayer 8 = .ok (.iconst 4, 1) := by decide +kernel
theorem dX12_readLayer_9 : decode cX12_readLayer 9 = .ok (.if_icmp .ne 9, 3) := by decide +kernel
theorem dX12_readLayer_18 : decode cX12_readLayer 18 = .ok (.aload_n 0, 1) := by decide +kernel
theorem dX12_readLayer_19 : decode cX12_readLayer 19 = .ok (.getfield 270, 3) := by decide +kernel
theorem dX12_readLayer_22 : decode cX12_readLayer 22 = .ok (.istore_n 1, 1) := by decide +kernel
theorem dX12_readLayer_23 : decode cX12_readLayer 23 = .ok (.sipush 3462, 3) := by decide +kernel
theorem dX12_readLayer_26 : decode cX12_readLayer 26 = .ok (.bipush 28, 2) := by decide +kernel
theorem dX12_readLayer_28 : decode cX12_readLayer 28 = .ok (.aload_n 0, 1) := by decide +kernel
theorem dX12_readLayer_29 : decode cX12_readLayer 29 = .ok (.getfield 9, 3) := by decide +kernel
theorem dX12_readLayer_32 : decode cX12_readLayer 32 = .ok (.sipush 2722, 3) := by decide +kernel
theorem dX12_readLayer_35 : decode cX12_readLayer 35 = .ok (.iaload, 1) := by decide +kernel
theorem dX12_readLayer_36 : decode cX12_readLayer 36 = .ok (.imul, 1) := by decide +kernel
theorem dX12_readLayer_37 : decode cX12_readLayer 37 = .ok (.iadd, 1) := by decide +kernel
theorem dX12_readLayer_38 : decode cX12_readLayer 38 = .ok (.istore_n 2, 1) := by decide +kernel
theorem dX12_readLayer_39 : decode cX12_readLayer 39 = .ok (.aload_n 0, 1) := by decide +kernel
theorem dX12_readLayer_40 : decode cX12_readLayer 40 = .ok (.invokevirtual 288, 3) := by decide +kernel
theorem dX12_readLayer_43 : decode cX12_readLayer 43 = .ok (.aload_n 0, 1) := by decide +kernel
theorem dX12_readLayer_44 : decode cX12_readLayer 44 = .ok (.invokevirtual 316, 3) := by decide +kernel
theorem glV_RX12_316 : GLV RX12 316 yX12_readKey RX12 cX12_readKey 1 (some .boolean) 0 := ⟨⟨(mT10 41 rfl rfl), (mT10 43 rfl rfl), (mTs 89 rfl rfl), (mT1 13 rfl rfl), (mT10 44 rfl rfl)⟩, by decide +kernel⟩
theorem dX12_readLayer_47 : decode cX12_readLayer 47 = .ok (.ifCond .ne 5, 3) := by decide +kernel
theorem dX12_readLayer_50 : decode cX12_readLayer 50 = .ok (.iconst 0, 1) := by decide +kernel
theorem dX12_readLayer_51 : decode cX12_readLayer 51 = .ok (.ireturn, 1) := by decide +kernel
theorem dX12_readLayer_52 : decode cX12_readLayer 52 = .ok (.aload_n 0, 1) := by decide +kernel
theorem dX12_readLayer_53 : decode cX12_readLayer 53 = .ok (.getfield 9, 3) := by decide +kernel
theorem dX12_readLayer_56 : decode cX12_readLayer 56 = .ok (.iload_n 2, 1) := by decide +kernel
theorem dX12_readLayer_57 : decode cX12_readLayer 57 = .ok (.iconst 0, 1) := by decide +kernel
theorem dX12_readLayer_58 : decode cX12_readLayer 58 = .ok (.iadd, 1) := by decide +kernel
theorem dX12_readLayer_59 : decode cX12_readLayer 59 = .ok (.aload_n 0, 1) := by decide +kernel
theorem dX12_readLayer_60 : decode cX12_readLayer 60 = .ok (.getfield 294, 3) := by decide +kernel
theorem dX12_readLayer_63 : decode cX12_readLayer 63 = .ok (.iastore, 1) := by decide +kernel
theorem rl33 : ∀ z0, z0 < 4 → bd (3462 + 28 * z0) = FREE := by decide +kernel
theorem dX12_readLayer_64 : decode cX12_readLayer 64 = .ok (.iconst 0, 1) := by decide +kernel
theorem dX12_readLayer_65 : decode cX12_readLayer 65 = .ok (.istore_n 3, 1) := by decide +kernel
theorem dX12_readLayer_66 : decode cX12_readLayer 66 = .ok (.iconst 0, 1) := by decide +kernel
theorem dX12_readLayer_67 : decode cX12_readLayer 67 = .ok (.istore 4, 2) := by decide +kernel
theorem dX12_readLayer_69 : decode cX12_readLayer 69 = .ok (.iload 4, 2) := by decide +kernel
theorem dX12_readLayer_71 : decode cX12_readLayer 71 = .ok (.aload_n 0, 1) := by decide +kernel
theorem dX12_readLayer_72 : decode cX12_readLayer 72 = .ok (.getfield 9, 3) := by decide +kernel
theorem dX12_readLayer_75 : decode cX12_readLayer 75 = .ok (.sipush 2722, 3) := by decide +kernel
theorem dX12_readLayer_78 : decode cX12_readLayer 78 = .ok (.iaload, 1) := by decide +kernel
theorem dX12_readLayer_79 : decode cX12_readLayer 79 = .ok (.if_icmp .ge 40, 3) := by decide +kernel
theorem dX12_readLayer_119 : decode cX12_readLayer 119 = .ok (.aload_n 0, 1) := by decide +kernel
theorem dX12_readLayer_120 : decode cX12_readLayer 120 = .ok (.getfield 283, 3) := by decide +kernel
theorem dX12_readLayer_123 : decode cX12_readLayer 123 = .ok (.iconst 1, 1) := by decide +kernel
theorem dX12_readLayer_124 : decode cX12_readLayer 124 = .ok (.if_icmp .ne 69, 3) := by decide +kernel
theorem dX12_readLayer_193 : decode cX12_readLayer 193 = .ok (.aload_n 0, 1) := by decide +kernel
theorem dX12_readLayer_194 : decode cX12_readLayer 194 = .ok (.invokevirtual 304, 3) := by decide +kernel
theorem dX12_readLayer_197 : decode cX12_readLayer 197 = .ok (.ifCond .ne 5, 3) := by decide +kernel
theorem dX12_readLayer_200 : decode cX12_readLayer 200 = .ok (.iconst 0, 1) := by decide +kernel
theorem dX12_readLayer_201 : decode cX12_readLayer 201 = .ok (.ireturn, 1) := by decide +kernel
theorem dX12_readLayer_202 : decode cX12_readLayer 202 = .ok (.iload_n 3, 1) := by decide +kernel
theorem dX12_readLayer_203 : decode cX12_readLayer 203 = .ok (.ifCond .eq 10, 3) := by decide +kernel
theorem dX12_readLayer_213 : decode cX12_readLayer 213 = .ok (.aload_n 0, 1) := by decide +kernel
theorem dX12_readLayer_214 : decode cX12_readLayer 214 = .ok (.getfield 9, 3) := by decide +kernel
theorem dX12_readLayer_217 : decode cX12_readLayer 217 = .ok (.sipush 2722, 3) := by decide +kernel
theorem dX12_readLayer_220 : decode cX12_readLayer 220 = .ok (.dup2, 1) := by decide +kernel
theorem dX12_readLayer_221 : decode cX12_readLayer 221 = .ok (.iaload, 1) := by decide +kernel
theorem dX12_readLayer_222 : decode cX12_readLayer 222 = .ok (.iconst 1, 1) := by decide +kernel
theorem dX12_readLayer_223 : decode cX12_readLayer 223 = .ok (.iadd, 1) := by decide +kernel
theorem dX12_readLayer_224 : decode cX12_readLayer 224 = .ok (.iastore, 1) := by decide +kernel
theorem dX12_readLayer_225 : decode cX12_readLayer 225 = .ok (.iconst 1, 1) := by decide +kernel
theorem dX12_readLayer_226 : decode cX12_readLayer 226 = .ok (.ireturn, 1) := by decide +kernel
theorem dX12_readLayer_127 : decode cX12_readLayer 127 = .ok (.aload_n 0, 1) := by decide +kernel
theorem dX12_readLayer_128 : decode cX12_readLayer 128 = .ok (.invokevirtual 316, 3) := by decide +kernel
theorem dX12_readLayer_131 : decode cX12_readLayer 131 = .ok (.ifCond .ne 5, 3) := by decide +kernel
theorem dX12_readLayer_134 : decode cX12_readLayer 134 = .ok (.iconst 0, 1) := by decide +kernel
theorem dX12_readLayer_135 : decode cX12_readLayer 135 = .ok (.ireturn, 1) := by decide +kernel
theorem dX12_readLayer_136 : decode cX12_readLayer 136 = .ok (.aload_n 0, 1) := by decide +kernel
theorem dX12_readLayer_137 : decode cX12_readLayer 137 = .ok (.getfield 294, 3) := by decide +kernel
theorem dX12_readLayer_140 : decode cX12_readLayer 140 = .ok (.istore 4, 2) := by decide +kernel
theorem dX12_readLayer_142 : decode cX12_readLayer 142 = .ok (.aload_n 0, 1) := by decide +kernel
theorem dX12_readLayer_143 : decode cX12_readLayer 143 = .ok (.invokevirtual 316, 3) := by decide +kernel
theorem dX12_readLayer_146 : decode cX12_readLayer 146 = .ok (.ifCond .ne 5, 3) := by decide +kernel
theorem dX12_readLayer_149 : decode cX12_readLayer 149 = .ok (.iconst 0, 1) := by decide +kernel
theorem dX12_readLayer_150 : decode cX12_readLayer 150 = .ok (.ireturn, 1) := by decide +kernel
theorem dX12_readLayer_151 : decode cX12_readLayer 151 = .ok (.iload_n 3, 1) := by decide +kernel
theorem dX12_readLayer_152 : decode cX12_readLayer 152 = .ok (.aload_n 0, 1) := by decide +kernel
theorem dX12_readLayer_153 : decode cX12_readLayer 153 = .ok (.getfield 9, 3) := by decide +kernel
theorem dX12_readLayer_156 : decode cX12_readLayer 156 = .ok (.iload_n 2, 1) := by decide +kernel
theorem dX12_readLayer_157 : decode cX12_readLayer 157 = .ok (.iconst 2, 1) := by decide +kernel
theorem dX12_readLayer_158 : decode cX12_readLayer 158 = .ok (.iadd, 1) := by decide +kernel
theorem dX12_readLayer_159 : decode cX12_readLayer 159 = .ok (.iload 4, 2) := by decide +kernel
theorem dX12_readLayer_161 : decode cX12_readLayer 161 = .ok (.iadd, 1) := by decide +kernel
theorem dX12_readLayer_162 : decode cX12_readLayer 162 = .ok (.iaload, 1) := by decide +kernel
theorem rl34 : ∀ z0, z0 < 4 → ∀ z1, z1 < 26 → bd (3464 + 28 * z0 + z1) = FREE := by decide +kernel
theorem dX12_readLayer_163 : decode cX12_readLayer 163 = .ok (.ifCond .le 7, 3) := by decide +kernel
theorem dX12_readLayer_170 : decode cX12_readLayer 170 = .ok (.iconst 0, 1) := by decide +kernel
theorem dX12_readLayer_171 : decode cX12_readLayer 171 = .ok (.ior, 1) := by decide +kernel
theorem dX12_readLayer_172 : decode cX12_readLayer 172 = .ok (.istore_n 3, 1) := by decide +kernel
theorem dX12_readLayer_173 : decode cX12_readLayer 173 = .ok (.aload_n 0, 1) := by decide +kernel
theorem dX12_readLayer_174 : decode cX12_readLayer 174 = .ok (.getfield 9, 3) := by decide +kernel
theorem dX12_readLayer_177 : decode cX12_readLayer 177 = .ok (.iload_n 2, 1) := by decide +kernel
theorem dX12_readLayer_178 : decode cX12_readLayer 178 = .ok (.iconst 2, 1) := by decide +kernel
theorem dX12_readLayer_179 : decode cX12_readLayer 179 = .ok (.iadd, 1) := by decide +kernel
theorem dX12_readLayer_180 : decode cX12_readLayer 180 = .ok (.iload 4, 2) := by decide +kernel
theorem dX12_readLayer_182 : decode cX12_readLayer 182 = .ok (.iadd, 1) := by decide +kernel
theorem dX12_readLayer_183 : decode cX12_readLayer 183 = .ok (.aload_n 0, 1) := by decide +kernel
theorem dX12_readLayer_184 : decode cX12_readLayer 184 = .ok (.getfield 294, 3) := by decide +kernel
theorem dX12_readLayer_187 : decode cX12_readLayer 187 = .ok (.iconst 1, 1) := by decide +kernel
theorem dX12_readLayer_188 : decode cX12_readLayer 188 = .ok (.iadd, 1) := by decide +kernel
theorem dX12_readLayer_189 : decode cX12_readLayer 189 = .ok (.iastore, 1) := by decide +kernel
theorem dX12_readLayer_190 : decode cX12_readLayer 190 = .ok (.goto (-71), 3) := by decide +kernel
theorem dX12_readLayer_166 : decode cX12_readLayer 166 = .ok (.iconst 1, 1) := by decide +kernel
theorem dX12_readLayer_167 : decode cX12_readLayer 167 = .ok (.goto 4, 3) := by decide +kernel
theorem dX12_readLayer_206 : decode cX12_readLayer 206 = .ok (.aload_n 0, 1) := by decide +kernel
theorem dX12_readLayer_207 : decode cX12_readLayer 207 = .ok (.iconst 4, 1) := by decide +kernel
theorem dX12_readLayer_208 : decode cX12_readLayer 208 = .ok (.iload_n 1, 1) := by decide +kernel
theorem dX12_readLayer_209 : decode cX12_readLayer 209 = .ok (.invokevirtual 313, 3) := by decide +kernel
theorem dX12_readLayer_212 : decode cX12_readLayer 212 = .ok (.ireturn, 1) := by decide +kernel
theorem dX12_readLayer_82 : decode cX12_readLayer 82 = .ok (.iload_n 3, 1) := by decide +kernel
theorem dX12_readLayer_83 : decode cX12_readLayer 83 = .ok (.aload_n 0, 1) := by decide +kernel
theorem dX12_readLayer_84 : decode cX12_readLayer 84 = .ok (.getfield 9, 3) := by decide +kernel
theorem dX12_readLayer_87 : decode cX12_readLayer 87 = .ok (.sipush 3462, 3) := by decide +kernel
theorem dX12_readLayer_90 : decode cX12_readLayer 90 = .ok (.bipush 28, 2) := by decide +kernel
theorem dX12_readLayer_92 : decode cX12_readLayer 92 = .ok (.iload 4, 2) := by decide +kernel
theorem dX12_readLayer_94 : decode cX12_readLayer 94 = .ok (.imul, 1) := by decide +kernel
theorem dX12_readLayer_95 : decode cX12_readLayer 95 = .ok (.iadd, 1) := by decide +kernel
theorem dX12_readLayer_96 : decode cX12_readLayer 96 = .ok (.iconst 0, 1) := by decide +kernel
theorem dX12_readLayer_97 : decode cX12_readLayer 97 = .ok (.iadd, 1) := by decide +kernel
theorem dX12_readLayer_98 : decode cX12_readLayer 98 = .ok (.iaload, 1) := by decide +kernel
theorem rl35 : ∀ z0, z0 < 3 → bd (3462 + 28 * z0) = FREE := by decide +kernel
theorem dX12_readLayer_99 : decode cX12_readLayer 99 = .ok (.aload_n 0, 1) := by decide +kernel
theorem dX12_readLayer_100 : decode cX12_readLayer 100 = .ok (.getfield 294, 3) := by decide +kernel
theorem dX12_readLayer_103 : decode cX12_readLayer 103 = .ok (.if_icmp .ne 7, 3) := by decide +kernel
theorem dX12_readLayer_110 : decode cX12_readLayer 110 = .ok (.iconst 0, 1) := by decide +kernel
theorem dX12_readLayer_111 : decode cX12_readLayer 111 = .ok (.ior, 1) := by decide +kernel
theorem dX12_readLayer_112 : decode cX12_readLayer 112 = .ok (.istore_n 3, 1) := by decide +kernel
theorem dX12_readLayer_113 : decode cX12_readLayer 113 = .ok (.iinc 4 1, 3) := by decide +kernel
theorem dX12_readLayer_116 : decode cX12_readLayer 116 = .ok (.goto (-47), 3) := by decide +kernel
theorem dX12_readLayer_106 : decode cX12_readLayer 106 = .ok (.iconst 1, 1) := by decide +kernel
theorem dX12_readLayer_107 : decode cX12_readLayer 107 = .ok (.goto 4, 3) := by decide +kernel
theorem dX12_readLayer_12 : decode cX12_readLayer 12 = .ok (.aload_n 0, 1) := by decide +kernel
theorem dX12_readLayer_13 : decode cX12_readLayer 13 = .ok (.iconst 3, 1) := by decide +kernel
theorem dX12_readLayer_14 : decode cX12_readLayer 14 = .ok (.invokevirtual 291, 3) := by decide +kernel
theorem dX12_readLayer_17 : decode cX12_readLayer 17 = .ok (.ireturn, 1) := by decide +kernel
set_option maxRecDepth 100000 in
set_option maxHeartbeats 4000000 in
theorem rX12_readLayer (l : Launch) (D : va_G) (Y : Nat → ClassId) (h0 : Nat) (h1 : Nat) (h2 : Nat) (h3 : Nat) (h4 : Nat) (h5 : Nat) (h6 : Nat) (p2 : Int32) (k5 : Nat) (k6 : Nat) (p7 : Int32) (p8 : Int32) (p9 : Int32) (k10 : Nat) (p11 : Int32) (q12 : Int64) (k15 : Nat) (k16 : Nat) (f0 : Nat → Int32) (f1 : Nat → Int32) (f3 : Nat → Int32) (f4 : Nat → Int32) (f13 : Nat → Int32) (f14 : Nat → Int32) (ph : Nat → Int32) (HI : INV ph f0) (HL : k5 ≤ 1600) (HP : PLV f13)  (hx0 : k10 ≤ k6) (hx1 : k6 ≤ k5) (hx2 : (p9 = 0 ∨ k10 < k6)) (hx3 : k10 < k6) (sz : Nat) : Met l yX12_readLayer (WSm yX12_readLayer cX12_readLayer 5 (some .boolean)) (mkR 5 0 0 106) (PreC D Y [.ref h0] [(h0, oC 13 [.ref h1, .ref h2, .int p2, .ref h3, .ref h4, .int (nI k5), .int (nI k6), .int p7, .int p8, .int p9, .int (nI k10), .int p11, .long q12, .ref h5, .ref h6, .int (nI k15), .int (nI k16)]), (h1, aI Y 3640 f0), (h2, aZ Y 2 f1), (h3, aZ Y 80 f3), (h4, aB Y 1600 f4), (h5, aI Y 200 f13), (h6, aI Y 800 f14)] sz) (QI D (fun (r : Int32) (u : WU) => (r = 0 ∨ (r = 1 ∧ k10 < (u.1 1))) ∧ INV ph (u.2.2.2.1 0) ∧ k10 ≤ (u.1 1) ∧ (u.1 1) ≤ (u.1 0) ∧ (u.1 0) ≤ k5 ∧ ((u.2.1 2) = 0 ∨ (u.1 1) < (u.1 0))) (fun (u : WU) => [(h0, oC 13 [.ref h1, .ref h2, .int p2, .ref h3, .ref h4, .int (nI k5), .int (nI (u.1 0)), .int (u.2.1 0), .int (u.2.1 1), .int (u.2.1 2), .int (nI (u.1 1)), .int (u.2.1 3), .long (u.2.2.1 0), .ref h5, .ref h6, .int (nI k15), .int (nI k16)]), (h1, aI Y 3640 (u.2.2.2.1 0)), (h2, aZ Y 2 f1), (h3, aZ Y 80 f3), (h4, aB Y 1600 f4), (h5, aI Y 200 f13), (h6, aI Y 800 f14)]) (va_A [(h0, oC 13 [.ref h1, .ref h2, .int p2, .ref h3, .ref h4, .int (nI k5), .int (nI k6), .int p7, .int p8, .int p9, .int (nI k10), .int p11, .long q12, .ref h5, .ref h6, .int (nI k15), .int (nI k16)]), (h1, aI Y 3640 f0), (h2, aZ Y 2 f1), (h3, aZ Y 80 f3), (h4, aB Y 1600 f4), (h5, aI Y 200 f13), (h6, aI Y 800 f14)] sz)) 0 0 (va_A [(h0, oC 13 [.ref h1, .ref h2, .int p2, .ref h3, .ref h4, .int (nI k5), .int (nI k6), .int p7, .int p8, .int p9, .int (nI k10), .int p11, .long q12, .ref h5, .ref h6, .int (nI k15), .int (nI k16)]), (h1, aI Y 3640 f0), (h2, aZ Y 2 f1), (h3, aZ Y 80 f3), (h4, aB Y 1600 f4), (h5, aI Y 200 f13), (h6, aI Y 800 f14)] sz) :=
  met_of  (by decide +kernel) (Nat.le_of_ble_eq_true rfl) (fun p e s m args below meth c B hin hsz => by
    have B : VB p s m args meth c D Y (va_A [(h0, oC 13 [.ref h1, .ref h2, .int p2, .ref h3, .ref h4, .int (nI k5), .int (nI k6), .int p7, .int p8, .int p9, .int (nI k10), .int p11, .long q12, .ref h5, .ref h6, .int (nI k15), .int (nI k16)]), (h1, aI Y 3640 f0), (h2, aZ Y 2 f1), (h3, aZ Y 80 f3), (h4, aB Y 1600 f4), (h5, aI Y 200 f13), (h6, aI Y 800 f14)] sz) cX12_readLayer 5 RX12 (some .boolean) := B
    refine V_aload_n 0 B dX12_readLayer_0 0 rfl ?_
    refine V_get 1 B gf_RX12_9 0 rfl rfl dX12_readLayer_1 ?_
    refine V_sipush 4 B (v := 2722) dX12_readLayer_4 (by decide +kernel) ?_
    have x0 : (gN f0 2722) ≤ 4 := gN_le HI (by omega) (show bd 2722 = (0, ((4 : Nat) : Int)) by decide +kernel)
    refine V_iald 7 B (v := (nI (gN f0 2722))) 1 rfl (vpin _ _ (by decide +kernel)) dX12_readLayer_7 (by show f0 2722 = _; exact gN_eq HI (by omega) (show bd 2722 = (0, ((4 : Nat) : Int)) by decide +kernel)) ?_
    refine V_iconst 8 B (v := 4) dX12_readLayer_8 (by decide +kernel) ?_
    refine V_icmp_ne 9 B 18 dX12_readLayer_9 (by decide) (fun kk1 => ?_) (fun kk1 => ?_)
    ·
      have x2 := n_ne (a := (gN f0 2722)) (b := 4) kk1
      refine V_aload_n 18 B dX12_readLayer_18 0 rfl ?_
      refine V_get 19 B gf_RX12_270 0 rfl rfl dX12_readLayer_19 ?_
      refine V_istore_n 22 B (lv2 := [(1, .int (nI k10)), (0, .ref h0)]) dX12_readLayer_22 (by decide) rfl ?_
      refine V_sipush 23 B (v := 3462) dX12_readLayer_23 (by decide +kernel) ?_
      refine V_bipush 26 B (v := 28) dX12_readLayer_26 (by decide +kernel) ?_
      refine V_aload_n 28 B dX12_readLayer_28 1 rfl ?_
      refine V_get 29 B gf_RX12_9 0 rfl rfl dX12_readLayer_29 ?_
      refine V_sipush 32 B (v := 2722) dX12_readLayer_32 (by decide +kernel) ?_
      have x3 : (gN f0 2722) ≤ 4 := gN_le HI (by omega) (show bd 2722 = (0, ((4 : Nat) : Int)) by decide +kernel)
      refine V_iald 35 B (v := (nI (gN f0 2722))) 1 rfl (vpin _ _ (by decide +kernel)) dX12_readLayer_35 (by show f0 2722 = _; exact gN_eq HI (by omega) (show bd 2722 = (0, ((4 : Nat) : Int)) by decide +kernel)) ?_
      refine V_imul 36 B (v := (nI (28 * (gN f0 2722)))) dX12_readLayer_36 (nI_mulE (a := 28) (b := (gN f0 2722)) (by omega)) ?_
      refine V_iadd 37 B (v := (nI (3462 + 28 * (gN f0 2722)))) dX12_readLayer_37 (nI_addE (a := 3462) (b := 28 * (gN f0 2722)) (by omega)) ?_
      refine V_istore_n 38 B (lv2 := [(2, .int (nI (3462 + 28 * (gN f0 2722)))), (1, .int (nI k10)), (0, .ref h0)]) dX12_readLayer_38 (by decide) rfl ?_
      refine V_aload_n 39 B dX12_readLayer_39 2 rfl ?_
      refine V_cvv 40 B (st := []) (As := []) (fun sz => rX12_advance l D Y h0 h1 h2 h3 h4 h5 h6 p2 k5 k6 p7 p8 p9 k10 p11 q12 k15 k16 f0 f1 f3 f4 f13 f14 ph HI (by omega) HP (by omega) sz) glV_RX12_288 ⟨rfl, rfl⟩ ⟨(Nat.le_of_ble_eq_true rfl), (Nat.le_of_ble_eq_true rfl)⟩ ⟨(Nat.le_of_ble_eq_true rfl), (Nat.le_of_ble_eq_true rfl)⟩ [0, 0, 0, 0, 0, 0, 0] rfl 13 0 rfl rfl rfl rfl (Nat.le_of_ble_eq_true rfl) rfl (fun _ _ => rfl) dX12_readLayer_40 (fun u5 w6 => ?_)
      refine V_ws [(h0, oC 13 [.ref h1, .ref h2, .int p2, .ref h3, .ref h4, .int (nI k5), .int (nI (u5.1 0)), .int p7, .int p8, .int (u5.2.1 0), .int (nI (u5.1 1)), .int p11, .long (u5.2.2.1 0), .ref h5, .ref h6, .int (nI k15), .int (nI k16)]), (h1, aI Y 3640 f0), (h2, aZ Y 2 f1), (h3, aZ Y 80 f3), (h4, aB Y 1600 f4), (h5, aI Y 200 f13), (h6, aI Y 800 f14)] rfl ?_
      obtain ⟨x7, x8, x9, x10⟩ := w6
      refine V_aload_n 43 B dX12_readLayer_43 2 rfl ?_
      refine V_cvi 44 B (st := []) (As := []) (fun sz => rX12_readKey l D Y h0 h1 h2 h3 h4 h5 h6 p2 k5 (u5.1 0) p7 p8 (u5.2.1 0) (u5.1 1) p11 (u5.2.2.1 0) k15 k16 f0 f1 f3 f4 f13 f14 ph HI (by omega) HP (by omega) (by omega) (by first | assumption | exact Or.inl rfl | exact Or.inr (by omega)) sz) glV_RX12_316 ⟨rfl, rfl⟩ ⟨(Nat.le_of_ble_eq_true rfl), (Nat.le_of_ble_eq_true rfl)⟩ ⟨(Nat.le_of_ble_eq_true rfl), (Nat.le_of_ble_eq_true rfl)⟩ [0, 0, 0, 0, 0, 0, 0] rfl 13 0 rfl rfl rfl rfl (Nat.le_of_ble_eq_true rfl) rfl (fun _ _ _ => rfl) dX12_readLayer_44 (fun j11 u12 w13 => ?_)
      refine V_ws [(h0, oC 13 [.ref h1, .ref h2, .int p2, .ref h3, .ref h4, .int (nI k5), .int (nI (u12.1 0)), .int (u12.2.1 0), .int (u12.2.1 1), .int (u12.2.1 2), .int (nI (u12.1 1)), .int (u12.2.1 3), .long (u12.2.2.1 0), .ref h5, .ref h6, .int (nI k15), .int (nI k16)]), (h1, aI Y 3640 f0), (h2, aZ Y 2 f1), (h3, aZ Y 80 f3), (h4, aB Y 1600 f4), (h5, aI Y 200 f13), (h6, aI Y 800 f14)] rfl ?_
      obtain ⟨x14, x15, x16, x17, x18⟩ := w13
      rcases x14 with rfl | ⟨rfl, x19, x20⟩
      ·
        refine V_if_ne_f 47 B 52 dX12_readLayer_47 (by decide) (by decide +kernel) ?_
        refine V_iconst 50 B (v := 0) dX12_readLayer_50 (by decide +kernel) ?_
        exact V_zret 51 B rfl dX12_readLayer_51 (mkW [(u12.1 0), (u12.1 1)] [(u12.2.1 0), (u12.2.1 1), (u12.2.1 2), (u12.2.1 3)] [(u12.2.2.1 0)] [f0] [] []) ⟨(Or.inl rfl), HI, (show k10 ≤ (u12.1 1) by omega), (show (u12.1 1) ≤ (u12.1 0) by omega), (show (u12.1 0) ≤ k5 by omega), (show ((u12.2.1 2) = 0 ∨ (u12.1 1) < (u12.1 0)) by first | assumption | exact Or.inr (by omega))⟩ rfl
      ·
        generalize u12.2.1 3 = j21 at *
        refine V_if_ne_t 47 B 52 dX12_readLayer_47 (by decide) (by decide +kernel) ?_
        refine V_aload_n 52 B dX12_readLayer_52 2 rfl ?_
        refine V_get 53 B gf_RX12_9 0 rfl rfl dX12_readLayer_53 ?_
        refine V_iload_n 56 B dX12_readLayer_56 0 rfl ?_
        refine V_iconst 57 B (v := 0) dX12_readLayer_57 (by decide +kernel) ?_
        refine V_iadd 58 B (v := (nI (3462 + 28 * (gN f0 2722)))) dX12_readLayer_58 (nI_addE (a := 3462 + 28 * (gN f0 2722)) (b := 0) (by omega)) ?_
        refine V_aload_n 59 B dX12_readLayer_59 2 rfl ?_
        refine V_get 60 B gf_RX12_294 0 rfl rfl dX12_readLayer_60 ?_
        have hv22 : INV ph (upd f0 (3462 + 28 * (gN f0 2722)) j21) := INV_free HI (rl33 (gN f0 2722) (by omega))
        refine V_iast 63 B 1 rfl (vp_in_nI (n := 3462 + 28 * (gN f0 2722)) (by omega) (by decide)) dX12_readLayer_63 [(h0, oC 13 [.ref h1, .ref h2, .int p2, .ref h3, .ref h4, .int (nI k5), .int (nI (u12.1 0)), .int (u12.2.1 0), .int (u12.2.1 1), .int (u12.2.1 2), .int (nI (u12.1 1)), .int j21, .long (u12.2.2.1 0), .ref h5, .ref h6, .int (nI k15), .int (nI k16)]), (h1, aI Y 3640 (upd f0 (3462 + 28 * (gN f0 2722)) j21)), (h2, aZ Y 2 f1), (h3, aZ Y 80 f3), (h4, aB Y 1600 f4), (h5, aI Y 200 f13), (h6, aI Y 800 f14)] (by rw [nI_clamp (show 3462 + 28 * (gN f0 2722) < 2 ^ 31 by omega)]; rfl) ?_
        refine V_iconst 64 B (v := 0) dX12_readLayer_64 (by decide +kernel) ?_
        refine V_istore_n 65 B (lv2 := [(3, .int 0), (2, .int (nI (3462 + 28 * (gN f0 2722)))), (1, .int (nI k10)), (0, .ref h0)]) dX12_readLayer_65 (by decide) rfl ?_
        refine V_iconst 66 B (v := 0) dX12_readLayer_66 (by decide +kernel) ?_
        refine V_istore 67 B (lv2 := [(4, .int 0), (3, .int 0), (2, .int (nI (3462 + 28 * (gN f0 2722)))), (1, .int (nI k10)), (0, .ref h0)]) dX12_readLayer_67 (by decide) rfl ?_
        refine V_wloop (α := WU) (fun a => 100000 - (a.1 0)) (fun a => (a.1 0) ≤ 4000 ∧ ((a.2.1 0) = 0 ∨ (a.2.1 0) = 1)) (fun a => [(4, .int (nI (a.1 0))), (3, .int (a.2.1 0)), (2, .int (nI (3462 + 28 * (gN f0 2722)))), (1, .int (nI k10)), (0, .ref h0)]) (fun a => [(h0, oC 13 [.ref h1, .ref h2, .int p2, .ref h3, .ref h4, .int (nI k5), .int (nI (u12.1 0)), .int (u12.2.1 0), .int (u12.2.1 1), .int (u12.2.1 2), .int (nI (u12.1 1)), .int j21, .long (u12.2.2.1 0), .ref h5, .ref h6, .int (nI k15), .int (nI k16)]), (h1, aI Y 3640 (upd f0 (3462 + 28 * (gN f0 2722)) j21)), (h2, aZ Y 2 f1), (h3, aZ Y 80 f3), (h4, aB Y 1600 f4), (h5, aI Y 200 f13), (h6, aI Y 800 f14)]) (mkW [0] [0] [] [] [] []) ⟨(show 0 ≤ 4000 by omega), (Or.inl rfl)⟩ rfl rfl (fun a23 hI25 IH24 => ?_)
        refine V_lv [(4, .int (nI (a23.1 0))), (3, .int (a23.2.1 0)), (2, .int (nI (3462 + 28 * (gN f0 2722)))), (1, .int (nI k10)), (0, .ref h0)] [0, 1, 2, 3, 4] rfl ?_
        refine V_ws [(h0, oC 13 [.ref h1, .ref h2, .int p2, .ref h3, .ref h4, .int (nI k5), .int (nI (u12.1 0)), .int (u12.2.1 0), .int (u12.2.1 1), .int (u12.2.1 2), .int (nI (u12.1 1)), .int j21, .long (u12.2.2.1 0), .ref h5, .ref h6, .int (nI k15), .int (nI k16)]), (h1, aI Y 3640 (upd f0 (3462 + 28 * (gN f0 2722)) j21)), (h2, aZ Y 2 f1), (h3, aZ Y 80 f3), (h4, aB Y 1600 f4), (h5, aI Y 200 f13), (h6, aI Y 800 f14)] rfl ?_
        obtain ⟨x26, x27⟩ := hI25
        rcases x27 with e28 | e28
        ·
          refine V_lv [(4, .int (nI (a23.1 0))), (3, .int 0), (2, .int (nI (3462 + 28 * (gN f0 2722)))), (1, .int (nI k10)), (0, .ref h0)] [0, 1, 2, 3, 4] (by rw [e28]; rfl) ?_
          refine V_iload 69 B dX12_readLayer_69 0 rfl ?_
          refine V_aload_n 71 B dX12_readLayer_71 4 rfl ?_
          refine V_get 72 B gf_RX12_9 0 rfl rfl dX12_readLayer_72 ?_
          refine V_sipush 75 B (v := 2722) dX12_readLayer_75 (by decide +kernel) ?_
          have x29 : (gN f0 2722) ≤ 4 := gN_le HI (by omega) (show bd 2722 = (0, ((4 : Nat) : Int)) by decide +kernel)
          refine V_iald 78 B (v := (nI (gN f0 2722))) 1 rfl (vpin _ _ (by decide +kernel)) dX12_readLayer_78 (by show (upd f0 (3462 + 28 * (gN f0 2722)) j21) 2722 = _; rw [upd_ne (by omega)]; exact gN_eq HI (by omega) (show bd 2722 = (0, ((4 : Nat) : Int)) by decide +kernel)) ?_
          refine V_icmp_ge 79 B 119 dX12_readLayer_79 (by decide) (fun kk30 => ?_) (fun kk30 => ?_)
          ·
            have x31 := n_le (a := (gN f0 2722)) (b := (a23.1 0)) kk30 (by omega) (by omega)
            refine V_wloop (α := WU) (fun a => 4000 - (a.1 1)) (fun a => INV ph (a.2.2.2.1 0) ∧ ((a.2.1 1) = 0 ∨ (a.2.1 1) = 1) ∧ (k10 < (a.1 1) ∧ (a.1 1) ≤ (a.1 0) ∧ (a.1 0) ≤ k5 ∧ ((a.2.1 4) = 0 ∨ (a.1 1) < (a.1 0))) ∧ gN (a.2.2.2.1 0) 2722 = gN f0 2722) (fun a => [(4, .int (a.2.1 0)), (3, .int (a.2.1 1)), (2, .int (nI (3462 + 28 * (gN f0 2722)))), (1, .int (nI k10)), (0, .ref h0)]) (fun a => [(h0, oC 13 [.ref h1, .ref h2, .int p2, .ref h3, .ref h4, .int (nI k5), .int (nI (a.1 0)), .int (a.2.1 2), .int (a.2.1 3), .int (a.2.1 4), .int (nI (a.1 1)), .int (a.2.1 5), .long (a.2.2.1 0), .ref h5, .ref h6, .int (nI k15), .int (nI k16)]), (h1, aI Y 3640 (a.2.2.2.1 0)), (h2, aZ Y 2 f1), (h3, aZ Y 80 f3), (h4, aB Y 1600 f4), (h5, aI Y 200 f13), (h6, aI Y 800 f14)]) (mkW [(u12.1 0), (u12.1 1)] [(nI (a23.1 0)), 0, (u12.2.1 0), (u12.2.1 1), (u12.2.1 2), j21] [(u12.2.2.1 0)] [(upd f0 (3462 + 28 * (gN f0 2722)) j21)] [] []) ⟨hv22, (Or.inl rfl), ⟨(show k10 < (u12.1 1) by omega), (show (u12.1 1) ≤ (u12.1 0) by omega), (show (u12.1 0) ≤ k5 by omega), (show ((u12.2.1 2) = 0 ∨ (u12.1 1) < (u12.1 0)) by first | assumption | exact Or.inr (by omega))⟩, (show gN ((upd f0 (3462 + 28 * (gN f0 2722)) j21)) 2722 = gN f0 2722 by rw [gN_ne (by omega)])⟩ rfl rfl (fun a32 hI34 IH33 => ?_)
            refine V_lv [(4, .int (a32.2.1 0)), (3, .int (a32.2.1 1)), (2, .int (nI (3462 + 28 * (gN f0 2722)))), (1, .int (nI k10)), (0, .ref h0)] [0, 1, 2, 3, 4] rfl ?_
            refine V_ws [(h0, oC 13 [.ref h1, .ref h2, .int p2, .ref h3, .ref h4, .int (nI k5), .int (nI (a32.1 0)), .int (a32.2.1 2), .int (a32.2.1 3), .int (a32.2.1 4), .int (nI (a32.1 1)), .int (a32.2.1 5), .long (a32.2.2.1 0), .ref h5, .ref h6, .int (nI k15), .int (nI k16)]), (h1, aI Y 3640 (a32.2.2.2.1 0)), (h2, aZ Y 2 f1), (h3, aZ Y 80 f3), (h4, aB Y 1600 f4), (h5, aI Y 200 f13), (h6, aI Y 800 f14)] rfl ?_
            obtain ⟨x35, x36, x37, x38⟩ := hI34
            obtain ⟨x39, x40, x41, x42⟩ := x37
            have x43 : (gN (a32.2.2.2.1 0) 2722) ≤ 4 := gN_le x35 (by omega) (show bd 2722 = (0, ((4 : Nat) : Int)) by decide +kernel)
            rcases x36 with e44 | e44
            ·
              refine V_lv [(4, .int (a32.2.1 0)), (3, .int 0), (2, .int (nI (3462 + 28 * (gN f0 2722)))), (1, .int (nI k10)), (0, .ref h0)] [0, 1, 2, 3, 4] (by rw [e44]; rfl) ?_
              refine V_aload_n 119 B dX12_readLayer_119 4 rfl ?_
              refine V_get 120 B gf_RX12_283 0 rfl rfl dX12_readLayer_120 ?_
              refine V_iconst 123 B (v := 1) dX12_readLayer_123 (by decide +kernel) ?_
              refine V_icmp_ne 124 B 193 dX12_readLayer_124 (by decide) (fun kk45 => ?_) (fun kk45 => ?_)
              ·
                have x46 := x_ne kk45
                rw [show (1 : Int32).toInt = 1 by decide +kernel] at x46
                refine V_aload_n 193 B dX12_readLayer_193 4 rfl ?_
                refine V_cvi 194 B (st := []) (As := []) (fun sz => rX12_readEnd l D Y h0 h1 h2 h3 h4 h5 h6 p2 k5 (a32.1 0) (a32.2.1 2) (a32.2.1 3) (a32.2.1 4) (a32.1 1) (a32.2.1 5) (a32.2.2.1 0) k15 k16 (a32.2.2.2.1 0) f1 f3 f4 f13 f14 ph x35 (by omega) HP (by omega) (by omega) (by first | assumption | exact Or.inl rfl | exact Or.inr (by omega)) sz) glV_RX12_304 ⟨rfl, rfl⟩ ⟨(Nat.le_of_ble_eq_true rfl), (Nat.le_of_ble_eq_true rfl)⟩ ⟨(Nat.le_of_ble_eq_true rfl), (Nat.le_of_ble_eq_true rfl)⟩ [0, 0, 0, 0, 0, 0, 0] rfl 13 0 rfl rfl rfl rfl (Nat.le_of_ble_eq_true rfl) rfl (fun _ _ _ => rfl) dX12_readLayer_194 (fun j47 u48 w49 => ?_)
                refine V_ws [(h0, oC 13 [.ref h1, .ref h2, .int p2, .ref h3, .ref h4, .int (nI k5), .int (nI (u48.1 0)), .int (u48.2.1 0), .int (u48.2.1 1), .int (u48.2.1 2), .int (nI (u48.1 1)), .int (a32.2.1 5), .long (u48.2.2.1 0), .ref h5, .ref h6, .int (nI k15), .int (nI k16)]), (h1, aI Y 3640 (a32.2.2.2.1 0)), (h2, aZ Y 2 f1), (h3, aZ Y 80 f3), (h4, aB Y 1600 f4), (h5, aI Y 200 f13), (h6, aI Y 800 f14)] rfl ?_
                obtain ⟨x50, x51, x52, x53, x54⟩ := w49
                rcases x50 with rfl | ⟨rfl, x55⟩
                ·
                  refine V_if_ne_f 197 B 202 dX12_readLayer_197 (by decide) (by decide +kernel) ?_
                  refine V_iconst 200 B (v := 0) dX12_readLayer_200 (by decide +kernel) ?_
                  exact V_zret 201 B rfl dX12_readLayer_201 (mkW [(u48.1 0), (u48.1 1)] [(u48.2.1 0), (u48.2.1 1), (u48.2.1 2), (a32.2.1 5)] [(u48.2.2.1 0)] [(a32.2.2.2.1 0)] [] []) ⟨(Or.inl rfl), x35, (show k10 ≤ (u48.1 1) by omega), (show (u48.1 1) ≤ (u48.1 0) by omega), (show (u48.1 0) ≤ k5 by omega), (show ((u48.2.1 2) = 0 ∨ (u48.1 1) < (u48.1 0)) by first | assumption | exact Or.inr (by omega))⟩ rfl
                ·
                  refine V_if_ne_t 197 B 202 dX12_readLayer_197 (by decide) (by decide +kernel) ?_
                  refine V_iload_n 202 B dX12_readLayer_202 1 rfl ?_
                  refine V_if_eq_t 203 B 213 dX12_readLayer_203 (by decide) (by decide +kernel) ?_
                  refine V_aload_n 213 B dX12_readLayer_213 4 rfl ?_
                  refine V_get 214 B gf_RX12_9 0 rfl rfl dX12_readLayer_214 ?_
                  refine V_sipush 217 B (v := 2722) dX12_readLayer_217 (by decide +kernel) ?_
                  refine V_dup2_11 220 B dX12_readLayer_220 rfl rfl ?_
                  have x56 : (gN (a32.2.2.2.1 0) 2722) ≤ 4 := gN_le x35 (by omega) (show bd 2722 = (0, ((4 : Nat) : Int)) by decide +kernel)
                  refine V_iald 221 B (v := (nI ((gN (a32.2.2.2.1 0) 2722)))) 1 rfl (vpin _ _ (by decide +kernel)) dX12_readLayer_221 (by show (a32.2.2.2.1 0) 2722 = _; exact gN_eq x35 (by omega) (show bd 2722 = (0, ((4 : Nat) : Int)) by decide +kernel)) ?_
                  refine V_iconst 222 B (v := 1) dX12_readLayer_222 (by decide +kernel) ?_
                  refine V_iadd 223 B (v := (nI (1 + (gN (a32.2.2.2.1 0) 2722)))) dX12_readLayer_223 (nI_addE (a := (gN (a32.2.2.2.1 0) 2722)) (b := 1) (by omega)) ?_
                  have hv57 : INV ph (upd (a32.2.2.2.1 0) 2722 (nI (1 + (gN (a32.2.2.2.1 0) 2722)))) := INV_nat (v := 1 + (gN (a32.2.2.2.1 0) 2722)) x35 (show bd 2722 = (0, ((4 : Nat) : Int)) by decide +kernel) (by omega) (by decide)
                  refine V_iast 224 B 1 rfl (vpin _ _ (by decide +kernel)) dX12_readLayer_224 [(h0, oC 13 [.ref h1, .ref h2, .int p2, .ref h3, .ref h4, .int (nI k5), .int (nI (u48.1 0)), .int (u48.2.1 0), .int (u48.2.1 1), .int (u48.2.1 2), .int (nI (u48.1 1)), .int (a32.2.1 5), .long (u48.2.2.1 0), .ref h5, .ref h6, .int (nI k15), .int (nI k16)]), (h1, aI Y 3640 (upd (a32.2.2.2.1 0) 2722 (nI (1 + (gN (a32.2.2.2.1 0) 2722))))), (h2, aZ Y 2 f1), (h3, aZ Y 80 f3), (h4, aB Y 1600 f4), (h5, aI Y 200 f13), (h6, aI Y 800 f14)] rfl ?_
                  refine V_iconst 225 B (v := 1) dX12_readLayer_225 (by decide +kernel) ?_
                  exact V_zret 226 B rfl dX12_readLayer_226 (mkW [(u48.1 0), (u48.1 1)] [(u48.2.1 0), (u48.2.1 1), (u48.2.1 2), (a32.2.1 5)] [(u48.2.2.1 0)] [(upd (a32.2.2.2.1 0) 2722 (nI (1 + (gN (a32.2.2.2.1 0) 2722))))] [] []) ⟨(Or.inr ⟨rfl, (show k10 < (u48.1 1) by omega)⟩), hv57, (show k10 ≤ (u48.1 1) by omega), (show (u48.1 1) ≤ (u48.1 0) by omega), (show (u48.1 0) ≤ k5 by omega), (show ((u48.2.1 2) = 0 ∨ (u48.1 1) < (u48.1 0)) by first | assumption | exact Or.inr (by omega))⟩ rfl
              ·
                have x58 := x_eq kk45
                rw [show (1 : Int32).toInt = 1 by decide +kernel] at x58
                refine V_aload_n 127 B dX12_readLayer_127 4 rfl ?_
                refine V_cvi 128 B (st := []) (As := []) (fun sz => rX12_readKey l D Y h0 h1 h2 h3 h4 h5 h6 p2 k5 (a32.1 0) (a32.2.1 2) (a32.2.1 3) (a32.2.1 4) (a32.1 1) (a32.2.1 5) (a32.2.2.1 0) k15 k16 (a32.2.2.2.1 0) f1 f3 f4 f13 f14 ph x35 (by omega) HP (by omega) (by omega) (by first | assumption | exact Or.inl rfl | exact Or.inr (by omega)) sz) glV_RX12_316 ⟨rfl, rfl⟩ ⟨(Nat.le_of_ble_eq_true rfl), (Nat.le_of_ble_eq_true rfl)⟩ ⟨(Nat.le_of_ble_eq_true rfl), (Nat.le_of_ble_eq_true rfl)⟩ [0, 0, 0, 0, 0, 0, 0] rfl 13 0 rfl rfl rfl rfl (Nat.le_of_ble_eq_true rfl) rfl (fun _ _ _ => rfl) dX12_readLayer_128 (fun j59 u60 w61 => ?_)
                refine V_ws [(h0, oC 13 [.ref h1, .ref h2, .int p2, .ref h3, .ref h4, .int (nI k5), .int (nI (u60.1 0)), .int (u60.2.1 0), .int (u60.2.1 1), .int (u60.2.1 2), .int (nI (u60.1 1)), .int (u60.2.1 3), .long (u60.2.2.1 0), .ref h5, .ref h6, .int (nI k15), .int (nI k16)]), (h1, aI Y 3640 (a32.2.2.2.1 0)), (h2, aZ Y 2 f1), (h3, aZ Y 80 f3), (h4, aB Y 1600 f4), (h5, aI Y 200 f13), (h6, aI Y 800 f14)] rfl ?_
                obtain ⟨x62, x63, x64, x65, x66⟩ := w61
                rcases x62 with rfl | ⟨rfl, x67, x68⟩
                ·
                  refine V_if_ne_f 131 B 136 dX12_readLayer_131 (by decide) (by decide +kernel) ?_
                  refine V_iconst 134 B (v := 0) dX12_readLayer_134 (by decide +kernel) ?_
                  exact V_zret 135 B rfl dX12_readLayer_135 (mkW [(u60.1 0), (u60.1 1)] [(u60.2.1 0), (u60.2.1 1), (u60.2.1 2), (u60.2.1 3)] [(u60.2.2.1 0)] [(a32.2.2.2.1 0)] [] []) ⟨(Or.inl rfl), x35, (show k10 ≤ (u60.1 1) by omega), (show (u60.1 1) ≤ (u60.1 0) by omega), (show (u60.1 0) ≤ k5 by omega), (show ((u60.2.1 2) = 0 ∨ (u60.1 1) < (u60.1 0)) by first | assumption | exact Or.inr (by omega))⟩ rfl
                ·
                  generalize u60.2.1 3 = j69 at *
                  refine V_if_ne_t 131 B 136 dX12_readLayer_131 (by decide) (by decide +kernel) ?_
                  refine V_aload_n 136 B dX12_readLayer_136 4 rfl ?_
                  refine V_get 137 B gf_RX12_294 0 rfl rfl dX12_readLayer_137 ?_
                  refine V_istore 140 B (lv2 := [(4, .int j69), (3, .int 0), (2, .int (nI (3462 + 28 * (gN f0 2722)))), (1, .int (nI k10)), (0, .ref h0)]) dX12_readLayer_140 (by decide) rfl ?_
                  refine V_aload_n 142 B dX12_readLayer_142 4 rfl ?_
                  refine V_cvi 143 B (st := []) (As := []) (fun sz => rX12_readKey l D Y h0 h1 h2 h3 h4 h5 h6 p2 k5 (u60.1 0) (u60.2.1 0) (u60.2.1 1) (u60.2.1 2) (u60.1 1) j69 (u60.2.2.1 0) k15 k16 (a32.2.2.2.1 0) f1 f3 f4 f13 f14 ph x35 (by omega) HP (by omega) (by omega) (by first | assumption | exact Or.inl rfl | exact Or.inr (by omega)) sz) glV_RX12_316 ⟨rfl, rfl⟩ ⟨(Nat.le_of_ble_eq_true rfl), (Nat.le_of_ble_eq_true rfl)⟩ ⟨(Nat.le_of_ble_eq_true rfl), (Nat.le_of_ble_eq_true rfl)⟩ [0, 0, 0, 0, 0, 0, 0] rfl 13 0 rfl rfl rfl rfl (Nat.le_of_ble_eq_true rfl) rfl (fun _ _ _ => rfl) dX12_readLayer_143 (fun j70 u71 w72 => ?_)
                  refine V_ws [(h0, oC 13 [.ref h1, .ref h2, .int p2, .ref h3, .ref h4, .int (nI k5), .int (nI (u71.1 0)), .int (u71.2.1 0), .int (u71.2.1 1), .int (u71.2.1 2), .int (nI (u71.1 1)), .int (u71.2.1 3), .long (u71.2.2.1 0), .ref h5, .ref h6, .int (nI k15), .int (nI k16)]), (h1, aI Y 3640 (a32.2.2.2.1 0)), (h2, aZ Y 2 f1), (h3, aZ Y 80 f3), (h4, aB Y 1600 f4), (h5, aI Y 200 f13), (h6, aI Y 800 f14)] rfl ?_
                  obtain ⟨x73, x74, x75, x76, x77⟩ := w72
                  rcases x73 with rfl | ⟨rfl, x78, x79⟩
                  ·
                    refine V_if_ne_f 146 B 151 dX12_readLayer_146 (by decide) (by decide +kernel) ?_
                    refine V_iconst 149 B (v := 0) dX12_readLayer_149 (by decide +kernel) ?_
                    exact V_zret 150 B rfl dX12_readLayer_150 (mkW [(u71.1 0), (u71.1 1)] [(u71.2.1 0), (u71.2.1 1), (u71.2.1 2), (u71.2.1 3)] [(u71.2.2.1 0)] [(a32.2.2.2.1 0)] [] []) ⟨(Or.inl rfl), x35, (show k10 ≤ (u71.1 1) by omega), (show (u71.1 1) ≤ (u71.1 0) by omega), (show (u71.1 0) ≤ k5 by omega), (show ((u71.2.1 2) = 0 ∨ (u71.1 1) < (u71.1 0)) by first | assumption | exact Or.inr (by omega))⟩ rfl
                  ·
                    generalize u71.2.1 3 = j80 at *
                    refine V_if_ne_t 146 B 151 dX12_readLayer_146 (by decide) (by decide +kernel) ?_
                    refine V_iload_n 151 B dX12_readLayer_151 1 rfl ?_
                    refine V_aload_n 152 B dX12_readLayer_152 4 rfl ?_
                    refine V_get 153 B gf_RX12_9 0 rfl rfl dX12_readLayer_153 ?_
                    refine V_iload_n 156 B dX12_readLayer_156 2 rfl ?_
                    refine V_iconst 157 B (v := 2) dX12_readLayer_157 (by decide +kernel) ?_
                    refine V_iadd 158 B (v := (nI (3464 + 28 * (gN f0 2722)))) dX12_readLayer_158 (nI_addE (a := 3462 + 28 * (gN f0 2722)) (b := 2) (by omega)) ?_
                    refine V_iload 159 B dX12_readLayer_159 0 rfl ?_
                    obtain ⟨n81, x82, rfl⟩ := nat_of (x := j69) (n := 25) (by omega) (by omega)
                    have e83 := nI_toInt (show n81 < 2 ^ 31 by omega)
                    refine V_iadd 161 B (v := (nI (3464 + 28 * (gN f0 2722) + n81))) dX12_readLayer_161 (nI_addE (a := 3464 + 28 * (gN f0 2722)) (b := n81) (by omega)) ?_
                    refine V_iald 162 B (v := (a32.2.2.2.1 0) (3464 + 28 * (gN f0 2722) + n81)) 1 rfl (vp_in_nI (n := 3464 + 28 * (gN f0 2722) + n81) (by omega) (by decide)) dX12_readLayer_162 (by rw [nI_clamp (show 3464 + 28 * (gN f0 2722) + n81 < 2 ^ 31 by omega)]) ?_
                    refine V_nmi (fun j84 e85 => ?_)
                    refine V_if_le 163 B 170 dX12_readLayer_163 (by decide) (fun kk86 => ?_) (fun kk86 => ?_)
                    ·
                      have x87 := x_le kk86
                      rw [show (0 : Int32).toInt = 0 by decide +kernel] at x87
                      refine V_iconst 170 B (v := 0) dX12_readLayer_170 (by decide +kernel) ?_
                      refine V_ior 171 B (v := 0) dX12_readLayer_171 (by decide +kernel) ?_
                      refine V_istore_n 172 B (lv2 := [(3, .int 0), (4, .int (nI n81)), (2, .int (nI (3462 + 28 * (gN f0 2722)))), (1, .int (nI k10)), (0, .ref h0)]) dX12_readLayer_172 (by decide) rfl ?_
                      refine V_aload_n 173 B dX12_readLayer_173 4 rfl ?_
                      refine V_get 174 B gf_RX12_9 0 rfl rfl dX12_readLayer_174 ?_
                      refine V_iload_n 177 B dX12_readLayer_177 2 rfl ?_
                      refine V_iconst 178 B (v := 2) dX12_readLayer_178 (by decide +kernel) ?_
                      refine V_iadd 179 B (v := (nI (3464 + 28 * (gN f0 2722)))) dX12_readLayer_179 (nI_addE (a := 3462 + 28 * (gN f0 2722)) (b := 2) (by omega)) ?_
                      refine V_iload 180 B dX12_readLayer_180 1 rfl ?_
                      refine V_iadd 182 B (v := (nI (3464 + 28 * (gN f0 2722) + n81))) dX12_readLayer_182 (nI_addE (a := 3464 + 28 * (gN f0 2722)) (b := n81) (by omega)) ?_
                      refine V_aload_n 183 B dX12_readLayer_183 4 rfl ?_
                      refine V_get 184 B gf_RX12_294 0 rfl rfl dX12_readLayer_184 ?_
                      refine V_iconst 187 B (v := 1) dX12_readLayer_187 (by decide +kernel) ?_
                      obtain ⟨n88, x89, rfl⟩ := nat_of (x := j80) (n := 25) (by omega) (by omega)
                      have e90 := nI_toInt (show n88 < 2 ^ 31 by omega)
                      refine V_iadd 188 B (v := (nI (1 + n88))) dX12_readLayer_188 (nI_addE (a := n88) (b := 1) (by omega)) ?_
                      have hv91 : INV ph (upd (a32.2.2.2.1 0) (3464 + 28 * (gN f0 2722) + n81) (nI (1 + n88))) := INV_free x35 (rl34 (gN f0 2722) (by omega) n81 (by omega))
                      refine V_iast 189 B 1 rfl (vp_in_nI (n := 3464 + 28 * (gN f0 2722) + n81) (by omega) (by decide)) dX12_readLayer_189 [(h0, oC 13 [.ref h1, .ref h2, .int p2, .ref h3, .ref h4, .int (nI k5), .int (nI (u71.1 0)), .int (u71.2.1 0), .int (u71.2.1 1), .int (u71.2.1 2), .int (nI (u71.1 1)), .int (nI n88), .long (u71.2.2.1 0), .ref h5, .ref h6, .int (nI k15), .int (nI k16)]), (h1, aI Y 3640 (upd (a32.2.2.2.1 0) (3464 + 28 * (gN f0 2722) + n81) (nI (1 + n88)))), (h2, aZ Y 2 f1), (h3, aZ Y 80 f3), (h4, aB Y 1600 f4), (h5, aI Y 200 f13), (h6, aI Y 800 f14)] (by rw [nI_clamp (show 3464 + 28 * (gN f0 2722) + n81 < 2 ^ 31 by omega)]; rfl) ?_
                      refine V_goto 190 B 119 dX12_readLayer_190 (by decide) ?_
                      refine V_lv [(4, .int (nI n81)), (3, .int 0), (2, .int (nI (3462 + 28 * (gN f0 2722)))), (1, .int (nI k10)), (0, .ref h0)] [1, 0, 2, 3, 4] rfl ?_
                      exact IH33 (mkW [(u71.1 0), (u71.1 1)] [(nI n81), 0, (u71.2.1 0), (u71.2.1 1), (u71.2.1 2), (nI n88)] [(u71.2.2.1 0)] [(upd (a32.2.2.2.1 0) (3464 + 28 * (gN f0 2722) + n81) (nI (1 + n88)))] [] []) ⟨hv91, (Or.inl rfl), ⟨(show k10 < (u71.1 1) by omega), (show (u71.1 1) ≤ (u71.1 0) by omega), (show (u71.1 0) ≤ k5 by omega), (show ((u71.2.1 2) = 0 ∨ (u71.1 1) < (u71.1 0)) by first | assumption | exact Or.inr (by omega))⟩, ((gN_ne (by omega)).trans x38)⟩ (by show 4000 - ((u71.1 1)) < _; omega)
                    ·
                      have x92 := x_nle kk86
                      rw [show (0 : Int32).toInt = 0 by decide +kernel] at x92
                      refine V_iconst 166 B (v := 1) dX12_readLayer_166 (by decide +kernel) ?_
                      refine V_goto 167 B 171 dX12_readLayer_167 (by decide) ?_
                      refine V_ior 171 B (v := 1) dX12_readLayer_171 (by decide +kernel) ?_
                      refine V_istore_n 172 B (lv2 := [(3, .int 1), (4, .int (nI n81)), (2, .int (nI (3462 + 28 * (gN f0 2722)))), (1, .int (nI k10)), (0, .ref h0)]) dX12_readLayer_172 (by decide) rfl ?_
                      refine V_aload_n 173 B dX12_readLayer_173 4 rfl ?_
                      refine V_get 174 B gf_RX12_9 0 rfl rfl dX12_readLayer_174 ?_
                      refine V_iload_n 177 B dX12_readLayer_177 2 rfl ?_
                      refine V_iconst 178 B (v := 2) dX12_readLayer_178 (by decide +kernel) ?_
                      refine V_iadd 179 B (v := (nI (3464 + 28 * (gN f0 2722)))) dX12_readLayer_179 (nI_addE (a := 3462 + 28 * (gN f0 2722)) (b := 2) (by omega)) ?_
                      refine V_iload 180 B dX12_readLayer_180 1 rfl ?_
                      refine V_iadd 182 B (v := (nI (3464 + 28 * (gN f0 2722) + n81))) dX12_readLayer_182 (nI_addE (a := 3464 + 28 * (gN f0 2722)) (b := n81) (by omega)) ?_
                      refine V_aload_n 183 B dX12_readLayer_183 4 rfl ?_
                      refine V_get 184 B gf_RX12_294 0 rfl rfl dX12_readLayer_184 ?_
                      refine V_iconst 187 B (v := 1) dX12_readLayer_187 (by decide +kernel) ?_
                      obtain ⟨n93, x94, rfl⟩ := nat_of (x := j80) (n := 25) (by omega) (by omega)
                      have e95 := nI_toInt (show n93 < 2 ^ 31 by omega)
                      refine V_iadd 188 B (v := (nI (1 + n93))) dX12_readLayer_188 (nI_addE (a := n93) (b := 1) (by omega)) ?_
                      have hv96 : INV ph (upd (a32.2.2.2.1 0) (3464 + 28 * (gN f0 2722) + n81) (nI (1 + n93))) := INV_free x35 (rl34 (gN f0 2722) (by omega) n81 (by omega))
                      refine V_iast 189 B 1 rfl (vp_in_nI (n := 3464 + 28 * (gN f0 2722) + n81) (by omega) (by decide)) dX12_readLayer_189 [(h0, oC 13 [.ref h1, .ref h2, .int p2, .ref h3, .ref h4, .int (nI k5), .int (nI (u71.1 0)), .int (u71.2.1 0), .int (u71.2.1 1), .int (u71.2.1 2), .int (nI (u71.1 1)), .int (nI n93), .long (u71.2.2.1 0), .ref h5, .ref h6, .int (nI k15), .int (nI k16)]), (h1, aI Y 3640 (upd (a32.2.2.2.1 0) (3464 + 28 * (gN f0 2722) + n81) (nI (1 + n93)))), (h2, aZ Y 2 f1), (h3, aZ Y 80 f3), (h4, aB Y 1600 f4), (h5, aI Y 200 f13), (h6, aI Y 800 f14)] (by rw [nI_clamp (show 3464 + 28 * (gN f0 2722) + n81 < 2 ^ 31 by omega)]; rfl) ?_
                      refine V_goto 190 B 119 dX12_readLayer_190 (by decide) ?_
                      refine V_lv [(4, .int (nI n81)), (3, .int 1), (2, .int (nI (3462 + 28 * (gN f0 2722)))), (1, .int (nI k10)), (0, .ref h0)] [1, 0, 2, 3, 4] rfl ?_
                      exact IH33 (mkW [(u71.1 0), (u71.1 1)] [(nI n81), 1, (u71.2.1 0), (u71.2.1 1), (u71.2.1 2), (nI n93)] [(u71.2.2.1 0)] [(upd (a32.2.2.2.1 0) (3464 + 28 * (gN f0 2722) + n81) (nI (1 + n93)))] [] []) ⟨hv96, (Or.inr rfl), ⟨(show k10 < (u71.1 1) by omega), (show (u71.1 1) ≤ (u71.1 0) by omega), (show (u71.1 0) ≤ k5 by omega), (show ((u71.2.1 2) = 0 ∨ (u71.1 1) < (u71.1 0)) by first | assumption | exact Or.inr (by omega))⟩, ((gN_ne (by omega)).trans x38)⟩ (by show 4000 - ((u71.1 1)) < _; omega)
            ·
              refine V_lv [(4, .int (a32.2.1 0)), (3, .int 1), (2, .int (nI (3462 + 28 * (gN f0 2722)))), (1, .int (nI k10)), (0, .ref h0)] [0, 1, 2, 3, 4] (by rw [e44]; rfl) ?_
              refine V_aload_n 119 B dX12_readLayer_119 4 rfl ?_
              refine V_get 120 B gf_RX12_283 0 rfl rfl dX12_readLayer_120 ?_
              refine V_iconst 123 B (v := 1) dX12_readLayer_123 (by decide +kernel) ?_
              refine V_icmp_ne 124 B 193 dX12_readLayer_124 (by decide) (fun kk97 => ?_) (fun kk97 => ?_)
              ·
                have x98 := x_ne kk97
                rw [show (1 : Int32).toInt = 1 by decide +kernel] at x98
                refine V_aload_n 193 B dX12_readLayer_193 4 rfl ?_
                refine V_cvi 194 B (st := []) (As := []) (fun sz => rX12_readEnd l D Y h0 h1 h2 h3 h4 h5 h6 p2 k5 (a32.1 0) (a32.2.1 2) (a32.2.1 3) (a32.2.1 4) (a32.1 1) (a32.2.1 5) (a32.2.2.1 0) k15 k16 (a32.2.2.2.1 0) f1 f3 f4 f13 f14 ph x35 (by omega) HP (by omega) (by omega) (by first | assumption | exact Or.inl rfl | exact Or.inr (by omega)) sz) glV_RX12_304 ⟨rfl, rfl⟩ ⟨(Nat.le_of_ble_eq_true rfl), (Nat.le_of_ble_eq_true rfl)⟩ ⟨(Nat.le_of_ble_eq_true rfl), (Nat.le_of_ble_eq_true rfl)⟩ [0, 0, 0, 0, 0, 0, 0] rfl 13 0 rfl rfl rfl rfl (Nat.le_of_ble_eq_true rfl) rfl (fun _ _ _ => rfl) dX12_readLayer_194 (fun j99 u100 w101 => ?_)
                refine V_ws [(h0, oC 13 [.ref h1, .ref h2, .int p2, .ref h3, .ref h4, .int (nI k5), .int (nI (u100.1 0)), .int (u100.2.1 0), .int (u100.2.1 1), .int (u100.2.1 2), .int (nI (u100.1 1)), .int (a32.2.1 5), .long (u100.2.2.1 0), .ref h5, .ref h6, .int (nI k15), .int (nI k16)]), (h1, aI Y 3640 (a32.2.2.2.1 0)), (h2, aZ Y 2 f1), (h3, aZ Y 80 f3), (h4, aB Y 1600 f4), (h5, aI Y 200 f13), (h6, aI Y 800 f14)] rfl ?_
                obtain ⟨x102, x103, x104, x105, x106⟩ := w101
                rcases x102 with rfl | ⟨rfl, x107⟩
                ·
                  refine V_if_ne_f 197 B 202 dX12_readLayer_197 (by decide) (by decide +kernel) ?_
                  refine V_iconst 200 B (v := 0) dX12_readLayer_200 (by decide +kernel) ?_
                  exact V_zret 201 B rfl dX12_readLayer_201 (mkW [(u100.1 0), (u100.1 1)] [(u100.2.1 0), (u100.2.1 1), (u100.2.1 2), (a32.2.1 5)] [(u100.2.2.1 0)] [(a32.2.2.2.1 0)] [] []) ⟨(Or.inl rfl), x35, (show k10 ≤ (u100.1 1) by omega), (show (u100.1 1) ≤ (u100.1 0) by omega), (show (u100.1 0) ≤ k5 by omega), (show ((u100.2.1 2) = 0 ∨ (u100.1 1) < (u100.1 0)) by first | assumption | exact Or.inr (by omega))⟩ rfl
                ·
                  refine V_if_ne_t 197 B 202 dX12_readLayer_197 (by decide) (by decide +kernel) ?_
                  refine V_iload_n 202 B dX12_readLayer_202 1 rfl ?_
                  refine V_if_eq_f 203 B 213 dX12_readLayer_203 (by decide) (by decide +kernel) ?_
                  refine V_aload_n 206 B dX12_readLayer_206 4 rfl ?_
                  refine V_iconst 207 B (v := 4) dX12_readLayer_207 (by decide +kernel) ?_
                  refine V_iload_n 208 B dX12_readLayer_208 3 rfl ?_
                  refine V_cvi 209 B (st := []) (As := [.int 4, .int (nI k10)]) (fun sz => rX12_failAt l D Y h0 h1 h2 h3 h4 h5 h6 p2 k5 (u100.1 0) (u100.2.1 0) (u100.2.1 1) (u100.2.1 2) (u100.1 1) (a32.2.1 5) (u100.2.2.1 0) k15 k16 (a32.2.2.2.1 0) f1 f3 f4 f13 f14 ph x35 (by omega) HP 4 (nI k10) sz) glV_RX12_313 ⟨rfl, rfl⟩ ⟨(Nat.le_of_ble_eq_true rfl), (Nat.le_of_ble_eq_true rfl)⟩ ⟨(Nat.le_of_ble_eq_true rfl), (Nat.le_of_ble_eq_true rfl)⟩ [0, 0, 0, 0, 0, 0, 0] rfl 13 0 rfl rfl rfl rfl (Nat.le_of_ble_eq_true rfl) rfl (fun _ _ _ => rfl) dX12_readLayer_209 (fun j108 u109 w110 => ?_)
                  refine V_ws [(h0, oC 13 [.ref h1, .ref h2, .int p2, .ref h3, .ref h4, .int (nI k5), .int (nI (u100.1 0)), .int (u109.2.1 0), .int (u109.2.1 1), .int (u100.2.1 2), .int (nI (u100.1 1)), .int (a32.2.1 5), .long (u100.2.2.1 0), .ref h5, .ref h6, .int (nI k15), .int (nI k16)]), (h1, aI Y 3640 (a32.2.2.2.1 0)), (h2, aZ Y 2 f1), (h3, aZ Y 80 f3), (h4, aB Y 1600 f4), (h5, aI Y 200 f13), (h6, aI Y 800 f14)] rfl ?_
                  have x111 := w110
                  clear w110
                  obtain rfl := x111
                  exact V_zret 212 B rfl dX12_readLayer_212 (mkW [(u100.1 0), (u100.1 1)] [(u109.2.1 0), (u109.2.1 1), (u100.2.1 2), (a32.2.1 5)] [(u100.2.2.1 0)] [(a32.2.2.2.1 0)] [] []) ⟨(Or.inl rfl), x35, (show k10 ≤ (u100.1 1) by omega), (show (u100.1 1) ≤ (u100.1 0) by omega), (show (u100.1 0) ≤ k5 by omega), (show ((u100.2.1 2) = 0 ∨ (u100.1 1) < (u100.1 0)) by first | assumption | exact Or.inr (by omega))⟩ rfl
              ·
                have x112 := x_eq kk97
                rw [show (1 : Int32).toInt = 1 by decide +kernel] at x112
                refine V_aload_n 127 B dX12_readLayer_127 4 rfl ?_
                refine V_cvi 128 B (st := []) (As := []) (fun sz => rX12_readKey l D Y h0 h1 h2 h3 h4 h5 h6 p2 k5 (a32.1 0) (a32.2.1 2) (a32.2.1 3) (a32.2.1 4) (a32.1 1) (a32.2.1 5) (a32.2.2.1 0) k15 k16 (a32.2.2.2.1 0) f1 f3 f4 f13 f14 ph x35 (by omega) HP (by omega) (by omega) (by first | assumption | exact Or.inl rfl | exact Or.inr (by omega)) sz) glV_RX12_316 ⟨rfl, rfl⟩ ⟨(Nat.le_of_ble_eq_true rfl), (Nat.le_of_ble_eq_true rfl)⟩ ⟨(Nat.le_of_ble_eq_true rfl), (Nat.le_of_ble_eq_true rfl)⟩ [0, 0, 0, 0, 0, 0, 0] rfl 13 0 rfl rfl rfl rfl (Nat.le_of_ble_eq_true rfl) rfl (fun _ _ _ => rfl) dX12_readLayer_128 (fun j113 u114 w115 => ?_)
                refine V_ws [(h0, oC 13 [.ref h1, .ref h2, .int p2, .ref h3, .ref h4, .int (nI k5), .int (nI (u114.1 0)), .int (u114.2.1 0), .int (u114.2.1 1), .int (u114.2.1 2), .int (nI (u114.1 1)), .int (u114.2.1 3), .long (u114.2.2.1 0), .ref h5, .ref h6, .int (nI k15), .int (nI k16)]), (h1, aI Y 3640 (a32.2.2.2.1 0)), (h2, aZ Y 2 f1), (h3, aZ Y 80 f3), (h4, aB Y 1600 f4), (h5, aI Y 200 f13), (h6, aI Y 800 f14)] rfl ?_
                obtain ⟨x116, x117, x118, x119, x120⟩ := w115
                rcases x116 with rfl | ⟨rfl, x121, x122⟩
                ·
                  refine V_if_ne_f 131 B 136 dX12_readLayer_131 (by decide) (by decide +kernel) ?_
                  refine V_iconst 134 B (v := 0) dX12_readLayer_134 (by decide +kernel) ?_
                  exact V_zret 135 B rfl dX12_readLayer_135 (mkW [(u114.1 0), (u114.1 1)] [(u114.2.1 0), (u114.2.1 1), (u114.2.1 2), (u114.2.1 3)] [(u114.2.2.1 0)] [(a32.2.2.2.1 0)] [] []) ⟨(Or.inl rfl), x35, (show k10 ≤ (u114.1 1) by omega), (show (u114.1 1) ≤ (u114.1 0) by omega), (show (u114.1 0) ≤ k5 by omega), (show ((u114.2.1 2) = 0 ∨ (u114.1 1) < (u114.1 0)) by first | assumption | exact Or.inr (by omega))⟩ rfl
                ·
                  generalize u114.2.1 3 = j123 at *
                  refine V_if_ne_t 131 B 136 dX12_readLayer_131 (by decide) (by decide +kernel) ?_
                  refine V_aload_n 136 B dX12_readLayer_136 4 rfl ?_
                  refine V_get 137 B gf_RX12_294 0 rfl rfl dX12_readLayer_137 ?_
                  refine V_istore 140 B (lv2 := [(4, .int j123), (3, .int 1), (2, .int (nI (3462 + 28 * (gN f0 2722)))), (1, .int (nI k10)), (0, .ref h0)]) dX12_readLayer_140 (by decide) rfl ?_
                  refine V_aload_n 142 B dX12_readLayer_142 4 rfl ?_
                  refine V_cvi 143 B (st := []) (As := []) (fun sz => rX12_readKey l D Y h0 h1 h2 h3 h4 h5 h6 p2 k5 (u114.1 0) (u114.2.1 0) (u114.2.1 1) (u114.2.1 2) (u114.1 1) j123 (u114.2.2.1 0) k15 k16 (a32.2.2.2.1 0) f1 f3 f4 f13 f14 ph x35 (by omega) HP (by omega) (by omega) (by first | assumption | exact Or.inl rfl | exact Or.inr (by omega)) sz) glV_RX12_316 ⟨rfl, rfl⟩ ⟨(Nat.le_of_ble_eq_true rfl), (Nat.le_of_ble_eq_true rfl)⟩ ⟨(Nat.le_of_ble_eq_true rfl), (Nat.le_of_ble_eq_true rfl)⟩ [0, 0, 0, 0, 0, 0, 0] rfl 13 0 rfl rfl rfl rfl (Nat.le_of_ble_eq_true rfl) rfl (fun _ _ _ => rfl) dX12_readLayer_143 (fun j124 u125 w126 => ?_)
                  refine V_ws [(h0, oC 13 [.ref h1, .ref h2, .int p2, .ref h3, .ref h4, .int (nI k5), .int (nI (u125.1 0)), .int (u125.2.1 0), .int (u125.2.1 1), .int (u125.2.1 2), .int (nI (u125.1 1)), .int (u125.2.1 3), .long (u125.2.2.1 0), .ref h5, .ref h6, .int (nI k15), .int (nI k16)]), (h1, aI Y 3640 (a32.2.2.2.1 0)), (h2, aZ Y 2 f1), (h3, aZ Y 80 f3), (h4, aB Y 1600 f4), (h5, aI Y 200 f13), (h6, aI Y 800 f14)] rfl ?_
                  obtain ⟨x127, x128, x129, x130, x131⟩ := w126
                  rcases x127 with rfl | ⟨rfl, x132, x133⟩
                  ·
                    refine V_if_ne_f 146 B 151 dX12_readLayer_146 (by decide) (by decide +kernel) ?_
                    refine V_iconst 149 B (v := 0) dX12_readLayer_149 (by decide +kernel) ?_
                    exact V_zret 150 B rfl dX12_readLayer_150 (mkW [(u125.1 0), (u125.1 1)] [(u125.2.1 0), (u125.2.1 1), (u125.2.1 2), (u125.2.1 3)] [(u125.2.2.1 0)] [(a32.2.2.2.1 0)] [] []) ⟨(Or.inl rfl), x35, (show k10 ≤ (u125.1 1) by omega), (show (u125.1 1) ≤ (u125.1 0) by omega), (show (u125.1 0) ≤ k5 by omega), (show ((u125.2.1 2) = 0 ∨ (u125.1 1) < (u125.1 0)) by first | assumption | exact Or.inr (by omega))⟩ rfl
                  ·
                    generalize u125.2.1 3 = j134 at *
                    refine V_if_ne_t 146 B 151 dX12_readLayer_146 (by decide) (by decide +kernel) ?_
                    refine V_iload_n 151 B dX12_readLayer_151 1 rfl ?_
                    refine V_aload_n 152 B dX12_readLayer_152 4 rfl ?_
                    refine V_get 153 B gf_RX12_9 0 rfl rfl dX12_readLayer_153 ?_
                    refine V_iload_n 156 B dX12_readLayer_156 2 rfl ?_
                    refine V_iconst 157 B (v := 2) dX12_readLayer_157 (by decide +kernel) ?_
                    refine V_iadd 158 B (v := (nI (3464 + 28 * (gN f0 2722)))) dX12_readLayer_158 (nI_addE (a := 3462 + 28 * (gN f0 2722)) (b := 2) (by omega)) ?_
                    refine V_iload 159 B dX12_readLayer_159 0 rfl ?_
                    obtain ⟨n135, x136, rfl⟩ := nat_of (x := j123) (n := 25) (by omega) (by omega)
                    have e137 := nI_toInt (show n135 < 2 ^ 31 by omega)
                    refine V_iadd 161 B (v := (nI (3464 + 28 * (gN f0 2722) + n135))) dX12_readLayer_161 (nI_addE (a := 3464 + 28 * (gN f0 2722)) (b := n135) (by omega)) ?_
                    refine V_iald 162 B (v := (a32.2.2.2.1 0) (3464 + 28 * (gN f0 2722) + n135)) 1 rfl (vp_in_nI (n := 3464 + 28 * (gN f0 2722) + n135) (by omega) (by decide)) dX12_readLayer_162 (by rw [nI_clamp (show 3464 + 28 * (gN f0 2722) + n135 < 2 ^ 31 by omega)]) ?_
                    refine V_nmi (fun j138 e139 => ?_)
                    refine V_if_le 163 B 170 dX12_readLayer_163 (by decide) (fun kk140 => ?_) (fun kk140 => ?_)
                    ·
                      have x141 := x_le kk140
                      rw [show (0 : Int32).toInt = 0 by decide +kernel] at x141
                      refine V_iconst 170 B (v := 0) dX12_readLayer_170 (by decide +kernel) ?_
                      refine V_ior 171 B (v := 1) dX12_readLayer_171 (by decide +kernel) ?_
                      refine V_istore_n 172 B (lv2 := [(3, .int 1), (4, .int (nI n135)), (2, .int (nI (3462 + 28 * (gN f0 2722)))), (1, .int (nI k10)), (0, .ref h0)]) dX12_readLayer_172 (by decide) rfl ?_
                      refine V_aload_n 173 B dX12_readLayer_173 4 rfl ?_
                      refine V_get 174 B gf_RX12_9 0 rfl rfl dX12_readLayer_174 ?_
                      refine V_iload_n 177 B dX12_readLayer_177 2 rfl ?_
                      refine V_iconst 178 B (v := 2) dX12_readLayer_178 (by decide +kernel) ?_
                      refine V_iadd 179 B (v := (nI (3464 + 28 * (gN f0 2722)))) dX12_readLayer_179 (nI_addE (a := 3462 + 28 * (gN f0 2722)) (b := 2) (by omega)) ?_
                      refine V_iload 180 B dX12_readLayer_180 1 rfl ?_
                      refine V_iadd 182 B (v := (nI (3464 + 28 * (gN f0 2722) + n135))) dX12_readLayer_182 (nI_addE (a := 3464 + 28 * (gN f0 2722)) (b := n135) (by omega)) ?_
                      refine V_aload_n 183 B dX12_readLayer_183 4 rfl ?_
                      refine V_get 184 B gf_RX12_294 0 rfl rfl dX12_readLayer_184 ?_
                      refine V_iconst 187 B (v := 1) dX12_readLayer_187 (by decide +kernel) ?_
                      obtain ⟨n142, x143, rfl⟩ := nat_of (x := j134) (n := 25) (by omega) (by omega)
                      have e144 := nI_toInt (show n142 < 2 ^ 31 by omega)
                      refine V_iadd 188 B (v := (nI (1 + n142))) dX12_readLayer_188 (nI_addE (a := n142) (b := 1) (by omega)) ?_
                      have hv145 : INV ph (upd (a32.2.2.2.1 0) (3464 + 28 * (gN f0 2722) + n135) (nI (1 + n142))) := INV_free x35 (rl34 (gN f0 2722) (by omega) n135 (by omega))
                      refine V_iast 189 B 1 rfl (vp_in_nI (n := 3464 + 28 * (gN f0 2722) + n135) (by omega) (by decide)) dX12_readLayer_189 [(h0, oC 13 [.ref h1, .ref h2, .int p2, .ref h3, .ref h4, .int (nI k5), .int (nI (u125.1 0)), .int (u125.2.1 0), .int (u125.2.1 1), .int (u125.2.1 2), .int (nI (u125.1 1)), .int (nI n142), .long (u125.2.2.1 0), .ref h5, .ref h6, .int (nI k15), .int (nI k16)]), (h1, aI Y 3640 (upd (a32.2.2.2.1 0) (3464 + 28 * (gN f0 2722) + n135) (nI (1 + n142)))), (h2, aZ Y 2 f1), (h3, aZ Y 80 f3), (h4, aB Y 1600 f4), (h5, aI Y 200 f13), (h6, aI Y 800 f14)] (by rw [nI_clamp (show 3464 + 28 * (gN f0 2722) + n135 < 2 ^ 31 by omega)]; rfl) ?_
                      refine V_goto 190 B 119 dX12_readLayer_190 (by decide) ?_
                      refine V_lv [(4, .int (nI n135)), (3, .int 1), (2, .int (nI (3462 + 28 * (gN f0 2722)))), (1, .int (nI k10)), (0, .ref h0)] [1, 0, 2, 3, 4] rfl ?_
                      exact IH33 (mkW [(u125.1 0), (u125.1 1)] [(nI n135), 1, (u125.2.1 0), (u125.2.1 1), (u125.2.1 2), (nI n142)] [(u125.2.2.1 0)] [(upd (a32.2.2.2.1 0) (3464 + 28 * (gN f0 2722) + n135) (nI (1 + n142)))] [] []) ⟨hv145, (Or.inr rfl), ⟨(show k10 < (u125.1 1) by omega), (show (u125.1 1) ≤ (u125.1 0) by omega), (show (u125.1 0) ≤ k5 by omega), (show ((u125.2.1 2) = 0 ∨ (u125.1 1) < (u125.1 0)) by first | assumption | exact Or.inr (by omega))⟩, ((gN_ne (by omega)).trans x38)⟩ (by show 4000 - ((u125.1 1)) < _; omega)
                    ·
                      have x146 := x_nle kk140
                      rw [show (0 : Int32).toInt = 0 by decide +kernel] at x146
                      refine V_iconst 166 B (v := 1) dX12_readLayer_166 (by decide +kernel) ?_
                      refine V_goto 167 B 171 dX12_readLayer_167 (by decide) ?_
                      refine V_ior 171 B (v := 1) dX12_readLayer_171 (by decide +kernel) ?_
                      refine V_istore_n 172 B (lv2 := [(3, .int 1), (4, .int (nI n135)), (2, .int (nI (3462 + 28 * (gN f0 2722)))), (1, .int (nI k10)), (0, .ref h0)]) dX12_readLayer_172 (by decide) rfl ?_
                      refine V_aload_n 173 B dX12_readLayer_173 4 rfl ?_
                      refine V_get 174 B gf_RX12_9 0 rfl rfl dX12_readLayer_174 ?_
                      refine V_iload_n 177 B dX12_readLayer_177 2 rfl ?_
                      refine V_iconst 178 B (v := 2) dX12_readLayer_178 (by decide +kernel) ?_
                      refine V_iadd 179 B (v := (nI (3464 + 28 * (gN f0 2722)))) dX12_readLayer_179 (nI_addE (a := 3462 + 28 * (gN f0 2722)) (b := 2) (by omega)) ?_
                      refine V_iload 180 B dX12_readLayer_180 1 rfl ?_
                      refine V_iadd 182 B (v := (nI (3464 + 28 * (gN f0 2722) + n135))) dX12_readLayer_182 (nI_addE (a := 3464 + 28 * (gN f0 2722)) (b := n135) (by omega)) ?_
                      refine V_aload_n 183 B dX12_readLayer_183 4 rfl ?_
                      refine V_get 184 B gf_RX12_294 0 rfl rfl dX12_readLayer_184 ?_
                      refine V_iconst 187 B (v := 1) dX12_readLayer_187 (by decide +kernel) ?_
                      obtain ⟨n147, x148, rfl⟩ := nat_of (x := j134) (n := 25) (by omega) (by omega)
                      have e149 := nI_toInt (show n147 < 2 ^ 31 by omega)
                      refine V_iadd 188 B (v := (nI (1 + n147))) dX12_readLayer_188 (nI_addE (a := n147) (b := 1) (by omega)) ?_
                      have hv150 : INV ph (upd (a32.2.2.2.1 0) (3464 + 28 * (gN f0 2722) + n135) (nI (1 + n147))) := INV_free x35 (rl34 (gN f0 2722) (by omega) n135 (by omega))
                      refine V_iast 189 B 1 rfl (vp_in_nI (n := 3464 + 28 * (gN f0 2722) + n135) (by omega) (by decide)) dX12_readLayer_189 [(h0, oC 13 [.ref h1, .ref h2, .int p2, .ref h3, .ref h4, .int (nI k5), .int (nI (u125.1 0)), .int (u125.2.1 0), .int (u125.2.1 1), .int (u125.2.1 2), .int (nI (u125.1 1)), .int (nI n147), .long (u125.2.2.1 0), .ref h5, .ref h6, .int (nI k15), .int (nI k16)]), (h1, aI Y 3640 (upd (a32.2.2.2.1 0) (3464 + 28 * (gN f0 2722) + n135) (nI (1 + n147)))), (h2, aZ Y 2 f1), (h3, aZ Y 80 f3), (h4, aB Y 1600 f4), (h5, aI Y 200 f13), (h6, aI Y 800 f14)] (by rw [nI_clamp (show 3464 + 28 * (gN f0 2722) + n135 < 2 ^ 31 by omega)]; rfl) ?_
                      refine V_goto 190 B 119 dX12_readLayer_190 (by decide) ?_
                      refine V_lv [(4, .int (nI n135)), (3, .int 1), (2, .int (nI (3462 + 28 * (gN f0 2722)))), (1, .int (nI k10)), (0, .ref h0)] [1, 0, 2, 3, 4] rfl ?_
                      exact IH33 (mkW [(u125.1 0), (u125.1 1)] [(nI n135), 1, (u125.2.1 0), (u125.2.1 1), (u125.2.1 2), (nI n147)] [(u125.2.2.1 0)] [(upd (a32.2.2.2.1 0) (3464 + 28 * (gN f0 2722) + n135) (nI (1 + n147)))] [] []) ⟨hv150, (Or.inr rfl), ⟨(show k10 < (u125.1 1) by omega), (show (u125.1 1) ≤ (u125.1 0) by omega), (show (u125.1 0) ≤ k5 by omega), (show ((u125.2.1 2) = 0 ∨ (u125.1 1) < (u125.1 0)) by first | assumption | exact Or.inr (by omega))⟩, ((gN_ne (by omega)).trans x38)⟩ (by show 4000 - ((u125.1 1)) < _; omega)
          ·
            have x151 := n_nle (a := (gN f0 2722)) (b := (a23.1 0)) kk30 (by omega) (by omega)
            refine V_iload_n 82 B dX12_readLayer_82 1 rfl ?_
            refine V_aload_n 83 B dX12_readLayer_83 4 rfl ?_
            refine V_get 84 B gf_RX12_9 0 rfl rfl dX12_readLayer_84 ?_
            refine V_sipush 87 B (v := 3462) dX12_readLayer_87 (by decide +kernel) ?_
            refine V_bipush 90 B (v := 28) dX12_readLayer_90 (by decide +kernel) ?_
            refine V_iload 92 B dX12_readLayer_92 0 rfl ?_
            refine V_imul 94 B (v := (nI (28 * (a23.1 0)))) dX12_readLayer_94 (nI_mulE (a := 28) (b := (a23.1 0)) (by omega)) ?_
            refine V_iadd 95 B (v := (nI (3462 + 28 * (a23.1 0)))) dX12_readLayer_95 (nI_addE (a := 3462) (b := 28 * (a23.1 0)) (by omega)) ?_
            refine V_iconst 96 B (v := 0) dX12_readLayer_96 (by decide +kernel) ?_
            refine V_iadd 97 B (v := (nI (3462 + 28 * (a23.1 0)))) dX12_readLayer_97 (nI_addE (a := 3462 + 28 * (a23.1 0)) (b := 0) (by omega)) ?_
            refine V_iald 98 B (v := (upd f0 (3462 + 28 * (gN f0 2722)) j21) (3462 + 28 * (a23.1 0))) 1 rfl (vp_in_nI (n := 3462 + 28 * (a23.1 0)) (by omega) (by decide)) dX12_readLayer_98 (by rw [nI_clamp (show 3462 + 28 * (a23.1 0) < 2 ^ 31 by omega)]) ?_
            refine V_nmi (fun j152 e153 => ?_)
            refine V_aload_n 99 B dX12_readLayer_99 4 rfl ?_
            refine V_get 100 B gf_RX12_294 0 rfl rfl dX12_readLayer_100 ?_
            refine V_icmp_ne 103 B 110 dX12_readLayer_103 (by decide) (fun kk154 => ?_) (fun kk154 => ?_)
            ·
              have x155 := x_ne kk154
              refine V_iconst 110 B (v := 0) dX12_readLayer_110 (by decide +kernel) ?_
              refine V_ior 111 B (v := 0) dX12_readLayer_111 (by decide +kernel) ?_
              refine V_istore_n 112 B (lv2 := [(3, .int 0), (4, .int (nI (a23.1 0))), (2, .int (nI (3462 + 28 * (gN f0 2722)))), (1, .int (nI k10)), (0, .ref h0)]) dX12_readLayer_112 (by decide) rfl ?_
              refine V_iinc 113 B (v := (nI (1 + (a23.1 0)))) (lv2 := [(4, .int (nI (1 + (a23.1 0)))), (3, .int 0), (2, .int (nI (3462 + 28 * (gN f0 2722)))), (1, .int (nI k10)), (0, .ref h0)]) dX12_readLayer_113 1 rfl (nI_addE (a := (a23.1 0)) (b := 1) (by omega)) (by decide) rfl ?_
              refine V_goto 116 B 69 dX12_readLayer_116 (by decide) ?_
              refine V_lv [(4, .int (nI (1 + (a23.1 0)))), (3, .int 0), (2, .int (nI (3462 + 28 * (gN f0 2722)))), (1, .int (nI k10)), (0, .ref h0)] [0, 1, 2, 3, 4] rfl ?_
              exact IH24 (mkW [1 + (a23.1 0)] [0] [] [] [] []) ⟨(show 1 + (a23.1 0) ≤ 4000 by omega), (Or.inl rfl)⟩ (by show 100000 - (1 + (a23.1 0)) < 100000 - (a23.1 0); omega)
            ·
              have x156 := x_eq kk154
              refine V_iconst 106 B (v := 1) dX12_readLayer_106 (by decide +kernel) ?_
              refine V_goto 107 B 111 dX12_readLayer_107 (by decide) ?_
              refine V_ior 111 B (v := 1) dX12_readLayer_111 (by decide +kernel) ?_
              refine V_istore_n 112 B (lv2 := [(3, .int 1), (4, .int (nI (a23.1 0))), (2, .int (nI (3462 + 28 * (gN f0 2722)))), (1, .int (nI k10)), (0, .ref h0)]) dX12_readLayer_112 (by decide) rfl ?_
              refine V_iinc 113 B (v := (nI (1 + (a23.1 0)))) (lv2 := [(4, .int (nI (1 + (a23.1 0)))), (3, .int 1), (2, .int (nI (3462 + 28 * (gN f0 2722)))), (1, .int (nI k10)), (0, .ref h0)]) dX12_readLayer_113 1 rfl (nI_addE (a := (a23.1 0)) (b := 1) (by omega)) (by decide) rfl ?_
              refine V_goto 116 B 69 dX12_readLayer_116 (by decide) ?_
              refine V_lv [(4, .int (nI (1 + (a23.1 0)))), (3, .int 1), (2, .int (nI (3462 + 28 * (gN f0 2722)))), (1, .int (nI k10)), (0, .ref h0)] [0, 1, 2, 3, 4] rfl ?_
              exact IH24 (mkW [1 + (a23.1 0)] [1] [] [] [] []) ⟨(show 1 + (a23.1 0) ≤ 4000 by omega), (Or.inr rfl)⟩ (by show 100000 - (1 + (a23.1 0)) < 100000 - (a23.1 0); omega)
        ·
          refine V_lv [(4, .int (nI (a23.1 0))), (3, .int 1), (2, .int (nI (3462 + 28 * (gN f0 2722)))), (1, .int (nI k10)), (0, .ref h0)] [0, 1, 2, 3, 4] (by rw [e28]; rfl) ?_
          refine V_iload 69 B dX12_readLayer_69 0 rfl ?_
          refine V_aload_n 71 B dX12_readLayer_71 4 rfl ?_
          refine V_get 72 B gf_RX12_9 0 rfl rfl dX12_readLayer_72 ?_
          refine V_sipush 75 B (v := 2722) dX12_readLayer_75 (by decide +kernel) ?_
          have x157 : (gN f0 2722) ≤ 4 := gN_le HI (by omega) (show bd 2722 = (0, ((4 : Nat) : Int)) by decide +kernel)
          refine V_iald 78 B (v := (nI (gN f0 2722))) 1 rfl (vpin _ _ (by decide +kernel)) dX12_readLayer_78 (by show (upd f0 (3462 + 28 * (gN f0 2722)) j21) 2722 = _; rw [upd_ne (by omega)]; exact gN_eq HI (by omega) (show bd 2722 = (0, ((4 : Nat) : Int)) by decide +kernel)) ?_
          refine V_icmp_ge 79 B 119 dX12_readLayer_79 (by decide) (fun kk158 => ?_) (fun kk158 => ?_)
          ·
            have x159 := n_le (a := (gN f0 2722)) (b := (a23.1 0)) kk158 (by omega) (by omega)
            refine V_wloop (α := WU) (fun a => 4000 - (a.1 1)) (fun a => INV ph (a.2.2.2.1 0) ∧ ((a.2.1 1) = 0 ∨ (a.2.1 1) = 1) ∧ (k10 < (a.1 1) ∧ (a.1 1) ≤ (a.1 0) ∧ (a.1 0) ≤ k5 ∧ ((a.2.1 4) = 0 ∨ (a.1 1) < (a.1 0))) ∧ gN (a.2.2.2.1 0) 2722 = gN f0 2722) (fun a => [(4, .int (a.2.1 0)), (3, .int (a.2.1 1)), (2, .int (nI (3462 + 28 * (gN f0 2722)))), (1, .int (nI k10)), (0, .ref h0)]) (fun a => [(h0, oC 13 [.ref h1, .ref h2, .int p2, .ref h3, .ref h4, .int (nI k5), .int (nI (a.1 0)), .int (a.2.1 2), .int (a.2.1 3), .int (a.2.1 4), .int (nI (a.1 1)), .int (a.2.1 5), .long (a.2.2.1 0), .ref h5, .ref h6, .int (nI k15), .int (nI k16)]), (h1, aI Y 3640 (a.2.2.2.1 0)), (h2, aZ Y 2 f1), (h3, aZ Y 80 f3), (h4, aB Y 1600 f4), (h5, aI Y 200 f13), (h6, aI Y 800 f14)]) (mkW [(u12.1 0), (u12.1 1)] [(nI (a23.1 0)), 1, (u12.2.1 0), (u12.2.1 1), (u12.2.1 2), j21] [(u12.2.2.1 0)] [(upd f0 (3462 + 28 * (gN f0 2722)) j21)] [] []) ⟨hv22, (Or.inr rfl), ⟨(show k10 < (u12.1 1) by omega), (show (u12.1 1) ≤ (u12.1 0) by omega), (show (u12.1 0) ≤ k5 by omega), (show ((u12.2.1 2) = 0 ∨ (u12.1 1) < (u12.1 0)) by first | assumption | exact Or.inr (by omega))⟩, (show gN ((upd f0 (3462 + 28 * (gN f0 2722)) j21)) 2722 = gN f0 2722 by rw [gN_ne (by omega)])⟩ rfl rfl (fun a160 hI162 IH161 => ?_)
            refine V_lv [(4, .int (a160.2.1 0)), (3, .int (a160.2.1 1)), (2, .int (nI (3462 + 28 * (gN f0 2722)))), (1, .int (nI k10)), (0, .ref h0)] [0, 1, 2, 3, 4] rfl ?_
            refine V_ws [(h0, oC 13 [.ref h1, .ref h2, .int p2, .ref h3, .ref h4, .int (nI k5), .int (nI (a160.1 0)), .int (a160.2.1 2), .int (a160.2.1 3), .int (a160.2.1 4), .int (nI (a160.1 1)), .int (a160.2.1 5), .long (a160.2.2.1 0), .ref h5, .ref h6, .int (nI k15), .int (nI k16)]), (h1, aI Y 3640 (a160.2.2.2.1 0)), (h2, aZ Y 2 f1), (h3, aZ Y 80 f3), (h4, aB Y 1600 f4), (h5, aI Y 200 f13), (h6, aI Y 800 f14)] rfl ?_
            obtain ⟨x163, x164, x165, x166⟩ := hI162
            obtain ⟨x167, x168, x169, x170⟩ := x165
            have x171 : (gN (a160.2.2.2.1 0) 2722) ≤ 4 := gN_le x163 (by omega) (show bd 2722 = (0, ((4 : Nat) : Int)) by decide +kernel)
            rcases x164 with e172 | e172
            ·
              refine V_lv [(4, .int (a160.2.1 0)), (3, .int 0), (2, .int (nI (3462 + 28 * (gN f0 2722)))), (1, .int (nI k10)), (0, .ref h0)] [0, 1, 2, 3, 4] (by rw [e172]; rfl) ?_
              refine V_aload_n 119 B dX12_readLayer_119 4 rfl ?_
              refine V_get 120 B gf_RX12_283 0 rfl rfl dX12_readLayer_120 ?_
              refine V_iconst 123 B (v := 1) dX12_readLayer_123 (by decide +kernel) ?_
              refine V_icmp_ne 124 B 193 dX12_readLayer_124 (by decide) (fun kk173 => ?_) (fun kk173 => ?_)
              ·
                have x174 := x_ne kk173
                rw [show (1 : Int32).toInt = 1 by decide +kernel] at x174
                refine V_aload_n 193 B dX12_readLayer_193 4 rfl ?_
                refine V_cvi 194 B (st := []) (As := []) (fun sz => rX12_readEnd l D Y h0 h1 h2 h3 h4 h5 h6 p2 k5 (a160.1 0) (a160.2.1 2) (a160.2.1 3) (a160.2.1 4) (a160.1 1) (a160.2.1 5) (a160.2.2.1 0) k15 k16 (a160.2.2.2.1 0) f1 f3 f4 f13 f14 ph x163 (by omega) HP (by omega) (by omega) (by first | assumption | exact Or.inl rfl | exact Or.inr (by omega)) sz) glV_RX12_304 ⟨rfl, rfl⟩ ⟨(Nat.le_of_ble_eq_true rfl), (Nat.le_of_ble_eq_true rfl)⟩ ⟨(Nat.le_of_ble_eq_true rfl), (Nat.le_of_ble_eq_true rfl)⟩ [0, 0, 0, 0, 0, 0, 0] rfl 13 0 rfl rfl rfl rfl (Nat.le_of_ble_eq_true rfl) rfl (fun _ _ _ => rfl) dX12_readLayer_194 (fun j175 u176 w177 => ?_)
                refine V_ws [(h0, oC 13 [.ref h1, .ref h2, .int p2, .ref h3, .ref h4, .int (nI k5), .int (nI (u176.1 0)), .int (u176.2.1 0), .int (u176.2.1 1), .int (u176.2.1 2), .int (nI (u176.1 1)), .int (a160.2.1 5), .long (u176.2.2.1 0), .ref h5, .ref h6, .int (nI k15), .int (nI k16)]), (h1, aI Y 3640 (a160.2.2.2.1 0)), (h2, aZ Y 2 f1), (h3, aZ Y 80 f3), (h4, aB Y 1600 f4), (h5, aI Y 200 f13), (h6, aI Y 800 f14)] rfl ?_
                obtain ⟨x178, x179, x180, x181, x182⟩ := w177
                rcases x178 with rfl | ⟨rfl, x183⟩
                ·
                  refine V_if_ne_f 197 B 202 dX12_readLayer_197 (by decide) (by decide +kernel) ?_
                  refine V_iconst 200 B (v := 0) dX12_readLayer_200 (by decide +kernel) ?_
                  exact V_zret 201 B rfl dX12_readLayer_201 (mkW [(u176.1 0), (u176.1 1)] [(u176.2.1 0), (u176.2.1 1), (u176.2.1 2), (a160.2.1 5)] [(u176.2.2.1 0)] [(a160.2.2.2.1 0)] [] []) ⟨(Or.inl rfl), x163, (show k10 ≤ (u176.1 1) by omega), (show (u176.1 1) ≤ (u176.1 0) by omega), (show (u176.1 0) ≤ k5 by omega), (show ((u176.2.1 2) = 0 ∨ (u176.1 1) < (u176.1 0)) by first | assumption | exact Or.inr (by omega))⟩ rfl
                ·
                  refine V_if_ne_t 197 B 202 dX12_readLayer_197 (by decide) (by decide +kernel) ?_
                  refine V_iload_n 202 B dX12_readLayer_202 1 rfl ?_
                  refine V_if_eq_t 203 B 213 dX12_readLayer_203 (by decide) (by decide +kernel) ?_
                  refine V_aload_n 213 B dX12_readLayer_213 4 rfl ?_
                  refine V_get 214 B gf_RX12_9 0 rfl rfl dX12_readLayer_214 ?_
                  refine V_sipush 217 B (v := 2722) dX12_readLayer_217 (by decide +kernel) ?_
                  refine V_dup2_11 220 B dX12_readLayer_220 rfl rfl ?_
                  have x184 : (gN (a160.2.2.2.1 0) 2722) ≤ 4 := gN_le x163 (by omega) (show bd 2722 = (0, ((4 : Nat) : Int)) by decide +kernel)
                  refine V_iald 221 B (v := (nI ((gN (a160.2.2.2.1 0) 2722)))) 1 rfl (vpin _ _ (by decide +kernel)) dX12_readLayer_221 (by show (a160.2.2.2.1 0) 2722 = _; exact gN_eq x163 (by omega) (show bd 2722 = (0, ((4 : Nat) : Int)) by decide +kernel)) ?_
                  refine V_iconst 222 B (v := 1) dX12_readLayer_222 (by decide +kernel) ?_
                  refine V_iadd 223 B (v := (nI (1 + (gN (a160.2.2.2.1 0) 2722)))) dX12_readLayer_223 (nI_addE (a := (gN (a160.2.2.2.1 0) 2722)) (b := 1) (by omega)) ?_
                  have hv185 : INV ph (upd (a160.2.2.2.1 0) 2722 (nI (1 + (gN (a160.2.2.2.1 0) 2722)))) := INV_nat (v := 1 + (gN (a160.2.2.2.1 0) 2722)) x163 (show bd 2722 = (0, ((4 : Nat) : Int)) by decide +kernel) (by omega) (by decide)
                  refine V_iast 224 B 1 rfl (vpin _ _ (by decide +kernel)) dX12_readLayer_224 [(h0, oC 13 [.ref h1, .ref h2, .int p2, .ref h3, .ref h4, .int (nI k5), .int (nI (u176.1 0)), .int (u176.2.1 0), .int (u176.2.1 1), .int (u176.2.1 2), .int (nI (u176.1 1)), .int (a160.2.1 5), .long (u176.2.2.1 0), .ref h5, .ref h6, .int (nI k15), .int (nI k16)]), (h1, aI Y 3640 (upd (a160.2.2.2.1 0) 2722 (nI (1 + (gN (a160.2.2.2.1 0) 2722))))), (h2, aZ Y 2 f1), (h3, aZ Y 80 f3), (h4, aB Y 1600 f4), (h5, aI Y 200 f13), (h6, aI Y 800 f14)] rfl ?_
                  refine V_iconst 225 B (v := 1) dX12_readLayer_225 (by decide +kernel) ?_
                  exact V_zret 226 B rfl dX12_readLayer_226 (mkW [(u176.1 0), (u176.1 1)] [(u176.2.1 0), (u176.2.1 1), (u176.2.1 2), (a160.2.1 5)] [(u176.2.2.1 0)] [(upd (a160.2.2.2.1 0) 2722 (nI (1 + (gN (a160.2.2.2.1 0) 2722))))] [] []) ⟨(Or.inr ⟨rfl, (show k10 < (u176.1 1) by omega)⟩), hv185, (show k10 ≤ (u176.1 1) by omega), (show (u176.1 1) ≤ (u176.1 0) by omega), (show (u176.1 0) ≤ k5 by omega), (show ((u176.2.1 2) = 0 ∨ (u176.1 1) < (u176.1 0)) by first | assumption | exact Or.inr (by omega))⟩ rfl
              ·
                have x186 := x_eq kk173
                rw [show (1 : Int32).toInt = 1 by decide +kernel] at x186
                refine V_aload_n 127 B dX12_readLayer_127 4 rfl ?_
                refine V_cvi 128 B (st := []) (As := []) (fun sz => rX12_readKey l D Y h0 h1 h2 h3 h4 h5 h6 p2 k5 (a160.1 0) (a160.2.1 2) (a160.2.1 3) (a160.2.1 4) (a160.1 1) (a160.2.1 5) (a160.2.2.1 0) k15 k16 (a160.2.2.2.1 0) f1 f3 f4 f13 f14 ph x163 (by omega) HP (by omega) (by omega) (by first | assumption | exact Or.inl rfl | exact Or.inr (by omega)) sz) glV_RX12_316 ⟨rfl, rfl⟩ ⟨(Nat.le_of_ble_eq_true rfl), (Nat.le_of_ble_eq_true rfl)⟩ ⟨(Nat.le_of_ble_eq_true rfl), (Nat.le_of_ble_eq_true rfl)⟩ [0, 0, 0, 0, 0, 0, 0] rfl 13 0 rfl rfl rfl rfl (Nat.le_of_ble_eq_true rfl) rfl (fun _ _ _ => rfl) dX12_readLayer_128 (fun j187 u188 w189 => ?_)
                refine V_ws [(h0, oC 13 [.ref h1, .ref h2, .int p2, .ref h3, .ref h4, .int (nI k5), .int (nI (u188.1 0)), .int (u188.2.1 0), .int (u188.2.1 1), .int (u188.2.1 2), .int (nI (u188.1 1)), .int (u188.2.1 3), .long (u188.2.2.1 0), .ref h5, .ref h6, .int (nI k15), .int (nI k16)]), (h1, aI Y 3640 (a160.2.2.2.1 0)), (h2, aZ Y 2 f1), (h3, aZ Y 80 f3), (h4, aB Y 1600 f4), (h5, aI Y 200 f13), (h6, aI Y 800 f14)] rfl ?_
                obtain ⟨x190, x191, x192, x193, x194⟩ := w189
                rcases x190 with rfl | ⟨rfl, x195, x196⟩
                ·
                  refine V_if_ne_f 131 B 136 dX12_readLayer_131 (by decide) (by decide +kernel) ?_
                  refine V_iconst 134 B (v := 0) dX12_readLayer_134 (by decide +kernel) ?_
                  exact V_zret 135 B rfl dX12_readLayer_135 (mkW [(u188.1 0), (u188.1 1)] [(u188.2.1 0), (u188.2.1 1), (u188.2.1 2), (u188.2.1 3)] [(u188.2.2.1 0)] [(a160.2.2.2.1 0)] [] []) ⟨(Or.inl rfl), x163, (show k10 ≤ (u188.1 1) by omega), (show (u188.1 1) ≤ (u188.1 0) by omega), (show (u188.1 0) ≤ k5 by omega), (show ((u188.2.1 2) = 0 ∨ (u188.1 1) < (u188.1 0)) by first | assumption | exact Or.inr (by omega))⟩ rfl
                ·
                  generalize u188.2.1 3 = j197 at *
                  refine V_if_ne_t 131 B 136 dX12_readLayer_131 (by decide) (by decide +kernel) ?_
                  refine V_aload_n 136 B dX12_readLayer_136 4 rfl ?_
                  refine V_get 137 B gf_RX12_294 0 rfl rfl dX12_readLayer_137 ?_
                  refine V_istore 140 B (lv2 := [(4, .int j197), (3, .int 0), (2, .int (nI (3462 + 28 * (gN f0 2722)))), (1, .int (nI k10)), (0, .ref h0)]) dX12_readLayer_140 (by decide) rfl ?_
                  refine V_aload_n 142 B dX12_readLayer_142 4 rfl ?_
                  refine V_cvi 143 B (st := []) (As := []) (fun sz => rX12_readKey l D Y h0 h1 h2 h3 h4 h5 h6 p2 k5 (u188.1 0) (u188.2.1 0) (u188.2.1 1) (u188.2.1 2) (u188.1 1) j197 (u188.2.2.1 0) k15 k16 (a160.2.2.2.1 0) f1 f3 f4 f13 f14 ph x163 (by omega) HP (by omega) (by omega) (by first | assumption | exact Or.inl rfl | exact Or.inr (by omega)) sz) glV_RX12_316 ⟨rfl, rfl⟩ ⟨(Nat.le_of_ble_eq_true rfl), (Nat.le_of_ble_eq_true rfl)⟩ ⟨(Nat.le_of_ble_eq_true rfl), (Nat.le_of_ble_eq_true rfl)⟩ [0, 0, 0, 0, 0, 0, 0] rfl 13 0 rfl rfl rfl rfl (Nat.le_of_ble_eq_true rfl) rfl (fun _ _ _ => rfl) dX12_readLayer_143 (fun j198 u199 w200 => ?_)
                  refine V_ws [(h0, oC 13 [.ref h1, .ref h2, .int p2, .ref h3, .ref h4, .int (nI k5), .int (nI (u199.1 0)), .int (u199.2.1 0), .int (u199.2.1 1), .int (u199.2.1 2), .int (nI (u199.1 1)), .int (u199.2.1 3), .long (u199.2.2.1 0), .ref h5, .ref h6, .int (nI k15), .int (nI k16)]), (h1, aI Y 3640 (a160.2.2.2.1 0)), (h2, aZ Y 2 f1), (h3, aZ Y 80 f3), (h4, aB Y 1600 f4), (h5, aI Y 200 f13), (h6, aI Y 800 f14)] rfl ?_
                  obtain ⟨x201, x202, x203, x204, x205⟩ := w200
                  rcases x201 with rfl | ⟨rfl, x206, x207⟩
                  ·
                    refine V_if_ne_f 146 B 151 dX12_readLayer_146 (by decide) (by decide +kernel) ?_
                    refine V_iconst 149 B (v := 0) dX12_readLayer_149 (by decide +kernel) ?_
                    exact V_zret 150 B rfl dX12_readLayer_150 (mkW [(u199.1 0), (u199.1 1)] [(u199.2.1 0), (u199.2.1 1), (u199.2.1 2), (u199.2.1 3)] [(u199.2.2.1 0)] [(a160.2.2.2.1 0)] [] []) ⟨(Or.inl rfl), x163, (show k10 ≤ (u199.1 1) by omega), (show (u199.1 1) ≤ (u199.1 0) by omega), (show (u199.1 0) ≤ k5 by omega), (show ((u199.2.1 2) = 0 ∨ (u199.1 1) < (u199.1 0)) by first | assumption | exact Or.inr (by omega))⟩ rfl
                  ·
                    generalize u199.2.1 3 = j208 at *
                    refine V_if_ne_t 146 B 151 dX12_readLayer_146 (by decide) (by decide +kernel) ?_
                    refine V_iload_n 151 B dX12_readLayer_151 1 rfl ?_
                    refine V_aload_n 152 B dX12_readLayer_152 4 rfl ?_
                    refine V_get 153 B gf_RX12_9 0 rfl rfl dX12_readLayer_153 ?_
                    refine V_iload_n 156 B dX12_readLayer_156 2 rfl ?_
                    refine V_iconst 157 B (v := 2) dX12_readLayer_157 (by decide +kernel) ?_
                    refine V_iadd 158 B (v := (nI (3464 + 28 * (gN f0 2722)))) dX12_readLayer_158 (nI_addE (a := 3462 + 28 * (gN f0 2722)) (b := 2) (by omega)) ?_
                    refine V_iload 159 B dX12_readLayer_159 0 rfl ?_
                    obtain ⟨n209, x210, rfl⟩ := nat_of (x := j197) (n := 25) (by omega) (by omega)
                    have e211 := nI_toInt (show n209 < 2 ^ 31 by omega)
                    refine V_iadd 161 B (v := (nI (3464 + 28 * (gN f0 2722) + n209))) dX12_readLayer_161 (nI_addE (a := 3464 + 28 * (gN f0 2722)) (b := n209) (by omega)) ?_
                    refine V_iald 162 B (v := (a160.2.2.2.1 0) (3464 + 28 * (gN f0 2722) + n209)) 1 rfl (vp_in_nI (n := 3464 + 28 * (gN f0 2722) + n209) (by omega) (by decide)) dX12_readLayer_162 (by rw [nI_clamp (show 3464 + 28 * (gN f0 2722) + n209 < 2 ^ 31 by omega)]) ?_
                    refine V_nmi (fun j212 e213 => ?_)
                    refine V_if_le 163 B 170 dX12_readLayer_163 (by decide) (fun kk214 => ?_) (fun kk214 => ?_)
                    ·
                      have x215 := x_le kk214
                      rw [show (0 : Int32).toInt = 0 by decide +kernel] at x215
                      refine V_iconst 170 B (v := 0) dX12_readLayer_170 (by decide +kernel) ?_
                      refine V_ior 171 B (v := 0) dX12_readLayer_171 (by decide +kernel) ?_
                      refine V_istore_n 172 B (lv2 := [(3, .int 0), (4, .int (nI n209)), (2, .int (nI (3462 + 28 * (gN f0 2722)))), (1, .int (nI k10)), (0, .ref h0)]) dX12_readLayer_172 (by decide) rfl ?_
                      refine V_aload_n 173 B dX12_readLayer_173 4 rfl ?_
                      refine V_get 174 B gf_RX12_9 0 rfl rfl dX12_readLayer_174 ?_
                      refine V_iload_n 177 B dX12_readLayer_177 2 rfl ?_
                      refine V_iconst 178 B (v := 2) dX12_readLayer_178 (by decide +kernel) ?_
                      refine V_iadd 179 B (v := (nI (3464 + 28 * (gN f0 2722)))) dX12_readLayer_179 (nI_addE (a := 3462 + 28 * (gN f0 2722)) (b := 2) (by omega)) ?_
                      refine V_iload 180 B dX12_readLayer_180 1 rfl ?_
                      refine V_iadd 182 B (v := (nI (3464 + 28 * (gN f0 2722) + n209))) dX12_readLayer_182 (nI_addE (a := 3464 + 28 * (gN f0 2722)) (b := n209) (by omega)) ?_
                      refine V_aload_n 183 B dX12_readLayer_183 4 rfl ?_
                      refine V_get 184 B gf_RX12_294 0 rfl rfl dX12_readLayer_184 ?_
                      refine V_iconst 187 B (v := 1) dX12_readLayer_187 (by decide +kernel) ?_
                      obtain ⟨n216, x217, rfl⟩ := nat_of (x := j208) (n := 25) (by omega) (by omega)
                      have e218 := nI_toInt (show n216 < 2 ^ 31 by omega)
                      refine V_iadd 188 B (v := (nI (1 + n216))) dX12_readLayer_188 (nI_addE (a := n216) (b := 1) (by omega)) ?_
                      have hv219 : INV ph (upd (a160.2.2.2.1 0) (3464 + 28 * (gN f0 2722) + n209) (nI (1 + n216))) := INV_free x163 (rl34 (gN f0 2722) (by omega) n209 (by omega))
                      refine V_iast 189 B 1 rfl (vp_in_nI (n := 3464 + 28 * (gN f0 2722) + n209) (by omega) (by decide)) dX12_readLayer_189 [(h0, oC 13 [.ref h1, .ref h2, .int p2, .ref h3, .ref h4, .int (nI k5), .int (nI (u199.1 0)), .int (u199.2.1 0), .int (u199.2.1 1), .int (u199.2.1 2), .int (nI (u199.1 1)), .int (nI n216), .long (u199.2.2.1 0), .ref h5, .ref h6, .int (nI k15), .int (nI k16)]), (h1, aI Y 3640 (upd (a160.2.2.2.1 0) (3464 + 28 * (gN f0 2722) + n209) (nI (1 + n216)))), (h2, aZ Y 2 f1), (h3, aZ Y 80 f3), (h4, aB Y 1600 f4), (h5, aI Y 200 f13), (h6, aI Y 800 f14)] (by rw [nI_clamp (show 3464 + 28 * (gN f0 2722) + n209 < 2 ^ 31 by omega)]; rfl) ?_
                      refine V_goto 190 B 119 dX12_readLayer_190 (by decide) ?_
                      refine V_lv [(4, .int (nI n209)), (3, .int 0), (2, .int (nI (3462 + 28 * (gN f0 2722)))), (1, .int (nI k10)), (0, .ref h0)] [1, 0, 2, 3, 4] rfl ?_
                      exact IH161 (mkW [(u199.1 0), (u199.1 1)] [(nI n209), 0, (u199.2.1 0), (u199.2.1 1), (u199.2.1 2), (nI n216)] [(u199.2.2.1 0)] [(upd (a160.2.2.2.1 0) (3464 + 28 * (gN f0 2722) + n209) (nI (1 + n216)))] [] []) ⟨hv219, (Or.inl rfl), ⟨(show k10 < (u199.1 1) by omega), (show (u199.1 1) ≤ (u199.1 0) by omega), (show (u199.1 0) ≤ k5 by omega), (show ((u199.2.1 2) = 0 ∨ (u199.1 1) < (u199.1 0)) by first | assumption | exact Or.inr (by omega))⟩, ((gN_ne (by omega)).trans x166)⟩ (by show 4000 - ((u199.1 1)) < _; omega)
                    ·
                      have x220 := x_nle kk214
                      rw [show (0 : Int32).toInt = 0 by decide +kernel] at x220
                      refine V_iconst 166 B (v := 1) dX12_readLayer_166 (by decide +kernel) ?_
                      refine V_goto 167 B 171 dX12_readLayer_167 (by decide) ?_
                      refine V_ior 171 B (v := 1) dX12_readLayer_171 (by decide +kernel) ?_
                      refine V_istore_n 172 B (lv2 := [(3, .int 1), (4, .int (nI n209)), (2, .int (nI (3462 + 28 * (gN f0 2722)))), (1, .int (nI k10)), (0, .ref h0)]) dX12_readLayer_172 (by decide) rfl ?_
                      refine V_aload_n 173 B dX12_readLayer_173 4 rfl ?_
                      refine V_get 174 B gf_RX12_9 0 rfl rfl dX12_readLayer_174 ?_
                      refine V_iload_n 177 B dX12_readLayer_177 2 rfl ?_
                      refine V_iconst 178 B (v := 2) dX12_readLayer_178 (by decide +kernel) ?_
                      refine V_iadd 179 B (v := (nI (3464 + 28 * (gN f0 2722)))) dX12_readLayer_179 (nI_addE (a := 3462 + 28 * (gN f0 2722)) (b := 2) (by omega)) ?_
                      refine V_iload 180 B dX12_readLayer_180 1 rfl ?_
                      refine V_iadd 182 B (v := (nI (3464 + 28 * (gN f0 2722) + n209))) dX12_readLayer_182 (nI_addE (a := 3464 + 28 * (gN f0 2722)) (b := n209) (by omega)) ?_
                      refine V_aload_n 183 B dX12_readLayer_183 4 rfl ?_
                      refine V_get 184 B gf_RX12_294 0 rfl rfl dX12_readLayer_184 ?_
                      refine V_iconst 187 B (v := 1) dX12_readLayer_187 (by decide +kernel) ?_
                      obtain ⟨n221, x222, rfl⟩ := nat_of (x := j208) (n := 25) (by omega) (by omega)
                      have e223 := nI_toInt (show n221 < 2 ^ 31 by omega)
                      refine V_iadd 188 B (v := (nI (1 + n221))) dX12_readLayer_188 (nI_addE (a := n221) (b := 1) (by omega)) ?_
                      have hv224 : INV ph (upd (a160.2.2.2.1 0) (3464 + 28 * (gN f0 2722) + n209) (nI (1 + n221))) := INV_free x163 (rl34 (gN f0 2722) (by omega) n209 (by omega))
                      refine V_iast 189 B 1 rfl (vp_in_nI (n := 3464 + 28 * (gN f0 2722) + n209) (by omega) (by decide)) dX12_readLayer_189 [(h0, oC 13 [.ref h1, .ref h2, .int p2, .ref h3, .ref h4, .int (nI k5), .int (nI (u199.1 0)), .int (u199.2.1 0), .int (u199.2.1 1), .int (u199.2.1 2), .int (nI (u199.1 1)), .int (nI n221), .long (u199.2.2.1 0), .ref h5, .ref h6, .int (nI k15), .int (nI k16)]), (h1, aI Y 3640 (upd (a160.2.2.2.1 0) (3464 + 28 * (gN f0 2722) + n209) (nI (1 + n221)))), (h2, aZ Y 2 f1), (h3, aZ Y 80 f3), (h4, aB Y 1600 f4), (h5, aI Y 200 f13), (h6, aI Y 800 f14)] (by rw [nI_clamp (show 3464 + 28 * (gN f0 2722) + n209 < 2 ^ 31 by omega)]; rfl) ?_
                      refine V_goto 190 B 119 dX12_readLayer_190 (by decide) ?_
                      refine V_lv [(4, .int (nI n209)), (3, .int 1), (2, .int (nI (3462 + 28 * (gN f0 2722)))), (1, .int (nI k10)), (0, .ref h0)] [1, 0, 2, 3, 4] rfl ?_
                      exact IH161 (mkW [(u199.1 0), (u199.1 1)] [(nI n209), 1, (u199.2.1 0), (u199.2.1 1), (u199.2.1 2), (nI n221)] [(u199.2.2.1 0)] [(upd (a160.2.2.2.1 0) (3464 + 28 * (gN f0 2722) + n209) (nI (1 + n221)))] [] []) ⟨hv224, (Or.inr rfl), ⟨(show k10 < (u199.1 1) by omega), (show (u199.1 1) ≤ (u199.1 0) by omega), (show (u199.1 0) ≤ k5 by omega), (show ((u199.2.1 2) = 0 ∨ (u199.1 1) < (u199.1 0)) by first | assumption | exact Or.inr (by omega))⟩, ((gN_ne (by omega)).trans x166)⟩ (by show 4000 - ((u199.1 1)) < _; omega)
            ·
              refine V_lv [(4, .int (a160.2.1 0)), (3, .int 1), (2, .int (nI (3462 + 28 * (gN f0 2722)))), (1, .int (nI k10)), (0, .ref h0)] [0, 1, 2, 3, 4] (by rw [e172]; rfl) ?_
              refine V_aload_n 119 B dX12_readLayer_119 4 rfl ?_
              refine V_get 120 B gf_RX12_283 0 rfl rfl dX12_readLayer_120 ?_
              refine V_iconst 123 B (v := 1) dX12_readLayer_123 (by decide +kernel) ?_
              refine V_icmp_ne 124 B 193 dX12_readLayer_124 (by decide) (fun kk225 => ?_) (fun kk225 => ?_)
              ·
                have x226 := x_ne kk225
                rw [show (1 : Int32).toInt = 1 by decide +kernel] at x226
                refine V_aload_n 193 B dX12_readLayer_193 4 rfl ?_
                refine V_cvi 194 B (st := []) (As := []) (fun sz => rX12_readEnd l D Y h0 h1 h2 h3 h4 h5 h6 p2 k5 (a160.1 0) (a160.2.1 2) (a160.2.1 3) (a160.2.1 4) (a160.1 1) (a160.2.1 5) (a160.2.2.1 0) k15 k16 (a160.2.2.2.1 0) f1 f3 f4 f13 f14 ph x163 (by omega) HP (by omega) (by omega) (by first | assumption | exact Or.inl rfl | exact Or.inr (by omega)) sz) glV_RX12_304 ⟨rfl, rfl⟩ ⟨(Nat.le_of_ble_eq_true rfl), (Nat.le_of_ble_eq_true rfl)⟩ ⟨(Nat.le_of_ble_eq_true rfl), (Nat.le_of_ble_eq_true rfl)⟩ [0, 0, 0, 0, 0, 0, 0] rfl 13 0 rfl rfl rfl rfl (Nat.le_of_ble_eq_true rfl) rfl (fun _ _ _ => rfl) dX12_readLayer_194 (fun j227 u228 w229 => ?_)
                refine V_ws [(h0, oC 13 [.ref h1, .ref h2, .int p2, .ref h3, .ref h4, .int (nI k5), .int (nI (u228.1 0)), .int (u228.2.1 0), .int (u228.2.1 1), .int (u228.2.1 2), .int (nI (u228.1 1)), .int (a160.2.1 5), .long (u228.2.2.1 0), .ref h5, .ref h6, .int (nI k15), .int (nI k16)]), (h1, aI Y 3640 (a160.2.2.2.1 0)), (h2, aZ Y 2 f1), (h3, aZ Y 80 f3), (h4, aB Y 1600 f4), (h5, aI Y 200 f13), (h6, aI Y 800 f14)] rfl ?_
                obtain ⟨x230, x231, x232, x233, x234⟩ := w229
                rcases x230 with rfl | ⟨rfl, x235⟩
                ·
                  refine V_if_ne_f 197 B 202 dX12_readLayer_197 (by decide) (by decide +kernel) ?_
                  refine V_iconst 200 B (v := 0) dX12_readLayer_200 (by decide +kernel) ?_
                  exact V_zret 201 B rfl dX12_readLayer_201 (mkW [(u228.1 0), (u228.1 1)] [(u228.2.1 0), (u228.2.1 1), (u228.2.1 2), (a160.2.1 5)] [(u228.2.2.1 0)] [(a160.2.2.2.1 0)] [] []) ⟨(Or.inl rfl), x163, (show k10 ≤ (u228.1 1) by omega), (show (u228.1 1) ≤ (u228.1 0) by omega), (show (u228.1 0) ≤ k5 by omega), (show ((u228.2.1 2) = 0 ∨ (u228.1 1) < (u228.1 0)) by first | assumption | exact Or.inr (by omega))⟩ rfl
                ·
                  refine V_if_ne_t 197 B 202 dX12_readLayer_197 (by decide) (by decide +kernel) ?_
                  refine V_iload_n 202 B dX12_readLayer_202 1 rfl ?_
                  refine V_if_eq_f 203 B 213 dX12_readLayer_203 (by decide) (by decide +kernel) ?_
                  refine V_aload_n 206 B dX12_readLayer_206 4 rfl ?_
                  refine V_iconst 207 B (v := 4) dX12_readLayer_207 (by decide +kernel) ?_
                  refine V_iload_n 208 B dX12_readLayer_208 3 rfl ?_
                  refine V_cvi 209 B (st := []) (As := [.int 4, .int (nI k10)]) (fun sz => rX12_failAt l D Y h0 h1 h2 h3 h4 h5 h6 p2 k5 (u228.1 0) (u228.2.1 0) (u228.2.1 1) (u228.2.1 2) (u228.1 1) (a160.2.1 5) (u228.2.2.1 0) k15 k16 (a160.2.2.2.1 0) f1 f3 f4 f13 f14 ph x163 (by omega) HP 4 (nI k10) sz) glV_RX12_313 ⟨rfl, rfl⟩ ⟨(Nat.le_of_ble_eq_true rfl), (Nat.le_of_ble_eq_true rfl)⟩ ⟨(Nat.le_of_ble_eq_true rfl), (Nat.le_of_ble_eq_true rfl)⟩ [0, 0, 0, 0, 0, 0, 0] rfl 13 0 rfl rfl rfl rfl (Nat.le_of_ble_eq_true rfl) rfl (fun _ _ _ => rfl) dX12_readLayer_209 (fun j236 u237 w238 => ?_)
                  refine V_ws [(h0, oC 13 [.ref h1, .ref h2, .int p2, .ref h3, .ref h4, .int (nI k5), .int (nI (u228.1 0)), .int (u237.2.1 0), .int (u237.2.1 1), .int (u228.2.1 2), .int (nI (u228.1 1)), .int (a160.2.1 5), .long (u228.2.2.1 0), .ref h5, .ref h6, .int (nI k15), .int (nI k16)]), (h1, aI Y 3640 (a160.2.2.2.1 0)), (h2, aZ Y 2 f1), (h3, aZ Y 80 f3), (h4, aB Y 1600 f4), (h5, aI Y 200 f13), (h6, aI Y 800 f14)] rfl ?_
                  have x239 := w238
                  clear w238
                  obtain rfl := x239
                  exact V_zret 212 B rfl dX12_readLayer_212 (mkW [(u228.1 0), (u228.1 1)] [(u237.2.1 0), (u237.2.1 1), (u228.2.1 2), (a160.2.1 5)] [(u228.2.2.1 0)] [(a160.2.2.2.1 0)] [] []) ⟨(Or.inl rfl), x163, (show k10 ≤ (u228.1 1) by omega), (show (u228.1 1) ≤ (u228.1 0) by omega), (show (u228.1 0) ≤ k5 by omega), (show ((u228.2.1 2) = 0 ∨ (u228.1 1) < (u228.1 0)) by first | assumption | exact Or.inr (by omega))⟩ rfl
              ·
                have x240 := x_eq kk225
                rw [show (1 : Int32).toInt = 1 by decide +kernel] at x240
                refine V_aload_n 127 B dX12_readLayer_127 4 rfl ?_
                refine V_cvi 128 B (st := []) (As := []) (fun sz => rX12_readKey l D Y h0 h1 h2 h3 h4 h5 h6 p2 k5 (a160.1 0) (a160.2.1 2) (a160.2.1 3) (a160.2.1 4) (a160.1 1) (a160.2.1 5) (a160.2.2.1 0) k15 k16 (a160.2.2.2.1 0) f1 f3 f4 f13 f14 ph x163 (by omega) HP (by omega) (by omega) (by first | assumption | exact Or.inl rfl | exact Or.inr (by omega)) sz) glV_RX12_316 ⟨rfl, rfl⟩ ⟨(Nat.le_of_ble_eq_true rfl), (Nat.le_of_ble_eq_true rfl)⟩ ⟨(Nat.le_of_ble_eq_true rfl), (Nat.le_of_ble_eq_true rfl)⟩ [0, 0, 0, 0, 0, 0, 0] rfl 13 0 rfl rfl rfl rfl (Nat.le_of_ble_eq_true rfl) rfl (fun _ _ _ => rfl) dX12_readLayer_128 (fun j241 u242 w243 => ?_)
                refine V_ws [(h0, oC 13 [.ref h1, .ref h2, .int p2, .ref h3, .ref h4, .int (nI k5), .int (nI (u242.1 0)), .int (u242.2.1 0), .int (u242.2.1 1), .int (u242.2.1 2), .int (nI (u242.1 1)), .int (u242.2.1 3), .long (u242.2.2.1 0), .ref h5, .ref h6, .int (nI k15), .int (nI k16)]), (h1, aI Y 3640 (a160.2.2.2.1 0)), (h2, aZ Y 2 f1), (h3, aZ Y 80 f3), (h4, aB Y 1600 f4), (h5, aI Y 200 f13), (h6, aI Y 800 f14)] rfl ?_
                obtain ⟨x244, x245, x246, x247, x248⟩ := w243
                rcases x244 with rfl | ⟨rfl, x249, x250⟩
                ·
                  refine V_if_ne_f 131 B 136 dX12_readLayer_131 (by decide) (by decide +kernel) ?_
                  refine V_iconst 134 B (v := 0) dX12_readLayer_134 (by decide +kernel) ?_
                  exact V_zret 135 B rfl dX12_readLayer_135 (mkW [(u242.1 0), (u242.1 1)] [(u242.2.1 0), (u242.2.1 1), (u242.2.1 2), (u242.2.1 3)] [(u242.2.2.1 0)] [(a160.2.2.2.1 0)] [] []) ⟨(Or.inl rfl), x163, (show k10 ≤ (u242.1 1) by omega), (show (u242.1 1) ≤ (u242.1 0) by omega), (show (u242.1 0) ≤ k5 by omega), (show ((u242.2.1 2) = 0 ∨ (u242.1 1) < (u242.1 0)) by first | assumption | exact Or.inr (by omega))⟩ rfl
                ·
                  generalize u242.2.1 3 = j251 at *
                  refine V_if_ne_t 131 B 136 dX12_readLayer_131 (by decide) (by decide +kernel) ?_
                  refine V_aload_n 136 B dX12_readLayer_136 4 rfl ?_
                  refine V_get 137 B gf_RX12_294 0 rfl rfl dX12_readLayer_137 ?_
                  refine V_istore 140 B (lv2 := [(4, .int j251), (3, .int 1), (2, .int (nI (3462 + 28 * (gN f0 2722)))), (1, .int (nI k10)), (0, .ref h0)]) dX12_readLayer_140 (by decide) rfl ?_
                  refine V_aload_n 142 B dX12_readLayer_142 4 rfl ?_
                  refine V_cvi 143 B (st := []) (As := []) (fun sz => rX12_readKey l D Y h0 h1 h2 h3 h4 h5 h6 p2 k5 (u242.1 0) (u242.2.1 0) (u242.2.1 1) (u242.2.1 2) (u242.1 1) j251 (u242.2.2.1 0) k15 k16 (a160.2.2.2.1 0) f1 f3 f4 f13 f14 ph x163 (by omega) HP (by omega) (by omega) (by first | assumption | exact Or.inl rfl | exact Or.inr (by omega)) sz) glV_RX12_316 ⟨rfl, rfl⟩ ⟨(Nat.le_of_ble_eq_true rfl), (Nat.le_of_ble_eq_true rfl)⟩ ⟨(Nat.le_of_ble_eq_true rfl), (Nat.le_of_ble_eq_true rfl)⟩ [0, 0, 0, 0, 0, 0, 0] rfl 13 0 rfl rfl rfl rfl (Nat.le_of_ble_eq_true rfl) rfl (fun _ _ _ => rfl) dX12_readLayer_143 (fun j252 u253 w254 => ?_)
                  refine V_ws [(h0, oC 13 [.ref h1, .ref h2, .int p2, .ref h3, .ref h4, .int (nI k5), .int (nI (u253.1 0)), .int (u253.2.1 0), .int (u253.2.1 1), .int (u253.2.1 2), .int (nI (u253.1 1)), .int (u253.2.1 3), .long (u253.2.2.1 0), .ref h5, .ref h6, .int (nI k15), .int (nI k16)]), (h1, aI Y 3640 (a160.2.2.2.1 0)), (h2, aZ Y 2 f1), (h3, aZ Y 80 f3), (h4, aB Y 1600 f4), (h5, aI Y 200 f13), (h6, aI Y 800 f14)] rfl ?_
                  obtain ⟨x255, x256, x257, x258, x259⟩ := w254
                  rcases x255 with rfl | ⟨rfl, x260, x261⟩
                  ·
                    refine V_if_ne_f 146 B 151 dX12_readLayer_146 (by decide) (by decide +kernel) ?_
                    refine V_iconst 149 B (v := 0) dX12_readLayer_149 (by decide +kernel) ?_
                    exact V_zret 150 B rfl dX12_readLayer_150 (mkW [(u253.1 0), (u253.1 1)] [(u253.2.1 0), (u253.2.1 1), (u253.2.1 2), (u253.2.1 3)] [(u253.2.2.1 0)] [(a160.2.2.2.1 0)] [] []) ⟨(Or.inl rfl), x163, (show k10 ≤ (u253.1 1) by omega), (show (u253.1 1) ≤ (u253.1 0) by omega), (show (u253.1 0) ≤ k5 by omega), (show ((u253.2.1 2) = 0 ∨ (u253.1 1) < (u253.1 0)) by first | assumption | exact Or.inr (by omega))⟩ rfl
                  ·
                    generalize u253.2.1 3 = j262 at *
                    refine V_if_ne_t 146 B 151 dX12_readLayer_146 (by decide) (by decide +kernel) ?_
                    refine V_iload_n 151 B dX12_readLayer_151 1 rfl ?_
                    refine V_aload_n 152 B dX12_readLayer_152 4 rfl ?_
                    refine V_get 153 B gf_RX12_9 0 rfl rfl dX12_readLayer_153 ?_
                    refine V_iload_n 156 B dX12_readLayer_156 2 rfl ?_
                    refine V_iconst 157 B (v := 2) dX12_readLayer_157 (by decide +kernel) ?_
                    refine V_iadd 158 B (v := (nI (3464 + 28 * (gN f0 2722)))) dX12_readLayer_158 (nI_addE (a := 3462 + 28 * (gN f0 2722)) (b := 2) (by omega)) ?_
                    refine V_iload 159 B dX12_readLayer_159 0 rfl ?_
                    obtain ⟨n263, x264, rfl⟩ := nat_of (x := j251) (n := 25) (by omega) (by omega)
                    have e265 := nI_toInt (show n263 < 2 ^ 31 by omega)
                    refine V_iadd 161 B (v := (nI (3464 + 28 * (gN f0 2722) + n263))) dX12_readLayer_161 (nI_addE (a := 3464 + 28 * (gN f0 2722)) (b := n263) (by omega)) ?_
                    refine V_iald 162 B (v := (a160.2.2.2.1 0) (3464 + 28 * (gN f0 2722) + n263)) 1 rfl (vp_in_nI (n := 3464 + 28 * (gN f0 2722) + n263) (by omega) (by decide)) dX12_readLayer_162 (by rw [nI_clamp (show 3464 + 28 * (gN f0 2722) + n263 < 2 ^ 31 by omega)]) ?_
                    refine V_nmi (fun j266 e267 => ?_)
                    refine V_if_le 163 B 170 dX12_readLayer_163 (by decide) (fun kk268 => ?_) (fun kk268 => ?_)
                    ·
                      have x269 := x_le kk268
                      rw [show (0 : Int32).toInt = 0 by decide +kernel] at x269
                      refine V_iconst 170 B (v := 0) dX12_readLayer_170 (by decide +kernel) ?_
                      refine V_ior 171 B (v := 1) dX12_readLayer_171 (by decide +kernel) ?_
                      refine V_istore_n 172 B (lv2 := [(3, .int 1), (4, .int (nI n263)), (2, .int (nI (3462 + 28 * (gN f0 2722)))), (1, .int (nI k10)), (0, .ref h0)]) dX12_readLayer_172 (by decide) rfl ?_
                      refine V_aload_n 173 B dX12_readLayer_173 4 rfl ?_
                      refine V_get 174 B gf_RX12_9 0 rfl rfl dX12_readLayer_174 ?_
                      refine V_iload_n 177 B dX12_readLayer_177 2 rfl ?_
                      refine V_iconst 178 B (v := 2) dX12_readLayer_178 (by decide +kernel) ?_
                      refine V_iadd 179 B (v := (nI (3464 + 28 * (gN f0 2722)))) dX12_readLayer_179 (nI_addE (a := 3462 + 28 * (gN f0 2722)) (b := 2) (by omega)) ?_
                      refine V_iload 180 B dX12_readLayer_180 1 rfl ?_
                      refine V_iadd 182 B (v := (nI (3464 + 28 * (gN f0 2722) + n263))) dX12_readLayer_182 (nI_addE (a := 3464 + 28 * (gN f0 2722)) (b := n263) (by omega)) ?_
                      refine V_aload_n 183 B dX12_readLayer_183 4 rfl ?_
                      refine V_get 184 B gf_RX12_294 0 rfl rfl dX12_readLayer_184 ?_
                      refine V_iconst 187 B (v := 1) dX12_readLayer_187 (by decide +kernel) ?_
                      obtain ⟨n270, x271, rfl⟩ := nat_of (x := j262) (n := 25) (by omega) (by omega)
                      have e272 := nI_toInt (show n270 < 2 ^ 31 by omega)
                      refine V_iadd 188 B (v := (nI (1 + n270))) dX12_readLayer_188 (nI_addE (a := n270) (b := 1) (by omega)) ?_
                      have hv273 : INV ph (upd (a160.2.2.2.1 0) (3464 + 28 * (gN f0 2722) + n263) (nI (1 + n270))) := INV_free x163 (rl34 (gN f0 2722) (by omega) n263 (by omega))
                      refine V_iast 189 B 1 rfl (vp_in_nI (n := 3464 + 28 * (gN f0 2722) + n263) (by omega) (by decide)) dX12_readLayer_189 [(h0, oC 13 [.ref h1, .ref h2, .int p2, .ref h3, .ref h4, .int (nI k5), .int (nI (u253.1 0)), .int (u253.2.1 0), .int (u253.2.1 1), .int (u253.2.1 2), .int (nI (u253.1 1)), .int (nI n270), .long (u253.2.2.1 0), .ref h5, .ref h6, .int (nI k15), .int (nI k16)]), (h1, aI Y 3640 (upd (a160.2.2.2.1 0) (3464 + 28 * (gN f0 2722) + n263) (nI (1 + n270)))), (h2, aZ Y 2 f1), (h3, aZ Y 80 f3), (h4, aB Y 1600 f4), (h5, aI Y 200 f13), (h6, aI Y 800 f14)] (by rw [nI_clamp (show 3464 + 28 * (gN f0 2722) + n263 < 2 ^ 31 by omega)]; rfl) ?_
                      refine V_goto 190 B 119 dX12_readLayer_190 (by decide) ?_
                      refine V_lv [(4, .int (nI n263)), (3, .int 1), (2, .int (nI (3462 + 28 * (gN f0 2722)))), (1, .int (nI k10)), (0, .ref h0)] [1, 0, 2, 3, 4] rfl ?_
                      exact IH161 (mkW [(u253.1 0), (u253.1 1)] [(nI n263), 1, (u253.2.1 0), (u253.2.1 1), (u253.2.1 2), (nI n270)] [(u253.2.2.1 0)] [(upd (a160.2.2.2.1 0) (3464 + 28 * (gN f0 2722) + n263) (nI (1 + n270)))] [] []) ⟨hv273, (Or.inr rfl), ⟨(show k10 < (u253.1 1) by omega), (show (u253.1 1) ≤ (u253.1 0) by omega), (show (u253.1 0) ≤ k5 by omega), (show ((u253.2.1 2) = 0 ∨ (u253.1 1) < (u253.1 0)) by first | assumption | exact Or.inr (by omega))⟩, ((gN_ne (by omega)).trans x166)⟩ (by show 4000 - ((u253.1 1)) < _; omega)
                    ·
                      have x274 := x_nle kk268
                      rw [show (0 : Int32).toInt = 0 by decide +kernel] at x274
                      refine V_iconst 166 B (v := 1) dX12_readLayer_166 (by decide +kernel) ?_
                      refine V_goto 167 B 171 dX12_readLayer_167 (by decide) ?_
                      refine V_ior 171 B (v := 1) dX12_readLayer_171 (by decide +kernel) ?_
                      refine V_istore_n 172 B (lv2 := [(3, .int 1), (4, .int (nI n263)), (2, .int (nI (3462 + 28 * (gN f0 2722)))), (1, .int (nI k10)), (0, .ref h0)]) dX12_readLayer_172 (by decide) rfl ?_
                      refine V_aload_n 173 B dX12_readLayer_173 4 rfl ?_
                      refine V_get 174 B gf_RX12_9 0 rfl rfl dX12_readLayer_174 ?_
                      refine V_iload_n 177 B dX12_readLayer_177 2 rfl ?_
                      refine V_iconst 178 B (v := 2) dX12_readLayer_178 (by decide +kernel) ?_
                      refine V_iadd 179 B (v := (nI (3464 + 28 * (gN f0 2722)))) dX12_readLayer_179 (nI_addE (a := 3462 + 28 * (gN f0 2722)) (b := 2) (by omega)) ?_
                      refine V_iload 180 B dX12_readLayer_180 1 rfl ?_
                      refine V_iadd 182 B (v := (nI (3464 + 28 * (gN f0 2722) + n263))) dX12_readLayer_182 (nI_addE (a := 3464 + 28 * (gN f0 2722)) (b := n263) (by omega)) ?_
                      refine V_aload_n 183 B dX12_readLayer_183 4 rfl ?_
                      refine V_get 184 B gf_RX12_294 0 rfl rfl dX12_readLayer_184 ?_
                      refine V_iconst 187 B (v := 1) dX12_readLayer_187 (by decide +kernel) ?_
                      obtain ⟨n275, x276, rfl⟩ := nat_of (x := j262) (n := 25) (by omega) (by omega)
                      have e277 := nI_toInt (show n275 < 2 ^ 31 by omega)
                      refine V_iadd 188 B (v := (nI (1 + n275))) dX12_readLayer_188 (nI_addE (a := n275) (b := 1) (by omega)) ?_
                      have hv278 : INV ph (upd (a160.2.2.2.1 0) (3464 + 28 * (gN f0 2722) + n263) (nI (1 + n275))) := INV_free x163 (rl34 (gN f0 2722) (by omega) n263 (by omega))
                      refine V_iast 189 B 1 rfl (vp_in_nI (n := 3464 + 28 * (gN f0 2722) + n263) (by omega) (by decide)) dX12_readLayer_189 [(h0, oC 13 [.ref h1, .ref h2, .int p2, .ref h3, .ref h4, .int (nI k5), .int (nI (u253.1 0)), .int (u253.2.1 0), .int (u253.2.1 1), .int (u253.2.1 2), .int (nI (u253.1 1)), .int (nI n275), .long (u253.2.2.1 0), .ref h5, .ref h6, .int (nI k15), .int (nI k16)]), (h1, aI Y 3640 (upd (a160.2.2.2.1 0) (3464 + 28 * (gN f0 2722) + n263) (nI (1 + n275)))), (h2, aZ Y 2 f1), (h3, aZ Y 80 f3), (h4, aB Y 1600 f4), (h5, aI Y 200 f13), (h6, aI Y 800 f14)] (by rw [nI_clamp (show 3464 + 28 * (gN f0 2722) + n263 < 2 ^ 31 by omega)]; rfl) ?_
                      refine V_goto 190 B 119 dX12_readLayer_190 (by decide) ?_
                      refine V_lv [(4, .int (nI n263)), (3, .int 1), (2, .int (nI (3462 + 28 * (gN f0 2722)))), (1, .int (nI k10)), (0, .ref h0)] [1, 0, 2, 3, 4] rfl ?_
                      exact IH161 (mkW [(u253.1 0), (u253.1 1)] [(nI n263), 1, (u253.2.1 0), (u253.2.1 1), (u253.2.1 2), (nI n275)] [(u253.2.2.1 0)] [(upd (a160.2.2.2.1 0) (3464 + 28 * (gN f0 2722) + n263) (nI (1 + n275)))] [] []) ⟨hv278, (Or.inr rfl), ⟨(show k10 < (u253.1 1) by omega), (show (u253.1 1) ≤ (u253.1 0) by omega), (show (u253.1 0) ≤ k5 by omega), (show ((u253.2.1 2) = 0 ∨ (u253.1 1) < (u253.1 0)) by first | assumption | exact Or.inr (by omega))⟩, ((gN_ne (by omega)).trans x166)⟩ (by show 4000 - ((u253.1 1)) < _; omega)
          ·
            have x279 := n_nle (a := (gN f0 2722)) (b := (a23.1 0)) kk158 (by omega) (by omega)
            refine V_iload_n 82 B dX12_readLayer_82 1 rfl ?_
            refine V_aload_n 83 B dX12_readLayer_83 4 rfl ?_
            refine V_get 84 B gf_RX12_9 0 rfl rfl dX12_readLayer_84 ?_
            refine V_sipush 87 B (v := 3462) dX12_readLayer_87 (by decide +kernel) ?_
            refine V_bipush 90 B (v := 28) dX12_readLayer_90 (by decide +kernel) ?_
            refine V_iload 92 B dX12_readLayer_92 0 rfl ?_
            refine V_imul 94 B (v := (nI (28 * (a23.1 0)))) dX12_readLayer_94 (nI_mulE (a := 28) (b := (a23.1 0)) (by omega)) ?_
            refine V_iadd 95 B (v := (nI (3462 + 28 * (a23.1 0)))) dX12_readLayer_95 (nI_addE (a := 3462) (b := 28 * (a23.1 0)) (by omega)) ?_
            refine V_iconst 96 B (v := 0) dX12_readLayer_96 (by decide +kernel) ?_
            refine V_iadd 97 B (v := (nI (3462 + 28 * (a23.1 0)))) dX12_readLayer_97 (nI_addE (a := 3462 + 28 * (a23.1 0)) (b := 0) (by omega)) ?_
            refine V_iald 98 B (v := (upd f0 (3462 + 28 * (gN f0 2722)) j21) (3462 + 28 * (a23.1 0))) 1 rfl (vp_in_nI (n := 3462 + 28 * (a23.1 0)) (by omega) (by decide)) dX12_readLayer_98 (by rw [nI_clamp (show 3462 + 28 * (a23.1 0) < 2 ^ 31 by omega)]) ?_
            refine V_nmi (fun j280 e281 => ?_)
            refine V_aload_n 99 B dX12_readLayer_99 4 rfl ?_
            refine V_get 100 B gf_RX12_294 0 rfl rfl dX12_readLayer_100 ?_
            refine V_icmp_ne 103 B 110 dX12_readLayer_103 (by decide) (fun kk282 => ?_) (fun kk282 => ?_)
            ·
              have x283 := x_ne kk282
              refine V_iconst 110 B (v := 0) dX12_readLayer_110 (by decide +kernel) ?_
              refine V_ior 111 B (v := 1) dX12_readLayer_111 (by decide +kernel) ?_
              refine V_istore_n 112 B (lv2 := [(3, .int 1), (4, .int (nI (a23.1 0))), (2, .int (nI (3462 + 28 * (gN f0 2722)))), (1, .int (nI k10)), (0, .ref h0)]) dX12_readLayer_112 (by decide) rfl ?_
              refine V_iinc 113 B (v := (nI (1 + (a23.1 0)))) (lv2 := [(4, .int (nI (1 + (a23.1 0)))), (3, .int 1), (2, .int (nI (3462 + 28 * (gN f0 2722)))), (1, .int (nI k10)), (0, .ref h0)]) dX12_readLayer_113 1 rfl (nI_addE (a := (a23.1 0)) (b := 1) (by omega)) (by decide) rfl ?_
              refine V_goto 116 B 69 dX12_readLayer_116 (by decide) ?_
              refine V_lv [(4, .int (nI (1 + (a23.1 0)))), (3, .int 1), (2, .int (nI (3462 + 28 * (gN f0 2722)))), (1, .int (nI k10)), (0, .ref h0)] [0, 1, 2, 3, 4] rfl ?_
              exact IH24 (mkW [1 + (a23.1 0)] [1] [] [] [] []) ⟨(show 1 + (a23.1 0) ≤ 4000 by omega), (Or.inr rfl)⟩ (by show 100000 - (1 + (a23.1 0)) < 100000 - (a23.1 0); omega)
            ·
              have x284 := x_eq kk282
              refine V_iconst 106 B (v := 1) dX12_readLayer_106 (by decide +kernel) ?_
              refine V_goto 107 B 111 dX12_readLayer_107 (by decide) ?_
              refine V_ior 111 B (v := 1) dX12_readLayer_111 (by decide +kernel) ?_
              refine V_istore_n 112 B (lv2 := [(3, .int 1), (4, .int (nI (a23.1 0))), (2, .int (nI (3462 + 28 * (gN f0 2722)))), (1, .int (nI k10)), (0, .ref h0)]) dX12_readLayer_112 (by decide) rfl ?_
              refine V_iinc 113 B (v := (nI (1 + (a23.1 0)))) (lv2 := [(4, .int (nI (1 + (a23.1 0)))), (3, .int 1), (2, .int (nI (3462 + 28 * (gN f0 2722)))), (1, .int (nI k10)), (0, .ref h0)]) dX12_readLayer_113 1 rfl (nI_addE (a := (a23.1 0)) (b := 1) (by omega)) (by decide) rfl ?_
              refine V_goto 116 B 69 dX12_readLayer_116 (by decide) ?_
              refine V_lv [(4, .int (nI (1 + (a23.1 0)))), (3, .int 1), (2, .int (nI (3462 + 28 * (gN f0 2722)))), (1, .int (nI k10)), (0, .ref h0)] [0, 1, 2, 3, 4] rfl ?_
              exact IH24 (mkW [1 + (a23.1 0)] [1] [] [] [] []) ⟨(show 1 + (a23.1 0) ≤ 4000 by omega), (Or.inr rfl)⟩ (by show 100000 - (1 + (a23.1 0)) < 100000 - (a23.1 0); omega)
    ·
      have x285 := n_eq (a := (gN f0 2722)) (b := 4) kk1 (by omega) (by omega)
      refine V_aload_n 12 B dX12_readLayer_12 0 rfl ?_
      refine V_iconst 13 B (v := 3) dX12_readLayer_13 (by decide +kernel) ?_
      refine V_cvi 14 B (st := []) (As := [.int 3]) (fun sz => rX12_fail l D Y h0 h1 h2 h3 h4 h5 h6 p2 k5 k6 p7 p8 p9 k10 p11 q12 k15 k16 f0 f1 f3 f4 f13 f14 ph HI (by omega) HP 3 sz) glV_RX12_291 ⟨rfl, rfl⟩ ⟨(Nat.le_of_ble_eq_true rfl), (Nat.le_of_ble_eq_true rfl)⟩ ⟨(Nat.le_of_ble_eq_true rfl), (Nat.le_of_ble_eq_true rfl)⟩ [0, 0, 0, 0, 0, 0, 0] rfl 13 0 rfl rfl rfl rfl (Nat.le_of_ble_eq_true rfl) rfl (fun _ _ _ => rfl) dX12_readLayer_14 (fun j286 u287 w288 => ?_)
      refine V_ws [(h0, oC 13 [.ref h1, .ref h2, .int p2, .ref h3, .ref h4, .int (nI k5), .int (nI k6), .int (u287.2.1 0), .int (u287.2.1 1), .int p9, .int (nI k10), .int p11, .long q12, .ref h5, .ref h6, .int (nI k15), .int (nI k16)]), (h1, aI Y 3640 f0), (h2, aZ Y 2 f1), (h3, aZ Y 80 f3), (h4, aB Y 1600 f4), (h5, aI Y 200 f13), (h6, aI Y 800 f14)] rfl ?_
      have x289 := w288
      clear w288
      obtain rfl := x289
      exact V_zret 17 B rfl dX12_readLayer_17 (mkW [k6, k10] [(u287.2.1 0), (u287.2.1 1), p9, p11] [q12] [f0] [] []) ⟨(Or.inl rfl), HI, (show k10 ≤ k10 by omega), (show k10 ≤ k6 by omega), (show k6 ≤ k5 by omega), (show (p9 = 0 ∨ k10 < k6) by first | assumption | exact Or.inr (by omega))⟩ rfl)
