theorem glV_RX12_88 : GLV RX12 88 yX12_copySequence RX12 cX12_copySequence 4 none 2 := ⟨⟨(mT8 17 rfl rfl), (mT8 19 rfl rfl), (mTs 33 rfl rfl), (mT1 13 rfl rfl), (mT8 20 rfl rfl)⟩, by decide +kernel⟩
theorem dX12_add_40 : decode cX12_add 40 = .ok (.aload_n 0, 1) := by decide +kernel
theorem dX12_add_41 : decode cX12_add 41 = .ok (.getfield 9, 3) := by decide +kernel
theorem dX12_add_44 : decode cX12_add 44 = .ok (.iconst 3, 1) := by decide +kernel
theorem dX12_add_45 : decode cX12_add 45 = .ok (.dup2, 1) := by decide +kernel
theorem dX12_add_46 : decode cX12_add 46 = .ok (.iaload, 1) := by decide +kernel
theorem dX12_add_47 : decode cX12_add 47 = .ok (.iconst 1, 1) := by decide +kernel
theorem dX12_add_48 : decode cX12_add 48 = .ok (.iadd, 1) := by decide +kernel
theorem dX12_add_49 : decode cX12_add 49 = .ok (.iastore, 1) := by decide +kernel
theorem dX12_add_50 : decode cX12_add 50 = .ok (.return_, 1) := by decide +kernel
set_option maxRecDepth 100000 in
set_option maxHeartbeats 4000000 in
theorem rX12_add (l : Launch) (D : va_G) (Y : Nat → ClassId) (h0 : Nat) (h1 : Nat) (h2 : Nat) (h3 : Nat) (h4 : Nat) (h5 : Nat) (h6 : Nat) (p2 : Int32) (k5 : Nat) (k6 : Nat) (p7 : Int32) (p8 : Int32) (p9 : Int32) (k10 : Nat) (p11 : Int32) (q12 : Int64) (k15 : Nat) (k16 : Nat) (f0 : Nat → Int32) (f1 : Nat → Int32) (f3 : Nat → Int32) (f4 : Nat → Int32) (f13 : Nat → Int32) (f14 : Nat → Int32) (HI : INV f0) (HL : k5 ≤ 1600) (HP : PLV f13) (s0 : Int32) (s1 : Nat) (s2 : Nat) (hn1 : s1 < 40) (hs2 : SQ s2) (hx0 : gN f0 3 < 80) (sz : Nat) : Met l yX12_add (WSm yX12_add cX12_add 5 none) (mkR 1 0 0 23) (PreC D Y [.ref h0, .int s0, .int (nI s1), .int (nI s2)] [(h0, oC 13 [.ref h1, .ref h2, .int p2, .ref h3, .ref h4, .int (nI k5), .int (nI k6), .int p7, .int p8, .int p9, .int (nI k10), .int p11, .long q12, .ref h5, .ref h6, .int (nI k15), .int (nI k16)]), (h1, aI Y 3640 f0), (h2, aZ Y 2 f1), (h3, aZ Y 80 f3), (h4, aB Y 1600 f4), (h5, aI Y 200 f13), (h6, aI Y 800 f14)] sz) (QV D (fun (u : WU) => INV (u.2.2.2.1 0)) (fun (u : WU) => [(h0, oC 13 [.ref h1, .ref h2, .int p2, .ref h3, .ref h4, .int (nI k5), .int (nI k6), .int p7, .int p8, .int p9, .int (nI k10), .int p11, .long q12, .ref h5, .ref h6, .int (nI k15), .int (nI k16)]), (h1, aI Y 3640 (u.2.2.2.1 0)), (h2, aZ Y 2 f1), (h3, aZ Y 80 f3), (h4, aB Y 1600 f4), (h5, aI Y 200 f13), (h6, aI Y 800 f14)]) (va_A [(h0, oC 13 [.ref h1, .ref h2, .int p2, .ref h3, .ref h4, .int (nI k5), .int (nI k6), .int p7, .int p8, .int p9, .int (nI k10), .int p11, .long q12, .ref h5, .ref h6, .int (nI k15), .int (nI k16)]), (h1, aI Y 3640 f0), (h2, aZ Y 2 f1), (h3, aZ Y 80 f3), (h4, aB Y 1600 f4), (h5, aI Y 200 f13), (h6, aI Y 800 f14)] sz)) 0 0 (va_A [(h0, oC 13 [.ref h1, .ref h2, .int p2, .ref h3, .ref h4, .int (nI k5), .int (nI k6), .int p7, .int p8, .int p9, .int (nI k10), .int p11, .long q12, .ref h5, .ref h6, .int (nI k15), .int (nI k16)]), (h1, aI Y 3640 f0), (h2, aZ Y 2 f1), (h3, aZ Y 80 f3), (h4, aB Y 1600 f4), (h5, aI Y 200 f13), (h6, aI Y 800 f14)] sz) :=
  met_of  (by decide +kernel) (Nat.le_of_ble_eq_true rfl) (fun p e s m args below meth c B hin hsz => by
    have B : VB p s m args meth c D Y (va_A [(h0, oC 13 [.ref h1, .ref h2, .int p2, .ref h3, .ref h4, .int (nI k5), .int (nI k6), .int p7, .int p8, .int p9, .int (nI k10), .int p11, .long q12, .ref h5, .ref h6, .int (nI k15), .int (nI k16)]), (h1, aI Y 3640 f0), (h2, aZ Y 2 f1), (h3, aZ Y 80 f3), (h4, aB Y 1600 f4), (h5, aI Y 200 f13), (h6, aI Y 800 f14)] sz) cX12_add 5 RX12 none := B
    have hq_s2 := hs2.1
    refine V_aload_n 0 B dX12_add_0 0 rfl ?_
    refine V_get 1 B gf_RX12_9 0 rfl rfl dX12_add_1 ?_
    refine V_iconst 4 B (v := 3) dX12_add_4 (by decide +kernel) ?_
    have x0 : (gN f0 3) ≤ 80 := gN_le HI (by omega) (show bd 3 = (0, ((80 : Nat) : Int)) by decide +kernel)
    refine V_iald 5 B (v := (nI (gN f0 3))) 1 rfl (vpin _ _ (by decide +kernel)) dX12_add_5 (by show f0 3 = _; exact gN_eq HI (by omega) (show bd 3 = (0, ((80 : Nat) : Int)) by decide +kernel)) ?_
    refine V_csi 6 B (st := []) (As := [.int (nI (gN f0 3))]) (fun sz => rX12_bindingAt l D Y (gN f0 3) (by omega) sz) glS_RX12_79 ⟨rfl, rfl⟩ ⟨(Nat.le_of_ble_eq_true rfl), (Nat.le_of_ble_eq_true rfl)⟩ ⟨(Nat.le_of_ble_eq_true rfl), (Nat.le_of_ble_eq_true rfl)⟩ [] rfl rfl (Nat.le_of_ble_eq_true rfl) rfl (fun _ _ _ => rfl) dX12_add_6 (fun j1 u2 w3 => ?_)
    refine V_ws [(h0, oC 13 [.ref h1, .ref h2, .int p2, .ref h3, .ref h4, .int (nI k5), .int (nI k6), .int p7, .int p8, .int p9, .int (nI k10), .int p11, .long q12, .ref h5, .ref h6, .int (nI k15), .int (nI k16)]), (h1, aI Y 3640 f0), (h2, aZ Y 2 f1), (h3, aZ Y 80 f3), (h4, aB Y 1600 f4), (h5, aI Y 200 f13), (h6, aI Y 800 f14)] rfl ?_
    have x4 := w3
    clear w3
    obtain rfl := x4
    refine V_istore 9 B (lv2 := [(4, .int (nI (184 + 7 * (gN f0 3)))), (0, .ref h0), (1, .int s0), (2, .int (nI s1)), (3, .int (nI s2))]) dX12_add_9 (by decide) rfl ?_
    refine V_aload_n 11 B dX12_add_11 1 rfl ?_
    refine V_get 12 B gf_RX12_9 0 rfl rfl dX12_add_12 ?_
    refine V_iload 15 B dX12_add_15 0 rfl ?_
    refine V_iconst 17 B (v := 0) dX12_add_17 (by decide +kernel) ?_
    refine V_iadd 18 B (v := (nI (184 + 7 * (gN f0 3)))) dX12_add_18 (nI_addE (a := 184 + 7 * (gN f0 3)) (b := 0) (by omega)) ?_
    refine V_iload_n 19 B dX12_add_19 2 rfl ?_
    have hv5 : INV (upd f0 (184 + 7 * (gN f0 3)) s0) := INV_free HI (rl11 (gN f0 3) (by omega))
    refine V_iast 20 B 1 rfl (vp_in_nI (n := 184 + 7 * (gN f0 3)) (by omega) (by decide)) dX12_add_20 [(h0, oC 13 [.ref h1, .ref h2, .int p2, .ref h3, .ref h4, .int (nI k5), .int (nI k6), .int p7, .int p8, .int p9, .int (nI k10), .int p11, .long q12, .ref h5, .ref h6, .int (nI k15), .int (nI k16)]), (h1, aI Y 3640 (upd f0 (184 + 7 * (gN f0 3)) s0)), (h2, aZ Y 2 f1), (h3, aZ Y 80 f3), (h4, aB Y 1600 f4), (h5, aI Y 200 f13), (h6, aI Y 800 f14)] (by rw [nI_clamp (show 184 + 7 * (gN f0 3) < 2 ^ 31 by omega)]; rfl) ?_
    refine V_aload_n 21 B dX12_add_21 1 rfl ?_
    refine V_get 22 B gf_RX12_9 0 rfl rfl dX12_add_22 ?_
    refine V_iload 25 B dX12_add_25 0 rfl ?_
    refine V_iconst 27 B (v := 1) dX12_add_27 (by decide +kernel) ?_
    refine V_iadd 28 B (v := (nI (185 + 7 * (gN f0 3)))) dX12_add_28 (nI_addE (a := 184 + 7 * (gN f0 3)) (b := 1) (by omega)) ?_
    refine V_iload_n 29 B dX12_add_29 3 rfl ?_
    have hv6 : INV (upd (upd f0 (184 + 7 * (gN f0 3)) s0) (185 + 7 * (gN f0 3)) (nI s1)) := INV_nat (v := s1) hv5 (rl13 (gN f0 3) (by omega)) (by omega) (by decide)
    refine V_iast 30 B 1 rfl (vp_in_nI (n := 185 + 7 * (gN f0 3)) (by omega) (by decide)) dX12_add_30 [(h0, oC 13 [.ref h1, .ref h2, .int p2, .ref h3, .ref h4, .int (nI k5), .int (nI k6), .int p7, .int p8, .int p9, .int (nI k10), .int p11, .long q12, .ref h5, .ref h6, .int (nI k15), .int (nI k16)]), (h1, aI Y 3640 (upd (upd f0 (184 + 7 * (gN f0 3)) s0) (185 + 7 * (gN f0 3)) (nI s1))), (h2, aZ Y 2 f1), (h3, aZ Y 80 f3), (h4, aB Y 1600 f4), (h5, aI Y 200 f13), (h6, aI Y 800 f14)] (by rw [nI_clamp (show 185 + 7 * (gN f0 3) < 2 ^ 31 by omega)]; rfl) ?_
    refine V_aload_n 31 B dX12_add_31 1 rfl ?_
    refine V_iload_n 32 B dX12_add_32 4 rfl ?_
    refine V_iload 33 B dX12_add_33 0 rfl ?_
    refine V_iconst 35 B (v := 2) dX12_add_35 (by decide +kernel) ?_
    refine V_iadd 36 B (v := (nI (186 + 7 * (gN f0 3)))) dX12_add_36 (nI_addE (a := 184 + 7 * (gN f0 3)) (b := 2) (by omega)) ?_
    refine V_cvv 37 B (st := []) (As := [.int (nI s2), .int (nI (186 + 7 * (gN f0 3)))]) (fun sz => rX12_copySequence l D Y h0 h1 h2 h3 h4 h5 h6 p2 k5 k6 p7 p8 p9 k10 p11 q12 k15 k16 (upd (upd f0 (184 + 7 * (gN f0 3)) s0) (185 + 7 * (gN f0 3)) (nI s1)) f1 f3 f4 f13 f14 hv6 (by omega) HP s2 (186 + 7 * (gN f0 3)) hs2 (rl12 (gN f0 3) (by omega)) sz) glV_RX12_88 ⟨rfl, rfl⟩ ⟨(Nat.le_of_ble_eq_true rfl), (Nat.le_of_ble_eq_true rfl)⟩ ⟨(Nat.le_of_ble_eq_true rfl), (Nat.le_of_ble_eq_true rfl)⟩ [0, 0, 0, 0, 0, 0, 0] rfl 13 0 rfl rfl rfl rfl (Nat.le_of_ble_eq_true rfl) rfl (fun _ _ => rfl) dX12_add_37 (fun u8 w9 => ?_)
    refine V_ws [(h0, oC 13 [.ref h1, .ref h2, .int p2, .ref h3, .ref h4, .int (nI k5), .int (nI k6), .int p7, .int p8, .int p9, .int (nI k10), .int p11, .long q12, .ref h5, .ref h6, .int (nI k15), .int (nI k16)]), (h1, aI Y 3640 (u8.2.2.2.1 0)), (h2, aZ Y 2 f1), (h3, aZ Y 80 f3), (h4, aB Y 1600 f4), (h5, aI Y 200 f13), (h6, aI Y 800 f14)] rfl ?_
    obtain ⟨x10, x11⟩ := w9
    refine V_aload_n 40 B dX12_add_40 1 rfl ?_
    refine V_get 41 B gf_RX12_9 0 rfl rfl dX12_add_41 ?_
    refine V_iconst 44 B (v := 3) dX12_add_44 (by decide +kernel) ?_
    refine V_dup2_11 45 B dX12_add_45 rfl rfl ?_
    have x12 : (gN f0 3) ≤ 80 := gN_le HI (by omega) (show bd 3 = (0, ((80 : Nat) : Int)) by decide +kernel)
    refine V_iald 46 B (v := (nI (gN f0 3))) 1 rfl (vpin _ _ (by decide +kernel)) dX12_add_46 (by show (u8.2.2.2.1 0) 3 = _; rw [x11 _ (by omega)]; rw [upd_ne (by omega)]; rw [upd_ne (by omega)]; exact gN_eq HI (by omega) (show bd 3 = (0, ((80 : Nat) : Int)) by decide +kernel)) ?_
    refine V_iconst 47 B (v := 1) dX12_add_47 (by decide +kernel) ?_
    refine V_iadd 48 B (v := (nI (1 + (gN f0 3)))) dX12_add_48 (nI_addE (a := (gN f0 3)) (b := 1) (by omega)) ?_
    have hv13 : INV (upd (u8.2.2.2.1 0) 3 (nI (1 + (gN f0 3)))) := INV_nat (v := 1 + (gN f0 3)) x10 (show bd 3 = (0, ((80 : Nat) : Int)) by decide +kernel) (by omega) (by decide)
    refine V_iast 49 B 1 rfl (vpin _ _ (by decide +kernel)) dX12_add_49 [(h0, oC 13 [.ref h1, .ref h2, .int p2, .ref h3, .ref h4, .int (nI k5), .int (nI k6), .int p7, .int p8, .int p9, .int (nI k10), .int p11, .long q12, .ref h5, .ref h6, .int (nI k15), .int (nI k16)]), (h1, aI Y 3640 (upd (u8.2.2.2.1 0) 3 (nI (1 + (gN f0 3))))), (h2, aZ Y 2 f1), (h3, aZ Y 80 f3), (h4, aB Y 1600 f4), (h5, aI Y 200 f13), (h6, aI Y 800 f14)] rfl ?_
    exact V_vret 50 B dX12_add_50 (mkW [] [] [] [(upd (u8.2.2.2.1 0) 3 (nI (1 + (gN f0 3))))] [] []) hv13 rfl)
theorem glV_RX12_132 : GLV RX12 132 yX12_add RX12 cX12_add 5 none 3 := ⟨⟨(mT8 112 rfl rfl), (mT8 114 rfl rfl), (mTs 47 rfl rfl), (mT1 13 rfl rfl), (mT8 115 rfl rfl)⟩, by decide +kernel⟩
theorem dX12_forced_77 : decode cX12_forced 77 = .ok (.iload 4, 2) := by decide +kernel
theorem dX12_forced_79 : decode cX12_forced 79 = .ok (.ireturn, 1) := by decide +kernel
theorem dX12_forced_52 : decode cX12_forced 52 = .ok (.aload_n 0, 1) := by decide +kernel
theorem dX12_forced_53 : decode cX12_forced 53 = .ok (.iload 5, 2) := by decide +kernel
theorem dX12_forced_55 : decode cX12_forced 55 = .ok (.invokevirtual 142, 3) := by decide +kernel
theorem dX12_remove_0 : decode cX12_remove 0 = .ok (.aload_n 0, 1) := by decide +kernel
theorem dX12_remove_1 : decode cX12_remove 1 = .ok (.getfield 9, 3) := by decide +kernel
theorem dX12_remove_4 : decode cX12_remove 4 = .ok (.iconst 3, 1) := by decide +kernel
theorem dX12_remove_5 : decode cX12_remove 5 = .ok (.dup2, 1) := by decide +kernel
theorem dX12_remove_6 : decode cX12_remove 6 = .ok (.iaload, 1) := by decide +kernel
theorem dX12_remove_7 : decode cX12_remove 7 = .ok (.iconst 1, 1) := by decide +kernel
theorem dX12_remove_8 : decode cX12_remove 8 = .ok (.isub, 1) := by decide +kernel
theorem dX12_remove_9 : decode cX12_remove 9 = .ok (.iastore, 1) := by decide +kernel
theorem dX12_remove_10 : decode cX12_remove 10 = .ok (.iload_n 1, 1) := by decide +kernel
theorem dX12_remove_11 : decode cX12_remove 11 = .ok (.invokestatic 79, 3) := by decide +kernel
theorem dX12_remove_14 : decode cX12_remove 14 = .ok (.istore_n 2, 1) := by decide +kernel
theorem dX12_remove_15 : decode cX12_remove 15 = .ok (.iload_n 2, 1) := by decide +kernel
theorem dX12_remove_16 : decode cX12_remove 16 = .ok (.aload_n 0, 1) := by decide +kernel
theorem dX12_remove_17 : decode cX12_remove 17 = .ok (.getfield 9, 3) := by decide +kernel
theorem dX12_remove_20 : decode cX12_remove 20 = .ok (.iconst 3, 1) := by decide +kernel
theorem dX12_remove_21 : decode cX12_remove 21 = .ok (.iaload, 1) := by decide +kernel
theorem dX12_remove_22 : decode cX12_remove 22 = .ok (.invokestatic 79, 3) := by decide +kernel
theorem dX12_remove_25 : decode cX12_remove 25 = .ok (.if_icmp .ge 24, 3) := by decide +kernel
theorem dX12_remove_49 : decode cX12_remove 49 = .ok (.return_, 1) := by decide +kernel
theorem dX12_remove_28 : decode cX12_remove 28 = .ok (.aload_n 0, 1) := by decide +kernel
theorem dX12_remove_29 : decode cX12_remove 29 = .ok (.getfield 9, 3) := by decide +kernel
theorem dX12_remove_32 : decode cX12_remove 32 = .ok (.iload_n 2, 1) := by decide +kernel
theorem dX12_remove_33 : decode cX12_remove 33 = .ok (.aload_n 0, 1) := by decide +kernel
theorem dX12_remove_34 : decode cX12_remove 34 = .ok (.getfield 9, 3) := by decide +kernel
theorem dX12_remove_37 : decode cX12_remove 37 = .ok (.iload_n 2, 1) := by decide +kernel
theorem dX12_remove_38 : decode cX12_remove 38 = .ok (.bipush 7, 2) := by decide +kernel
theorem dX12_remove_40 : decode cX12_remove 40 = .ok (.iadd, 1) := by decide +kernel
theorem dX12_remove_41 : decode cX12_remove 41 = .ok (.iaload, 1) := by decide +kernel
theorem dX12_remove_42 : decode cX12_remove 42 = .ok (.iastore, 1) := by decide +kernel
theorem dX12_remove_43 : decode cX12_remove 43 = .ok (.iinc 2 1, 3) := by decide +kernel
theorem dX12_remove_46 : decode cX12_remove 46 = .ok (.goto (-31), 3) := by decide +kernel
set_option maxRecDepth 100000 in
set_option maxHeartbeats 4000000 in
theorem rX12_remove (l : Launch) (D : va_G) (Y : Nat → ClassId) (h0 : Nat) (h1 : Nat) (h2 : Nat) (h3 : Nat) (h4 : Nat) (h5 : Nat) (h6 : Nat) (p2 : Int32) (k5 : Nat) (k6 : Nat) (p7 : Int32) (p8 : Int32) (p9 : Int32) (k10 : Nat) (p11 : Int32) (q12 : Int64) (k15 : Nat) (k16 : Nat) (f0 : Nat → Int32) (f1 : Nat → Int32) (f3 : Nat → Int32) (f4 : Nat → Int32) (f13 : Nat → Int32) (f14 : Nat → Int32) (HI : INV f0) (HL : k5 ≤ 1600) (HP : PLV f13) (s0 : Nat) (hn0 : s0 < 80) (hx0 : s0 < gN f0 3) (sz : Nat) : Met l yX12_remove (WSm yX12_remove cX12_remove 3 none) (mkR 1 0 0 20) (PreC D Y [.ref h0, .int (nI s0)] [(h0, oC 13 [.ref h1, .ref h2, .int p2, .ref h3, .ref h4, .int (nI k5), .int (nI k6), .int p7, .int p8, .int p9, .int (nI k10), .int p11, .long q12, .ref h5, .ref h6, .int (nI k15), .int (nI k16)]), (h1, aI Y 3640 f0), (h2, aZ Y 2 f1), (h3, aZ Y 80 f3), (h4, aB Y 1600 f4), (h5, aI Y 200 f13), (h6, aI Y 800 f14)] sz) (QV D (fun (u : WU) => INV (u.2.2.2.1 0) ∧ gN (u.2.2.2.1 0) 3 = gN f0 3 - 1) (fun (u : WU) => [(h0, oC 13 [.ref h1, .ref h2, .int p2, .ref h3, .ref h4, .int (nI k5), .int (nI k6), .int p7, .int p8, .int p9, .int (nI k10), .int p11, .long q12, .ref h5, .ref h6, .int (nI k15), .int (nI k16)]), (h1, aI Y 3640 (u.2.2.2.1 0)), (h2, aZ Y 2 f1), (h3, aZ Y 80 f3), (h4, aB Y 1600 f4), (h5, aI Y 200 f13), (h6, aI Y 800 f14)]) (va_A [(h0, oC 13 [.ref h1, .ref h2, .int p2, .ref h3, .ref h4, .int (nI k5), .int (nI k6), .int p7, .int p8, .int p9, .int (nI k10), .int p11, .long q12, .ref h5, .ref h6, .int (nI k15), .int (nI k16)]), (h1, aI Y 3640 f0), (h2, aZ Y 2 f1), (h3, aZ Y 80 f3), (h4, aB Y 1600 f4), (h5, aI Y 200 f13), (h6, aI Y 800 f14)] sz)) 0 0 (va_A [(h0, oC 13 [.ref h1, .ref h2, .int p2, .ref h3, .ref h4, .int (nI k5), .int (nI k6), .int p7, .int p8, .int p9, .int (nI k10), .int p11, .long q12, .ref h5, .ref h6, .int (nI k15), .int (nI k16)]), (h1, aI Y 3640 f0), (h2, aZ Y 2 f1), (h3, aZ Y 80 f3), (h4, aB Y 1600 f4), (h5, aI Y 200 f13), (h6, aI Y 800 f14)] sz) :=
  met_of  (by decide +kernel) (Nat.le_of_ble_eq_true rfl) (fun p e s m args below meth c B hin hsz => by
    have B : VB p s m args meth c D Y (va_A [(h0, oC 13 [.ref h1, .ref h2, .int p2, .ref h3, .ref h4, .int (nI k5), .int (nI k6), .int p7, .int p8, .int p9, .int (nI k10), .int p11, .long q12, .ref h5, .ref h6, .int (nI k15), .int (nI k16)]), (h1, aI Y 3640 f0), (h2, aZ Y 2 f1), (h3, aZ Y 80 f3), (h4, aB Y 1600 f4), (h5, aI Y 200 f13), (h6, aI Y 800 f14)] sz) cX12_remove 3 RX12 none := B
    refine V_aload_n 0 B dX12_remove_0 0 rfl ?_
    refine V_get 1 B gf_RX12_9 0 rfl rfl dX12_remove_1 ?_
    refine V_iconst 4 B (v := 3) dX12_remove_4 (by decide +kernel) ?_
    refine V_dup2_11 5 B dX12_remove_5 rfl rfl ?_
    have x0 : (gN f0 3) ≤ 80 := gN_le HI (by omega) (show bd 3 = (0, ((80 : Nat) : Int)) by decide +kernel)
    refine V_iald 6 B (v := (nI (gN f0 3))) 1 rfl (vpin _ _ (by decide +kernel)) dX12_remove_6 (by show f0 3 = _; exact gN_eq HI (by omega) (show bd 3 = (0, ((80 : Nat) : Int)) by decide +kernel)) ?_
    refine V_iconst 7 B (v := 1) dX12_remove_7 (by decide +kernel) ?_
    refine V_isub 8 B (v := (nI (((gN f0 3) - 1)))) dX12_remove_8 (nI_subE (a := (gN f0 3)) (b := 1) (by omega)) ?_
    have hv1 : INV (upd f0 3 (nI (((gN f0 3) - 1)))) := INV_nat (v := ((gN f0 3) - 1)) HI (show bd 3 = (0, ((80 : Nat) : Int)) by decide +kernel) (by omega) (by decide)
    refine V_iast 9 B 1 rfl (vpin _ _ (by decide +kernel)) dX12_remove_9 [(h0, oC 13 [.ref h1, .ref h2, .int p2, .ref h3, .ref h4, .int (nI k5), .int (nI k6), .int p7, .int p8, .int p9, .int (nI k10), .int p11, .long q12, .ref h5, .ref h6, .int (nI k15), .int (nI k16)]), (h1, aI Y 3640 (upd f0 3 (nI (((gN f0 3) - 1))))), (h2, aZ Y 2 f1), (h3, aZ Y 80 f3), (h4, aB Y 1600 f4), (h5, aI Y 200 f13), (h6, aI Y 800 f14)] rfl ?_
    refine V_iload_n 10 B dX12_remove_10 1 rfl ?_
    refine V_csi 11 B (st := []) (As := [.int (nI s0)]) (fun sz => rX12_bindingAt l D Y s0 (by omega) sz) glS_RX12_79 ⟨rfl, rfl⟩ ⟨(Nat.le_of_ble_eq_true rfl), (Nat.le_of_ble_eq_true rfl)⟩ ⟨(Nat.le_of_ble_eq_true rfl), (Nat.le_of_ble_eq_true rfl)⟩ [] rfl rfl (Nat.le_of_ble_eq_true rfl) rfl (fun _ _ _ => rfl) dX12_remove_11 (fun j2 u3 w4 => ?_)
    refine V_ws [(h0, oC 13 [.ref h1, .ref h2, .int p2, .ref h3, .ref h4, .int (nI k5), .int (nI k6), .int p7, .int p8, .int p9, .int (nI k10), .int p11, .long q12, .ref h5, .ref h6, .int (nI k15), .int (nI k16)]), (h1, aI Y 3640 (upd f0 3 (nI (((gN f0 3) - 1))))), (h2, aZ Y 2 f1), (h3, aZ Y 80 f3), (h4, aB Y 1600 f4), (h5, aI Y 200 f13), (h6, aI Y 800 f14)] rfl ?_
    have x5 := w4
    clear w4
    obtain rfl := x5
    refine V_istore_n 14 B (lv2 := [(2, .int (nI (184 + 7 * s0))), (0, .ref h0), (1, .int (nI s0))]) dX12_remove_14 (by decide) rfl ?_
    refine V_wloop (α := WU) (fun a => 100000 - (a.1 0)) (fun a => INV (a.2.2.2.1 0) ∧ (a.1 0) ≤ 4000 ∧ gN (a.2.2.2.1 0) 3 = gN f0 3 - 1 ∧ 184 ≤ (a.1 0)) (fun a => [(2, .int (nI (a.1 0))), (0, .ref h0), (1, .int (nI s0))]) (fun a => [(h0, oC 13 [.ref h1, .ref h2, .int p2, .ref h3, .ref h4, .int (nI k5), .int (nI k6), .int p7, .int p8, .int p9, .int (nI k10), .int p11, .long q12, .ref h5, .ref h6, .int (nI k15), .int (nI k16)]), (h1, aI Y 3640 (a.2.2.2.1 0)), (h2, aZ Y 2 f1), (h3, aZ Y 80 f3), (h4, aB Y 1600 f4), (h5, aI Y 200 f13), (h6, aI Y 800 f14)]) (mkW [184 + 7 * s0] [] [] [(upd f0 3 (nI (((gN f0 3) - 1))))] [] []) ⟨hv1, (show 184 + 7 * s0 ≤ 4000 by omega), (gN_at (by omega)), (show 184 ≤ 184 + 7 * s0 by omega)⟩ rfl rfl (fun a6 hI8 IH7 => ?_)
    refine V_lv [(2, .int (nI (a6.1 0))), (0, .ref h0), (1, .int (nI s0))] [0, 1, 2] rfl ?_
    refine V_ws [(h0, oC 13 [.ref h1, .ref h2, .int p2, .ref h3, .ref h4, .int (nI k5), .int (nI k6), .int p7, .int p8, .int p9, .int (nI k10), .int p11, .long q12, .ref h5, .ref h6, .int (nI k15), .int (nI k16)]), (h1, aI Y 3640 (a6.2.2.2.1 0)), (h2, aZ Y 2 f1), (h3, aZ Y 80 f3), (h4, aB Y 1600 f4), (h5, aI Y 200 f13), (h6, aI Y 800 f14)] rfl ?_
    obtain ⟨x9, x10, x11, x12⟩ := hI8
    have x13 : (gN (a6.2.2.2.1 0) 3) ≤ 80 := gN_le x9 (by omega) (show bd 3 = (0, ((80 : Nat) : Int)) by decide +kernel)
    refine V_iload_n 15 B dX12_remove_15 0 rfl ?_
    refine V_aload_n 16 B dX12_remove_16 1 rfl ?_
    refine V_get 17 B gf_RX12_9 0 rfl rfl dX12_remove_17 ?_
    refine V_iconst 20 B (v := 3) dX12_remove_20 (by decide +kernel) ?_
    have x14 : (gN (a6.2.2.2.1 0) 3) ≤ 80 := gN_le x9 (by omega) (show bd 3 = (0, ((80 : Nat) : Int)) by decide +kernel)
    refine V_iald 21 B (v := (nI ((gN (a6.2.2.2.1 0) 3)))) 1 rfl (vpin _ _ (by decide +kernel)) dX12_remove_21 (by show (a6.2.2.2.1 0) 3 = _; exact gN_eq x9 (by omega) (show bd 3 = (0, ((80 : Nat) : Int)) by decide +kernel)) ?_
    refine V_csi 22 B (st := [.int (nI (a6.1 0))]) (As := [.int (nI ((gN (a6.2.2.2.1 0) 3)))]) (fun sz => rX12_bindingAt l D Y (gN (a6.2.2.2.1 0) 3) (by omega) sz) glS_RX12_79 ⟨rfl, rfl⟩ ⟨(Nat.le_of_ble_eq_true rfl), (Nat.le_of_ble_eq_true rfl)⟩ ⟨(Nat.le_of_ble_eq_true rfl), (Nat.le_of_ble_eq_true rfl)⟩ [] rfl rfl (Nat.le_of_ble_eq_true rfl) rfl (fun _ _ _ => rfl) dX12_remove_22 (fun j15 u16 w17 => ?_)
    refine V_ws [(h0, oC 13 [.ref h1, .ref h2, .int p2, .ref h3, .ref h4, .int (nI k5), .int (nI k6), .int p7, .int p8, .int p9, .int (nI k10), .int p11, .long q12, .ref h5, .ref h6, .int (nI k15), .int (nI k16)]), (h1, aI Y 3640 (a6.2.2.2.1 0)), (h2, aZ Y 2 f1), (h3, aZ Y 80 f3), (h4, aB Y 1600 f4), (h5, aI Y 200 f13), (h6, aI Y 800 f14)] rfl ?_
    have x18 := w17
    clear w17
    obtain rfl := x18
    refine V_icmp_ge 25 B 49 dX12_remove_25 (by decide) (fun kk19 => ?_) (fun kk19 => ?_)
    ·
      have x20 := n_le (a := 184 + 7 * (gN (a6.2.2.2.1 0) 3)) (b := (a6.1 0)) kk19 (by omega) (by omega)
      exact V_vret 49 B dX12_remove_49 (mkW [] [] [] [(a6.2.2.2.1 0)] [] []) ⟨x9, x11⟩ rfl
    ·
      have x21 := n_nle (a := 184 + 7 * (gN (a6.2.2.2.1 0) 3)) (b := (a6.1 0)) kk19 (by omega) (by omega)
      refine V_aload_n 28 B dX12_remove_28 1 rfl ?_
      refine V_get 29 B gf_RX12_9 0 rfl rfl dX12_remove_29 ?_
      refine V_iload_n 32 B dX12_remove_32 0 rfl ?_
      refine V_aload_n 33 B dX12_remove_33 1 rfl ?_
      refine V_get 34 B gf_RX12_9 0 rfl rfl dX12_remove_34 ?_
      refine V_iload_n 37 B dX12_remove_37 0 rfl ?_
      refine V_bipush 38 B (v := 7) dX12_remove_38 (by decide +kernel) ?_
      refine V_iadd 40 B (v := (nI (7 + (a6.1 0)))) dX12_remove_40 (nI_addE (a := (a6.1 0)) (b := 7) (by omega)) ?_
      refine V_iald 41 B (v := (a6.2.2.2.1 0) (7 + (a6.1 0))) 1 rfl (vp_in_nI (n := 7 + (a6.1 0)) (by omega) (by decide)) dX12_remove_41 (by rw [nI_clamp (show 7 + (a6.1 0) < 2 ^ 31 by omega)]) ?_
      refine V_nmi (fun j22 e23 => ?_)
      have hv24 : INV (upd (a6.2.2.2.1 0) (a6.1 0) j22) := (by rw [e23]; exact INV_sh x9 (by omega) (by omega))
      refine V_iast 42 B 1 rfl (vp_in_nI (n := (a6.1 0)) (by omega) (by decide)) dX12_remove_42 [(h0, oC 13 [.ref h1, .ref h2, .int p2, .ref h3, .ref h4, .int (nI k5), .int (nI k6), .int p7, .int p8, .int p9, .int (nI k10), .int p11, .long q12, .ref h5, .ref h6, .int (nI k15), .int (nI k16)]), (h1, aI Y 3640 (upd (a6.2.2.2.1 0) (a6.1 0) j22)), (h2, aZ Y 2 f1), (h3, aZ Y 80 f3), (h4, aB Y 1600 f4), (h5, aI Y 200 f13), (h6, aI Y 800 f14)] (by rw [nI_clamp (show (a6.1 0) < 2 ^ 31 by omega)]; rfl) ?_
      refine V_iinc 43 B (v := (nI (1 + (a6.1 0)))) (lv2 := [(2, .int (nI (1 + (a6.1 0)))), (0, .ref h0), (1, .int (nI s0))]) dX12_remove_43 0 rfl (nI_addE (a := (a6.1 0)) (b := 1) (by omega)) (by decide) rfl ?_
      refine V_goto 46 B 15 dX12_remove_46 (by decide) ?_
      refine V_lv [(2, .int (nI (1 + (a6.1 0)))), (0, .ref h0), (1, .int (nI s0))] [0, 1, 2] rfl ?_
      exact IH7 (mkW [1 + (a6.1 0)] [] [] [(upd (a6.2.2.2.1 0) (a6.1 0) j22)] [] []) ⟨hv24, (show 1 + (a6.1 0) ≤ 4000 by omega), ((gN_ne (by omega)).trans x11), (show 184 ≤ 1 + (a6.1 0) by omega)⟩ (by show 100000 - (1 + (a6.1 0)) < 100000 - (a6.1 0); omega))
theorem glV_RX12_142 : GLV RX12 142 yX12_remove RX12 cX12_remove 3 none 1 := ⟨⟨(mT8 128 rfl rfl), (mT8 130 rfl rfl), (mTs 50 rfl rfl), (mT1 13 rfl rfl), (mT8 131 rfl rfl)⟩, by decide +kernel⟩
theorem dX12_forced_58 : decode cX12_forced 58 = .ok (.aload_n 0, 1) := by decide +kernel
theorem dX12_forced_59 : decode cX12_forced 59 = .ok (.iload_n 1, 1) := by decide +kernel
theorem dX12_forced_60 : decode cX12_forced 60 = .ok (.iload_n 3, 1) := by decide +kernel
theorem dX12_forced_61 : decode cX12_forced 61 = .ok (.iconst (-1), 1) := by decide +kernel
theorem dX12_forced_62 : decode cX12_forced 62 = .ok (.invokevirtual 121, 3) := by decide +kernel
theorem dX12_forced_65 : decode cX12_forced 65 = .ok (.istore 5, 2) := by decide +kernel
theorem dX12_forced_67 : decode cX12_forced 67 = .ok (.goto (-21), 3) := by decide +kernel
theorem dX12_forced_34 : decode cX12_forced 34 = .ok (.bipush (-2), 2) := by decide +kernel
theorem dX12_forced_36 : decode cX12_forced 36 = .ok (.ireturn, 1) := by decide +kernel
theorem dX12_forced_8 : decode cX12_forced 8 = .ok (.sipush (-1000), 3) := by decide +kernel
theorem dX12_forced_11 : decode cX12_forced 11 = .ok (.ireturn, 1) := by decide +kernel
set_option maxRecDepth 100000 in
set_option maxHeartbeats 4000000 in
theorem rX12_forced (l : Launch) (D : va_G) (Y : Nat → ClassId) (h0 : Nat) (h1 : Nat) (h2 : Nat) (h3 : Nat) (h4 : Nat) (h5 : Nat) (h6 : Nat) (p2 : Int32) (k5 : Nat) (k6 : Nat) (p7 : Int32) (p8 : Int32) (p9 : Int32) (k10 : Nat) (p11 : Int32) (q12 : Int64) (k15 : Nat) (k16 : Nat) (f0 : Nat → Int32) (f1 : Nat → Int32) (f3 : Nat → Int32) (f4 : Nat → Int32) (f13 : Nat → Int32) (f14 : Nat → Int32) (HI : INV f0) (HL : k5 ≤ 1600) (HP : PLV f13) (s0 : Int32) (s1 : Nat) (s2 : Nat) (hn1 : s1 < 40) (hs2 : SQ s2) (sz : Nat) : Met l yX12_forced (WSm yX12_forced cX12_forced 6 (some .int)) (mkR 4 0 0 90) (PreC D Y [.ref h0, .int s0, .int (nI s1), .int (nI s2)] [(h0, oC 13 [.ref h1, .ref h2, .int p2, .ref h3, .ref h4, .int (nI k5), .int (nI k6), .int p7, .int p8, .int p9, .int (nI k10), .int p11, .long q12, .ref h5, .ref h6, .int (nI k15), .int (nI k16)]), (h1, aI Y 3640 f0), (h2, aZ Y 2 f1), (h3, aZ Y 80 f3), (h4, aB Y 1600 f4), (h5, aI Y 200 f13), (h6, aI Y 800 f14)] sz) (QI D (fun (r : Int32) (u : WU) => INV (u.2.2.2.1 0)) (fun (u : WU) => [(h0, oC 13 [.ref h1, .ref h2, .int p2, .ref h3, .ref h4, .int (nI k5), .int (nI k6), .int p7, .int p8, .int p9, .int (nI k10), .int p11, .long q12, .ref h5, .ref h6, .int (nI k15), .int (nI k16)]), (h1, aI Y 3640 (u.2.2.2.1 0)), (h2, aZ Y 2 f1), (h3, aZ Y 80 f3), (h4, aB Y 1600 f4), (h5, aI Y 200 f13), (h6, aI Y 800 f14)]) (va_A [(h0, oC 13 [.ref h1, .ref h2, .int p2, .ref h3, .ref h4, .int (nI k5), .int (nI k6), .int p7, .int p8, .int p9, .int (nI k10), .int p11, .long q12, .ref h5, .ref h6, .int (nI k15), .int (nI k16)]), (h1, aI Y 3640 f0), (h2, aZ Y 2 f1), (h3, aZ Y 80 f3), (h4, aB Y 1600 f4), (h5, aI Y 200 f13), (h6, aI Y 800 f14)] sz)) 0 0 (va_A [(h0, oC 13 [.ref h1, .ref h2, .int p2, .ref h3, .ref h4, .int (nI k5), .int (nI k6), .int p7, .int p8, .int p9, .int (nI k10), .int p11, .long q12, .ref h5, .ref h6, .int (nI k15), .int (nI k16)]), (h1, aI Y 3640 f0), (h2, aZ Y 2 f1), (h3, aZ Y 80 f3), (h4, aB Y 1600 f4), (h5, aI Y 200 f13), (h6, aI Y 800 f14)] sz) :=
  met_of  (by decide +kernel) (Nat.le_of_ble_eq_true rfl) (fun p e s m args below meth c B hin hsz => by
    have B : VB p s m args meth c D Y (va_A [(h0, oC 13 [.ref h1, .ref h2, .int p2, .ref h3, .ref h4, .int (nI k5), .int (nI k6), .int p7, .int p8, .int p9, .int (nI k10), .int p11, .long q12, .ref h5, .ref h6, .int (nI k15), .int (nI k16)]), (h1, aI Y 3640 f0), (h2, aZ Y 2 f1), (h3, aZ Y 80 f3), (h4, aB Y 1600 f4), (h5, aI Y 200 f13), (h6, aI Y 800 f14)] sz) cX12_forced 6 RX12 (some .int) := B
    have hq_s2 := hs2.1
    refine V_aload_n 0 B dX12_forced_0 0 rfl ?_
    refine V_iload_n 1 B dX12_forced_1 3 rfl ?_
    refine V_cvi 2 B (st := []) (As := [.int (nI s2)]) (fun sz => rX12_clashesReserved l D Y h0 h1 h2 h3 h4 h5 h6 p2 k5 k6 p7 p8 p9 k10 p11 q12 k15 k16 f0 f1 f3 f4 f13 f14 HI (by omega) HP s2 hs2 sz) glV_RX12_118 ⟨rfl, rfl⟩ ⟨(Nat.le_of_ble_eq_true rfl), (Nat.le_of_ble_eq_true rfl)⟩ ⟨(Nat.le_of_ble_eq_true rfl), (Nat.le_of_ble_eq_true rfl)⟩ [0, 0, 0, 0, 0, 0, 0] rfl 13 0 rfl rfl rfl rfl (Nat.le_of_ble_eq_true rfl) rfl (fun _ _ _ => rfl) dX12_forced_2 (fun j0 u1 w2 => ?_)
    refine V_ws [(h0, oC 13 [.ref h1, .ref h2, .int p2, .ref h3, .ref h4, .int (nI k5), .int (nI k6), .int p7, .int p8, .int p9, .int (nI k10), .int p11, .long q12, .ref h5, .ref h6, .int (nI k15), .int (nI k16)]), (h1, aI Y 3640 f0), (h2, aZ Y 2 f1), (h3, aZ Y 80 f3), (h4, aB Y 1600 f4), (h5, aI Y 200 f13), (h6, aI Y 800 f14)] rfl ?_
    have x3 := w2
    clear w2
    rcases x3 with rfl | rfl
    ·
      refine V_if_eq_t 5 B 12 dX12_forced_5 (by decide) (by decide +kernel) ?_
      refine V_aload_n 12 B dX12_forced_12 0 rfl ?_
      refine V_iload_n 13 B dX12_forced_13 1 rfl ?_
      refine V_iload_n 14 B dX12_forced_14 3 rfl ?_
      refine V_cvi 15 B (st := []) (As := [.int s0, .int (nI s2)]) (fun sz => rX12_clashCount l D Y h0 h1 h2 h3 h4 h5 h6 p2 k5 k6 p7 p8 p9 k10 p11 q12 k15 k16 f0 f1 f3 f4 f13 f14 HI (by omega) HP s0 s2 hs2 sz) glV_RX12_139 ⟨rfl, rfl⟩ ⟨(Nat.le_of_ble_eq_true rfl), (Nat.le_of_ble_eq_true rfl)⟩ ⟨(Nat.le_of_ble_eq_true rfl), (Nat.le_of_ble_eq_true rfl)⟩ [0, 0, 0, 0, 0, 0, 0] rfl 13 0 rfl rfl rfl rfl (Nat.le_of_ble_eq_true rfl) rfl (fun _ _ _ => rfl) dX12_forced_15 (fun j4 u5 w6 => ?_)
      refine V_ws [(h0, oC 13 [.ref h1, .ref h2, .int p2, .ref h3, .ref h4, .int (nI k5), .int (nI k6), .int p7, .int p8, .int p9, .int (nI k10), .int p11, .long q12, .ref h5, .ref h6, .int (nI k15), .int (nI k16)]), (h1, aI Y 3640 f0), (h2, aZ Y 2 f1), (h3, aZ Y 80 f3), (h4, aB Y 1600 f4), (h5, aI Y 200 f13), (h6, aI Y 800 f14)] rfl ?_
      have x7 := w6
      clear w6
      refine V_istore 18 B (lv2 := [(4, .int j4), (0, .ref h0), (1, .int s0), (2, .int (nI s1)), (3, .int (nI s2))]) dX12_forced_18 (by decide) rfl ?_
      refine V_aload_n 20 B dX12_forced_20 1 rfl ?_
      refine V_get 21 B gf_RX12_9 0 rfl rfl dX12_forced_21 ?_
      refine V_iconst 24 B (v := 3) dX12_forced_24 (by decide +kernel) ?_
      have x8 : (gN f0 3) ≤ 80 := gN_le HI (by omega) (show bd 3 = (0, ((80 : Nat) : Int)) by decide +kernel)
      refine V_iald 25 B (v := (nI (gN f0 3))) 1 rfl (vpin _ _ (by decide +kernel)) dX12_forced_25 (by show f0 3 = _; exact gN_eq HI (by omega) (show bd 3 = (0, ((80 : Nat) : Int)) by decide +kernel)) ?_
      refine V_iload 26 B dX12_forced_26 0 rfl ?_
      refine V_isub 28 B dX12_forced_28 rfl ?_
      refine V_nmi (fun j9 e10 => ?_)
      refine V_bipush 29 B (v := 80) dX12_forced_29 (by decide +kernel) ?_
      refine V_icmp_ne 31 B 37 dX12_forced_31 (by decide) (fun kk11 => ?_) (fun kk11 => ?_)
      ·
        have x12 := x_ne kk11
        rw [show (80 : Int32).toInt = 80 by decide +kernel] at x12
        refine V_aload_n 37 B dX12_forced_37 1 rfl ?_
        refine V_iload_n 38 B dX12_forced_38 2 rfl ?_
        refine V_iload_n 39 B dX12_forced_39 4 rfl ?_
        refine V_iconst 40 B (v := (-1)) dX12_forced_40 (by decide +kernel) ?_
        refine V_cvi 41 B (st := []) (As := [.int s0, .int (nI s2), .int (-1)]) (fun sz => rX12_clashIn l D Y h0 h1 h2 h3 h4 h5 h6 p2 k5 k6 p7 p8 p9 k10 p11 q12 k15 k16 f0 f1 f3 f4 f13 f14 HI (by omega) HP s0 s2 (-1) hs2 sz) glV_RX12_121 ⟨rfl, rfl⟩ ⟨(Nat.le_of_ble_eq_true rfl), (Nat.le_of_ble_eq_true rfl)⟩ ⟨(Nat.le_of_ble_eq_true rfl), (Nat.le_of_ble_eq_true rfl)⟩ [0, 0, 0, 0, 0, 0, 0] rfl 13 0 rfl rfl rfl rfl (Nat.le_of_ble_eq_true rfl) rfl (fun _ _ _ => rfl) dX12_forced_41 (fun j13 u14 w15 => ?_)
        refine V_ws [(h0, oC 13 [.ref h1, .ref h2, .int p2, .ref h3, .ref h4, .int (nI k5), .int (nI k6), .int p7, .int p8, .int p9, .int (nI k10), .int p11, .long q12, .ref h5, .ref h6, .int (nI k15), .int (nI k16)]), (h1, aI Y 3640 f0), (h2, aZ Y 2 f1), (h3, aZ Y 80 f3), (h4, aB Y 1600 f4), (h5, aI Y 200 f13), (h6, aI Y 800 f14)] rfl ?_
        have x16 := w15
        clear w15
        have x19 : (gN f0 3) ≤ 80 := gN_le HI (by omega) (show bd 3 = (0, ((80 : Nat) : Int)) by decide +kernel)
        rcases x16 with ⟨rfl, x18⟩ | ⟨n17, rfl, x18, x20⟩
        ·
          refine V_istore 44 B (lv2 := [(5, .int (-1)), (4, .int j4), (0, .ref h0), (1, .int s0), (2, .int (nI s1)), (3, .int (nI s2))]) dX12_forced_44 (by decide) rfl ?_
          refine V_wloop (α := WU) (fun a => gN (a.2.2.2.1 0) 3) (fun a => INV (a.2.2.2.1 0) ∧ ((a.2.1 0) = -1 ∨ ∃ j9 : Nat, (a.2.1 0) = nI j9 ∧ j9 < gN (a.2.2.2.1 0) 3) ∧ ((a.2.1 0) = -1 → gN (a.2.2.2.1 0) 3 < 80)) (fun a => [(5, .int (a.2.1 0)), (4, .int j4), (0, .ref h0), (1, .int s0), (2, .int (nI s1)), (3, .int (nI s2))]) (fun a => [(h0, oC 13 [.ref h1, .ref h2, .int p2, .ref h3, .ref h4, .int (nI k5), .int (nI k6), .int p7, .int p8, .int p9, .int (nI k10), .int p11, .long q12, .ref h5, .ref h6, .int (nI k15), .int (nI k16)]), (h1, aI Y 3640 (a.2.2.2.1 0)), (h2, aZ Y 2 f1), (h3, aZ Y 80 f3), (h4, aB Y 1600 f4), (h5, aI Y 200 f13), (h6, aI Y 800 f14)]) (mkW [] [(-1)] [] [f0] [] []) ⟨HI, (Or.inl rfl), (fun _ => fo_lem (f := f0) (n := gN f0 3) x7 x18 e10 kk11 (by omega))⟩ rfl rfl (fun a21 hI23 IH22 => ?_)
          refine V_lv [(5, .int (a21.2.1 0)), (4, .int j4), (0, .ref h0), (1, .int s0), (2, .int (nI s1)), (3, .int (nI s2))] [0, 1, 2, 3, 4, 5] rfl ?_
          refine V_ws [(h0, oC 13 [.ref h1, .ref h2, .int p2, .ref h3, .ref h4, .int (nI k5), .int (nI k6), .int p7, .int p8, .int p9, .int (nI k10), .int p11, .long q12, .ref h5, .ref h6, .int (nI k15), .int (nI k16)]), (h1, aI Y 3640 (a21.2.2.2.1 0)), (h2, aZ Y 2 f1), (h3, aZ Y 80 f3), (h4, aB Y 1600 f4), (h5, aI Y 200 f13), (h6, aI Y 800 f14)] rfl ?_
          obtain ⟨x24, x25, x26⟩ := hI23
          rcases x25 with e27 | ⟨n28, e27, x29⟩
          ·
            refine V_lv [(5, .int (-1)), (4, .int j4), (0, .ref h0), (1, .int s0), (2, .int (nI s1)), (3, .int (nI s2))] [0, 1, 2, 3, 4, 5] (by rw [e27]; rfl) ?_
            have x30 : (gN (a21.2.2.2.1 0) 3) ≤ 80 := gN_le x24 (by omega) (show bd 3 = (0, ((80 : Nat) : Int)) by decide +kernel)
            refine V_iload 46 B dX12_forced_46 0 rfl ?_
            refine V_iconst 48 B (v := (-1)) dX12_forced_48 (by decide +kernel) ?_
            refine V_icmp_eq_t 49 B 70 dX12_forced_49 (by decide) (by decide +kernel) ?_
            have x31 := x26 e27
            refine V_aload_n 70 B dX12_forced_70 2 rfl ?_
            refine V_iload_n 71 B dX12_forced_71 3 rfl ?_
            refine V_iload_n 72 B dX12_forced_72 4 rfl ?_
            refine V_iload_n 73 B dX12_forced_73 5 rfl ?_
            refine V_cvv 74 B (st := []) (As := [.int s0, .int (nI s1), .int (nI s2)]) (fun sz => rX12_add l D Y h0 h1 h2 h3 h4 h5 h6 p2 k5 k6 p7 p8 p9 k10 p11 q12 k15 k16 (a21.2.2.2.1 0) f1 f3 f4 f13 f14 x24 (by omega) HP s0 s1 s2 (by omega) hs2 (by omega) sz) glV_RX12_132 ⟨rfl, rfl⟩ ⟨(Nat.le_of_ble_eq_true rfl), (Nat.le_of_ble_eq_true rfl)⟩ ⟨(Nat.le_of_ble_eq_true rfl), (Nat.le_of_ble_eq_true rfl)⟩ [0, 0, 0, 0, 0, 0, 0] rfl 13 0 rfl rfl rfl rfl (Nat.le_of_ble_eq_true rfl) rfl (fun _ _ => rfl) dX12_forced_74 (fun u33 w34 => ?_)
            refine V_ws [(h0, oC 13 [.ref h1, .ref h2, .int p2, .ref h3, .ref h4, .int (nI k5), .int (nI k6), .int p7, .int p8, .int p9, .int (nI k10), .int p11, .long q12, .ref h5, .ref h6, .int (nI k15), .int (nI k16)]), (h1, aI Y 3640 (u33.2.2.2.1 0)), (h2, aZ Y 2 f1), (h3, aZ Y 80 f3), (h4, aB Y 1600 f4), (h5, aI Y 200 f13), (h6, aI Y 800 f14)] rfl ?_
            have x35 := w34
            clear w34
            refine V_iload 77 B dX12_forced_77 1 rfl ?_
            exact V_iret 79 B dX12_forced_79 (mkW [] [] [] [(u33.2.2.2.1 0)] [] []) x35 rfl
          ·
            refine V_lv [(5, .int (nI n28)), (4, .int j4), (0, .ref h0), (1, .int s0), (2, .int (nI s1)), (3, .int (nI s2))] [0, 1, 2, 3, 4, 5] (by rw [e27]; rfl) ?_
            have x36 : (gN (a21.2.2.2.1 0) 3) ≤ 80 := gN_le x24 (by omega) (show bd 3 = (0, ((80 : Nat) : Int)) by decide +kernel)
            refine V_iload 46 B dX12_forced_46 0 rfl ?_
            refine V_iconst 48 B (v := (-1)) dX12_forced_48 (by decide +kernel) ?_
            refine V_icmp_eq_f 49 B 70 dX12_forced_49 (by decide) (fun z => by have z2 := x_eq z; rw [nI_toInt (show n28 < 2 ^ 31 by omega), show ((-1) : Int32).toInt = (-1) by decide +kernel] at z2; omega) ?_
            refine V_aload_n 52 B dX12_forced_52 2 rfl ?_
            refine V_iload 53 B dX12_forced_53 0 rfl ?_
            refine V_cvv 55 B (st := []) (As := [.int (nI n28)]) (fun sz => rX12_remove l D Y h0 h1 h2 h3 h4 h5 h6 p2 k5 k6 p7 p8 p9 k10 p11 q12 k15 k16 (a21.2.2.2.1 0) f1 f3 f4 f13 f14 x24 (by omega) HP n28 (by omega) (by omega) sz) glV_RX12_142 ⟨rfl, rfl⟩ ⟨(Nat.le_of_ble_eq_true rfl), (Nat.le_of_ble_eq_true rfl)⟩ ⟨(Nat.le_of_ble_eq_true rfl), (Nat.le_of_ble_eq_true rfl)⟩ [0, 0, 0, 0, 0, 0, 0] rfl 13 0 rfl rfl rfl rfl (Nat.le_of_ble_eq_true rfl) rfl (fun _ _ => rfl) dX12_forced_55 (fun u39 w40 => ?_)
            refine V_ws [(h0, oC 13 [.ref h1, .ref h2, .int p2, .ref h3, .ref h4, .int (nI k5), .int (nI k6), .int p7, .int p8, .int p9, .int (nI k10), .int p11, .long q12, .ref h5, .ref h6, .int (nI k15), .int (nI k16)]), (h1, aI Y 3640 (u39.2.2.2.1 0)), (h2, aZ Y 2 f1), (h3, aZ Y 80 f3), (h4, aB Y 1600 f4), (h5, aI Y 200 f13), (h6, aI Y 800 f14)] rfl ?_
            obtain ⟨x41, x42⟩ := w40
            refine V_aload_n 58 B dX12_forced_58 2 rfl ?_
            refine V_iload_n 59 B dX12_forced_59 3 rfl ?_
            refine V_iload_n 60 B dX12_forced_60 5 rfl ?_
            refine V_iconst 61 B (v := (-1)) dX12_forced_61 (by decide +kernel) ?_
            refine V_cvi 62 B (st := []) (As := [.int s0, .int (nI s2), .int (-1)]) (fun sz => rX12_clashIn l D Y h0 h1 h2 h3 h4 h5 h6 p2 k5 k6 p7 p8 p9 k10 p11 q12 k15 k16 (u39.2.2.2.1 0) f1 f3 f4 f13 f14 x41 (by omega) HP s0 s2 (-1) hs2 sz) glV_RX12_121 ⟨rfl, rfl⟩ ⟨(Nat.le_of_ble_eq_true rfl), (Nat.le_of_ble_eq_true rfl)⟩ ⟨(Nat.le_of_ble_eq_true rfl), (Nat.le_of_ble_eq_true rfl)⟩ [0, 0, 0, 0, 0, 0, 0] rfl 13 0 rfl rfl rfl rfl (Nat.le_of_ble_eq_true rfl) rfl (fun _ _ _ => rfl) dX12_forced_62 (fun j43 u44 w45 => ?_)
            refine V_ws [(h0, oC 13 [.ref h1, .ref h2, .int p2, .ref h3, .ref h4, .int (nI k5), .int (nI k6), .int p7, .int p8, .int p9, .int (nI k10), .int p11, .long q12, .ref h5, .ref h6, .int (nI k15), .int (nI k16)]), (h1, aI Y 3640 (u39.2.2.2.1 0)), (h2, aZ Y 2 f1), (h3, aZ Y 80 f3), (h4, aB Y 1600 f4), (h5, aI Y 200 f13), (h6, aI Y 800 f14)] rfl ?_
            have x46 := w45
            clear w45
            have x49 : (gN (u39.2.2.2.1 0) 3) ≤ 80 := gN_le x41 (by omega) (show bd 3 = (0, ((80 : Nat) : Int)) by decide +kernel)
            rcases x46 with ⟨rfl, x48⟩ | ⟨n47, rfl, x48, x50⟩
            ·
              refine V_istore 65 B (lv2 := [(5, .int (-1)), (4, .int j4), (0, .ref h0), (1, .int s0), (2, .int (nI s1)), (3, .int (nI s2))]) dX12_forced_65 (by decide) rfl ?_
              refine V_goto 67 B 46 dX12_forced_67 (by decide) ?_
              refine V_lv [(5, .int (-1)), (4, .int j4), (0, .ref h0), (1, .int s0), (2, .int (nI s1)), (3, .int (nI s2))] [0, 1, 2, 3, 4, 5] rfl ?_
              exact IH22 (mkW [] [(-1)] [] [(u39.2.2.2.1 0)] [] []) ⟨x41, (Or.inl rfl), (fun _ => (show gN (u39.2.2.2.1 0) 3 < 80 by omega))⟩ (by show gN (u39.2.2.2.1 0) 3 < _; omega)
            ·
              refine V_istore 65 B (lv2 := [(5, .int (nI n47)), (4, .int j4), (0, .ref h0), (1, .int s0), (2, .int (nI s1)), (3, .int (nI s2))]) dX12_forced_65 (by decide) rfl ?_
              refine V_goto 67 B 46 dX12_forced_67 (by decide) ?_
              refine V_lv [(5, .int (nI n47)), (4, .int j4), (0, .ref h0), (1, .int s0), (2, .int (nI s1)), (3, .int (nI s2))] [0, 1, 2, 3, 4, 5] rfl ?_
              exact IH22 (mkW [] [(nI n47)] [] [(u39.2.2.2.1 0)] [] []) ⟨x41, (Or.inr ⟨n47, rfl, (show n47 < gN (u39.2.2.2.1 0) 3 by omega)⟩), (fun _ => (show gN (u39.2.2.2.1 0) 3 < 80 by omega))⟩ (by show gN (u39.2.2.2.1 0) 3 < _; omega)
        ·
          refine V_istore 44 B (lv2 := [(5, .int (nI n17)), (4, .int j4), (0, .ref h0), (1, .int s0), (2, .int (nI s1)), (3, .int (nI s2))]) dX12_forced_44 (by decide) rfl ?_
          refine V_wloop (α := WU) (fun a => gN (a.2.2.2.1 0) 3) (fun a => INV (a.2.2.2.1 0) ∧ ((a.2.1 0) = -1 ∨ ∃ j9 : Nat, (a.2.1 0) = nI j9 ∧ j9 < gN (a.2.2.2.1 0) 3) ∧ ((a.2.1 0) = -1 → gN (a.2.2.2.1 0) 3 < 80)) (fun a => [(5, .int (a.2.1 0)), (4, .int j4), (0, .ref h0), (1, .int s0), (2, .int (nI s1)), (3, .int (nI s2))]) (fun a => [(h0, oC 13 [.ref h1, .ref h2, .int p2, .ref h3, .ref h4, .int (nI k5), .int (nI k6), .int p7, .int p8, .int p9, .int (nI k10), .int p11, .long q12, .ref h5, .ref h6, .int (nI k15), .int (nI k16)]), (h1, aI Y 3640 (a.2.2.2.1 0)), (h2, aZ Y 2 f1), (h3, aZ Y 80 f3), (h4, aB Y 1600 f4), (h5, aI Y 200 f13), (h6, aI Y 800 f14)]) (mkW [] [(nI n17)] [] [f0] [] []) ⟨HI, (Or.inr ⟨n17, rfl, (show n17 < gN f0 3 by omega)⟩), (fun e => absurd e (nI_m1 (by omega)))⟩ rfl rfl (fun a51 hI53 IH52 => ?_)
          refine V_lv [(5, .int (a51.2.1 0)), (4, .int j4), (0, .ref h0), (1, .int s0), (2, .int (nI s1)), (3, .int (nI s2))] [0, 1, 2, 3, 4, 5] rfl ?_
          refine V_ws [(h0, oC 13 [.ref h1, .ref h2, .int p2, .ref h3, .ref h4, .int (nI k5), .int (nI k6), .int p7, .int p8, .int p9, .int (nI k10), .int p11, .long q12, .ref h5, .ref h6, .int (nI k15), .int (nI k16)]), (h1, aI Y 3640 (a51.2.2.2.1 0)), (h2, aZ Y 2 f1), (h3, aZ Y 80 f3), (h4, aB Y 1600 f4), (h5, aI Y 200 f13), (h6, aI Y 800 f14)] rfl ?_
          obtain ⟨x54, x55, x56⟩ := hI53
          rcases x55 with e57 | ⟨n58, e57, x59⟩
          ·
            refine V_lv [(5, .int (-1)), (4, .int j4), (0, .ref h0), (1, .int s0), (2, .int (nI s1)), (3, .int (nI s2))] [0, 1, 2, 3, 4, 5] (by rw [e57]; rfl) ?_
            have x60 : (gN (a51.2.2.2.1 0) 3) ≤ 80 := gN_le x54 (by omega) (show bd 3 = (0, ((80 : Nat) : Int)) by decide +kernel)
            refine V_iload 46 B dX12_forced_46 0 rfl ?_
            refine V_iconst 48 B (v := (-1)) dX12_forced_48 (by decide +kernel) ?_
            refine V_icmp_eq_t 49 B 70 dX12_forced_49 (by decide) (by decide +kernel) ?_
            have x61 := x56 e57
            refine V_aload_n 70 B dX12_forced_70 2 rfl ?_
            refine V_iload_n 71 B dX12_forced_71 3 rfl ?_
            refine V_iload_n 72 B dX12_forced_72 4 rfl ?_
            refine V_iload_n 73 B dX12_forced_73 5 rfl ?_
            refine V_cvv 74 B (st := []) (As := [.int s0, .int (nI s1), .int (nI s2)]) (fun sz => rX12_add l D Y h0 h1 h2 h3 h4 h5 h6 p2 k5 k6 p7 p8 p9 k10 p11 q12 k15 k16 (a51.2.2.2.1 0) f1 f3 f4 f13 f14 x54 (by omega) HP s0 s1 s2 (by omega) hs2 (by omega) sz) glV_RX12_132 ⟨rfl, rfl⟩ ⟨(Nat.le_of_ble_eq_true rfl), (Nat.le_of_ble_eq_true rfl)⟩ ⟨(Nat.le_of_ble_eq_true rfl), (Nat.le_of_ble_eq_true rfl)⟩ [0, 0, 0, 0, 0, 0, 0] rfl 13 0 rfl rfl rfl rfl (Nat.le_of_ble_eq_true rfl) rfl (fun _ _ => rfl) dX12_forced_74 (fun u63 w64 => ?_)
            refine V_ws [(h0, oC 13 [.ref h1, .ref h2, .int p2, .ref h3, .ref h4, .int (nI k5), .int (nI k6), .int p7, .int p8, .int p9, .int (nI k10), .int p11, .long q12, .ref h5, .ref h6, .int (nI k15), .int (nI k16)]), (h1, aI Y 3640 (u63.2.2.2.1 0)), (h2, aZ Y 2 f1), (h3, aZ Y 80 f3), (h4, aB Y 1600 f4), (h5, aI Y 200 f13), (h6, aI Y 800 f14)] rfl ?_
            have x65 := w64
            clear w64
            refine V_iload 77 B dX12_forced_77 1 rfl ?_
            exact V_iret 79 B dX12_forced_79 (mkW [] [] [] [(u63.2.2.2.1 0)] [] []) x65 rfl
          ·
            refine V_lv [(5, .int (nI n58)), (4, .int j4), (0, .ref h0), (1, .int s0), (2, .int (nI s1)), (3, .int (nI s2))] [0, 1, 2, 3, 4, 5] (by rw [e57]; rfl) ?_
            have x66 : (gN (a51.2.2.2.1 0) 3) ≤ 80 := gN_le x54 (by omega) (show bd 3 = (0, ((80 : Nat) : Int)) by decide +kernel)
            refine V_iload 46 B dX12_forced_46 0 rfl ?_
            refine V_iconst 48 B (v := (-1)) dX12_forced_48 (by decide +kernel) ?_
            refine V_icmp_eq_f 49 B 70 dX12_forced_49 (by decide) (fun z => by have z2 := x_eq z; rw [nI_toInt (show n58 < 2 ^ 31 by omega), show ((-1) : Int32).toInt = (-1) by decide +kernel] at z2; omega) ?_
            refine V_aload_n 52 B dX12_forced_52 2 rfl ?_
            refine V_iload 53 B dX12_forced_53 0 rfl ?_
            refine V_cvv 55 B (st := []) (As := [.int (nI n58)]) (fun sz => rX12_remove l D Y h0 h1 h2 h3 h4 h5 h6 p2 k5 k6 p7 p8 p9 k10 p11 q12 k15 k16 (a51.2.2.2.1 0) f1 f3 f4 f13 f14 x54 (by omega) HP n58 (by omega) (by omega) sz) glV_RX12_142 ⟨rfl, rfl⟩ ⟨(Nat.le_of_ble_eq_true rfl), (Nat.le_of_ble_eq_true rfl)⟩ ⟨(Nat.le_of_ble_eq_true rfl), (Nat.le_of_ble_eq_true rfl)⟩ [0, 0, 0, 0, 0, 0, 0] rfl 13 0 rfl rfl rfl rfl (Nat.le_of_ble_eq_true rfl) rfl (fun _ _ => rfl) dX12_forced_55 (fun u69 w70 => ?_)
            refine V_ws [(h0, oC 13 [.ref h1, .ref h2, .int p2, .ref h3, .ref h4, .int (nI k5), .int (nI k6), .int p7, .int p8, .int p9, .int (nI k10), .int p11, .long q12, .ref h5, .ref h6, .int (nI k15), .int (nI k16)]), (h1, aI Y 3640 (u69.2.2.2.1 0)), (h2, aZ Y 2 f1), (h3, aZ Y 80 f3), (h4, aB Y 1600 f4), (h5, aI Y 200 f13), (h6, aI Y 800 f14)] rfl ?_
            obtain ⟨x71, x72⟩ := w70
            refine V_aload_n 58 B dX12_forced_58 2 rfl ?_
            refine V_iload_n 59 B dX12_forced_59 3 rfl ?_
            refine V_iload_n 60 B dX12_forced_60 5 rfl ?_
            refine V_iconst 61 B (v := (-1)) dX12_forced_61 (by decide +kernel) ?_
            refine V_cvi 62 B (st := []) (As := [.int s0, .int (nI s2), .int (-1)]) (fun sz => rX12_clashIn l D Y h0 h1 h2 h3 h4 h5 h6 p2 k5 k6 p7 p8 p9 k10 p11 q12 k15 k16 (u69.2.2.2.1 0) f1 f3 f4 f13 f14 x71 (by omega) HP s0 s2 (-1) hs2 sz) glV_RX12_121 ⟨rfl, rfl⟩ ⟨(Nat.le_of_ble_eq_true rfl), (Nat.le_of_ble_eq_true rfl)⟩ ⟨(Nat.le_of_ble_eq_true rfl), (Nat.le_of_ble_eq_true rfl)⟩ [0, 0, 0, 0, 0, 0, 0] rfl 13 0 rfl rfl rfl rfl (Nat.le_of_ble_eq_true rfl) rfl (fun _ _ _ => rfl) dX12_forced_62 (fun j73 u74 w75 => ?_)
            refine V_ws [(h0, oC 13 [.ref h1, .ref h2, .int p2, .ref h3, .ref h4, .int (nI k5), .int (nI k6), .int p7, .int p8, .int p9, .int (nI k10), .int p11, .long q12, .ref h5, .ref h6, .int (nI k15), .int (nI k16)]), (h1, aI Y 3640 (u69.2.2.2.1 0)), (h2, aZ Y 2 f1), (h3, aZ Y 80 f3), (h4, aB Y 1600 f4), (h5, aI Y 200 f13), (h6, aI Y 800 f14)] rfl ?_
            have x76 := w75
            clear w75
            have x79 : (gN (u69.2.2.2.1 0) 3) ≤ 80 := gN_le x71 (by omega) (show bd 3 = (0, ((80 : Nat) : Int)) by decide +kernel)
            rcases x76 with ⟨rfl, x78⟩ | ⟨n77, rfl, x78, x80⟩
            ·
              refine V_istore 65 B (lv2 := [(5, .int (-1)), (4, .int j4), (0, .ref h0), (1, .int s0), (2, .int (nI s1)), (3, .int (nI s2))]) dX12_forced_65 (by decide) rfl ?_
              refine V_goto 67 B 46 dX12_forced_67 (by decide) ?_
              refine V_lv [(5, .int (-1)), (4, .int j4), (0, .ref h0), (1, .int s0), (2, .int (nI s1)), (3, .int (nI s2))] [0, 1, 2, 3, 4, 5] rfl ?_
              exact IH52 (mkW [] [(-1)] [] [(u69.2.2.2.1 0)] [] []) ⟨x71, (Or.inl rfl), (fun _ => (show gN (u69.2.2.2.1 0) 3 < 80 by omega))⟩ (by show gN (u69.2.2.2.1 0) 3 < _; omega)
            ·
              refine V_istore 65 B (lv2 := [(5, .int (nI n77)), (4, .int j4), (0, .ref h0), (1, .int s0), (2, .int (nI s1)), (3, .int (nI s2))]) dX12_forced_65 (by decide) rfl ?_
              refine V_goto 67 B 46 dX12_forced_67 (by decide) ?_
              refine V_lv [(5, .int (nI n77)), (4, .int j4), (0, .ref h0), (1, .int s0), (2, .int (nI s1)), (3, .int (nI s2))] [0, 1, 2, 3, 4, 5] rfl ?_
              exact IH52 (mkW [] [(nI n77)] [] [(u69.2.2.2.1 0)] [] []) ⟨x71, (Or.inr ⟨n77, rfl, (show n77 < gN (u69.2.2.2.1 0) 3 by omega)⟩), (fun _ => (show gN (u69.2.2.2.1 0) 3 < 80 by omega))⟩ (by show gN (u69.2.2.2.1 0) 3 < _; omega)
      ·
        obtain rfl : j9 = 80 := kk11
        have e82 : (80 : Int32).toInt = 80 := by decide +kernel
        refine V_bipush 34 B (v := (-2)) dX12_forced_34 (by decide +kernel) ?_
        exact V_iret 36 B dX12_forced_36 (mkW [] [] [] [f0] [] []) HI rfl
    ·
      refine V_if_eq_f 5 B 12 dX12_forced_5 (by decide) (by decide +kernel) ?_
      refine V_sipush 8 B (v := (-1000)) dX12_forced_8 (by decide +kernel) ?_
      exact V_iret 11 B dX12_forced_11 (mkW [] [] [] [f0] [] []) HI rfl)
theorem glV_RX12_145 : GLV RX12 145 yX12_forced RX12 cX12_forced 6 (some .int) 3 := ⟨⟨(mT8 120 rfl rfl), (mT8 122 rfl rfl), (mTs 48 rfl rfl), (mT1 13 rfl rfl), (mT8 123 rfl rfl)⟩, by decide +kernel⟩
theorem dX12_isBound_133 : decode cX12_isBound 133 = .ok (.ifCond .lt 7, 3) := by decide +kernel
theorem dX12_isBound_140 : decode cX12_isBound 140 = .ok (.iconst 0, 1) := by decide +kernel
theorem dX12_isBound_141 : decode cX12_isBound 141 = .ok (.ireturn, 1) := by decide +kernel
theorem dX12_isBound_136 : decode cX12_isBound 136 = .ok (.iconst 1, 1) := by decide +kernel
theorem dX12_isBound_137 : decode cX12_isBound 137 = .ok (.goto 4, 3) := by decide +kernel
theorem dX12_isBound_112 : decode cX12_isBound 112 = .ok (.aload_n 0, 1) := by decide +kernel
theorem dX12_isBound_113 : decode cX12_isBound 113 = .ok (.iload_n 2, 1) := by decide +kernel
theorem dX12_isBound_114 : decode cX12_isBound 114 = .ok (.iload_n 3, 1) := by decide +kernel
theorem dX12_isBound_115 : decode cX12_isBound 115 = .ok (.sipush 3629, 3) := by decide +kernel
theorem dX12_isBound_118 : decode cX12_isBound 118 = .ok (.invokevirtual 136, 3) := by decide +kernel
theorem dX12_bound_0 : decode cX12_bound 0 = .ok (.aload_n 0, 1) := by decide +kernel
theorem dX12_bound_1 : decode cX12_bound 1 = .ok (.iload_n 1, 1) := by decide +kernel
theorem dX12_bound_2 : decode cX12_bound 2 = .ok (.iload_n 3, 1) := by decide +kernel
theorem dX12_bound_3 : decode cX12_bound 3 = .ok (.invokevirtual 129, 3) := by decide +kernel
theorem dX12_canBind_0 : decode cX12_canBind 0 = .ok (.aload_n 0, 1) := by decide +kernel
theorem dX12_canBind_1 : decode cX12_canBind 1 = .ok (.iload_n 2, 1) := by decide +kernel
theorem dX12_canBind_2 : decode cX12_canBind 2 = .ok (.invokevirtual 118, 3) := by decide +kernel
theorem dX12_canBind_5 : decode cX12_canBind 5 = .ok (.ifCond .ne 18, 3) := by decide +kernel
theorem dX12_canBind_8 : decode cX12_canBind 8 = .ok (.aload_n 0, 1) := by decide +kernel
theorem dX12_canBind_9 : decode cX12_canBind 9 = .ok (.iload_n 1, 1) := by decide +kernel
theorem dX12_canBind_10 : decode cX12_canBind 10 = .ok (.iload_n 2, 1) := by decide +kernel
theorem dX12_canBind_11 : decode cX12_canBind 11 = .ok (.iconst (-1), 1) := by decide +kernel
theorem dX12_canBind_12 : decode cX12_canBind 12 = .ok (.invokevirtual 121, 3) := by decide +kernel
theorem dX12_canBind_15 : decode cX12_canBind 15 = .ok (.iconst (-1), 1) := by decide +kernel
theorem dX12_canBind_16 : decode cX12_canBind 16 = .ok (.if_icmp .ne 7, 3) := by decide +kernel
theorem dX12_canBind_19 : decode cX12_canBind 19 = .ok (.iconst 1, 1) := by decide +kernel
theorem dX12_canBind_20 : decode cX12_canBind 20 = .ok (.goto 4, 3) := by decide +kernel
theorem dX12_canBind_24 : decode cX12_canBind 24 = .ok (.ireturn, 1) := by decide +kernel
theorem dX12_canBind_23 : decode cX12_canBind 23 = .ok (.iconst 0, 1) := by decide +kernel
set_option maxRecDepth 100000 in
set_option maxHeartbeats 4000000 in
theorem rX12_canBind (l : Launch) (D : va_G) (Y : Nat → ClassId) (h0 : Nat) (h1 : Nat) (h2 : Nat) (h3 : Nat) (h4 : Nat) (h5 : Nat) (h6 : Nat) (p2 : Int32) (k5 : Nat) (k6 : Nat) (p7 : Int32) (p8 : Int32) (p9 : Int32) (k10 : Nat) (p11 : Int32) (q12 : Int64) (k15 : Nat) (k16 : Nat) (f0 : Nat → Int32) (f1 : Nat → Int32) (f3 : Nat → Int32) (f4 : Nat → Int32) (f13 : Nat → Int32) (f14 : Nat → Int32) (HI : INV f0) (HL : k5 ≤ 1600) (HP : PLV f13) (s0 : Int32) (s1 : Nat) (hs1 : SQ s1) (sz : Nat) : Met l yX12_canBind (WSm yX12_canBind cX12_canBind 3 (some .boolean)) (mkR 4 0 0 90) (PreC D Y [.ref h0, .int s0, .int (nI s1)] [(h0, oC 13 [.ref h1, .ref h2, .int p2, .ref h3, .ref h4, .int (nI k5), .int (nI k6), .int p7, .int p8, .int p9, .int (nI k10), .int p11, .long q12, .ref h5, .ref h6, .int (nI k15), .int (nI k16)]), (h1, aI Y 3640 f0), (h2, aZ Y 2 f1), (h3, aZ Y 80 f3), (h4, aB Y 1600 f4), (h5, aI Y 200 f13), (h6, aI Y 800 f14)] sz) (QI D (fun (r : Int32) (u : WU) => (r = 0 ∨ r = 1)) (fun (u : WU) => [(h0, oC 13 [.ref h1, .ref h2, .int p2, .ref h3, .ref h4, .int (nI k5), .int (nI k6), .int p7, .int p8, .int p9, .int (nI k10), .int p11, .long q12, .ref h5, .ref h6, .int (nI k15), .int (nI k16)]), (h1, aI Y 3640 f0), (h2, aZ Y 2 f1), (h3, aZ Y 80 f3), (h4, aB Y 1600 f4), (h5, aI Y 200 f13), (h6, aI Y 800 f14)]) (va_A [(h0, oC 13 [.ref h1, .ref h2, .int p2, .ref h3, .ref h4, .int (nI k5), .int (nI k6), .int p7, .int p8, .int p9, .int (nI k10), .int p11, .long q12, .ref h5, .ref h6, .int (nI k15), .int (nI k16)]), (h1, aI Y 3640 f0), (h2, aZ Y 2 f1), (h3, aZ Y 80 f3), (h4, aB Y 1600 f4), (h5, aI Y 200 f13), (h6, aI Y 800 f14)] sz)) 0 0 (va_A [(h0, oC 13 [.ref h1, .ref h2, .int p2, .ref h3, .ref h4, .int (nI k5), .int (nI k6), .int p7, .int p8, .int p9, .int (nI k10), .int p11, .long q12, .ref h5, .ref h6, .int (nI k15), .int (nI k16)]), (h1, aI Y 3640 f0), (h2, aZ Y 2 f1), (h3, aZ Y 80 f3), (h4, aB Y 1600 f4), (h5, aI Y 200 f13), (h6, aI Y 800 f14)] sz) :=
  met_of  (by decide +kernel) (Nat.le_of_ble_eq_true rfl) (fun p e s m args below meth c B hin hsz => by
    have B : VB p s m args meth c D Y (va_A [(h0, oC 13 [.ref h1, .ref h2, .int p2, .ref h3, .ref h4, .int (nI k5), .int (nI k6), .int p7, .int p8, .int p9, .int (nI k10), .int p11, .long q12, .ref h5, .ref h6, .int (nI k15), .int (nI k16)]), (h1, aI Y 3640 f0), (h2, aZ Y 2 f1), (h3, aZ Y 80 f3), (h4, aB Y 1600 f4), (h5, aI Y 200 f13), (h6, aI Y 800 f14)] sz) cX12_canBind 3 RX12 (some .boolean) := B
    have hq_s1 := hs1.1
    refine V_aload_n 0 B dX12_canBind_0 0 rfl ?_
    refine V_iload_n 1 B dX12_canBind_1 2 rfl ?_
    refine V_cvi 2 B (st := []) (As := [.int (nI s1)]) (fun sz => rX12_clashesReserved l D Y h0 h1 h2 h3 h4 h5 h6 p2 k5 k6 p7 p8 p9 k10 p11 q12 k15 k16 f0 f1 f3 f4 f13 f14 HI (by omega) HP s1 hs1 sz) glV_RX12_118 ⟨rfl, rfl⟩ ⟨(Nat.le_of_ble_eq_true rfl), (Nat.le_of_ble_eq_true rfl)⟩ ⟨(Nat.le_of_ble_eq_true rfl), (Nat.le_of_ble_eq_true rfl)⟩ [0, 0, 0, 0, 0, 0, 0] rfl 13 0 rfl rfl rfl rfl (Nat.le_of_ble_eq_true rfl) rfl (fun _ _ _ => rfl) dX12_canBind_2 (fun j0 u1 w2 => ?_)
    refine V_ws [(h0, oC 13 [.ref h1, .ref h2, .int p2, .ref h3, .ref h4, .int (nI k5), .int (nI k6), .int p7, .int p8, .int p9, .int (nI k10), .int p11, .long q12, .ref h5, .ref h6, .int (nI k15), .int (nI k16)]), (h1, aI Y 3640 f0), (h2, aZ Y 2 f1), (h3, aZ Y 80 f3), (h4, aB Y 1600 f4), (h5, aI Y 200 f13), (h6, aI Y 800 f14)] rfl ?_
    have x3 := w2
    clear w2
    rcases x3 with rfl | rfl
    ·
      refine V_if_ne_f 5 B 23 dX12_canBind_5 (by decide) (by decide +kernel) ?_
      refine V_aload_n 8 B dX12_canBind_8 0 rfl ?_
      refine V_iload_n 9 B dX12_canBind_9 1 rfl ?_
      refine V_iload_n 10 B dX12_canBind_10 2 rfl ?_
      refine V_iconst 11 B (v := (-1)) dX12_canBind_11 (by decide +kernel) ?_
      refine V_cvi 12 B (st := []) (As := [.int s0, .int (nI s1), .int (-1)]) (fun sz => rX12_clashIn l D Y h0 h1 h2 h3 h4 h5 h6 p2 k5 k6 p7 p8 p9 k10 p11 q12 k15 k16 f0 f1 f3 f4 f13 f14 HI (by omega) HP s0 s1 (-1) hs1 sz) glV_RX12_121 ⟨rfl, rfl⟩ ⟨(Nat.le_of_ble_eq_true rfl), (Nat.le_of_ble_eq_true rfl)⟩ ⟨(Nat.le_of_ble_eq_true rfl), (Nat.le_of_ble_eq_true rfl)⟩ [0, 0, 0, 0, 0, 0, 0] rfl 13 0 rfl rfl rfl rfl (Nat.le_of_ble_eq_true rfl) rfl (fun _ _ _ => rfl) dX12_canBind_12 (fun j4 u5 w6 => ?_)
      refine V_ws [(h0, oC 13 [.ref h1, .ref h2, .int p2, .ref h3, .ref h4, .int (nI k5), .int (nI k6), .int p7, .int p8, .int p9, .int (nI k10), .int p11, .long q12, .ref h5, .ref h6, .int (nI k15), .int (nI k16)]), (h1, aI Y 3640 f0), (h2, aZ Y 2 f1), (h3, aZ Y 80 f3), (h4, aB Y 1600 f4), (h5, aI Y 200 f13), (h6, aI Y 800 f14)] rfl ?_
      have x7 := w6
      clear w6
      have x10 : (gN f0 3) ≤ 80 := gN_le HI (by omega) (show bd 3 = (0, ((80 : Nat) : Int)) by decide +kernel)
      rcases x7 with ⟨rfl, x9⟩ | ⟨n8, rfl, x9, x11⟩
      ·
        refine V_iconst 15 B (v := (-1)) dX12_canBind_15 (by decide +kernel) ?_
        refine V_icmp_ne_f 16 B 23 dX12_canBind_16 (by decide) (by decide +kernel) ?_
        refine V_iconst 19 B (v := 1) dX12_canBind_19 (by decide +kernel) ?_
        refine V_goto 20 B 24 dX12_canBind_20 (by decide) ?_
        exact V_zret 24 B rfl dX12_canBind_24 (mkW [] [] [] [] [] []) (Or.inr rfl) rfl
      ·
        refine V_iconst 15 B (v := (-1)) dX12_canBind_15 (by decide +kernel) ?_
        refine V_icmp_ne_t 16 B 23 dX12_canBind_16 (by decide) (fun z => by have z2 := x_eq z; rw [nI_toInt (show n8 < 2 ^ 31 by omega), show ((-1) : Int32).toInt = (-1) by decide +kernel] at z2; omega) ?_
        refine V_iconst 23 B (v := 0) dX12_canBind_23 (by decide +kernel) ?_
        exact V_zret 24 B rfl dX12_canBind_24 (mkW [] [] [] [] [] []) (Or.inl rfl) rfl
    ·
      refine V_if_ne_t 5 B 23 dX12_canBind_5 (by decide) (by decide +kernel) ?_
      refine V_iconst 23 B (v := 0) dX12_canBind_23 (by decide +kernel) ?_
      exact V_zret 24 B rfl dX12_canBind_24 (mkW [] [] [] [] [] []) (Or.inl rfl) rfl)
theorem glV_RX12_129 : GLV RX12 129 yX12_canBind RX12 cX12_canBind 3 (some .boolean) 2 := ⟨⟨(mT8 104 rfl rfl), (mT8 106 rfl rfl), (mTs 45 rfl rfl), (mT1 13 rfl rfl), (mT8 107 rfl rfl)⟩, by decide +kernel⟩
theorem dX12_bound_6 : decode cX12_bound 6 = .ok (.ifCond .ne 7, 3) := by decide +kernel
theorem dX12_bound_9 : decode cX12_bound 9 = .ok (.sipush (-1000), 3) := by decide +kernel
theorem dX12_bound_12 : decode cX12_bound 12 = .ok (.ireturn, 1) := by decide +kernel
theorem dX12_bound_13 : decode cX12_bound 13 = .ok (.aload_n 0, 1) := by decide +kernel
theorem dX12_bound_14 : decode cX12_bound 14 = .ok (.getfield 9, 3) := by decide +kernel
theorem dX12_bound_17 : decode cX12_bound 17 = .ok (.iconst 3, 1) := by decide +kernel
theorem dX12_bound_18 : decode cX12_bound 18 = .ok (.iaload, 1) := by decide +kernel
theorem dX12_bound_19 : decode cX12_bound 19 = .ok (.bipush 80, 2) := by decide +kernel
theorem dX12_bound_21 : decode cX12_bound 21 = .ok (.if_icmp .ne 6, 3) := by decide +kernel
theorem dX12_bound_27 : decode cX12_bound 27 = .ok (.aload_n 0, 1) := by decide +kernel
theorem dX12_bound_28 : decode cX12_bound 28 = .ok (.iload_n 1, 1) := by decide +kernel
theorem dX12_bound_29 : decode cX12_bound 29 = .ok (.iload_n 2, 1) := by decide +kernel
theorem dX12_bound_30 : decode cX12_bound 30 = .ok (.iload_n 3, 1) := by decide +kernel
theorem dX12_bound_31 : decode cX12_bound 31 = .ok (.invokevirtual 132, 3) := by decide +kernel
theorem dX12_bound_34 : decode cX12_bound 34 = .ok (.aload_n 0, 1) := by decide +kernel
theorem dX12_bound_35 : decode cX12_bound 35 = .ok (.getfield 9, 3) := by decide +kernel
theorem dX12_bound_38 : decode cX12_bound 38 = .ok (.iconst 3, 1) := by decide +kernel
theorem dX12_bound_39 : decode cX12_bound 39 = .ok (.iaload, 1) := by decide +kernel
theorem dX12_bound_40 : decode cX12_bound 40 = .ok (.iconst 1, 1) := by decide +kernel
theorem dX12_bound_41 : decode cX12_bound 41 = .ok (.isub, 1) := by decide +kernel
theorem dX12_bound_42 : decode cX12_bound 42 = .ok (.ireturn, 1) := by decide +kernel
theorem dX12_bound_24 : decode cX12_bound 24 = .ok (.bipush (-2), 2) := by decide +kernel
theorem dX12_bound_26 : decode cX12_bound 26 = .ok (.ireturn, 1) := by decide +kernel
set_option maxRecDepth 100000 in
set_option maxHeartbeats 4000000 in
theorem rX12_bound (l : Launch) (D : va_G) (Y : Nat → ClassId) (h0 : Nat) (h1 : Nat) (h2 : Nat) (h3 : Nat) (h4 : Nat) (h5 : Nat) (h6 : Nat) (p2 : Int32) (k5 : Nat) (k6 : Nat) (p7 : Int32) (p8 : Int32) (p9 : Int32) (k10 : Nat) (p11 : Int32) (q12 : Int64) (k15 : Nat) (k16 : Nat) (f0 : Nat → Int32) (f1 : Nat → Int32) (f3 : Nat → Int32) (f4 : Nat → Int32) (f13 : Nat → Int32) (f14 : Nat → Int32) (HI : INV f0) (HL : k5 ≤ 1600) (HP : PLV f13) (s0 : Int32) (s1 : Nat) (s2 : Nat) (hn1 : s1 < 40) (hs2 : SQ s2) (sz : Nat) : Met l yX12_bound (WSm yX12_bound cX12_bound 4 (some .int)) (mkR 5 0 0 112) (PreC D Y [.ref h0, .int s0, .int (nI s1), .int (nI s2)] [(h0, oC 13 [.ref h1, .ref h2, .int p2, .ref h3, .ref h4, .int (nI k5), .int (nI k6), .int p7, .int p8, .int p9, .int (nI k10), .int p11, .long q12, .ref h5, .ref h6, .int (nI k15), .int (nI k16)]), (h1, aI Y 3640 f0), (h2, aZ Y 2 f1), (h3, aZ Y 80 f3), (h4, aB Y 1600 f4), (h5, aI Y 200 f13), (h6, aI Y 800 f14)] sz) (QI D (fun (r : Int32) (u : WU) => INV (u.2.2.2.1 0)) (fun (u : WU) => [(h0, oC 13 [.ref h1, .ref h2, .int p2, .ref h3, .ref h4, .int (nI k5), .int (nI k6), .int p7, .int p8, .int p9, .int (nI k10), .int p11, .long q12, .ref h5, .ref h6, .int (nI k15), .int (nI k16)]), (h1, aI Y 3640 (u.2.2.2.1 0)), (h2, aZ Y 2 f1), (h3, aZ Y 80 f3), (h4, aB Y 1600 f4), (h5, aI Y 200 f13), (h6, aI Y 800 f14)]) (va_A [(h0, oC 13 [.ref h1, .ref h2, .int p2, .ref h3, .ref h4, .int (nI k5), .int (nI k6), .int p7, .int p8, .int p9, .int (nI k10), .int p11, .long q12, .ref h5, .ref h6, .int (nI k15), .int (nI k16)]), (h1, aI Y 3640 f0), (h2, aZ Y 2 f1), (h3, aZ Y 80 f3), (h4, aB Y 1600 f4), (h5, aI Y 200 f13), (h6, aI Y 800 f14)] sz)) 0 0 (va_A [(h0, oC 13 [.ref h1, .ref h2, .int p2, .ref h3, .ref h4, .int (nI k5), .int (nI k6), .int p7, .int p8, .int p9, .int (nI k10), .int p11, .long q12, .ref h5, .ref h6, .int (nI k15), .int (nI k16)]), (h1, aI Y 3640 f0), (h2, aZ Y 2 f1), (h3, aZ Y 80 f3), (h4, aB Y 1600 f4), (h5, aI Y 200 f13), (h6, aI Y 800 f14)] sz) :=
  met_of  (by decide +kernel) (Nat.le_of_ble_eq_true rfl) (fun p e s m args below meth c B hin hsz => by
    have B : VB p s m args meth c D Y (va_A [(h0, oC 13 [.ref h1, .ref h2, .int p2, .ref h3, .ref h4, .int (nI k5), .int (nI k6), .int p7, .int p8, .int p9, .int (nI k10), .int p11, .long q12, .ref h5, .ref h6, .int (nI k15), .int (nI k16)]), (h1, aI Y 3640 f0), (h2, aZ Y 2 f1), (h3, aZ Y 80 f3), (h4, aB Y 1600 f4), (h5, aI Y 200 f13), (h6, aI Y 800 f14)] sz) cX12_bound 4 RX12 (some .int) := B
    have hq_s2 := hs2.1
    refine V_aload_n 0 B dX12_bound_0 0 rfl ?_
    refine V_iload_n 1 B dX12_bound_1 1 rfl ?_
    refine V_iload_n 2 B dX12_bound_2 3 rfl ?_
    refine V_cvi 3 B (st := []) (As := [.int s0, .int (nI s2)]) (fun sz => rX12_canBind l D Y h0 h1 h2 h3 h4 h5 h6 p2 k5 k6 p7 p8 p9 k10 p11 q12 k15 k16 f0 f1 f3 f4 f13 f14 HI (by omega) HP s0 s2 hs2 sz) glV_RX12_129 ⟨rfl, rfl⟩ ⟨(Nat.le_of_ble_eq_true rfl), (Nat.le_of_ble_eq_true rfl)⟩ ⟨(Nat.le_of_ble_eq_true rfl), (Nat.le_of_ble_eq_true rfl)⟩ [0, 0, 0, 0, 0, 0, 0] rfl 13 0 rfl rfl rfl rfl (Nat.le_of_ble_eq_true rfl) rfl (fun _ _ _ => rfl) dX12_bound_3 (fun j0 u1 w2 => ?_)
    refine V_ws [(h0, oC 13 [.ref h1, .ref h2, .int p2, .ref h3, .ref h4, .int (nI k5), .int (nI k6), .int p7, .int p8, .int p9, .int (nI k10), .int p11, .long q12, .ref h5, .ref h6, .int (nI k15), .int (nI k16)]), (h1, aI Y 3640 f0), (h2, aZ Y 2 f1), (h3, aZ Y 80 f3), (h4, aB Y 1600 f4), (h5, aI Y 200 f13), (h6, aI Y 800 f14)] rfl ?_
    have x3 := w2
    clear w2
    rcases x3 with rfl | rfl
    ·
      refine V_if_ne_f 6 B 13 dX12_bound_6 (by decide) (by decide +kernel) ?_
      refine V_sipush 9 B (v := (-1000)) dX12_bound_9 (by decide +kernel) ?_
      exact V_iret 12 B dX12_bound_12 (mkW [] [] [] [f0] [] []) HI rfl
    ·
      refine V_if_ne_t 6 B 13 dX12_bound_6 (by decide) (by decide +kernel) ?_
      refine V_aload_n 13 B dX12_bound_13 0 rfl ?_
      refine V_get 14 B gf_RX12_9 0 rfl rfl dX12_bound_14 ?_
      refine V_iconst 17 B (v := 3) dX12_bound_17 (by decide +kernel) ?_
      have x4 : (gN f0 3) ≤ 80 := gN_le HI (by omega) (show bd 3 = (0, ((80 : Nat) : Int)) by decide +kernel)
      refine V_iald 18 B (v := (nI (gN f0 3))) 1 rfl (vpin _ _ (by decide +kernel)) dX12_bound_18 (by show f0 3 = _; exact gN_eq HI (by omega) (show bd 3 = (0, ((80 : Nat) : Int)) by decide +kernel)) ?_
      refine V_bipush 19 B (v := 80) dX12_bound_19 (by decide +kernel) ?_
      refine V_icmp_ne 21 B 27 dX12_bound_21 (by decide) (fun kk5 => ?_) (fun kk5 => ?_)
      ·
        have x6 := n_ne (a := (gN f0 3)) (b := 80) kk5
        refine V_aload_n 27 B dX12_bound_27 0 rfl ?_
        refine V_iload_n 28 B dX12_bound_28 1 rfl ?_
        refine V_iload_n 29 B dX12_bound_29 2 rfl ?_
        refine V_iload_n 30 B dX12_bound_30 3 rfl ?_
        refine V_cvv 31 B (st := []) (As := [.int s0, .int (nI s1), .int (nI s2)]) (fun sz => rX12_add l D Y h0 h1 h2 h3 h4 h5 h6 p2 k5 k6 p7 p8 p9 k10 p11 q12 k15 k16 f0 f1 f3 f4 f13 f14 HI (by omega) HP s0 s1 s2 (by omega) hs2 (by omega) sz) glV_RX12_132 ⟨rfl, rfl⟩ ⟨(Nat.le_of_ble_eq_true rfl), (Nat.le_of_ble_eq_true rfl)⟩ ⟨(Nat.le_of_ble_eq_true rfl), (Nat.le_of_ble_eq_true rfl)⟩ [0, 0, 0, 0, 0, 0, 0] rfl 13 0 rfl rfl rfl rfl (Nat.le_of_ble_eq_true rfl) rfl (fun _ _ => rfl) dX12_bound_31 (fun u8 w9 => ?_)
        refine V_ws [(h0, oC 13 [.ref h1, .ref h2, .int p2, .ref h3, .ref h4, .int (nI k5), .int (nI k6), .int p7, .int p8, .int p9, .int (nI k10), .int p11, .long q12, .ref h5, .ref h6, .int (nI k15), .int (nI k16)]), (h1, aI Y 3640 (u8.2.2.2.1 0)), (h2, aZ Y 2 f1), (h3, aZ Y 80 f3), (h4, aB Y 1600 f4), (h5, aI Y 200 f13), (h6, aI Y 800 f14)] rfl ?_
        have x10 := w9
        clear w9
        refine V_aload_n 34 B dX12_bound_34 0 rfl ?_
        refine V_get 35 B gf_RX12_9 0 rfl rfl dX12_bound_35 ?_
        refine V_iconst 38 B (v := 3) dX12_bound_38 (by decide +kernel) ?_
        have x11 : (gN (u8.2.2.2.1 0) 3) ≤ 80 := gN_le x10 (by omega) (show bd 3 = (0, ((80 : Nat) : Int)) by decide +kernel)
        refine V_iald 39 B (v := (nI ((gN (u8.2.2.2.1 0) 3)))) 1 rfl (vpin _ _ (by decide +kernel)) dX12_bound_39 (by show (u8.2.2.2.1 0) 3 = _; exact gN_eq x10 (by omega) (show bd 3 = (0, ((80 : Nat) : Int)) by decide +kernel)) ?_
        refine V_iconst 40 B (v := 1) dX12_bound_40 (by decide +kernel) ?_
        refine V_isub 41 B dX12_bound_41 rfl ?_
        refine V_nmi (fun j12 e13 => ?_)
        have x14 : j12.toInt = (((gN (u8.2.2.2.1 0) 3) : Nat) : Int) - ((1 : Nat) : Int) := by rw [e13]; exact nI_subT (a := (gN (u8.2.2.2.1 0) 3)) (b := 1) (by omega) (by omega)
        exact V_iret 42 B dX12_bound_42 (mkW [] [] [] [(u8.2.2.2.1 0)] [] []) x10 rfl
      ·
        have x15 := n_eq (a := (gN f0 3)) (b := 80) kk5 (by omega) (by omega)
        refine V_bipush 24 B (v := (-2)) dX12_bound_24 (by decide +kernel) ?_
        exact V_iret 26 B dX12_bound_26 (mkW [] [] [] [f0] [] []) HI rfl)
theorem glV_RX12_136 : GLV RX12 136 yX12_bound RX12 cX12_bound 4 (some .int) 3 := ⟨⟨(mT8 100 rfl rfl), (mT8 102 rfl rfl), (mTs 44 rfl rfl), (mT1 13 rfl rfl), (mT8 103 rfl rfl)⟩, by decide +kernel⟩
theorem dX12_isBound_121 : decode cX12_isBound 121 = .ok (.goto 12, 3) := by decide +kernel
theorem dX12_isBound_68 : decode cX12_isBound 68 = .ok (.aload_n 0, 1) := by decide +kernel
theorem dX12_isBound_69 : decode cX12_isBound 69 = .ok (.getfield 9, 3) := by decide +kernel
theorem dX12_isBound_72 : decode cX12_isBound 72 = .ok (.sipush 3630, 3) := by decide +kernel
theorem dX12_isBound_75 : decode cX12_isBound 75 = .ok (.iload 4, 2) := by decide +kernel
theorem dX12_isBound_77 : decode cX12_isBound 77 = .ok (.iadd, 1) := by decide +kernel
theorem dX12_isBound_78 : decode cX12_isBound 78 = .ok (.aload_n 0, 1) := by decide +kernel
theorem dX12_isBound_79 : decode cX12_isBound 79 = .ok (.getfield 31, 3) := by decide +kernel
theorem dX12_isBound_82 : decode cX12_isBound 82 = .ok (.aload_n 0, 1) := by decide +kernel
theorem dX12_isBound_83 : decode cX12_isBound 83 = .ok (.getfield 28, 3) := by decide +kernel
theorem dX12_isBound_86 : decode cX12_isBound 86 = .ok (.iload_n 1, 1) := by decide +kernel
theorem dX12_isBound_87 : decode cX12_isBound 87 = .ok (.iconst 3, 1) := by decide +kernel
theorem dX12_isBound_88 : decode cX12_isBound 88 = .ok (.iadd, 1) := by decide +kernel
theorem dX12_isBound_89 : decode cX12_isBound 89 = .ok (.iaload, 1) := by decide +kernel
theorem dX12_isBound_90 : decode cX12_isBound 90 = .ok (.iload 4, 2) := by decide +kernel
theorem dX12_isBound_92 : decode cX12_isBound 92 = .ok (.iadd, 1) := by decide +kernel
theorem dX12_isBound_93 : decode cX12_isBound 93 = .ok (.iaload, 1) := by decide +kernel
theorem dX12_isBound_94 : decode cX12_isBound 94 = .ok (.iastore, 1) := by decide +kernel
theorem rl14 : ∀ z0, z0 < 4 → bd (3630 + z0) = FREE := by decide +kernel
theorem dX12_isBound_95 : decode cX12_isBound 95 = .ok (.iinc 4 1, 3) := by decide +kernel
theorem dX12_isBound_98 : decode cX12_isBound 98 = .ok (.goto (-43), 3) := by decide +kernel
set_option maxRecDepth 100000 in
set_option maxHeartbeats 4000000 in
theorem rX12_isBound (l : Launch) (D : va_G) (Y : Nat → ClassId) (h0 : Nat) (h1 : Nat) (h2 : Nat) (h3 : Nat) (h4 : Nat) (h5 : Nat) (h6 : Nat) (p2 : Int32) (k5 : Nat) (k6 : Nat) (p7 : Int32) (p8 : Int32) (p9 : Int32) (k10 : Nat) (p11 : Int32) (q12 : Int64) (k15 : Nat) (k16 : Nat) (f0 : Nat → Int32) (f1 : Nat → Int32) (f3 : Nat → Int32) (f4 : Nat → Int32) (f13 : Nat → Int32) (f14 : Nat → Int32) (HI : INV f0) (HL : k5 ≤ 1600) (HP : PLV f13) (s0 : Nat) (hn0 : s0 < 40) (sz : Nat) : Met l yX12_isBound (WSm yX12_isBound cX12_isBound 5 (some .boolean)) (mkR 6 0 0 135) (PreC D Y [.ref h0, .int (nI (5 * s0))] [(h0, oC 13 [.ref h1, .ref h2, .int p2, .ref h3, .ref h4, .int (nI k5), .int (nI k6), .int p7, .int p8, .int p9, .int (nI k10), .int p11, .long q12, .ref h5, .ref h6, .int (nI k15), .int (nI k16)]), (h1, aI Y 3640 f0), (h2, aZ Y 2 f1), (h3, aZ Y 80 f3), (h4, aB Y 1600 f4), (h5, aI Y 200 f13), (h6, aI Y 800 f14)] sz) (QI D (fun (r : Int32) (u : WU) => (r = 0 ∨ r = 1) ∧ INV (u.2.2.2.1 0)) (fun (u : WU) => [(h0, oC 13 [.ref h1, .ref h2, .int p2, .ref h3, .ref h4, .int (nI k5), .int (nI k6), .int p7, .int p8, .int p9, .int (nI k10), .int p11, .long q12, .ref h5, .ref h6, .int (nI k15), .int (nI k16)]), (h1, aI Y 3640 (u.2.2.2.1 0)), (h2, aZ Y 2 f1), (h3, aZ Y 80 f3), (h4, aB Y 1600 f4), (h5, aI Y 200 f13), (h6, aI Y 800 f14)]) (va_A [(h0, oC 13 [.ref h1, .ref h2, .int p2, .ref h3, .ref h4, .int (nI k5), .int (nI k6), .int p7, .int p8, .int p9, .int (nI k10), .int p11, .long q12, .ref h5, .ref h6, .int (nI k15), .int (nI k16)]), (h1, aI Y 3640 f0), (h2, aZ Y 2 f1), (h3, aZ Y 80 f3), (h4, aB Y 1600 f4), (h5, aI Y 200 f13), (h6, aI Y 800 f14)] sz)) 0 0 (va_A [(h0, oC 13 [.ref h1, .ref h2, .int p2, .ref h3, .ref h4, .int (nI k5), .int (nI k6), .int p7, .int p8, .int p9, .int (nI k10), .int p11, .long q12, .ref h5, .ref h6, .int (nI k15), .int (nI k16)]), (h1, aI Y 3640 f0), (h2, aZ Y 2 f1), (h3, aZ Y 80 f3), (h4, aB Y 1600 f4), (h5, aI Y 200 f13), (h6, aI Y 800 f14)] sz) :=
  met_of  (by decide +kernel) (Nat.le_of_ble_eq_true rfl) (fun p e s m args below meth c B hin hsz => by
    have B : VB p s m args meth c D Y (va_A [(h0, oC 13 [.ref h1, .ref h2, .int p2, .ref h3, .ref h4, .int (nI k5), .int (nI k6), .int p7, .int p8, .int p9, .int (nI k10), .int p11, .long q12, .ref h5, .ref h6, .int (nI k15), .int (nI k16)]), (h1, aI Y 3640 f0), (h2, aZ Y 2 f1), (h3, aZ Y 80 f3), (h4, aB Y 1600 f4), (h5, aI Y 200 f13), (h6, aI Y 800 f14)] sz) cX12_isBound 5 RX12 (some .boolean) := B
    refine V_aload_n 0 B dX12_isBound_0 0 rfl ?_
    refine V_get 1 B gf_RX12_28 0 rfl rfl dX12_isBound_1 ?_
    refine V_iload_n 4 B dX12_isBound_4 1 rfl ?_
    refine V_iconst 5 B (v := 1) dX12_isBound_5 (by decide +kernel) ?_
    refine V_iadd 6 B (v := (nI (1 + 5 * s0))) dX12_isBound_6 (nI_addE (a := 5 * s0) (b := 1) (by omega)) ?_
    refine V_iald 7 B 5 rfl (vp_in_nI (n := 1 + 5 * s0) (by omega) (by decide)) dX12_isBound_7 rfl ?_
    refine V_nmi (fun j0 e1 => ?_)
    refine V_istore_n 8 B (lv2 := [(2, .int j0), (0, .ref h0), (1, .int (nI (5 * s0)))]) dX12_isBound_8 (by decide) rfl ?_
    refine V_aload_n 9 B dX12_isBound_9 1 rfl ?_
    refine V_get 10 B gf_RX12_28 0 rfl rfl dX12_isBound_10 ?_
    refine V_iload_n 13 B dX12_isBound_13 2 rfl ?_
    refine V_iconst 14 B (v := 2) dX12_isBound_14 (by decide +kernel) ?_
    refine V_iadd 15 B (v := (nI (2 + 5 * s0))) dX12_isBound_15 (nI_addE (a := 5 * s0) (b := 2) (by omega)) ?_
    refine V_iald 16 B 5 rfl (vp_in_nI (n := 2 + 5 * s0) (by omega) (by decide)) dX12_isBound_16 rfl ?_
    refine V_nmi (fun j2 e3 => ?_)
    refine V_istore_n 17 B (lv2 := [(3, .int j2), (2, .int j0), (0, .ref h0), (1, .int (nI (5 * s0)))]) dX12_isBound_17 (by decide) rfl ?_
    refine V_aload_n 18 B dX12_isBound_18 2 rfl ?_
    refine V_iload_n 19 B dX12_isBound_19 1 rfl ?_
    refine V_cvi 20 B (st := []) (As := [.int j0]) (fun sz => rX12_isMode l D Y h0 h1 h2 h3 h4 h5 h6 p2 k5 k6 p7 p8 p9 k10 p11 q12 k15 k16 f0 f1 f3 f4 f13 f14 HI (by omega) HP j0 sz) glV_RX12_91 ⟨rfl, rfl⟩ ⟨(Nat.le_of_ble_eq_true rfl), (Nat.le_of_ble_eq_true rfl)⟩ ⟨(Nat.le_of_ble_eq_true rfl), (Nat.le_of_ble_eq_true rfl)⟩ [0, 0, 0, 0, 0, 0, 0] rfl 13 0 rfl rfl rfl rfl (Nat.le_of_ble_eq_true rfl) rfl (fun _ _ _ => rfl) dX12_isBound_20 (fun j4 u5 w6 => ?_)
    refine V_ws [(h0, oC 13 [.ref h1, .ref h2, .int p2, .ref h3, .ref h4, .int (nI k5), .int (nI k6), .int p7, .int p8, .int p9, .int (nI k10), .int p11, .long q12, .ref h5, .ref h6, .int (nI k15), .int (nI k16)]), (h1, aI Y 3640 f0), (h2, aZ Y 2 f1), (h3, aZ Y 80 f3), (h4, aB Y 1600 f4), (h5, aI Y 200 f13), (h6, aI Y 800 f14)] rfl ?_
    have x7 := w6
    clear w6
    have x11 : (gN f0 0) ≤ 6 := gN_le HI (by omega) (show bd 0 = (0, ((6 : Nat) : Int)) by decide +kernel)
    rcases x7 with rfl | ⟨rfl, n8, rfl, x10⟩
    ·
      refine V_if_eq_t 23 B 34 dX12_isBound_23 (by decide) (by decide +kernel) ?_
      refine V_iconst 34 B (v := 0) dX12_isBound_34 (by decide +kernel) ?_
      exact V_zret 35 B rfl dX12_isBound_35 (mkW [] [] [] [f0] [] []) ⟨(Or.inl rfl), HI⟩ rfl
    ·
      have e12 := nI_toInt (show n8 < 2 ^ 31 by omega)
      have x13 : (gN f0 0) ≤ 6 := gN_le HI (by omega) (show bd 0 = (0, ((6 : Nat) : Int)) by decide +kernel)
      refine V_if_eq_f 23 B 34 dX12_isBound_23 (by decide) (by decide +kernel) ?_
      refine V_aload_n 26 B dX12_isBound_26 2 rfl ?_
      refine V_iload_n 27 B dX12_isBound_27 0 rfl ?_
      refine V_cvi 28 B (st := []) (As := [.int j2]) (fun sz => rX12_isCommand l D Y h0 h1 h2 h3 h4 h5 h6 p2 k5 k6 p7 p8 p9 k10 p11 q12 k15 k16 f0 f1 f3 f4 f13 f14 HI (by omega) HP j2 sz) glV_RX12_99 ⟨rfl, rfl⟩ ⟨(Nat.le_of_ble_eq_true rfl), (Nat.le_of_ble_eq_true rfl)⟩ ⟨(Nat.le_of_ble_eq_true rfl), (Nat.le_of_ble_eq_true rfl)⟩ [0, 0, 0, 0, 0, 0, 0] rfl 13 0 rfl rfl rfl rfl (Nat.le_of_ble_eq_true rfl) rfl (fun _ _ _ => rfl) dX12_isBound_28 (fun j14 u15 w16 => ?_)
      refine V_ws [(h0, oC 13 [.ref h1, .ref h2, .int p2, .ref h3, .ref h4, .int (nI k5), .int (nI k6), .int p7, .int p8, .int p9, .int (nI k10), .int p11, .long q12, .ref h5, .ref h6, .int (nI k15), .int (nI k16)]), (h1, aI Y 3640 f0), (h2, aZ Y 2 f1), (h3, aZ Y 80 f3), (h4, aB Y 1600 f4), (h5, aI Y 200 f13), (h6, aI Y 800 f14)] rfl ?_
      have x17 := w16
      clear w16
      have x21 : (gN f0 1) ≤ 40 := gN_le HI (by omega) (show bd 1 = (0, ((40 : Nat) : Int)) by decide +kernel)
      rcases x17 with rfl | ⟨rfl, n18, rfl, x20⟩
      ·
        refine V_if_ne_f 31 B 36 dX12_isBound_31 (by decide) (by decide +kernel) ?_
        refine V_iconst 34 B (v := 0) dX12_isBound_34 (by decide +kernel) ?_
        exact V_zret 35 B rfl dX12_isBound_35 (mkW [] [] [] [f0] [] []) ⟨(Or.inl rfl), HI⟩ rfl
      ·
        have e22 := nI_toInt (show n18 < 2 ^ 31 by omega)
        have x23 : (gN f0 1) ≤ 40 := gN_le HI (by omega) (show bd 1 = (0, ((40 : Nat) : Int)) by decide +kernel)
        refine V_if_ne_t 31 B 36 dX12_isBound_31 (by decide) (by decide +kernel) ?_
        refine V_aload_n 36 B dX12_isBound_36 2 rfl ?_
        refine V_get 37 B gf_RX12_9 0 rfl rfl dX12_isBound_37 ?_
        refine V_sipush 40 B (v := 3629) dX12_isBound_40 (by decide +kernel) ?_
        refine V_aload_n 43 B dX12_isBound_43 2 rfl ?_
        refine V_get 44 B gf_RX12_28 0 rfl rfl dX12_isBound_44 ?_
        refine V_iload_n 47 B dX12_isBound_47 3 rfl ?_
        refine V_iconst 48 B (v := 4) dX12_isBound_48 (by decide +kernel) ?_
        refine V_iadd 49 B (v := (nI (4 + 5 * s0))) dX12_isBound_49 (nI_addE (a := 5 * s0) (b := 4) (by omega)) ?_
        refine V_iald 50 B 5 rfl (vp_in_nI (n := 4 + 5 * s0) (by omega) (by decide)) dX12_isBound_50 rfl ?_
        refine V_nmi (fun j24 e25 => ?_)
        have x26 : 0 ≤ j24.toInt ∧ j24.toInt ≤ 4 := by rw [e25, nI_clamp (show 4 + 5 * s0 < 2 ^ 31 by omega), show 4 + 5 * s0 = 5 * s0 + 4 by omega]; exact (HP s0 (by omega)).2
        obtain ⟨n27, x28, rfl⟩ := nat_of (x := j24) (n := 4) (by omega) (by omega)
        have e29 := nI_toInt (show n27 < 2 ^ 31 by omega)
        have hv30 : INV (upd f0 3629 (nI n27)) := INV_nat (v := n27) HI (show bd 3629 = (0, ((4 : Nat) : Int)) by decide +kernel) (by omega) (by decide)
        refine V_iast 51 B 1 rfl (vpin _ _ (by decide +kernel)) dX12_isBound_51 [(h0, oC 13 [.ref h1, .ref h2, .int p2, .ref h3, .ref h4, .int (nI k5), .int (nI k6), .int p7, .int p8, .int p9, .int (nI k10), .int p11, .long q12, .ref h5, .ref h6, .int (nI k15), .int (nI k16)]), (h1, aI Y 3640 (upd f0 3629 (nI n27))), (h2, aZ Y 2 f1), (h3, aZ Y 80 f3), (h4, aB Y 1600 f4), (h5, aI Y 200 f13), (h6, aI Y 800 f14)] rfl ?_
        refine V_iconst 52 B (v := 0) dX12_isBound_52 (by decide +kernel) ?_
        refine V_istore 53 B (lv2 := [(4, .int 0), (3, .int (nI n18)), (2, .int (nI n8)), (0, .ref h0), (1, .int (nI (5 * s0)))]) dX12_isBound_53 (by decide) rfl ?_
        refine V_wloop (α := WU) (fun a => 100000 - (a.1 0)) (fun a => INV (a.2.2.2.1 0) ∧ (a.1 0) ≤ 4000) (fun a => [(4, .int (nI (a.1 0))), (3, .int (nI n18)), (2, .int (nI n8)), (0, .ref h0), (1, .int (nI (5 * s0)))]) (fun a => [(h0, oC 13 [.ref h1, .ref h2, .int p2, .ref h3, .ref h4, .int (nI k5), .int (nI k6), .int p7, .int p8, .int p9, .int (nI k10), .int p11, .long q12, .ref h5, .ref h6, .int (nI k15), .int (nI k16)]), (h1, aI Y 3640 (a.2.2.2.1 0)), (h2, aZ Y 2 f1), (h3, aZ Y 80 f3), (h4, aB Y 1600 f4), (h5, aI Y 200 f13), (h6, aI Y 800 f14)]) (mkW [0] [] [] [(upd f0 3629 (nI n27))] [] []) ⟨hv30, (show 0 ≤ 4000 by omega)⟩ rfl rfl (fun a31 hI33 IH32 => ?_)
        refine V_lv [(4, .int (nI (a31.1 0))), (3, .int (nI n18)), (2, .int (nI n8)), (0, .ref h0), (1, .int (nI (5 * s0)))] [0, 1, 2, 3, 4] rfl ?_
        refine V_ws [(h0, oC 13 [.ref h1, .ref h2, .int p2, .ref h3, .ref h4, .int (nI k5), .int (nI k6), .int p7, .int p8, .int p9, .int (nI k10), .int p11, .long q12, .ref h5, .ref h6, .int (nI k15), .int (nI k16)]), (h1, aI Y 3640 (a31.2.2.2.1 0)), (h2, aZ Y 2 f1), (h3, aZ Y 80 f3), (h4, aB Y 1600 f4), (h5, aI Y 200 f13), (h6, aI Y 800 f14)] rfl ?_
        obtain ⟨x34, x35⟩ := hI33
        refine V_iload 55 B dX12_isBound_55 0 rfl ?_
        refine V_aload_n 57 B dX12_isBound_57 3 rfl ?_
        refine V_get 58 B gf_RX12_28 0 rfl rfl dX12_isBound_58 ?_
        refine V_iload_n 61 B dX12_isBound_61 4 rfl ?_
        refine V_iconst 62 B (v := 4) dX12_isBound_62 (by decide +kernel) ?_
        refine V_iadd 63 B (v := (nI (4 + 5 * s0))) dX12_isBound_63 (nI_addE (a := 5 * s0) (b := 4) (by omega)) ?_
        refine V_iald 64 B 5 rfl (vp_in_nI (n := 4 + 5 * s0) (by omega) (by decide)) dX12_isBound_64 rfl ?_
        refine V_nmi (fun j36 e37 => ?_)
        have x38 : 0 ≤ j36.toInt ∧ j36.toInt ≤ 4 := by rw [e37, nI_clamp (show 4 + 5 * s0 < 2 ^ 31 by omega), show 4 + 5 * s0 = 5 * s0 + 4 by omega]; exact (HP s0 (by omega)).2
        obtain ⟨n39, x40, rfl⟩ := nat_of (x := j36) (n := 4) (by omega) (by omega)
        have e41 := nI_toInt (show n39 < 2 ^ 31 by omega)
        refine V_icmp_ge 65 B 101 dX12_isBound_65 (by decide) (fun kk42 => ?_) (fun kk42 => ?_)
        ·
          have x43 := n_le (a := n39) (b := (a31.1 0)) kk42 (by omega) (by omega)
          refine V_aload_n 101 B dX12_isBound_101 3 rfl ?_
          refine V_get 102 B gf_RX12_28 0 rfl rfl dX12_isBound_102 ?_
          refine V_iload_n 105 B dX12_isBound_105 4 rfl ?_
          refine V_iald 106 B 5 rfl (vp_in_nI (n := 5 * s0) (by omega) (by decide)) dX12_isBound_106 rfl ?_
          refine V_nmi (fun j44 e45 => ?_)
          refine V_bipush 107 B (v := 6) dX12_isBound_107 (by decide +kernel) ?_
          refine V_icmp_ne 109 B 124 dX12_isBound_109 (by decide) (fun kk46 => ?_) (fun kk46 => ?_)
          ·
            have x47 := x_ne kk46
            rw [show (6 : Int32).toInt = 6 by decide +kernel] at x47
            refine V_aload_n 124 B dX12_isBound_124 3 rfl ?_
            refine V_iload_n 125 B dX12_isBound_125 2 rfl ?_
            refine V_iload_n 126 B dX12_isBound_126 1 rfl ?_
            refine V_sipush 127 B (v := 3629) dX12_isBound_127 (by decide +kernel) ?_
            refine V_cvi 130 B (st := []) (As := [.int (nI n8), .int (nI n18), .int 3629]) (fun sz => rX12_forced l D Y h0 h1 h2 h3 h4 h5 h6 p2 k5 k6 p7 p8 p9 k10 p11 q12 k15 k16 (a31.2.2.2.1 0) f1 f3 f4 f13 f14 x34 (by omega) HP (nI n8) n18 3629 (by omega) (show SQ 3629 by unfold SQ; decide +kernel) sz) glV_RX12_145 ⟨rfl, rfl⟩ ⟨(Nat.le_of_ble_eq_true rfl), (Nat.le_of_ble_eq_true rfl)⟩ ⟨(Nat.le_of_ble_eq_true rfl), (Nat.le_of_ble_eq_true rfl)⟩ [0, 0, 0, 0, 0, 0, 0] rfl 13 0 rfl rfl rfl rfl (Nat.le_of_ble_eq_true rfl) rfl (fun _ _ _ => rfl) dX12_isBound_130 (fun j48 u49 w50 => ?_)
            refine V_ws [(h0, oC 13 [.ref h1, .ref h2, .int p2, .ref h3, .ref h4, .int (nI k5), .int (nI k6), .int p7, .int p8, .int p9, .int (nI k10), .int p11, .long q12, .ref h5, .ref h6, .int (nI k15), .int (nI k16)]), (h1, aI Y 3640 (u49.2.2.2.1 0)), (h2, aZ Y 2 f1), (h3, aZ Y 80 f3), (h4, aB Y 1600 f4), (h5, aI Y 200 f13), (h6, aI Y 800 f14)] rfl ?_
            have x51 := w50
            clear w50
            refine V_if_lt 133 B 140 dX12_isBound_133 (by decide) (fun kk52 => ?_) (fun kk52 => ?_)
            ·
              have x53 := x_lt kk52
              rw [show (0 : Int32).toInt = 0 by decide +kernel] at x53
              refine V_iconst 140 B (v := 0) dX12_isBound_140 (by decide +kernel) ?_
              exact V_zret 141 B rfl dX12_isBound_141 (mkW [] [] [] [(u49.2.2.2.1 0)] [] []) ⟨(Or.inl rfl), x51⟩ rfl
            ·
              have x54 := x_nlt kk52
              rw [show (0 : Int32).toInt = 0 by decide +kernel] at x54
              refine V_iconst 136 B (v := 1) dX12_isBound_136 (by decide +kernel) ?_
              refine V_goto 137 B 141 dX12_isBound_137 (by decide) ?_
              exact V_zret 141 B rfl dX12_isBound_141 (mkW [] [] [] [(u49.2.2.2.1 0)] [] []) ⟨(Or.inr rfl), x51⟩ rfl
          ·
            obtain rfl : j44 = 6 := kk46
            have e56 : (6 : Int32).toInt = 6 := by decide +kernel
            refine V_aload_n 112 B dX12_isBound_112 3 rfl ?_
            refine V_iload_n 113 B dX12_isBound_113 2 rfl ?_
            refine V_iload_n 114 B dX12_isBound_114 1 rfl ?_
            refine V_sipush 115 B (v := 3629) dX12_isBound_115 (by decide +kernel) ?_
            refine V_cvi 118 B (st := []) (As := [.int (nI n8), .int (nI n18), .int 3629]) (fun sz => rX12_bound l D Y h0 h1 h2 h3 h4 h5 h6 p2 k5 k6 p7 p8 p9 k10 p11 q12 k15 k16 (a31.2.2.2.1 0) f1 f3 f4 f13 f14 x34 (by omega) HP (nI n8) n18 3629 (by omega) (show SQ 3629 by unfold SQ; decide +kernel) sz) glV_RX12_136 ⟨rfl, rfl⟩ ⟨(Nat.le_of_ble_eq_true rfl), (Nat.le_of_ble_eq_true rfl)⟩ ⟨(Nat.le_of_ble_eq_true rfl), (Nat.le_of_ble_eq_true rfl)⟩ [0, 0, 0, 0, 0, 0, 0] rfl 13 0 rfl rfl rfl rfl (Nat.le_of_ble_eq_true rfl) rfl (fun _ _ _ => rfl) dX12_isBound_118 (fun j57 u58 w59 => ?_)
            refine V_ws [(h0, oC 13 [.ref h1, .ref h2, .int p2, .ref h3, .ref h4, .int (nI k5), .int (nI k6), .int p7, .int p8, .int p9, .int (nI k10), .int p11, .long q12, .ref h5, .ref h6, .int (nI k15), .int (nI k16)]), (h1, aI Y 3640 (u58.2.2.2.1 0)), (h2, aZ Y 2 f1), (h3, aZ Y 80 f3), (h4, aB Y 1600 f4), (h5, aI Y 200 f13), (h6, aI Y 800 f14)] rfl ?_
            have x60 := w59
            clear w59
            refine V_goto 121 B 133 dX12_isBound_121 (by decide) ?_
            refine V_if_lt 133 B 140 dX12_isBound_133 (by decide) (fun kk61 => ?_) (fun kk61 => ?_)
            ·
              have x62 := x_lt kk61
              rw [show (0 : Int32).toInt = 0 by decide +kernel] at x62
              refine V_iconst 140 B (v := 0) dX12_isBound_140 (by decide +kernel) ?_
              exact V_zret 141 B rfl dX12_isBound_141 (mkW [] [] [] [(u58.2.2.2.1 0)] [] []) ⟨(Or.inl rfl), x60⟩ rfl
            ·
              have x63 := x_nlt kk61
              rw [show (0 : Int32).toInt = 0 by decide +kernel] at x63
              refine V_iconst 136 B (v := 1) dX12_isBound_136 (by decide +kernel) ?_
              refine V_goto 137 B 141 dX12_isBound_137 (by decide) ?_
              exact V_zret 141 B rfl dX12_isBound_141 (mkW [] [] [] [(u58.2.2.2.1 0)] [] []) ⟨(Or.inr rfl), x60⟩ rfl
        ·
          have x64 := n_nle (a := n39) (b := (a31.1 0)) kk42 (by omega) (by omega)
          refine V_aload_n 68 B dX12_isBound_68 3 rfl ?_
          refine V_get 69 B gf_RX12_9 0 rfl rfl dX12_isBound_69 ?_
          refine V_sipush 72 B (v := 3630) dX12_isBound_72 (by decide +kernel) ?_
          refine V_iload 75 B dX12_isBound_75 0 rfl ?_
          refine V_iadd 77 B (v := (nI (3630 + (a31.1 0)))) dX12_isBound_77 (nI_addE (a := 3630) (b := (a31.1 0)) (by omega)) ?_
          refine V_aload_n 78 B dX12_isBound_78 3 rfl ?_
          refine V_get 79 B gf_RX12_31 0 rfl rfl dX12_isBound_79 ?_
          refine V_aload_n 82 B dX12_isBound_82 3 rfl ?_
          refine V_get 83 B gf_RX12_28 0 rfl rfl dX12_isBound_83 ?_
          refine V_iload_n 86 B dX12_isBound_86 4 rfl ?_
          refine V_iconst 87 B (v := 3) dX12_isBound_87 (by decide +kernel) ?_
          refine V_iadd 88 B (v := (nI (3 + 5 * s0))) dX12_isBound_88 (nI_addE (a := 5 * s0) (b := 3) (by omega)) ?_
          refine V_iald 89 B 5 rfl (vp_in_nI (n := 3 + 5 * s0) (by omega) (by decide)) dX12_isBound_89 rfl ?_
          refine V_nmi (fun j65 e66 => ?_)
          have x67 : 0 ≤ j65.toInt ∧ j65.toInt ≤ 160 := by rw [e66, nI_clamp (show 3 + 5 * s0 < 2 ^ 31 by omega), show 3 + 5 * s0 = 5 * s0 + 3 by omega]; exact (HP s0 (by omega)).1
          obtain ⟨n68, x69, rfl⟩ := nat_of (x := j65) (n := 160) (by omega) (by omega)
          have e70 := nI_toInt (show n68 < 2 ^ 31 by omega)
          refine V_iload 90 B dX12_isBound_90 0 rfl ?_
          refine V_iadd 92 B (v := (nI ((a31.1 0) + n68))) dX12_isBound_92 (nI_addE (a := n68) (b := (a31.1 0)) (by omega)) ?_
          refine V_iald 93 B 6 rfl (vp_in_nI (n := (a31.1 0) + n68) (by omega) (by decide)) dX12_isBound_93 rfl ?_
          refine V_nmi (fun j71 e72 => ?_)
          have hv73 : INV (upd (a31.2.2.2.1 0) (3630 + (a31.1 0)) j71) := INV_free x34 (rl14 (a31.1 0) (by omega))
          refine V_iast 94 B 1 rfl (vp_in_nI (n := 3630 + (a31.1 0)) (by omega) (by decide)) dX12_isBound_94 [(h0, oC 13 [.ref h1, .ref h2, .int p2, .ref h3, .ref h4, .int (nI k5), .int (nI k6), .int p7, .int p8, .int p9, .int (nI k10), .int p11, .long q12, .ref h5, .ref h6, .int (nI k15), .int (nI k16)]), (h1, aI Y 3640 (upd (a31.2.2.2.1 0) (3630 + (a31.1 0)) j71)), (h2, aZ Y 2 f1), (h3, aZ Y 80 f3), (h4, aB Y 1600 f4), (h5, aI Y 200 f13), (h6, aI Y 800 f14)] (by rw [nI_clamp (show 3630 + (a31.1 0) < 2 ^ 31 by omega)]; rfl) ?_
          refine V_iinc 95 B (v := (nI (1 + (a31.1 0)))) (lv2 := [(4, .int (nI (1 + (a31.1 0)))), (3, .int (nI n18)), (2, .int (nI n8)), (0, .ref h0), (1, .int (nI (5 * s0)))]) dX12_isBound_95 0 rfl (nI_addE (a := (a31.1 0)) (b := 1) (by omega)) (by decide) rfl ?_
          refine V_goto 98 B 55 dX12_isBound_98 (by decide) ?_
          refine V_lv [(4, .int (nI (1 + (a31.1 0)))), (3, .int (nI n18)), (2, .int (nI n8)), (0, .ref h0), (1, .int (nI (5 * s0)))] [0, 1, 2, 3, 4] rfl ?_
          exact IH32 (mkW [1 + (a31.1 0)] [] [] [(upd (a31.2.2.2.1 0) (3630 + (a31.1 0)) j71)] [] []) ⟨hv73, (show 1 + (a31.1 0) ≤ 4000 by omega)⟩ (by show 100000 - (1 + (a31.1 0)) < 100000 - (a31.1 0); omega))
theorem dX12_isPlayed_0 : decode cX12_isPlayed 0 = .ok (.aload_n 0, 1) := by decide +kernel
theorem dX12_isPlayed_1 : decode cX12_isPlayed 1 = .ok (.getfield 28, 3) := by decide +kernel
theorem dX12_isPlayed_4 : decode cX12_isPlayed 4 = .ok (.iload_n 1, 1) := by decide +kernel
theorem dX12_isPlayed_5 : decode cX12_isPlayed 5 = .ok (.iconst 1, 1) := by decide +kernel
theorem dX12_isPlayed_6 : decode cX12_isPlayed 6 = .ok (.iadd, 1) := by decide +kernel
theorem dX12_isPlayed_7 : decode cX12_isPlayed 7 = .ok (.iaload, 1) := by decide +kernel
theorem dX12_isPlayed_8 : decode cX12_isPlayed 8 = .ok (.istore_n 2, 1) := by decide +kernel
theorem dX12_isPlayed_9 : decode cX12_isPlayed 9 = .ok (.aload_n 0, 1) := by decide +kernel
theorem dX12_isPlayed_10 : decode cX12_isPlayed 10 = .ok (.getfield 28, 3) := by decide +kernel
theorem dX12_isPlayed_13 : decode cX12_isPlayed 13 = .ok (.iload_n 1, 1) := by decide +kernel
theorem dX12_isPlayed_14 : decode cX12_isPlayed 14 = .ok (.iaload, 1) := by decide +kernel
theorem dX12_isPlayed_15 : decode cX12_isPlayed 15 = .ok (.tableswitch 152 0 5 #[37, 45, 51, 70, 91, 110], 37) := by decide +kernel
theorem dX12_isPlayed_52 : decode cX12_isPlayed 52 = .ok (.aload_n 0, 1) := by decide +kernel
theorem dX12_isPlayed_53 : decode cX12_isPlayed 53 = .ok (.iload_n 2, 1) := by decide +kernel
theorem dX12_isPlayed_54 : decode cX12_isPlayed 54 = .ok (.invokevirtual 373, 3) := by decide +kernel
theorem dX12_press_0 : decode cX12_press 0 = .ok (.aload_n 0, 1) := by decide +kernel
theorem dX12_press_1 : decode cX12_press 1 = .ok (.iconst 0, 1) := by decide +kernel
theorem dX12_press_2 : decode cX12_press 2 = .ok (.putfield 38, 3) := by decide +kernel
theorem dX12_press_5 : decode cX12_press 5 = .ok (.aload_n 0, 1) := by decide +kernel
theorem dX12_press_6 : decode cX12_press 6 = .ok (.iload_n 1, 1) := by decide +kernel
theorem dX12_press_7 : decode cX12_press 7 = .ok (.invokestatic 204, 3) := by decide +kernel
theorem dX12_isKey_0 : decode cX12_isKey 0 = .ok (.iload_n 0, 1) := by decide +kernel
theorem dX12_isKey_1 : decode cX12_isKey 1 = .ok (.i2l, 1) := by decide +kernel
theorem dX12_isKey_2 : decode cX12_isKey 2 = .ok (.lconst 0, 1) := by decide +kernel
theorem dX12_isKey_3 : decode cX12_isKey 3 = .ok (.ldc2_w 202, 3) := by decide +kernel
theorem dX12_isKey_6 : decode cX12_isKey 6 = .ok (.invokestatic 41, 3) := by decide +kernel
theorem dX12_isKey_9 : decode cX12_isKey 9 = .ok (.ireturn, 1) := by decide +kernel
set_option maxRecDepth 100000 in
set_option maxHeartbeats 4000000 in
theorem rX12_isKey (l : Launch) (D : va_G) (Y : Nat → ClassId)  (s0 : Int32)  (sz : Nat) : Met l yX12_isKey (WSm yX12_isKey cX12_isKey 1 (some .boolean)) (mkR 1 0 0 25) (PreC D Y [.int s0] [] sz) (QI D (fun (r : Int32) (u : WU) => (r = 0 ∨ (r = 1 ∧ ∃ m : Nat, s0 = nI m ∧ m < 26))) (fun (u : WU) => []) (va_A [] sz)) 0 0 (va_A [] sz) :=
  met_of  (by decide +kernel) (Nat.le_of_ble_eq_true rfl) (fun p e s m args below meth c B hin hsz => by
    have B : VB p s m args meth c D Y (va_A [] sz) cX12_isKey 1 RX12 (some .boolean) := B
    refine V_iload_n 0 B dX12_isKey_0 0 rfl ?_
    refine V_i2l 1 B dX12_isKey_1 rfl ?_
    refine V_nml (fun o0 e1 => ?_)
    have x2 : o0.toInt = s0.toInt := by rw [e1, Int32.toInt_toInt64]
    refine V_lconst 2 B (v := 0) dX12_isKey_2 (by decide +kernel) ?_
    refine V_ldc2 3 B (v := 25) dX12_isKey_3 (mT9 71 rfl rfl) ?_
    refine V_csi 6 B (st := []) (As := [.long o0, .long 0, .long 25]) (fun sz => rX12_inRange l D Y o0 0 25 sz) glS_RX12_41 ⟨rfl, rfl⟩ ⟨(Nat.le_of_ble_eq_true rfl), (Nat.le_of_ble_eq_true rfl)⟩ ⟨(Nat.le_of_ble_eq_true rfl), (Nat.le_of_ble_eq_true rfl)⟩ [] rfl rfl (Nat.le_of_ble_eq_true rfl) rfl (fun _ _ _ => rfl) dX12_isKey_6 (fun j3 u4 w5 => ?_)
    rcases w5 with ⟨rfl, x8⟩ | ⟨rfl, x6, x7⟩
    ·
      rw [show (0 : Int64).toInt = 0 by decide +kernel] at x8
      rw [show (25 : Int64).toInt = 25 by decide +kernel] at x8
      exact V_zret 9 B rfl dX12_isKey_9 (mkW [] [] [] [] [] []) (Or.inl rfl) rfl
    ·
      rw [show (0 : Int64).toInt = 0 by decide +kernel] at x6
      rw [show (25 : Int64).toInt = 25 by decide +kernel] at x7
      exact V_zret 9 B rfl dX12_isKey_9 (mkW [] [] [] [] [] []) (Or.inr ⟨rfl, nat_lt (n := 26) (by omega) (by omega)⟩) rfl)
theorem glS_RX12_204 : GLS RX12 204 yX12_isKey cX12_isKey 1 (some .boolean) 1 := ⟨⟨(mT9 68 rfl rfl), (mT9 69 rfl rfl), (mT1 13 rfl rfl), (mT9 70 rfl rfl)⟩, by decide +kernel⟩
theorem dX12_press_10 : decode cX12_press 10 = .ok (.ifCond .ne 7, 3) := by decide +kernel
theorem dX12_press_13 : decode cX12_press 13 = .ok (.iconst 1, 1) := by decide +kernel
theorem dX12_press_14 : decode cX12_press 14 = .ok (.goto 4, 3) := by decide +kernel
theorem dX12_press_18 : decode cX12_press 18 = .ok (.iconst 1, 1) := by decide +kernel
theorem dX12_press_19 : decode cX12_press 19 = .ok (.invokevirtual 69, 3) := by decide +kernel
theorem dX12_throwsIf_0 : decode cX12_throwsIf 0 = .ok (.iload_n 1, 1) := by decide +kernel
theorem dX12_throwsIf_1 : decode cX12_throwsIf 1 = .ok (.ifCond .eq 8, 3) := by decide +kernel
theorem dX12_throwsIf_4 : decode cX12_throwsIf 4 = .ok (.aload_n 0, 1) := by decide +kernel
theorem dX12_throwsIf_5 : decode cX12_throwsIf 5 = .ok (.iload_n 2, 1) := by decide +kernel
theorem dX12_throwsIf_6 : decode cX12_throwsIf 6 = .ok (.putfield 38, 3) := by decide +kernel
theorem dX12_throwsIf_9 : decode cX12_throwsIf 9 = .ok (.iload_n 1, 1) := by decide +kernel
theorem dX12_throwsIf_10 : decode cX12_throwsIf 10 = .ok (.ireturn, 1) := by decide +kernel
set_option maxRecDepth 100000 in
set_option maxHeartbeats 4000000 in
theorem rX12_throwsIf_1 (l : Launch) (D : va_G) (Y : Nat → ClassId) (h0 : Nat) (h1 : Nat) (h2 : Nat) (h3 : Nat) (h4 : Nat) (h5 : Nat) (h6 : Nat) (p2 : Int32) (k5 : Nat) (k6 : Nat) (p7 : Int32) (p8 : Int32) (p9 : Int32) (k10 : Nat) (p11 : Int32) (q12 : Int64) (k15 : Nat) (k16 : Nat) (f0 : Nat → Int32) (f1 : Nat → Int32) (f3 : Nat → Int32) (f4 : Nat → Int32) (f13 : Nat → Int32) (f14 : Nat → Int32) (HI : INV f0) (HL : k5 ≤ 1600) (HP : PLV f13) (s1 : Int32)  (sz : Nat) : Met l yX12_throwsIf (WSm yX12_throwsIf cX12_throwsIf 3 (some .boolean)) (mkR 0 0 0 0) (PreC D Y [.ref h0, .int 1, .int s1] [(h0, oC 13 [.ref h1, .ref h2, .int p2, .ref h3, .ref h4, .int (nI k5), .int (nI k6), .int p7, .int p8, .int p9, .int (nI k10), .int p11, .long q12, .ref h5, .ref h6, .int (nI k15), .int (nI k16)]), (h1, aI Y 3640 f0), (h2, aZ Y 2 f1), (h3, aZ Y 80 f3), (h4, aB Y 1600 f4), (h5, aI Y 200 f13), (h6, aI Y 800 f14)] sz) (QI D (fun (r : Int32) (u : WU) => r = 1) (fun (u : WU) => [(h0, oC 13 [.ref h1, .ref h2, .int (u.2.1 0), .ref h3, .ref h4, .int (nI k5), .int (nI k6), .int p7, .int p8, .int p9, .int (nI k10), .int p11, .long q12, .ref h5, .ref h6, .int (nI k15), .int (nI k16)]), (h1, aI Y 3640 f0), (h2, aZ Y 2 f1), (h3, aZ Y 80 f3), (h4, aB Y 1600 f4), (h5, aI Y 200 f13), (h6, aI Y 800 f14)]) (va_A [(h0, oC 13 [.ref h1, .ref h2, .int p2, .ref h3, .ref h4, .int (nI k5), .int (nI k6), .int p7, .int p8, .int p9, .int (nI k10), .int p11, .long q12, .ref h5, .ref h6, .int (nI k15), .int (nI k16)]), (h1, aI Y 3640 f0), (h2, aZ Y 2 f1), (h3, aZ Y 80 f3), (h4, aB Y 1600 f4), (h5, aI Y 200 f13), (h6, aI Y 800 f14)] sz)) 0 0 (va_A [(h0, oC 13 [.ref h1, .ref h2, .int p2, .ref h3, .ref h4, .int (nI k5), .int (nI k6), .int p7, .int p8, .int p9, .int (nI k10), .int p11, .long q12, .ref h5, .ref h6, .int (nI k15), .int (nI k16)]), (h1, aI Y 3640 f0), (h2, aZ Y 2 f1), (h3, aZ Y 80 f3), (h4, aB Y 1600 f4), (h5, aI Y 200 f13), (h6, aI Y 800 f14)] sz) :=
  met_of  (by decide +kernel) (Nat.le_of_ble_eq_true rfl) (fun p e s m args below meth c B hin hsz => by
    have B : VB p s m args meth c D Y (va_A [(h0, oC 13 [.ref h1, .ref h2, .int p2, .ref h3, .ref h4, .int (nI k5), .int (nI k6), .int p7, .int p8, .int p9, .int (nI k10), .int p11, .long q12, .ref h5, .ref h6, .int (nI k15), .int (nI k16)]), (h1, aI Y 3640 f0), (h2, aZ Y 2 f1), (h3, aZ Y 80 f3), (h4, aB Y 1600 f4), (h5, aI Y 200 f13), (h6, aI Y 800 f14)] sz) cX12_throwsIf 3 RX12 (some .boolean) := B
    refine V_iload_n 0 B dX12_throwsIf_0 1 rfl ?_
    refine V_if_eq_f 1 B 9 dX12_throwsIf_1 (by decide) (by decide +kernel) ?_
    refine V_aload_n 4 B dX12_throwsIf_4 0 rfl ?_
    refine V_iload_n 5 B dX12_throwsIf_5 2 rfl ?_
    refine V_put 6 B gp_RX12_38 0 rfl (Nat.le_of_ble_eq_true rfl) rfl rfl dX12_throwsIf_6 [(h0, oC 13 [.ref h1, .ref h2, .int s1, .ref h3, .ref h4, .int (nI k5), .int (nI k6), .int p7, .int p8, .int p9, .int (nI k10), .int p11, .long q12, .ref h5, .ref h6, .int (nI k15), .int (nI k16)]), (h1, aI Y 3640 f0), (h2, aZ Y 2 f1), (h3, aZ Y 80 f3), (h4, aB Y 1600 f4), (h5, aI Y 200 f13), (h6, aI Y 800 f14)] rfl ?_
    refine V_iload_n 9 B dX12_throwsIf_9 1 rfl ?_
    exact V_zret 10 B rfl dX12_throwsIf_10 (mkW [] [s1] [] [] [] []) rfl rfl)
theorem glV_RX12_69 : GLV RX12 69 yX12_throwsIf RX12 cX12_throwsIf 3 (some .boolean) 2 := ⟨⟨(mT7 213 rfl rfl), (mT7 215 rfl rfl), (mTs 29 rfl rfl), (mT1 13 rfl rfl), (mT7 216 rfl rfl)⟩, by decide +kernel⟩
theorem dX12_press_22 : decode cX12_press 22 = .ok (.ifCond .eq 7, 3) := by decide +kernel
theorem dX12_press_25 : decode cX12_press 25 = .ok (.iconst 0, 1) := by decide +kernel
theorem dX12_press_26 : decode cX12_press 26 = .ok (.goto 8, 3) := by decide +kernel
theorem dX12_press_34 : decode cX12_press 34 = .ok (.ireturn, 1) := by decide +kernel
theorem dX12_press_17 : decode cX12_press 17 = .ok (.iconst 0, 1) := by decide +kernel
set_option maxRecDepth 100000 in
set_option maxHeartbeats 4000000 in
theorem rX12_throwsIf_0 (l : Launch) (D : va_G) (Y : Nat → ClassId) (h0 : Nat) (h1 : Nat) (h2 : Nat) (h3 : Nat) (h4 : Nat) (h5 : Nat) (h6 : Nat) (p2 : Int32) (k5 : Nat) (k6 : Nat) (p7 : Int32) (p8 : Int32) (p9 : Int32) (k10 : Nat) (p11 : Int32) (q12 : Int64) (k15 : Nat) (k16 : Nat) (f0 : Nat → Int32) (f1 : Nat → Int32) (f3 : Nat → Int32) (f4 : Nat → Int32) (f13 : Nat → Int32) (f14 : Nat → Int32) (HI : INV f0) (HL : k5 ≤ 1600) (HP : PLV f13) (s1 : Int32)  (sz : Nat) : Met l yX12_throwsIf (WSm yX12_throwsIf cX12_throwsIf 3 (some .boolean)) (mkR 0 0 0 0) (PreC D Y [.ref h0, .int 0, .int s1] [(h0, oC 13 [.ref h1, .ref h2, .int p2, .ref h3, .ref h4, .int (nI k5), .int (nI k6), .int p7, .int p8, .int p9, .int (nI k10), .int p11, .long q12, .ref h5, .ref h6, .int (nI k15), .int (nI k16)]), (h1, aI Y 3640 f0), (h2, aZ Y 2 f1), (h3, aZ Y 80 f3), (h4, aB Y 1600 f4), (h5, aI Y 200 f13), (h6, aI Y 800 f14)] sz) (QI D (fun (r : Int32) (u : WU) => r = 0) (fun (u : WU) => [(h0, oC 13 [.ref h1, .ref h2, .int (u.2.1 0), .ref h3, .ref h4, .int (nI k5), .int (nI k6), .int p7, .int p8, .int p9, .int (nI k10), .int p11, .long q12, .ref h5, .ref h6, .int (nI k15), .int (nI k16)]), (h1, aI Y 3640 f0), (h2, aZ Y 2 f1), (h3, aZ Y 80 f3), (h4, aB Y 1600 f4), (h5, aI Y 200 f13), (h6, aI Y 800 f14)]) (va_A [(h0, oC 13 [.ref h1, .ref h2, .int p2, .ref h3, .ref h4, .int (nI k5), .int (nI k6), .int p7, .int p8, .int p9, .int (nI k10), .int p11, .long q12, .ref h5, .ref h6, .int (nI k15), .int (nI k16)]), (h1, aI Y 3640 f0), (h2, aZ Y 2 f1), (h3, aZ Y 80 f3), (h4, aB Y 1600 f4), (h5, aI Y 200 f13), (h6, aI Y 800 f14)] sz)) 0 0 (va_A [(h0, oC 13 [.ref h1, .ref h2, .int p2, .ref h3, .ref h4, .int (nI k5), .int (nI k6), .int p7, .int p8, .int p9, .int (nI k10), .int p11, .long q12, .ref h5, .ref h6, .int (nI k15), .int (nI k16)]), (h1, aI Y 3640 f0), (h2, aZ Y 2 f1), (h3, aZ Y 80 f3), (h4, aB Y 1600 f4), (h5, aI Y 200 f13), (h6, aI Y 800 f14)] sz) :=
  met_of  (by decide +kernel) (Nat.le_of_ble_eq_true rfl) (fun p e s m args below meth c B hin hsz => by
    have B : VB p s m args meth c D Y (va_A [(h0, oC 13 [.ref h1, .ref h2, .int p2, .ref h3, .ref h4, .int (nI k5), .int (nI k6), .int p7, .int p8, .int p9, .int (nI k10), .int p11, .long q12, .ref h5, .ref h6, .int (nI k15), .int (nI k16)]), (h1, aI Y 3640 f0), (h2, aZ Y 2 f1), (h3, aZ Y 80 f3), (h4, aB Y 1600 f4), (h5, aI Y 200 f13), (h6, aI Y 800 f14)] sz) cX12_throwsIf 3 RX12 (some .boolean) := B
    refine V_iload_n 0 B dX12_throwsIf_0 1 rfl ?_
    refine V_if_eq_t 1 B 9 dX12_throwsIf_1 (by decide) (by decide +kernel) ?_
    refine V_iload_n 9 B dX12_throwsIf_9 1 rfl ?_
    exact V_zret 10 B rfl dX12_throwsIf_10 (mkW [] [p2] [] [] [] []) rfl rfl)
theorem dX12_press_29 : decode cX12_press 29 = .ok (.aload_n 0, 1) := by decide +kernel
theorem dX12_press_30 : decode cX12_press 30 = .ok (.iload_n 1, 1) := by decide +kernel
theorem dX12_press_31 : decode cX12_press 31 = .ok (.invokevirtual 221, 3) := by decide +kernel
theorem dX12_pressed_0 : decode cX12_pressed 0 = .ok (.aload_n 0, 1) := by decide +kernel
theorem dX12_pressed_1 : decode cX12_pressed 1 = .ok (.iload_n 1, 1) := by decide +kernel
theorem dX12_pressed_2 : decode cX12_pressed 2 = .ok (.invokevirtual 209, 3) := by decide +kernel
theorem dX12_layerOf_0 : decode cX12_layerOf 0 = .ok (.iconst 0, 1) := by decide +kernel
theorem dX12_layerOf_1 : decode cX12_layerOf 1 = .ok (.istore_n 2, 1) := by decide +kernel
theorem dX12_layerOf_2 : decode cX12_layerOf 2 = .ok (.iload_n 2, 1) := by decide +kernel
theorem dX12_layerOf_3 : decode cX12_layerOf 3 = .ok (.aload_n 0, 1) := by decide +kernel
theorem dX12_layerOf_4 : decode cX12_layerOf 4 = .ok (.getfield 9, 3) := by decide +kernel
theorem dX12_layerOf_7 : decode cX12_layerOf 7 = .ok (.iconst 4, 1) := by decide +kernel
theorem dX12_layerOf_8 : decode cX12_layerOf 8 = .ok (.iaload, 1) := by decide +kernel
theorem dX12_layerOf_9 : decode cX12_layerOf 9 = .ok (.if_icmp .ge 21, 3) := by decide +kernel
theorem dX12_layerOf_30 : decode cX12_layerOf 30 = .ok (.iconst (-1), 1) := by decide +kernel
theorem dX12_layerOf_31 : decode cX12_layerOf 31 = .ok (.ireturn, 1) := by decide +kernel
theorem dX12_layerOf_12 : decode cX12_layerOf 12 = .ok (.aload_n 0, 1) := by decide +kernel
theorem dX12_layerOf_13 : decode cX12_layerOf 13 = .ok (.iload_n 2, 1) := by decide +kernel
theorem dX12_layerOf_14 : decode cX12_layerOf 14 = .ok (.iconst 0, 1) := by decide +kernel
theorem dX12_layerOf_15 : decode cX12_layerOf 15 = .ok (.invokevirtual 193, 3) := by decide +kernel
theorem dX12_ofLayer_0 : decode cX12_ofLayer 0 = .ok (.aload_n 0, 1) := by decide +kernel
theorem dX12_ofLayer_1 : decode cX12_ofLayer 1 = .ok (.getfield 9, 3) := by decide +kernel
theorem dX12_ofLayer_4 : decode cX12_ofLayer 4 = .ok (.sipush 744, 3) := by decide +kernel
theorem dX12_ofLayer_7 : decode cX12_ofLayer 7 = .ok (.bipush 28, 2) := by decide +kernel
theorem dX12_ofLayer_9 : decode cX12_ofLayer 9 = .ok (.iload_n 1, 1) := by decide +kernel
theorem dX12_ofLayer_10 : decode cX12_ofLayer 10 = .ok (.imul, 1) := by decide +kernel
theorem dX12_ofLayer_11 : decode cX12_ofLayer 11 = .ok (.iadd, 1) := by decide +kernel
theorem dX12_ofLayer_12 : decode cX12_ofLayer 12 = .ok (.iload_n 2, 1) := by decide +kernel
theorem dX12_ofLayer_13 : decode cX12_ofLayer 13 = .ok (.iadd, 1) := by decide +kernel
theorem dX12_ofLayer_14 : decode cX12_ofLayer 14 = .ok (.iaload, 1) := by decide +kernel
theorem rl15 : ∀ z0, z0 < 4 → ∀ z1, z1 < 28 → bd (744 + 28 * z0 + z1) = FREE := by decide +kernel
theorem dX12_ofLayer_15 : decode cX12_ofLayer 15 = .ok (.ireturn, 1) := by decide +kernel
set_option maxRecDepth 100000 in
set_option maxHeartbeats 4000000 in
theorem rX12_ofLayer (l : Launch) (D : va_G) (Y : Nat → ClassId) (h0 : Nat) (h1 : Nat) (h2 : Nat) (h3 : Nat) (h4 : Nat) (h5 : Nat) (h6 : Nat) (p2 : Int32) (k5 : Nat) (k6 : Nat) (p7 : Int32) (p8 : Int32) (p9 : Int32) (k10 : Nat) (p11 : Int32) (q12 : Int64) (k15 : Nat) (k16 : Nat) (f0 : Nat → Int32) (f1 : Nat → Int32) (f3 : Nat → Int32) (f4 : Nat → Int32) (f13 : Nat → Int32) (f14 : Nat → Int32) (HI : INV f0) (HL : k5 ≤ 1600) (HP : PLV f13) (s0 : Nat) (s1 : Nat) (hn0 : s0 < 4) (hn1 : s1 < 28) (sz : Nat) : Met l yX12_ofLayer (WSm yX12_ofLayer cX12_ofLayer 3 (some .int)) (mkR 0 0 0 0) (PreC D Y [.ref h0, .int (nI s0), .int (nI s1)] [(h0, oC 13 [.ref h1, .ref h2, .int p2, .ref h3, .ref h4, .int (nI k5), .int (nI k6), .int p7, .int p8, .int p9, .int (nI k10), .int p11, .long q12, .ref h5, .ref h6, .int (nI k15), .int (nI k16)]), (h1, aI Y 3640 f0), (h2, aZ Y 2 f1), (h3, aZ Y 80 f3), (h4, aB Y 1600 f4), (h5, aI Y 200 f13), (h6, aI Y 800 f14)] sz) (QI D (fun (r : Int32) (u : WU) => True) (fun (u : WU) => [(h0, oC 13 [.ref h1, .ref h2, .int p2, .ref h3, .ref h4, .int (nI k5), .int (nI k6), .int p7, .int p8, .int p9, .int (nI k10), .int p11, .long q12, .ref h5, .ref h6, .int (nI k15), .int (nI k16)]), (h1, aI Y 3640 f0), (h2, aZ Y 2 f1), (h3, aZ Y 80 f3), (h4, aB Y 1600 f4), (h5, aI Y 200 f13), (h6, aI Y 800 f14)]) (va_A [(h0, oC 13 [.ref h1, .ref h2, .int p2, .ref h3, .ref h4, .int (nI k5), .int (nI k6), .int p7, .int p8, .int p9, .int (nI k10), .int p11, .long q12, .ref h5, .ref h6, .int (nI k15), .int (nI k16)]), (h1, aI Y 3640 f0), (h2, aZ Y 2 f1), (h3, aZ Y 80 f3), (h4, aB Y 1600 f4), (h5, aI Y 200 f13), (h6, aI Y 800 f14)] sz)) 0 0 (va_A [(h0, oC 13 [.ref h1, .ref h2, .int p2, .ref h3, .ref h4, .int (nI k5), .int (nI k6), .int p7, .int p8, .int p9, .int (nI k10), .int p11, .long q12, .ref h5, .ref h6, .int (nI k15), .int (nI k16)]), (h1, aI Y 3640 f0), (h2, aZ Y 2 f1), (h3, aZ Y 80 f3), (h4, aB Y 1600 f4), (h5, aI Y 200 f13), (h6, aI Y 800 f14)] sz) :=
  met_of  (by decide +kernel) (Nat.le_of_ble_eq_true rfl) (fun p e s m args below meth c B hin hsz => by
    have B : VB p s m args meth c D Y (va_A [(h0, oC 13 [.ref h1, .ref h2, .int p2, .ref h3, .ref h4, .int (nI k5), .int (nI k6), .int p7, .int p8, .int p9, .int (nI k10), .int p11, .long q12, .ref h5, .ref h6, .int (nI k15), .int (nI k16)]), (h1, aI Y 3640 f0), (h2, aZ Y 2 f1), (h3, aZ Y 80 f3), (h4, aB Y 1600 f4), (h5, aI Y 200 f13), (h6, aI Y 800 f14)] sz) cX12_ofLayer 3 RX12 (some .int) := B
    refine V_aload_n 0 B dX12_ofLayer_0 0 rfl ?_
    refine V_get 1 B gf_RX12_9 0 rfl rfl dX12_ofLayer_1 ?_
    refine V_sipush 4 B (v := 744) dX12_ofLayer_4 (by decide +kernel) ?_
    refine V_bipush 7 B (v := 28) dX12_ofLayer_7 (by decide +kernel) ?_
    refine V_iload_n 9 B dX12_ofLayer_9 1 rfl ?_
    refine V_imul 10 B (v := (nI (28 * s0))) dX12_ofLayer_10 (nI_mulE (a := 28) (b := s0) (by omega)) ?_
    refine V_iadd 11 B (v := (nI (744 + 28 * s0))) dX12_ofLayer_11 (nI_addE (a := 744) (b := 28 * s0) (by omega)) ?_
    refine V_iload_n 12 B dX12_ofLayer_12 2 rfl ?_
    refine V_iadd 13 B (v := (nI (744 + 28 * s0 + s1))) dX12_ofLayer_13 (nI_addE (a := 744 + 28 * s0) (b := s1) (by omega)) ?_
    refine V_iald 14 B (v := f0 (744 + 28 * s0 + s1)) 1 rfl (vp_in_nI (n := 744 + 28 * s0 + s1) (by omega) (by decide)) dX12_ofLayer_14 (by rw [nI_clamp (show 744 + 28 * s0 + s1 < 2 ^ 31 by omega)]) ?_
    refine V_nmi (fun j0 e1 => ?_)
    exact V_iret 15 B dX12_ofLayer_15 (mkW [] [] [] [] [] []) trivial rfl)
theorem glV_RX12_193 : GLV RX12 193 yX12_ofLayer RX12 cX12_ofLayer 3 (some .int) 2 := ⟨⟨(mT9 56 rfl rfl), (mT9 58 rfl rfl), (mTs 62 rfl rfl), (mT1 13 rfl rfl), (mT9 59 rfl rfl)⟩, by decide +kernel⟩
theorem dX12_layerOf_18 : decode cX12_layerOf 18 = .ok (.iload_n 1, 1) := by decide +kernel
theorem dX12_layerOf_19 : decode cX12_layerOf 19 = .ok (.if_icmp .ne 5, 3) := by decide +kernel
theorem dX12_layerOf_24 : decode cX12_layerOf 24 = .ok (.iinc 2 1, 3) := by decide +kernel
theorem dX12_layerOf_27 : decode cX12_layerOf 27 = .ok (.goto (-25), 3) := by decide +kernel
theorem dX12_layerOf_22 : decode cX12_layerOf 22 = .ok (.iload_n 2, 1) := by decide +kernel
theorem dX12_layerOf_23 : decode cX12_layerOf 23 = .ok (.ireturn, 1) := by decide +kernel
set_option maxRecDepth 100000 in
set_option maxHeartbeats 4000000 in
theorem rX12_layerOf (l : Launch) (D : va_G) (Y : Nat → ClassId) (h0 : Nat) (h1 : Nat) (h2 : Nat) (h3 : Nat) (h4 : Nat) (h5 : Nat) (h6 : Nat) (p2 : Int32) (k5 : Nat) (k6 : Nat) (p7 : Int32) (p8 : Int32) (p9 : Int32) (k10 : Nat) (p11 : Int32) (q12 : Int64) (k15 : Nat) (k16 : Nat) (f0 : Nat → Int32) (f1 : Nat → Int32) (f3 : Nat → Int32) (f4 : Nat → Int32) (f13 : Nat → Int32) (f14 : Nat → Int32) (HI : INV f0) (HL : k5 ≤ 1600) (HP : PLV f13) (s0 : Int32)  (sz : Nat) : Met l yX12_layerOf (WSm yX12_layerOf cX12_layerOf 3 (some .int)) (mkR 1 0 0 22) (PreC D Y [.ref h0, .int s0] [(h0, oC 13 [.ref h1, .ref h2, .int p2, .ref h3, .ref h4, .int (nI k5), .int (nI k6), .int p7, .int p8, .int p9, .int (nI k10), .int p11, .long q12, .ref h5, .ref h6, .int (nI k15), .int (nI k16)]), (h1, aI Y 3640 f0), (h2, aZ Y 2 f1), (h3, aZ Y 80 f3), (h4, aB Y 1600 f4), (h5, aI Y 200 f13), (h6, aI Y 800 f14)] sz) (QI D (fun (r : Int32) (u : WU) => (r = -1 ∨ ∃ b : Nat, r = nI b ∧ b < gN f0 4)) (fun (u : WU) => [(h0, oC 13 [.ref h1, .ref h2, .int p2, .ref h3, .ref h4, .int (nI k5), .int (nI k6), .int p7, .int p8, .int p9, .int (nI k10), .int p11, .long q12, .ref h5, .ref h6, .int (nI k15), .int (nI k16)]), (h1, aI Y 3640 f0), (h2, aZ Y 2 f1), (h3, aZ Y 80 f3), (h4, aB Y 1600 f4), (h5, aI Y 200 f13), (h6, aI Y 800 f14)]) (va_A [(h0, oC 13 [.ref h1, .ref h2, .int p2, .ref h3, .ref h4, .int (nI k5), .int (nI k6), .int p7, .int p8, .int p9, .int (nI k10), .int p11, .long q12, .ref h5, .ref h6, .int (nI k15), .int (nI k16)]), (h1, aI Y 3640 f0), (h2, aZ Y 2 f1), (h3, aZ Y 80 f3), (h4, aB Y 1600 f4), (h5, aI Y 200 f13), (h6, aI Y 800 f14)] sz)) 0 0 (va_A [(h0, oC 13 [.ref h1, .ref h2, .int p2, .ref h3, .ref h4, .int (nI k5), .int (nI k6), .int p7, .int p8, .int p9, .int (nI k10), .int p11, .long q12, .ref h5, .ref h6, .int (nI k15), .int (nI k16)]), (h1, aI Y 3640 f0), (h2, aZ Y 2 f1), (h3, aZ Y 80 f3), (h4, aB Y 1600 f4), (h5, aI Y 200 f13), (h6, aI Y 800 f14)] sz) :=
  met_of  (by decide +kernel) (Nat.le_of_ble_eq_true rfl) (fun p e s m args below meth c B hin hsz => by
    have B : VB p s m args meth c D Y (va_A [(h0, oC 13 [.ref h1, .ref h2, .int p2, .ref h3, .ref h4, .int (nI k5), .int (nI k6), .int p7, .int p8, .int p9, .int (nI k10), .int p11, .long q12, .ref h5, .ref h6, .int (nI k15), .int (nI k16)]), (h1, aI Y 3640 f0), (h2, aZ Y 2 f1), (h3, aZ Y 80 f3), (h4, aB Y 1600 f4), (h5, aI Y 200 f13), (h6, aI Y 800 f14)] sz) cX12_layerOf 3 RX12 (some .int) := B
    refine V_iconst 0 B (v := 0) dX12_layerOf_0 (by decide +kernel) ?_
    refine V_istore_n 1 B (lv2 := [(2, .int 0), (0, .ref h0), (1, .int s0)]) dX12_layerOf_1 (by decide) rfl ?_
    refine V_wloop (α := WU) (fun a => 100000 - (a.1 0)) (fun a => (a.1 0) ≤ 4000) (fun a => [(2, .int (nI (a.1 0))), (0, .ref h0), (1, .int s0)]) (fun a => [(h0, oC 13 [.ref h1, .ref h2, .int p2, .ref h3, .ref h4, .int (nI k5), .int (nI k6), .int p7, .int p8, .int p9, .int (nI k10), .int p11, .long q12, .ref h5, .ref h6, .int (nI k15), .int (nI k16)]), (h1, aI Y 3640 f0), (h2, aZ Y 2 f1), (h3, aZ Y 80 f3), (h4, aB Y 1600 f4), (h5, aI Y 200 f13), (h6, aI Y 800 f14)]) (mkW [0] [] [] [] [] []) (show 0 ≤ 4000 by omega) rfl rfl (fun a0 hI2 IH1 => ?_)
    refine V_lv [(2, .int (nI (a0.1 0))), (0, .ref h0), (1, .int s0)] [0, 1, 2] rfl ?_
    refine V_ws [(h0, oC 13 [.ref h1, .ref h2, .int p2, .ref h3, .ref h4, .int (nI k5), .int (nI k6), .int p7, .int p8, .int p9, .int (nI k10), .int p11, .long q12, .ref h5, .ref h6, .int (nI k15), .int (nI k16)]), (h1, aI Y 3640 f0), (h2, aZ Y 2 f1), (h3, aZ Y 80 f3), (h4, aB Y 1600 f4), (h5, aI Y 200 f13), (h6, aI Y 800 f14)] rfl ?_
    have x3 := hI2
    refine V_iload_n 2 B dX12_layerOf_2 0 rfl ?_
    refine V_aload_n 3 B dX12_layerOf_3 1 rfl ?_
    refine V_get 4 B gf_RX12_9 0 rfl rfl dX12_layerOf_4 ?_
    refine V_iconst 7 B (v := 4) dX12_layerOf_7 (by decide +kernel) ?_
    have x4 : (gN f0 4) ≤ 4 := gN_le HI (by omega) (show bd 4 = (0, ((4 : Nat) : Int)) by decide +kernel)
    refine V_iald 8 B (v := (nI (gN f0 4))) 1 rfl (vpin _ _ (by decide +kernel)) dX12_layerOf_8 (by show f0 4 = _; exact gN_eq HI (by omega) (show bd 4 = (0, ((4 : Nat) : Int)) by decide +kernel)) ?_
    refine V_icmp_ge 9 B 30 dX12_layerOf_9 (by decide) (fun kk5 => ?_) (fun kk5 => ?_)
    ·
      have x6 := n_le (a := (gN f0 4)) (b := (a0.1 0)) kk5 (by omega) (by omega)
      refine V_iconst 30 B (v := (-1)) dX12_layerOf_30 (by decide +kernel) ?_
      exact V_iret 31 B dX12_layerOf_31 (mkW [] [] [] [] [] []) (Or.inl rfl) rfl
    ·
      have x7 := n_nle (a := (gN f0 4)) (b := (a0.1 0)) kk5 (by omega) (by omega)
      refine V_aload_n 12 B dX12_layerOf_12 1 rfl ?_
      refine V_iload_n 13 B dX12_layerOf_13 0 rfl ?_
      refine V_iconst 14 B (v := 0) dX12_layerOf_14 (by decide +kernel) ?_
      refine V_cvi 15 B (st := []) (As := [.int (nI (a0.1 0)), .int 0]) (fun sz => rX12_ofLayer l D Y h0 h1 h2 h3 h4 h5 h6 p2 k5 k6 p7 p8 p9 k10 p11 q12 k15 k16 f0 f1 f3 f4 f13 f14 HI (by omega) HP (a0.1 0) 0 (by omega) (by omega) sz) glV_RX12_193 ⟨rfl, rfl⟩ ⟨(Nat.le_of_ble_eq_true rfl), (Nat.le_of_ble_eq_true rfl)⟩ ⟨(Nat.le_of_ble_eq_true rfl), (Nat.le_of_ble_eq_true rfl)⟩ [0, 0, 0, 0, 0, 0, 0] rfl 13 0 rfl rfl rfl rfl (Nat.le_of_ble_eq_true rfl) rfl (fun _ _ _ => rfl) dX12_layerOf_15 (fun j8 u9 w10 => ?_)
      refine V_ws [(h0, oC 13 [.ref h1, .ref h2, .int p2, .ref h3, .ref h4, .int (nI k5), .int (nI k6), .int p7, .int p8, .int p9, .int (nI k10), .int p11, .long q12, .ref h5, .ref h6, .int (nI k15), .int (nI k16)]), (h1, aI Y 3640 f0), (h2, aZ Y 2 f1), (h3, aZ Y 80 f3), (h4, aB Y 1600 f4), (h5, aI Y 200 f13), (h6, aI Y 800 f14)] rfl ?_
      refine V_iload_n 18 B dX12_layerOf_18 2 rfl ?_
      refine V_icmp_ne 19 B 24 dX12_layerOf_19 (by decide) (fun kk11 => ?_) (fun kk11 => ?_)
      ·
        have x12 := x_ne kk11
        refine V_iinc 24 B (v := (nI (1 + (a0.1 0)))) (lv2 := [(2, .int (nI (1 + (a0.1 0)))), (0, .ref h0), (1, .int s0)]) dX12_layerOf_24 0 rfl (nI_addE (a := (a0.1 0)) (b := 1) (by omega)) (by decide) rfl ?_
        refine V_goto 27 B 2 dX12_layerOf_27 (by decide) ?_
        refine V_lv [(2, .int (nI (1 + (a0.1 0)))), (0, .ref h0), (1, .int s0)] [0, 1, 2] rfl ?_
        exact IH1 (mkW [1 + (a0.1 0)] [] [] [] [] []) (show 1 + (a0.1 0) ≤ 4000 by omega) (by show 100000 - (1 + (a0.1 0)) < 100000 - (a0.1 0); omega)
      ·
        have x13 := x_eq kk11
        refine V_iload_n 22 B dX12_layerOf_22 0 rfl ?_
        exact V_iret 23 B dX12_layerOf_23 (mkW [] [] [] [] [] []) (Or.inr ⟨(a0.1 0), rfl, by omega⟩) rfl)
theorem glV_RX12_209 : GLV RX12 209 yX12_layerOf RX12 cX12_layerOf 3 (some .int) 1 := ⟨⟨(mT9 81 rfl rfl), (mT9 83 rfl rfl), (mTs 64 rfl rfl), (mT1 13 rfl rfl), (mT9 84 rfl rfl)⟩, by decide +kernel⟩
theorem dX12_pressed_5 : decode cX12_pressed 5 = .ok (.istore_n 2, 1) := by decide +kernel
theorem dX12_pressed_6 : decode cX12_pressed 6 = .ok (.iload_n 2, 1) := by decide +kernel
theorem dX12_pressed_7 : decode cX12_pressed 7 = .ok (.iconst (-1), 1) := by decide +kernel
theorem dX12_pressed_8 : decode cX12_pressed 8 = .ok (.if_icmp .ne 13, 3) := by decide +kernel
theorem dX12_pressed_11 : decode cX12_pressed 11 = .ok (.aload_n 0, 1) := by decide +kernel
theorem dX12_pressed_12 : decode cX12_pressed 12 = .ok (.aload_n 0, 1) := by decide +kernel
theorem dX12_pressed_13 : decode cX12_pressed 13 = .ok (.iload_n 1, 1) := by decide +kernel
theorem dX12_pressed_14 : decode cX12_pressed 14 = .ok (.invokevirtual 212, 3) := by decide +kernel
theorem dX12_madeBy_0 : decode cX12_madeBy 0 = .ok (.iload_n 1, 1) := by decide +kernel
theorem dX12_madeBy_1 : decode cX12_madeBy 1 = .ok (.istore_n 2, 1) := by decide +kernel
theorem dX12_madeBy_2 : decode cX12_madeBy 2 = .ok (.iconst 0, 1) := by decide +kernel
theorem dX12_madeBy_3 : decode cX12_madeBy 3 = .ok (.istore_n 3, 1) := by decide +kernel
theorem dX12_madeBy_4 : decode cX12_madeBy 4 = .ok (.iload_n 3, 1) := by decide +kernel
theorem dX12_madeBy_5 : decode cX12_madeBy 5 = .ok (.aload_n 0, 1) := by decide +kernel
theorem dX12_madeBy_6 : decode cX12_madeBy 6 = .ok (.getfield 9, 3) := by decide +kernel
theorem dX12_madeBy_9 : decode cX12_madeBy 9 = .ok (.iconst 4, 1) := by decide +kernel
theorem dX12_madeBy_10 : decode cX12_madeBy 10 = .ok (.iaload, 1) := by decide +kernel
theorem dX12_madeBy_11 : decode cX12_madeBy 11 = .ok (.if_icmp .ge 41, 3) := by decide +kernel
theorem dX12_madeBy_52 : decode cX12_madeBy 52 = .ok (.bipush 32, 2) := by decide +kernel
theorem dX12_madeBy_54 : decode cX12_madeBy 54 = .ok (.aload_n 0, 1) := by decide +kernel
theorem dX12_madeBy_55 : decode cX12_madeBy 55 = .ok (.getfield 9, 3) := by decide +kernel
theorem dX12_madeBy_58 : decode cX12_madeBy 58 = .ok (.bipush 14, 2) := by decide +kernel
theorem dX12_madeBy_60 : decode cX12_madeBy 60 = .ok (.iaload, 1) := by decide +kernel
theorem dX12_madeBy_61 : decode cX12_madeBy 61 = .ok (.imul, 1) := by decide +kernel
theorem dX12_madeBy_62 : decode cX12_madeBy 62 = .ok (.iload_n 2, 1) := by decide +kernel
theorem dX12_madeBy_63 : decode cX12_madeBy 63 = .ok (.iadd, 1) := by decide +kernel
theorem dX12_madeBy_64 : decode cX12_madeBy 64 = .ok (.ireturn, 1) := by decide +kernel
theorem dX12_madeBy_14 : decode cX12_madeBy 14 = .ok (.aload_n 0, 1) := by decide +kernel
theorem dX12_madeBy_15 : decode cX12_madeBy 15 = .ok (.iload_n 3, 1) := by decide +kernel
theorem dX12_madeBy_16 : decode cX12_madeBy 16 = .ok (.iconst 1, 1) := by decide +kernel
theorem dX12_madeBy_17 : decode cX12_madeBy 17 = .ok (.invokevirtual 193, 3) := by decide +kernel
theorem dX12_madeBy_20 : decode cX12_madeBy 20 = .ok (.iconst 1, 1) := by decide +kernel
theorem dX12_madeBy_21 : decode cX12_madeBy 21 = .ok (.if_icmp .ne 25, 3) := by decide +kernel
theorem dX12_madeBy_46 : decode cX12_madeBy 46 = .ok (.iinc 3 1, 3) := by decide +kernel
theorem dX12_madeBy_49 : decode cX12_madeBy 49 = .ok (.goto (-45), 3) := by decide +kernel
theorem dX12_madeBy_24 : decode cX12_madeBy 24 = .ok (.aload_n 0, 1) := by decide +kernel
theorem dX12_madeBy_25 : decode cX12_madeBy 25 = .ok (.iload_n 3, 1) := by decide +kernel
theorem dX12_madeBy_26 : decode cX12_madeBy 26 = .ok (.iconst 2, 1) := by decide +kernel
theorem dX12_madeBy_27 : decode cX12_madeBy 27 = .ok (.iload_n 1, 1) := by decide +kernel
theorem dX12_madeBy_28 : decode cX12_madeBy 28 = .ok (.iadd, 1) := by decide +kernel
theorem dX12_madeBy_29 : decode cX12_madeBy 29 = .ok (.invokevirtual 193, 3) := by decide +kernel
theorem dX12_madeBy_32 : decode cX12_madeBy 32 = .ok (.ifCond .le 14, 3) := by decide +kernel
theorem dX12_madeBy_35 : decode cX12_madeBy 35 = .ok (.aload_n 0, 1) := by decide +kernel
theorem dX12_madeBy_36 : decode cX12_madeBy 36 = .ok (.iload_n 3, 1) := by decide +kernel
theorem dX12_madeBy_37 : decode cX12_madeBy 37 = .ok (.iconst 2, 1) := by decide +kernel
theorem dX12_madeBy_38 : decode cX12_madeBy 38 = .ok (.iload_n 1, 1) := by decide +kernel
theorem dX12_madeBy_39 : decode cX12_madeBy 39 = .ok (.iadd, 1) := by decide +kernel
theorem dX12_madeBy_40 : decode cX12_madeBy 40 = .ok (.invokevirtual 193, 3) := by decide +kernel
theorem dX12_madeBy_43 : decode cX12_madeBy 43 = .ok (.iconst 1, 1) := by decide +kernel
theorem dX12_madeBy_44 : decode cX12_madeBy 44 = .ok (.isub, 1) := by decide +kernel
theorem dX12_madeBy_45 : decode cX12_madeBy 45 = .ok (.istore_n 2, 1) := by decide +kernel
set_option maxRecDepth 100000 in
set_option maxHeartbeats 4000000 in
theorem rX12_madeBy (l : Launch) (D : va_G) (Y : Nat → ClassId) (h0 : Nat) (h1 : Nat) (h2 : Nat) (h3 : Nat) (h4 : Nat) (h5 : Nat) (h6 : Nat) (p2 : Int32) (k5 : Nat) (k6 : Nat) (p7 : Int32) (p8 : Int32) (p9 : Int32) (k10 : Nat) (p11 : Int32) (q12 : Int64) (k15 : Nat) (k16 : Nat) (f0 : Nat → Int32) (f1 : Nat → Int32) (f3 : Nat → Int32) (f4 : Nat → Int32) (f13 : Nat → Int32) (f14 : Nat → Int32) (HI : INV f0) (HL : k5 ≤ 1600) (HP : PLV f13) (s0 : Nat) (hn0 : s0 < 26) (sz : Nat) : Met l yX12_madeBy (WSm yX12_madeBy cX12_madeBy 4 (some .int)) (mkR 1 0 0 22) (PreC D Y [.ref h0, .int (nI s0)] [(h0, oC 13 [.ref h1, .ref h2, .int p2, .ref h3, .ref h4, .int (nI k5), .int (nI k6), .int p7, .int p8, .int p9, .int (nI k10), .int p11, .long q12, .ref h5, .ref h6, .int (nI k15), .int (nI k16)]), (h1, aI Y 3640 f0), (h2, aZ Y 2 f1), (h3, aZ Y 80 f3), (h4, aB Y 1600 f4), (h5, aI Y 200 f13), (h6, aI Y 800 f14)] sz) (QI D (fun (r : Int32) (u : WU) => True) (fun (u : WU) => [(h0, oC 13 [.ref h1, .ref h2, .int p2, .ref h3, .ref h4, .int (nI k5), .int (nI k6), .int p7, .int p8, .int p9, .int (nI k10), .int p11, .long q12, .ref h5, .ref h6, .int (nI k15), .int (nI k16)]), (h1, aI Y 3640 f0), (h2, aZ Y 2 f1), (h3, aZ Y 80 f3), (h4, aB Y 1600 f4), (h5, aI Y 200 f13), (h6, aI Y 800 f14)]) (va_A [(h0, oC 13 [.ref h1, .ref h2, .int p2, .ref h3, .ref h4, .int (nI k5), .int (nI k6), .int p7, .int p8, .int p9, .int (nI k10), .int p11, .long q12, .ref h5, .ref h6, .int (nI k15), .int (nI k16)]), (h1, aI Y 3640 f0), (h2, aZ Y 2 f1), (h3, aZ Y 80 f3), (h4, aB Y 1600 f4), (h5, aI Y 200 f13), (h6, aI Y 800 f14)] sz)) 0 0 (va_A [(h0, oC 13 [.ref h1, .ref h2, .int p2, .ref h3, .ref h4, .int (nI k5), .int (nI k6), .int p7, .int p8, .int p9, .int (nI k10), .int p11, .long q12, .ref h5, .ref h6, .int (nI k15), .int (nI k16)]), (h1, aI Y 3640 f0), (h2, aZ Y 2 f1), (h3, aZ Y 80 f3), (h4, aB Y 1600 f4), (h5, aI Y 200 f13), (h6, aI Y 800 f14)] sz) :=
  met_of  (by decide +kernel) (Nat.le_of_ble_eq_true rfl) (fun p e s m args below meth c B hin hsz => by
    have B : VB p s m args meth c D Y (va_A [(h0, oC 13 [.ref h1, .ref h2, .int p2, .ref h3, .ref h4, .int (nI k5), .int (nI k6), .int p7, .int p8, .int p9, .int (nI k10), .int p11, .long q12, .ref h5, .ref h6, .int (nI k15), .int (nI k16)]), (h1, aI Y 3640 f0), (h2, aZ Y 2 f1), (h3, aZ Y 80 f3), (h4, aB Y 1600 f4), (h5, aI Y 200 f13), (h6, aI Y 800 f14)] sz) cX12_madeBy 4 RX12 (some .int) := B
    refine V_iload_n 0 B dX12_madeBy_0 1 rfl ?_
    refine V_istore_n 1 B (lv2 := [(2, .int (nI s0)), (0, .ref h0), (1, .int (nI s0))]) dX12_madeBy_1 (by decide) rfl ?_
    refine V_iconst 2 B (v := 0) dX12_madeBy_2 (by decide +kernel) ?_
    refine V_istore_n 3 B (lv2 := [(3, .int 0), (2, .int (nI s0)), (0, .ref h0), (1, .int (nI s0))]) dX12_madeBy_3 (by decide) rfl ?_
    refine V_wloop (α := WU) (fun a => 100000 - (a.1 0)) (fun a => (a.1 0) ≤ 4000) (fun a => [(3, .int (nI (a.1 0))), (2, .int (a.2.1 0)), (0, .ref h0), (1, .int (nI s0))]) (fun a => [(h0, oC 13 [.ref h1, .ref h2, .int p2, .ref h3, .ref h4, .int (nI k5), .int (nI k6), .int p7, .int p8, .int p9, .int (nI k10), .int p11, .long q12, .ref h5, .ref h6, .int (nI k15), .int (nI k16)]), (h1, aI Y 3640 f0), (h2, aZ Y 2 f1), (h3, aZ Y 80 f3), (h4, aB Y 1600 f4), (h5, aI Y 200 f13), (h6, aI Y 800 f14)]) (mkW [0] [(nI s0)] [] [] [] []) (show 0 ≤ 4000 by omega) rfl rfl (fun a0 hI2 IH1 => ?_)
    refine V_lv [(3, .int (nI (a0.1 0))), (2, .int (a0.2.1 0)), (0, .ref h0), (1, .int (nI s0))] [0, 1, 2, 3] rfl ?_
    refine V_ws [(h0, oC 13 [.ref h1, .ref h2, .int p2, .ref h3, .ref h4, .int (nI k5), .int (nI k6), .int p7, .int p8, .int p9, .int (nI k10), .int p11, .long q12, .ref h5, .ref h6, .int (nI k15), .int (nI k16)]), (h1, aI Y 3640 f0), (h2, aZ Y 2 f1), (h3, aZ Y 80 f3), (h4, aB Y 1600 f4), (h5, aI Y 200 f13), (h6, aI Y 800 f14)] rfl ?_
    have x3 := hI2
    refine V_iload_n 4 B dX12_madeBy_4 0 rfl ?_
    refine V_aload_n 5 B dX12_madeBy_5 2 rfl ?_
    refine V_get 6 B gf_RX12_9 0 rfl rfl dX12_madeBy_6 ?_
    refine V_iconst 9 B (v := 4) dX12_madeBy_9 (by decide +kernel) ?_
    have x4 : (gN f0 4) ≤ 4 := gN_le HI (by omega) (show bd 4 = (0, ((4 : Nat) : Int)) by decide +kernel)
    refine V_iald 10 B (v := (nI (gN f0 4))) 1 rfl (vpin _ _ (by decide +kernel)) dX12_madeBy_10 (by show f0 4 = _; exact gN_eq HI (by omega) (show bd 4 = (0, ((4 : Nat) : Int)) by decide +kernel)) ?_
    refine V_icmp_ge 11 B 52 dX12_madeBy_11 (by decide) (fun kk5 => ?_) (fun kk5 => ?_)
    ·
      have x6 := n_le (a := (gN f0 4)) (b := (a0.1 0)) kk5 (by omega) (by omega)
      refine V_bipush 52 B (v := 32) dX12_madeBy_52 (by decide +kernel) ?_
      refine V_aload_n 54 B dX12_madeBy_54 2 rfl ?_
      refine V_get 55 B gf_RX12_9 0 rfl rfl dX12_madeBy_55 ?_
      refine V_bipush 58 B (v := 14) dX12_madeBy_58 (by decide +kernel) ?_
      refine V_iald 60 B (v := f0 (14)) 1 rfl (vpin _ _ (by decide +kernel)) dX12_madeBy_60 (by rfl) ?_
      refine V_nmi (fun j7 e8 => ?_)
      refine V_imul 61 B dX12_madeBy_61 rfl ?_
      refine V_nmi (fun j9 e10 => ?_)
      refine V_iload_n 62 B dX12_madeBy_62 1 rfl ?_
      refine V_iadd 63 B dX12_madeBy_63 rfl ?_
      refine V_nmi (fun j11 e12 => ?_)
      exact V_iret 64 B dX12_madeBy_64 (mkW [] [] [] [] [] []) trivial rfl
    ·
      have x13 := n_nle (a := (gN f0 4)) (b := (a0.1 0)) kk5 (by omega) (by omega)
      refine V_aload_n 14 B dX12_madeBy_14 2 rfl ?_
      refine V_iload_n 15 B dX12_madeBy_15 0 rfl ?_
      refine V_iconst 16 B (v := 1) dX12_madeBy_16 (by decide +kernel) ?_
      refine V_cvi 17 B (st := []) (As := [.int (nI (a0.1 0)), .int 1]) (fun sz => rX12_ofLayer l D Y h0 h1 h2 h3 h4 h5 h6 p2 k5 k6 p7 p8 p9 k10 p11 q12 k15 k16 f0 f1 f3 f4 f13 f14 HI (by omega) HP (a0.1 0) 1 (by omega) (by omega) sz) glV_RX12_193 ⟨rfl, rfl⟩ ⟨(Nat.le_of_ble_eq_true rfl), (Nat.le_of_ble_eq_true rfl)⟩ ⟨(Nat.le_of_ble_eq_true rfl), (Nat.le_of_ble_eq_true rfl)⟩ [0, 0, 0, 0, 0, 0, 0] rfl 13 0 rfl rfl rfl rfl (Nat.le_of_ble_eq_true rfl) rfl (fun _ _ _ => rfl) dX12_madeBy_17 (fun j14 u15 w16 => ?_)
      refine V_ws [(h0, oC 13 [.ref h1, .ref h2, .int p2, .ref h3, .ref h4, .int (nI k5), .int (nI k6), .int p7, .int p8, .int p9, .int (nI k10), .int p11, .long q12, .ref h5, .ref h6, .int (nI k15), .int (nI k16)]), (h1, aI Y 3640 f0), (h2, aZ Y 2 f1), (h3, aZ Y 80 f3), (h4, aB Y 1600 f4), (h5, aI Y 200 f13), (h6, aI Y 800 f14)] rfl ?_
      refine V_iconst 20 B (v := 1) dX12_madeBy_20 (by decide +kernel) ?_
      refine V_icmp_ne 21 B 46 dX12_madeBy_21 (by decide) (fun kk17 => ?_) (fun kk17 => ?_)
      ·
        have x18 := x_ne kk17
        rw [show (1 : Int32).toInt = 1 by decide +kernel] at x18
        refine V_iinc 46 B (v := (nI (1 + (a0.1 0)))) (lv2 := [(3, .int (nI (1 + (a0.1 0)))), (2, .int (a0.2.1 0)), (0, .ref h0), (1, .int (nI s0))]) dX12_madeBy_46 0 rfl (nI_addE (a := (a0.1 0)) (b := 1) (by omega)) (by decide) rfl ?_
        refine V_goto 49 B 4 dX12_madeBy_49 (by decide) ?_
        refine V_lv [(3, .int (nI (1 + (a0.1 0)))), (2, .int (a0.2.1 0)), (0, .ref h0), (1, .int (nI s0))] [0, 1, 2, 3] rfl ?_
        exact IH1 (mkW [1 + (a0.1 0)] [(a0.2.1 0)] [] [] [] []) (show 1 + (a0.1 0) ≤ 4000 by omega) (by show 100000 - (1 + (a0.1 0)) < 100000 - (a0.1 0); omega)
      ·
        obtain rfl : j14 = 1 := kk17
        have e20 : (1 : Int32).toInt = 1 := by decide +kernel
        refine V_aload_n 24 B dX12_madeBy_24 2 rfl ?_
        refine V_iload_n 25 B dX12_madeBy_25 0 rfl ?_
        refine V_iconst 26 B (v := 2) dX12_madeBy_26 (by decide +kernel) ?_
        refine V_iload_n 27 B dX12_madeBy_27 3 rfl ?_
        refine V_iadd 28 B (v := (nI (2 + s0))) dX12_madeBy_28 (nI_addE (a := 2) (b := s0) (by omega)) ?_
        refine V_cvi 29 B (st := []) (As := [.int (nI (a0.1 0)), .int (nI (2 + s0))]) (fun sz => rX12_ofLayer l D Y h0 h1 h2 h3 h4 h5 h6 p2 k5 k6 p7 p8 p9 k10 p11 q12 k15 k16 f0 f1 f3 f4 f13 f14 HI (by omega) HP (a0.1 0) (2 + s0) (by omega) (by omega) sz) glV_RX12_193 ⟨rfl, rfl⟩ ⟨(Nat.le_of_ble_eq_true rfl), (Nat.le_of_ble_eq_true rfl)⟩ ⟨(Nat.le_of_ble_eq_true rfl), (Nat.le_of_ble_eq_true rfl)⟩ [0, 0, 0, 0, 0, 0, 0] rfl 13 0 rfl rfl rfl rfl (Nat.le_of_ble_eq_true rfl) rfl (fun _ _ _ => rfl) dX12_madeBy_29 (fun j21 u22 w23 => ?_)
        refine V_ws [(h0, oC 13 [.ref h1, .ref h2, .int p2, .ref h3, .ref h4, .int (nI k5), .int (nI k6), .int p7, .int p8, .int p9, .int (nI k10), .int p11, .long q12, .ref h5, .ref h6, .int (nI k15), .int (nI k16)]), (h1, aI Y 3640 f0), (h2, aZ Y 2 f1), (h3, aZ Y 80 f3), (h4, aB Y 1600 f4), (h5, aI Y 200 f13), (h6, aI Y 800 f14)] rfl ?_
        refine V_if_le 32 B 46 dX12_madeBy_32 (by decide) (fun kk24 => ?_) (fun kk24 => ?_)
        ·
          have x25 := x_le kk24
          rw [show (0 : Int32).toInt = 0 by decide +kernel] at x25
          refine V_iinc 46 B (v := (nI (1 + (a0.1 0)))) (lv2 := [(3, .int (nI (1 + (a0.1 0)))), (2, .int (a0.2.1 0)), (0, .ref h0), (1, .int (nI s0))]) dX12_madeBy_46 0 rfl (nI_addE (a := (a0.1 0)) (b := 1) (by omega)) (by decide) rfl ?_
          refine V_goto 49 B 4 dX12_madeBy_49 (by decide) ?_
          refine V_lv [(3, .int (nI (1 + (a0.1 0)))), (2, .int (a0.2.1 0)), (0, .ref h0), (1, .int (nI s0))] [0, 1, 2, 3] rfl ?_
          exact IH1 (mkW [1 + (a0.1 0)] [(a0.2.1 0)] [] [] [] []) (show 1 + (a0.1 0) ≤ 4000 by omega) (by show 100000 - (1 + (a0.1 0)) < 100000 - (a0.1 0); omega)
        ·
          have x26 := x_nle kk24
          rw [show (0 : Int32).toInt = 0 by decide +kernel] at x26
          refine V_aload_n 35 B dX12_madeBy_35 2 rfl ?_
          refine V_iload_n 36 B dX12_madeBy_36 0 rfl ?_
          refine V_iconst 37 B (v := 2) dX12_madeBy_37 (by decide +kernel) ?_
          refine V_iload_n 38 B dX12_madeBy_38 3 rfl ?_
          refine V_iadd 39 B (v := (nI (2 + s0))) dX12_madeBy_39 (nI_addE (a := 2) (b := s0) (by omega)) ?_
          refine V_cvi 40 B (st := []) (As := [.int (nI (a0.1 0)), .int (nI (2 + s0))]) (fun sz => rX12_ofLayer l D Y h0 h1 h2 h3 h4 h5 h6 p2 k5 k6 p7 p8 p9 k10 p11 q12 k15 k16 f0 f1 f3 f4 f13 f14 HI (by omega) HP (a0.1 0) (2 + s0) (by omega) (by omega) sz) glV_RX12_193 ⟨rfl, rfl⟩ ⟨(Nat.le_of_ble_eq_true rfl), (Nat.le_of_ble_eq_true rfl)⟩ ⟨(Nat.le_of_ble_eq_true rfl), (Nat.le_of_ble_eq_true rfl)⟩ [0, 0, 0, 0, 0, 0, 0] rfl 13 0 rfl rfl rfl rfl (Nat.le_of_ble_eq_true rfl) rfl (fun _ _ _ => rfl) dX12_madeBy_40 (fun j27 u28 w29 => ?_)
          refine V_ws [(h0, oC 13 [.ref h1, .ref h2, .int p2, .ref h3, .ref h4, .int (nI k5), .int (nI k6), .int p7, .int p8, .int p9, .int (nI k10), .int p11, .long q12, .ref h5, .ref h6, .int (nI k15), .int (nI k16)]), (h1, aI Y 3640 f0), (h2, aZ Y 2 f1), (h3, aZ Y 80 f3), (h4, aB Y 1600 f4), (h5, aI Y 200 f13), (h6, aI Y 800 f14)] rfl ?_
          refine V_iconst 43 B (v := 1) dX12_madeBy_43 (by decide +kernel) ?_
          refine V_isub 44 B dX12_madeBy_44 rfl ?_
          refine V_nmi (fun j30 e31 => ?_)
          refine V_istore_n 45 B (lv2 := [(2, .int j30), (3, .int (nI (a0.1 0))), (0, .ref h0), (1, .int (nI s0))]) dX12_madeBy_45 (by decide) rfl ?_
          refine V_iinc 46 B (v := (nI (1 + (a0.1 0)))) (lv2 := [(3, .int (nI (1 + (a0.1 0)))), (2, .int j30), (0, .ref h0), (1, .int (nI s0))]) dX12_madeBy_46 1 rfl (nI_addE (a := (a0.1 0)) (b := 1) (by omega)) (by decide) rfl ?_
          refine V_goto 49 B 4 dX12_madeBy_49 (by decide) ?_
          refine V_lv [(3, .int (nI (1 + (a0.1 0)))), (2, .int j30), (0, .ref h0), (1, .int (nI s0))] [0, 1, 2, 3] rfl ?_
          exact IH1 (mkW [1 + (a0.1 0)] [j30] [] [] [] []) (show 1 + (a0.1 0) ≤ 4000 by omega) (by show 100000 - (1 + (a0.1 0)) < 100000 - (a0.1 0); omega))
theorem glV_RX12_212 : GLV RX12 212 yX12_madeBy RX12 cX12_madeBy 4 (some .int) 1 := ⟨⟨(mT9 85 rfl rfl), (mT9 87 rfl rfl), (mTs 65 rfl rfl), (mT1 13 rfl rfl), (mT9 88 rfl rfl)⟩, by decide +kernel⟩
theorem dX12_pressed_17 : decode cX12_pressed 17 = .ok (.invokevirtual 218, 3) := by decide +kernel
theorem dX12_makes_0 : decode cX12_makes 0 = .ok (.iconst 1, 1) := by decide +kernel
theorem dX12_makes_1 : decode cX12_makes 1 = .ok (.istore_n 2, 1) := by decide +kernel
theorem dX12_makes_2 : decode cX12_makes 2 = .ok (.iload_n 2, 1) := by decide +kernel
theorem dX12_makes_3 : decode cX12_makes 3 = .ok (.ifCond .eq 229, 3) := by decide +kernel
