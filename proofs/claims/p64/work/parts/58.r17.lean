theorem dX12_isBound_0 : decode cX12_isBound 0 = .ok (.aload_n 0, 1) := by decide +kernel
theorem dX12_isBound_1 : decode cX12_isBound 1 = .ok (.getfield 28, 3) := by decide +kernel
theorem dX12_isBound_4 : decode cX12_isBound 4 = .ok (.iload_n 1, 1) := by decide +kernel
theorem dX12_isBound_5 : decode cX12_isBound 5 = .ok (.iconst 1, 1) := by decide +kernel
theorem dX12_isBound_6 : decode cX12_isBound 6 = .ok (.iadd, 1) := by decide +kernel
theorem dX12_isBound_7 : decode cX12_isBound 7 = .ok (.iaload, 1) := by decide +kernel
theorem dX12_isBound_8 : decode cX12_isBound 8 = .ok (.istore_n 2, 1) := by decide +kernel
theorem dX12_isBound_9 : decode cX12_isBound 9 = .ok (.aload_n 0, 1) := by decide +kernel
theorem dX12_isBound_10 : decode cX12_isBound 10 = .ok (.getfield 28, 3) := by decide +kernel
theorem dX12_isBound_13 : decode cX12_isBound 13 = .ok (.iload_n 1, 1) := by decide +kernel
theorem dX12_isBound_14 : decode cX12_isBound 14 = .ok (.iconst 2, 1) := by decide +kernel
theorem dX12_isBound_15 : decode cX12_isBound 15 = .ok (.iadd, 1) := by decide +kernel
theorem dX12_isBound_16 : decode cX12_isBound 16 = .ok (.iaload, 1) := by decide +kernel
theorem dX12_isBound_17 : decode cX12_isBound 17 = .ok (.istore_n 3, 1) := by decide +kernel
theorem dX12_isBound_18 : decode cX12_isBound 18 = .ok (.aload_n 0, 1) := by decide +kernel
theorem dX12_isBound_19 : decode cX12_isBound 19 = .ok (.iload_n 2, 1) := by decide +kernel
theorem dX12_isBound_20 : decode cX12_isBound 20 = .ok (.invokevirtual 91, 3) := by decide +kernel
theorem dX12_isBound_23 : decode cX12_isBound 23 = .ok (.ifCond .eq 11, 3) := by decide +kernel
theorem dX12_isBound_34 : decode cX12_isBound 34 = .ok (.iconst 0, 1) := by decide +kernel
theorem dX12_isBound_35 : decode cX12_isBound 35 = .ok (.ireturn, 1) := by decide +kernel
theorem dX12_isBound_26 : decode cX12_isBound 26 = .ok (.aload_n 0, 1) := by decide +kernel
theorem dX12_isBound_27 : decode cX12_isBound 27 = .ok (.iload_n 3, 1) := by decide +kernel
theorem dX12_isBound_28 : decode cX12_isBound 28 = .ok (.invokevirtual 99, 3) := by decide +kernel
theorem dX12_isBound_31 : decode cX12_isBound 31 = .ok (.ifCond .ne 5, 3) := by decide +kernel
theorem dX12_isBound_36 : decode cX12_isBound 36 = .ok (.aload_n 0, 1) := by decide +kernel
theorem dX12_isBound_37 : decode cX12_isBound 37 = .ok (.getfield 9, 3) := by decide +kernel
theorem dX12_isBound_40 : decode cX12_isBound 40 = .ok (.sipush 3629, 3) := by decide +kernel
theorem dX12_isBound_43 : decode cX12_isBound 43 = .ok (.aload_n 0, 1) := by decide +kernel
theorem dX12_isBound_44 : decode cX12_isBound 44 = .ok (.getfield 28, 3) := by decide +kernel
theorem dX12_isBound_47 : decode cX12_isBound 47 = .ok (.iload_n 1, 1) := by decide +kernel
theorem dX12_isBound_48 : decode cX12_isBound 48 = .ok (.iconst 4, 1) := by decide +kernel
theorem dX12_isBound_49 : decode cX12_isBound 49 = .ok (.iadd, 1) := by decide +kernel
theorem dX12_isBound_50 : decode cX12_isBound 50 = .ok (.iaload, 1) := by decide +kernel
theorem dX12_isBound_51 : decode cX12_isBound 51 = .ok (.iastore, 1) := by decide +kernel
theorem dX12_isBound_52 : decode cX12_isBound 52 = .ok (.iconst 0, 1) := by decide +kernel
theorem dX12_isBound_53 : decode cX12_isBound 53 = .ok (.istore 4, 2) := by decide +kernel
theorem dX12_isBound_55 : decode cX12_isBound 55 = .ok (.iload 4, 2) := by decide +kernel
theorem dX12_isBound_57 : decode cX12_isBound 57 = .ok (.aload_n 0, 1) := by decide +kernel
theorem dX12_isBound_58 : decode cX12_isBound 58 = .ok (.getfield 28, 3) := by decide +kernel
theorem dX12_isBound_61 : decode cX12_isBound 61 = .ok (.iload_n 1, 1) := by decide +kernel
theorem dX12_isBound_62 : decode cX12_isBound 62 = .ok (.iconst 4, 1) := by decide +kernel
theorem dX12_isBound_63 : decode cX12_isBound 63 = .ok (.iadd, 1) := by decide +kernel
theorem dX12_isBound_64 : decode cX12_isBound 64 = .ok (.iaload, 1) := by decide +kernel
theorem dX12_isBound_65 : decode cX12_isBound 65 = .ok (.if_icmp .ge 36, 3) := by decide +kernel
theorem dX12_isBound_101 : decode cX12_isBound 101 = .ok (.aload_n 0, 1) := by decide +kernel
theorem dX12_isBound_102 : decode cX12_isBound 102 = .ok (.getfield 28, 3) := by decide +kernel
theorem dX12_isBound_105 : decode cX12_isBound 105 = .ok (.iload_n 1, 1) := by decide +kernel
theorem dX12_isBound_106 : decode cX12_isBound 106 = .ok (.iaload, 1) := by decide +kernel
theorem dX12_isBound_107 : decode cX12_isBound 107 = .ok (.bipush 6, 2) := by decide +kernel
theorem dX12_isBound_109 : decode cX12_isBound 109 = .ok (.if_icmp .ne 15, 3) := by decide +kernel
theorem dX12_isBound_124 : decode cX12_isBound 124 = .ok (.aload_n 0, 1) := by decide +kernel
theorem dX12_isBound_125 : decode cX12_isBound 125 = .ok (.iload_n 2, 1) := by decide +kernel
theorem dX12_isBound_126 : decode cX12_isBound 126 = .ok (.iload_n 3, 1) := by decide +kernel
theorem dX12_isBound_127 : decode cX12_isBound 127 = .ok (.sipush 3629, 3) := by decide +kernel
theorem dX12_isBound_130 : decode cX12_isBound 130 = .ok (.invokevirtual 145, 3) := by decide +kernel
theorem dX12_isBound_133 : decode cX12_isBound 133 = .ok (.ifCond .lt 7, 3) := by decide +kernel
theorem dX12_isBound_140 : decode cX12_isBound 140 = .ok (.iconst 0, 1) := by decide +kernel
theorem dX12_isBound_141 : decode cX12_isBound 141 = .ok (.ireturn, 1) := by decide +kernel
theorem dX12_isBound_136 : decode cX12_isBound 136 = .ok (.iconst 1, 1) := by decide +kernel
theorem dX12_isBound_137 : decode cX12_isBound 137 = .ok (.goto 4, 3) := by decide +kernel
theorem dX12_isBound_112 : decode cX12_isBound 112 = .ok (.aload_n 0, 1) := by decide +kernel
theorem dX12_isBound_113 : decode cX12_isBound 113 = .ok (.iload_n 2, 1) := by decide +kernel
theorem dX12_isBound_114 : decode cX12_isBound 114 = .ok (.iload_n 3, 1) := by decide +kernel
theorem dX12_isBound_115 : decode cX12_isBound 115 = .ok (.sipush 3629, 3) := by decide +kernel
theorem dX12_isBound_118 : decode cX12_isBound 118 = .ok (.invokevirtual 136, 3) := by decide +kernel
theorem dX12_isBound_121 : decode cX12_isBound 121 = .ok (.goto 12, 3) := by decide +kernel
theorem dX12_isBound_68 : decode cX12_isBound 68 = .ok (.aload_n 0, 1) := by decide +kernel
theorem dX12_isBound_69 : decode cX12_isBound 69 = .ok (.getfield 9, 3) := by decide +kernel
theorem dX12_isBound_72 : decode cX12_isBound 72 = .ok (.sipush 3630, 3) := by decide +kernel
theorem dX12_isBound_75 : decode cX12_isBound 75 = .ok (.iload 4, 2) := by decide +kernel
theorem dX12_isBound_77 : decode cX12_isBound 77 = .ok (.iadd, 1) := by decide +kernel
theorem dX12_isBound_78 : decode cX12_isBound 78 = .ok (.aload_n 0, 1) := by decide +kernel
theorem dX12_isBound_79 : decode cX12_isBound 79 = .ok (.getfield 31, 3) := by decide +kernel
theorem dX12_isBound_82 : decode cX12_isBound 82 = .ok (.aload_n 0, 1) := by decide +kernel
theorem dX12_isBound_83 : decode cX12_isBound 83 = .ok (.getfield 28, 3) := by decide +kernel
theorem dX12_isBound_86 : decode cX12_isBound 86 = .ok (.iload_n 1, 1) := by decide +kernel
theorem dX12_isBound_87 : decode cX12_isBound 87 = .ok (.iconst 3, 1) := by decide +kernel
theorem dX12_isBound_88 : decode cX12_isBound 88 = .ok (.iadd, 1) := by decide +kernel
theorem dX12_isBound_89 : decode cX12_isBound 89 = .ok (.iaload, 1) := by decide +kernel
theorem dX12_isBound_90 : decode cX12_isBound 90 = .ok (.iload 4, 2) := by decide +kernel
theorem dX12_isBound_92 : decode cX12_isBound 92 = .ok (.iadd, 1) := by decide +kernel
theorem dX12_isBound_93 : decode cX12_isBound 93 = .ok (.iaload, 1) := by decide +kernel
theorem dX12_isBound_94 : decode cX12_isBound 94 = .ok (.iastore, 1) := by decide +kernel
theorem rl36 : ∀ z0, z0 < 4 → bd (3630 + z0) = FREE := by decide +kernel
theorem dX12_isBound_95 : decode cX12_isBound 95 = .ok (.iinc 4 1, 3) := by decide +kernel
theorem dX12_isBound_98 : decode cX12_isBound 98 = .ok (.goto (-43), 3) := by decide +kernel
set_option maxRecDepth 100000 in
set_option maxHeartbeats 4000000 in
theorem rX12_isBound (l : Launch) (D : va_G) (Y : Nat → ClassId) (h0 : Nat) (h1 : Nat) (h2 : Nat) (h3 : Nat) (h4 : Nat) (h5 : Nat) (h6 : Nat) (p2 : Int32) (k5 : Nat) (k6 : Nat) (p7 : Int32) (p8 : Int32) (p9 : Int32) (k10 : Nat) (p11 : Int32) (q12 : Int64) (k15 : Nat) (k16 : Nat) (f0 : Nat → Int32) (f1 : Nat → Int32) (f3 : Nat → Int32) (f4 : Nat → Int32) (f13 : Nat → Int32) (f14 : Nat → Int32) (ph : Nat → Int32) (HI : INV ph f0) (HL : k5 ≤ 1600) (HP : PLV f13) (s0 : Nat) (hn0 : s0 < 40) (sz : Nat) : Met l yX12_isBound (WSm yX12_isBound cX12_isBound 5 (some .boolean)) (mkR 6 0 0 135) (PreC D Y [.ref h0, .int (nI (5 * s0))] [(h0, oC 13 [.ref h1, .ref h2, .int p2, .ref h3, .ref h4, .int (nI k5), .int (nI k6), .int p7, .int p8, .int p9, .int (nI k10), .int p11, .long q12, .ref h5, .ref h6, .int (nI k15), .int (nI k16)]), (h1, aI Y 3640 f0), (h2, aZ Y 2 f1), (h3, aZ Y 80 f3), (h4, aB Y 1600 f4), (h5, aI Y 200 f13), (h6, aI Y 800 f14)] sz) (QI D (fun (r : Int32) (u : WU) => (r = 0 ∨ r = 1) ∧ INV ph (u.2.2.2.1 0)) (fun (u : WU) => [(h0, oC 13 [.ref h1, .ref h2, .int p2, .ref h3, .ref h4, .int (nI k5), .int (nI k6), .int p7, .int p8, .int p9, .int (nI k10), .int p11, .long q12, .ref h5, .ref h6, .int (nI k15), .int (nI k16)]), (h1, aI Y 3640 (u.2.2.2.1 0)), (h2, aZ Y 2 f1), (h3, aZ Y 80 f3), (h4, aB Y 1600 f4), (h5, aI Y 200 f13), (h6, aI Y 800 f14)]) (va_A [(h0, oC 13 [.ref h1, .ref h2, .int p2, .ref h3, .ref h4, .int (nI k5), .int (nI k6), .int p7, .int p8, .int p9, .int (nI k10), .int p11, .long q12, .ref h5, .ref h6, .int (nI k15), .int (nI k16)]), (h1, aI Y 3640 f0), (h2, aZ Y 2 f1), (h3, aZ Y 80 f3), (h4, aB Y 1600 f4), (h5, aI Y 200 f13), (h6, aI Y 800 f14)] sz)) 0 0 (va_A [(h0, oC 13 [.ref h1, .ref h2, .int p2, .ref h3, .ref h4, .int (nI k5), .int (nI k6), .int p7, .int p8, .int p9, .int (nI k10), .int p11, .long q12, .ref h5, .ref h6, .int (nI k15), .int (nI k16)]), (h1, aI Y 3640 f0), (h2, aZ Y 2 f1), (h3, aZ Y 80 f3), (h4, aB Y 1600 f4), (h5, aI Y 200 f13), (h6, aI Y 800 f14)] sz) :=
  met_of  (by decide +kernel) (Nat.le_of_ble_eq_true rfl) (fun p e s m args below meth c B hin hsz => by
    have B : VB p s m args meth c D Y (va_A [(h0, oC 13 [.ref h1, .ref h2, .int p2, .ref h3, .ref h4, .int (nI k5), .int (nI k6), .int p7, .int p8, .int p9, .int (nI k10), .int p11, .long q12, .ref h5, .ref h6, .int (nI k15), .int (nI k16)]), (h1, aI Y 3640 f0), (h2, aZ Y 2 f1), (h3, aZ Y 80 f3), (h4, aB Y 1600 f4), (h5, aI Y 200 f13), (h6, aI Y 800 f14)] sz) cX12_isBound 5 RX12 (some .boolean) := B
    refine V_aload_n 0 B dX12_isBound_0 0 rfl ?_
    refine V_get 1 B gf_RX12_28 0 rfl rfl dX12_isBound_1 ?_
    refine V_iload_n 4 B dX12_isBound_4 1 rfl ?_
    refine V_iconst 5 B (v := 1) dX12_isBound_5 (by decide +kernel) ?_
    refine V_iadd 6 B (v := (nI (1 + 5 * s0))) dX12_isBound_6 (nI_addE (a := 5 * s0) (b := 1) (by omega)) ?_
    refine V_iald 7 B 5 rfl (vp_in_nI (n := 1 + 5 * s0) (by omega) (by decide)) dX12_isBound_7 rfl ?_
    refine V_nmi (fun j0 e1 => ?_)
    refine V_istore_n 8 B (lv2 := [(2, .int j0), (0, .ref h0), (1, .int (nI (5 * s0)))]) dX12_isBound_8 (by decide) rfl ?_
    refine V_aload_n 9 B dX12_isBound_9 1 rfl ?_
    refine V_get 10 B gf_RX12_28 0 rfl rfl dX12_isBound_10 ?_
    refine V_iload_n 13 B dX12_isBound_13 2 rfl ?_
    refine V_iconst 14 B (v := 2) dX12_isBound_14 (by decide +kernel) ?_
    refine V_iadd 15 B (v := (nI (2 + 5 * s0))) dX12_isBound_15 (nI_addE (a := 5 * s0) (b := 2) (by omega)) ?_
    refine V_iald 16 B 5 rfl (vp_in_nI (n := 2 + 5 * s0) (by omega) (by decide)) dX12_isBound_16 rfl ?_
    refine V_nmi (fun j2 e3 => ?_)
    refine V_istore_n 17 B (lv2 := [(3, .int j2), (2, .int j0), (0, .ref h0), (1, .int (nI (5 * s0)))]) dX12_isBound_17 (by decide) rfl ?_
    refine V_aload_n 18 B dX12_isBound_18 2 rfl ?_
    refine V_iload_n 19 B dX12_isBound_19 1 rfl ?_
    refine V_cvi 20 B (st := []) (As := [.int j0]) (fun sz => rX12_isMode l D Y h0 h1 h2 h3 h4 h5 h6 p2 k5 k6 p7 p8 p9 k10 p11 q12 k15 k16 f0 f1 f3 f4 f13 f14 ph HI (by omega) HP j0 sz) glV_RX12_91 ⟨rfl, rfl⟩ ⟨(Nat.le_of_ble_eq_true rfl), (Nat.le_of_ble_eq_true rfl)⟩ ⟨(Nat.le_of_ble_eq_true rfl), (Nat.le_of_ble_eq_true rfl)⟩ [0, 0, 0, 0, 0, 0, 0] rfl 13 0 rfl rfl rfl rfl (Nat.le_of_ble_eq_true rfl) rfl (fun _ _ _ => rfl) dX12_isBound_20 (fun j4 u5 w6 => ?_)
    refine V_ws [(h0, oC 13 [.ref h1, .ref h2, .int p2, .ref h3, .ref h4, .int (nI k5), .int (nI k6), .int p7, .int p8, .int p9, .int (nI k10), .int p11, .long q12, .ref h5, .ref h6, .int (nI k15), .int (nI k16)]), (h1, aI Y 3640 f0), (h2, aZ Y 2 f1), (h3, aZ Y 80 f3), (h4, aB Y 1600 f4), (h5, aI Y 200 f13), (h6, aI Y 800 f14)] rfl ?_
    have x7 := w6
    clear w6
    have x11 : (gN f0 0) ≤ 6 := gN_le HI (by omega) (show bd 0 = (0, ((6 : Nat) : Int)) by decide +kernel)
    rcases x7 with rfl | ⟨rfl, n8, rfl, x10⟩
    ·
      refine V_if_eq_t 23 B 34 dX12_isBound_23 (by decide) (by decide +kernel) ?_
      refine V_iconst 34 B (v := 0) dX12_isBound_34 (by decide +kernel) ?_
      exact V_zret 35 B rfl dX12_isBound_35 (mkW [] [] [] [f0] [] []) ⟨(Or.inl rfl), HI⟩ rfl
    ·
      have e12 := nI_toInt (show n8 < 2 ^ 31 by omega)
      have x13 : (gN f0 0) ≤ 6 := gN_le HI (by omega) (show bd 0 = (0, ((6 : Nat) : Int)) by decide +kernel)
      refine V_if_eq_f 23 B 34 dX12_isBound_23 (by decide) (by decide +kernel) ?_
      refine V_aload_n 26 B dX12_isBound_26 2 rfl ?_
      refine V_iload_n 27 B dX12_isBound_27 0 rfl ?_
      refine V_cvi 28 B (st := []) (As := [.int j2]) (fun sz => rX12_isCommand l D Y h0 h1 h2 h3 h4 h5 h6 p2 k5 k6 p7 p8 p9 k10 p11 q12 k15 k16 f0 f1 f3 f4 f13 f14 ph HI (by omega) HP j2 sz) glV_RX12_99 ⟨rfl, rfl⟩ ⟨(Nat.le_of_ble_eq_true rfl), (Nat.le_of_ble_eq_true rfl)⟩ ⟨(Nat.le_of_ble_eq_true rfl), (Nat.le_of_ble_eq_true rfl)⟩ [0, 0, 0, 0, 0, 0, 0] rfl 13 0 rfl rfl rfl rfl (Nat.le_of_ble_eq_true rfl) rfl (fun _ _ _ => rfl) dX12_isBound_28 (fun j14 u15 w16 => ?_)
      refine V_ws [(h0, oC 13 [.ref h1, .ref h2, .int p2, .ref h3, .ref h4, .int (nI k5), .int (nI k6), .int p7, .int p8, .int p9, .int (nI k10), .int p11, .long q12, .ref h5, .ref h6, .int (nI k15), .int (nI k16)]), (h1, aI Y 3640 f0), (h2, aZ Y 2 f1), (h3, aZ Y 80 f3), (h4, aB Y 1600 f4), (h5, aI Y 200 f13), (h6, aI Y 800 f14)] rfl ?_
      have x17 := w16
      clear w16
      have x21 : (gN f0 1) ≤ 40 := gN_le HI (by omega) (show bd 1 = (0, ((40 : Nat) : Int)) by decide +kernel)
      rcases x17 with rfl | ⟨rfl, n18, rfl, x20⟩
      ·
        refine V_if_ne_f 31 B 36 dX12_isBound_31 (by decide) (by decide +kernel) ?_
        refine V_iconst 34 B (v := 0) dX12_isBound_34 (by decide +kernel) ?_
        exact V_zret 35 B rfl dX12_isBound_35 (mkW [] [] [] [f0] [] []) ⟨(Or.inl rfl), HI⟩ rfl
      ·
        have e22 := nI_toInt (show n18 < 2 ^ 31 by omega)
        have x23 : (gN f0 1) ≤ 40 := gN_le HI (by omega) (show bd 1 = (0, ((40 : Nat) : Int)) by decide +kernel)
        refine V_if_ne_t 31 B 36 dX12_isBound_31 (by decide) (by decide +kernel) ?_
        refine V_aload_n 36 B dX12_isBound_36 2 rfl ?_
        refine V_get 37 B gf_RX12_9 0 rfl rfl dX12_isBound_37 ?_
        refine V_sipush 40 B (v := 3629) dX12_isBound_40 (by decide +kernel) ?_
        refine V_aload_n 43 B dX12_isBound_43 2 rfl ?_
        refine V_get 44 B gf_RX12_28 0 rfl rfl dX12_isBound_44 ?_
        refine V_iload_n 47 B dX12_isBound_47 3 rfl ?_
        refine V_iconst 48 B (v := 4) dX12_isBound_48 (by decide +kernel) ?_
        refine V_iadd 49 B (v := (nI (4 + 5 * s0))) dX12_isBound_49 (nI_addE (a := 5 * s0) (b := 4) (by omega)) ?_
        refine V_iald 50 B 5 rfl (vp_in_nI (n := 4 + 5 * s0) (by omega) (by decide)) dX12_isBound_50 rfl ?_
        refine V_nmi (fun j24 e25 => ?_)
        have x26 : 0 ≤ j24.toInt ∧ j24.toInt ≤ 4 := by rw [e25, nI_clamp (show 4 + 5 * s0 < 2 ^ 31 by omega), show 4 + 5 * s0 = 5 * s0 + 4 by omega]; exact (HP s0 (by omega)).2
        obtain ⟨n27, x28, rfl⟩ := nat_of (x := j24) (n := 4) (by omega) (by omega)
        have e29 := nI_toInt (show n27 < 2 ^ 31 by omega)
        have hv30 : INV ph (upd f0 3629 (nI n27)) := INV_nat (v := n27) HI (show bd 3629 = (0, ((4 : Nat) : Int)) by decide +kernel) (by omega) (by decide)
        refine V_iast 51 B 1 rfl (vpin _ _ (by decide +kernel)) dX12_isBound_51 [(h0, oC 13 [.ref h1, .ref h2, .int p2, .ref h3, .ref h4, .int (nI k5), .int (nI k6), .int p7, .int p8, .int p9, .int (nI k10), .int p11, .long q12, .ref h5, .ref h6, .int (nI k15), .int (nI k16)]), (h1, aI Y 3640 (upd f0 3629 (nI n27))), (h2, aZ Y 2 f1), (h3, aZ Y 80 f3), (h4, aB Y 1600 f4), (h5, aI Y 200 f13), (h6, aI Y 800 f14)] rfl ?_
        refine V_iconst 52 B (v := 0) dX12_isBound_52 (by decide +kernel) ?_
        refine V_istore 53 B (lv2 := [(4, .int 0), (3, .int (nI n18)), (2, .int (nI n8)), (0, .ref h0), (1, .int (nI (5 * s0)))]) dX12_isBound_53 (by decide) rfl ?_
        refine V_wloop (α := WU) (fun a => 100000 - (a.1 0)) (fun a => INV ph (a.2.2.2.1 0) ∧ (a.1 0) ≤ 4000) (fun a => [(4, .int (nI (a.1 0))), (3, .int (nI n18)), (2, .int (nI n8)), (0, .ref h0), (1, .int (nI (5 * s0)))]) (fun a => [(h0, oC 13 [.ref h1, .ref h2, .int p2, .ref h3, .ref h4, .int (nI k5), .int (nI k6), .int p7, .int p8, .int p9, .int (nI k10), .int p11, .long q12, .ref h5, .ref h6, .int (nI k15), .int (nI k16)]), (h1, aI Y 3640 (a.2.2.2.1 0)), (h2, aZ Y 2 f1), (h3, aZ Y 80 f3), (h4, aB Y 1600 f4), (h5, aI Y 200 f13), (h6, aI Y 800 f14)]) (mkW [0] [] [] [(upd f0 3629 (nI n27))] [] []) ⟨hv30, (show 0 ≤ 4000 by omega)⟩ rfl rfl (fun a31 hI33 IH32 => ?_)
        refine V_lv [(4, .int (nI (a31.1 0))), (3, .int (nI n18)), (2, .int (nI n8)), (0, .ref h0), (1, .int (nI (5 * s0)))] [0, 1, 2, 3, 4] rfl ?_
        refine V_ws [(h0, oC 13 [.ref h1, .ref h2, .int p2, .ref h3, .ref h4, .int (nI k5), .int (nI k6), .int p7, .int p8, .int p9, .int (nI k10), .int p11, .long q12, .ref h5, .ref h6, .int (nI k15), .int (nI k16)]), (h1, aI Y 3640 (a31.2.2.2.1 0)), (h2, aZ Y 2 f1), (h3, aZ Y 80 f3), (h4, aB Y 1600 f4), (h5, aI Y 200 f13), (h6, aI Y 800 f14)] rfl ?_
        obtain ⟨x34, x35⟩ := hI33
        refine V_iload 55 B dX12_isBound_55 0 rfl ?_
        refine V_aload_n 57 B dX12_isBound_57 3 rfl ?_
        refine V_get 58 B gf_RX12_28 0 rfl rfl dX12_isBound_58 ?_
        refine V_iload_n 61 B dX12_isBound_61 4 rfl ?_
        refine V_iconst 62 B (v := 4) dX12_isBound_62 (by decide +kernel) ?_
        refine V_iadd 63 B (v := (nI (4 + 5 * s0))) dX12_isBound_63 (nI_addE (a := 5 * s0) (b := 4) (by omega)) ?_
        refine V_iald 64 B 5 rfl (vp_in_nI (n := 4 + 5 * s0) (by omega) (by decide)) dX12_isBound_64 rfl ?_
        refine V_nmi (fun j36 e37 => ?_)
        have x38 : 0 ≤ j36.toInt ∧ j36.toInt ≤ 4 := by rw [e37, nI_clamp (show 4 + 5 * s0 < 2 ^ 31 by omega), show 4 + 5 * s0 = 5 * s0 + 4 by omega]; exact (HP s0 (by omega)).2
        obtain ⟨n39, x40, rfl⟩ := nat_of (x := j36) (n := 4) (by omega) (by omega)
        have e41 := nI_toInt (show n39 < 2 ^ 31 by omega)
        refine V_icmp_ge 65 B 101 dX12_isBound_65 (by decide) (fun kk42 => ?_) (fun kk42 => ?_)
        ·
          have x43 := n_le (a := n39) (b := (a31.1 0)) kk42 (by omega) (by omega)
          refine V_aload_n 101 B dX12_isBound_101 3 rfl ?_
          refine V_get 102 B gf_RX12_28 0 rfl rfl dX12_isBound_102 ?_
          refine V_iload_n 105 B dX12_isBound_105 4 rfl ?_
          refine V_iald 106 B 5 rfl (vp_in_nI (n := 5 * s0) (by omega) (by decide)) dX12_isBound_106 rfl ?_
          refine V_nmi (fun j44 e45 => ?_)
          refine V_bipush 107 B (v := 6) dX12_isBound_107 (by decide +kernel) ?_
          refine V_icmp_ne 109 B 124 dX12_isBound_109 (by decide) (fun kk46 => ?_) (fun kk46 => ?_)
          ·
            have x47 := x_ne kk46
            rw [show (6 : Int32).toInt = 6 by decide +kernel] at x47
            refine V_aload_n 124 B dX12_isBound_124 3 rfl ?_
            refine V_iload_n 125 B dX12_isBound_125 2 rfl ?_
            refine V_iload_n 126 B dX12_isBound_126 1 rfl ?_
            refine V_sipush 127 B (v := 3629) dX12_isBound_127 (by decide +kernel) ?_
            refine V_cvi 130 B (st := []) (As := [.int (nI n8), .int (nI n18), .int 3629]) (fun sz => rX12_forced l D Y h0 h1 h2 h3 h4 h5 h6 p2 k5 k6 p7 p8 p9 k10 p11 q12 k15 k16 (a31.2.2.2.1 0) f1 f3 f4 f13 f14 ph x34 (by omega) HP (nI n8) n18 3629 (by omega) (show SQ 3629 by unfold SQ; decide +kernel) sz) glV_RX12_145 ⟨rfl, rfl⟩ ⟨(Nat.le_of_ble_eq_true rfl), (Nat.le_of_ble_eq_true rfl)⟩ ⟨(Nat.le_of_ble_eq_true rfl), (Nat.le_of_ble_eq_true rfl)⟩ [0, 0, 0, 0, 0, 0, 0] rfl 13 0 rfl rfl rfl rfl (Nat.le_of_ble_eq_true rfl) rfl (fun _ _ _ => rfl) dX12_isBound_130 (fun j48 u49 w50 => ?_)
            refine V_ws [(h0, oC 13 [.ref h1, .ref h2, .int p2, .ref h3, .ref h4, .int (nI k5), .int (nI k6), .int p7, .int p8, .int p9, .int (nI k10), .int p11, .long q12, .ref h5, .ref h6, .int (nI k15), .int (nI k16)]), (h1, aI Y 3640 (u49.2.2.2.1 0)), (h2, aZ Y 2 f1), (h3, aZ Y 80 f3), (h4, aB Y 1600 f4), (h5, aI Y 200 f13), (h6, aI Y 800 f14)] rfl ?_
            have x51 := w50
            clear w50
            refine V_if_lt 133 B 140 dX12_isBound_133 (by decide) (fun kk52 => ?_) (fun kk52 => ?_)
            ·
              have x53 := x_lt kk52
              rw [show (0 : Int32).toInt = 0 by decide +kernel] at x53
              refine V_iconst 140 B (v := 0) dX12_isBound_140 (by decide +kernel) ?_
              exact V_zret 141 B rfl dX12_isBound_141 (mkW [] [] [] [(u49.2.2.2.1 0)] [] []) ⟨(Or.inl rfl), x51⟩ rfl
            ·
              have x54 := x_nlt kk52
              rw [show (0 : Int32).toInt = 0 by decide +kernel] at x54
              refine V_iconst 136 B (v := 1) dX12_isBound_136 (by decide +kernel) ?_
              refine V_goto 137 B 141 dX12_isBound_137 (by decide) ?_
              exact V_zret 141 B rfl dX12_isBound_141 (mkW [] [] [] [(u49.2.2.2.1 0)] [] []) ⟨(Or.inr rfl), x51⟩ rfl
          ·
            obtain rfl : j44 = 6 := kk46
            have e56 : (6 : Int32).toInt = 6 := by decide +kernel
            refine V_aload_n 112 B dX12_isBound_112 3 rfl ?_
            refine V_iload_n 113 B dX12_isBound_113 2 rfl ?_
            refine V_iload_n 114 B dX12_isBound_114 1 rfl ?_
            refine V_sipush 115 B (v := 3629) dX12_isBound_115 (by decide +kernel) ?_
            refine V_cvi 118 B (st := []) (As := [.int (nI n8), .int (nI n18), .int 3629]) (fun sz => rX12_bound l D Y h0 h1 h2 h3 h4 h5 h6 p2 k5 k6 p7 p8 p9 k10 p11 q12 k15 k16 (a31.2.2.2.1 0) f1 f3 f4 f13 f14 ph x34 (by omega) HP (nI n8) n18 3629 (by omega) (show SQ 3629 by unfold SQ; decide +kernel) sz) glV_RX12_136 ⟨rfl, rfl⟩ ⟨(Nat.le_of_ble_eq_true rfl), (Nat.le_of_ble_eq_true rfl)⟩ ⟨(Nat.le_of_ble_eq_true rfl), (Nat.le_of_ble_eq_true rfl)⟩ [0, 0, 0, 0, 0, 0, 0] rfl 13 0 rfl rfl rfl rfl (Nat.le_of_ble_eq_true rfl) rfl (fun _ _ _ => rfl) dX12_isBound_118 (fun j57 u58 w59 => ?_)
            refine V_ws [(h0, oC 13 [.ref h1, .ref h2, .int p2, .ref h3, .ref h4, .int (nI k5), .int (nI k6), .int p7, .int p8, .int p9, .int (nI k10), .int p11, .long q12, .ref h5, .ref h6, .int (nI k15), .int (nI k16)]), (h1, aI Y 3640 (u58.2.2.2.1 0)), (h2, aZ Y 2 f1), (h3, aZ Y 80 f3), (h4, aB Y 1600 f4), (h5, aI Y 200 f13), (h6, aI Y 800 f14)] rfl ?_
            have x60 := w59
            clear w59
            refine V_goto 121 B 133 dX12_isBound_121 (by decide) ?_
            refine V_if_lt 133 B 140 dX12_isBound_133 (by decide) (fun kk61 => ?_) (fun kk61 => ?_)
            ·
              have x62 := x_lt kk61
              rw [show (0 : Int32).toInt = 0 by decide +kernel] at x62
              refine V_iconst 140 B (v := 0) dX12_isBound_140 (by decide +kernel) ?_
              exact V_zret 141 B rfl dX12_isBound_141 (mkW [] [] [] [(u58.2.2.2.1 0)] [] []) ⟨(Or.inl rfl), x60⟩ rfl
            ·
              have x63 := x_nlt kk61
              rw [show (0 : Int32).toInt = 0 by decide +kernel] at x63
              refine V_iconst 136 B (v := 1) dX12_isBound_136 (by decide +kernel) ?_
              refine V_goto 137 B 141 dX12_isBound_137 (by decide) ?_
              exact V_zret 141 B rfl dX12_isBound_141 (mkW [] [] [] [(u58.2.2.2.1 0)] [] []) ⟨(Or.inr rfl), x60⟩ rfl
        ·
          have x64 := n_nle (a := n39) (b := (a31.1 0)) kk42 (by omega) (by omega)
          refine V_aload_n 68 B dX12_isBound_68 3 rfl ?_
          refine V_get 69 B gf_RX12_9 0 rfl rfl dX12_isBound_69 ?_
          refine V_sipush 72 B (v := 3630) dX12_isBound_72 (by decide +kernel) ?_
          refine V_iload 75 B dX12_isBound_75 0 rfl ?_
          refine V_iadd 77 B (v := (nI (3630 + (a31.1 0)))) dX12_isBound_77 (nI_addE (a := 3630) (b := (a31.1 0)) (by omega)) ?_
          refine V_aload_n 78 B dX12_isBound_78 3 rfl ?_
          refine V_get 79 B gf_RX12_31 0 rfl rfl dX12_isBound_79 ?_
          refine V_aload_n 82 B dX12_isBound_82 3 rfl ?_
          refine V_get 83 B gf_RX12_28 0 rfl rfl dX12_isBound_83 ?_
          refine V_iload_n 86 B dX12_isBound_86 4 rfl ?_
          refine V_iconst 87 B (v := 3) dX12_isBound_87 (by decide +kernel) ?_
          refine V_iadd 88 B (v := (nI (3 + 5 * s0))) dX12_isBound_88 (nI_addE (a := 5 * s0) (b := 3) (by omega)) ?_
          refine V_iald 89 B 5 rfl (vp_in_nI (n := 3 + 5 * s0) (by omega) (by decide)) dX12_isBound_89 rfl ?_
          refine V_nmi (fun j65 e66 => ?_)
          have x67 : 0 ≤ j65.toInt ∧ j65.toInt ≤ 160 := by rw [e66, nI_clamp (show 3 + 5 * s0 < 2 ^ 31 by omega), show 3 + 5 * s0 = 5 * s0 + 3 by omega]; exact (HP s0 (by omega)).1
          obtain ⟨n68, x69, rfl⟩ := nat_of (x := j65) (n := 160) (by omega) (by omega)
          have e70 := nI_toInt (show n68 < 2 ^ 31 by omega)
          refine V_iload 90 B dX12_isBound_90 0 rfl ?_
          refine V_iadd 92 B (v := (nI ((a31.1 0) + n68))) dX12_isBound_92 (nI_addE (a := n68) (b := (a31.1 0)) (by omega)) ?_
          refine V_iald 93 B 6 rfl (vp_in_nI (n := (a31.1 0) + n68) (by omega) (by decide)) dX12_isBound_93 rfl ?_
          refine V_nmi (fun j71 e72 => ?_)
          have hv73 : INV ph (upd (a31.2.2.2.1 0) (3630 + (a31.1 0)) j71) := INV_free x34 (rl36 (a31.1 0) (by omega))
          refine V_iast 94 B 1 rfl (vp_in_nI (n := 3630 + (a31.1 0)) (by omega) (by decide)) dX12_isBound_94 [(h0, oC 13 [.ref h1, .ref h2, .int p2, .ref h3, .ref h4, .int (nI k5), .int (nI k6), .int p7, .int p8, .int p9, .int (nI k10), .int p11, .long q12, .ref h5, .ref h6, .int (nI k15), .int (nI k16)]), (h1, aI Y 3640 (upd (a31.2.2.2.1 0) (3630 + (a31.1 0)) j71)), (h2, aZ Y 2 f1), (h3, aZ Y 80 f3), (h4, aB Y 1600 f4), (h5, aI Y 200 f13), (h6, aI Y 800 f14)] (by rw [nI_clamp (show 3630 + (a31.1 0) < 2 ^ 31 by omega)]; rfl) ?_
          refine V_iinc 95 B (v := (nI (1 + (a31.1 0)))) (lv2 := [(4, .int (nI (1 + (a31.1 0)))), (3, .int (nI n18)), (2, .int (nI n8)), (0, .ref h0), (1, .int (nI (5 * s0)))]) dX12_isBound_95 0 rfl (nI_addE (a := (a31.1 0)) (b := 1) (by omega)) (by decide) rfl ?_
          refine V_goto 98 B 55 dX12_isBound_98 (by decide) ?_
          refine V_lv [(4, .int (nI (1 + (a31.1 0)))), (3, .int (nI n18)), (2, .int (nI n8)), (0, .ref h0), (1, .int (nI (5 * s0)))] [0, 1, 2, 3, 4] rfl ?_
          exact IH32 (mkW [1 + (a31.1 0)] [] [] [(upd (a31.2.2.2.1 0) (3630 + (a31.1 0)) j71)] [] []) ⟨hv73, (show 1 + (a31.1 0) ≤ 4000 by omega)⟩ (by show 100000 - (1 + (a31.1 0)) < 100000 - (a31.1 0); omega))
theorem dX12_isPlayed_0 : decode cX12_isPlayed 0 = .ok (.aload_n 0, 1) := by decide +kernel
theorem dX12_isPlayed_1 : decode cX12_isPlayed 1 = .ok (.getfield 28, 3) := by decide +kernel
theorem dX12_isPlayed_4 : decode cX12_isPlayed 4 = .ok (.iload_n 1, 1) := by decide +kernel
theorem dX12_isPlayed_5 : decode cX12_isPlayed 5 = .ok (.iconst 1, 1) := by decide +kernel
theorem dX12_isPlayed_6 : decode cX12_isPlayed 6 = .ok (.iadd, 1) := by decide +kernel
theorem dX12_isPlayed_7 : decode cX12_isPlayed 7 = .ok (.iaload, 1) := by decide +kernel
theorem dX12_isPlayed_8 : decode cX12_isPlayed 8 = .ok (.istore_n 2, 1) := by decide +kernel
theorem dX12_isPlayed_9 : decode cX12_isPlayed 9 = .ok (.aload_n 0, 1) := by decide +kernel
theorem dX12_isPlayed_10 : decode cX12_isPlayed 10 = .ok (.getfield 28, 3) := by decide +kernel
theorem dX12_isPlayed_13 : decode cX12_isPlayed 13 = .ok (.iload_n 1, 1) := by decide +kernel
theorem dX12_isPlayed_14 : decode cX12_isPlayed 14 = .ok (.iaload, 1) := by decide +kernel
theorem dX12_isPlayed_15 : decode cX12_isPlayed 15 = .ok (.tableswitch 152 0 5 #[37, 45, 51, 70, 91, 110], 37) := by decide +kernel
theorem dX12_isPlayed_52 : decode cX12_isPlayed 52 = .ok (.aload_n 0, 1) := by decide +kernel
theorem dX12_isPlayed_53 : decode cX12_isPlayed 53 = .ok (.iload_n 2, 1) := by decide +kernel
theorem dX12_isPlayed_54 : decode cX12_isPlayed 54 = .ok (.invokevirtual 373, 3) := by decide +kernel
theorem glV_RX12_373 : GLV RX12 373 yX12_press RX12 cX12_press 2 (some .int) 1 := ⟨⟨(mT10 78 rfl rfl), (mT9 90 rfl rfl), (mT9 91 rfl rfl), (mT1 13 rfl rfl), (mT9 92 rfl rfl)⟩, by decide +kernel⟩
theorem dX12_isPlayed_57 : decode cX12_isPlayed 57 = .ok (.pop, 1) := by decide +kernel
theorem dX12_isPlayed_58 : decode cX12_isPlayed 58 = .ok (.iconst 1, 1) := by decide +kernel
theorem dX12_isPlayed_59 : decode cX12_isPlayed 59 = .ok (.ireturn, 1) := by decide +kernel
theorem dX12_isPlayed_60 : decode cX12_isPlayed 60 = .ok (.aload_n 0, 1) := by decide +kernel
theorem dX12_isPlayed_61 : decode cX12_isPlayed 61 = .ok (.iload_n 2, 1) := by decide +kernel
theorem dX12_isPlayed_62 : decode cX12_isPlayed 62 = .ok (.invokevirtual 376, 3) := by decide +kernel
theorem glV_RX12_376 : GLV RX12 376 yX12_release RX12 cX12_release 3 (some .boolean) 1 := ⟨⟨(mT10 79 rfl rfl), (mT9 106 rfl rfl), (mT9 107 rfl rfl), (mT1 13 rfl rfl), (mT9 108 rfl rfl)⟩, by decide +kernel⟩
theorem dX12_isPlayed_65 : decode cX12_isPlayed 65 = .ok (.ireturn, 1) := by decide +kernel
theorem dX12_isPlayed_66 : decode cX12_isPlayed 66 = .ok (.aload_n 0, 1) := by decide +kernel
theorem dX12_isPlayed_67 : decode cX12_isPlayed 67 = .ok (.iload_n 2, 1) := by decide +kernel
theorem dX12_isPlayed_68 : decode cX12_isPlayed 68 = .ok (.invokevirtual 379, 3) := by decide +kernel
theorem glV_RX12_379 : GLV RX12 379 yX12_hold RX12 cX12_hold 3 (some .int) 1 := ⟨⟨(mT10 80 rfl rfl), (mT9 73 rfl rfl), (mT9 74 rfl rfl), (mT1 13 rfl rfl), (mT9 75 rfl rfl)⟩, by decide +kernel⟩
theorem dX12_isPlayed_71 : decode cX12_isPlayed 71 = .ok (.pop, 1) := by decide +kernel
theorem dX12_isPlayed_72 : decode cX12_isPlayed 72 = .ok (.aload_n 0, 1) := by decide +kernel
theorem dX12_isPlayed_73 : decode cX12_isPlayed 73 = .ok (.getfield 38, 3) := by decide +kernel
theorem gf_RX12_38 : GF RX12 38 13 2 := ⟨RX12, TX12, 17, rfl, inw_X12, Nat.le_of_ble_eq_true rfl, (mT7 139 rfl rfl)⟩
theorem dX12_isPlayed_76 : decode cX12_isPlayed 76 = .ok (.ifCond .ne 7, 3) := by decide +kernel
theorem dX12_isPlayed_83 : decode cX12_isPlayed 83 = .ok (.iconst 0, 1) := by decide +kernel
theorem dX12_isPlayed_84 : decode cX12_isPlayed 84 = .ok (.ireturn, 1) := by decide +kernel
theorem dX12_isPlayed_79 : decode cX12_isPlayed 79 = .ok (.iconst 1, 1) := by decide +kernel
theorem dX12_isPlayed_80 : decode cX12_isPlayed 80 = .ok (.goto 4, 3) := by decide +kernel
theorem dX12_isPlayed_85 : decode cX12_isPlayed 85 = .ok (.aload_n 0, 1) := by decide +kernel
theorem dX12_isPlayed_86 : decode cX12_isPlayed 86 = .ok (.iload_n 2, 1) := by decide +kernel
theorem dX12_isPlayed_87 : decode cX12_isPlayed 87 = .ok (.invokevirtual 382, 3) := by decide +kernel
theorem glV_RX12_382 : GLV RX12 382 yX12_tick RX12 cX12_tick 2 (some .int) 1 := ⟨⟨(mT10 81 rfl rfl), (mT9 118 rfl rfl), (mT9 119 rfl rfl), (mT1 13 rfl rfl), (mT9 120 rfl rfl)⟩, by decide +kernel⟩
theorem dX12_isPlayed_90 : decode cX12_isPlayed 90 = .ok (.ifCond .le 14, 3) := by decide +kernel
theorem dX12_isPlayed_104 : decode cX12_isPlayed 104 = .ok (.iconst 0, 1) := by decide +kernel
theorem dX12_isPlayed_105 : decode cX12_isPlayed 105 = .ok (.ireturn, 1) := by decide +kernel
theorem dX12_isPlayed_93 : decode cX12_isPlayed 93 = .ok (.aload_n 0, 1) := by decide +kernel
theorem dX12_isPlayed_94 : decode cX12_isPlayed 94 = .ok (.getfield 38, 3) := by decide +kernel
theorem dX12_isPlayed_97 : decode cX12_isPlayed 97 = .ok (.ifCond .ne 7, 3) := by decide +kernel
theorem dX12_isPlayed_100 : decode cX12_isPlayed 100 = .ok (.iconst 1, 1) := by decide +kernel
theorem dX12_isPlayed_101 : decode cX12_isPlayed 101 = .ok (.goto 4, 3) := by decide +kernel
theorem dX12_isPlayed_106 : decode cX12_isPlayed 106 = .ok (.aload_n 0, 1) := by decide +kernel
theorem dX12_isPlayed_107 : decode cX12_isPlayed 107 = .ok (.iload_n 2, 1) := by decide +kernel
theorem dX12_isPlayed_108 : decode cX12_isPlayed 108 = .ok (.invokevirtual 385, 3) := by decide +kernel
theorem glV_RX12_385 : GLV RX12 385 yX12_unbind RX12 cX12_unbind 2 (some .int) 1 := ⟨⟨(mT10 82 rfl rfl), (mT8 137 rfl rfl), (mT8 138 rfl rfl), (mT1 13 rfl rfl), (mT8 139 rfl rfl)⟩, by decide +kernel⟩
theorem dX12_isPlayed_111 : decode cX12_isPlayed 111 = .ok (.pop, 1) := by decide +kernel
theorem dX12_isPlayed_112 : decode cX12_isPlayed 112 = .ok (.aload_n 0, 1) := by decide +kernel
theorem dX12_isPlayed_113 : decode cX12_isPlayed 113 = .ok (.getfield 38, 3) := by decide +kernel
theorem dX12_isPlayed_116 : decode cX12_isPlayed 116 = .ok (.ifCond .ne 7, 3) := by decide +kernel
theorem dX12_isPlayed_123 : decode cX12_isPlayed 123 = .ok (.iconst 0, 1) := by decide +kernel
theorem dX12_isPlayed_124 : decode cX12_isPlayed 124 = .ok (.ireturn, 1) := by decide +kernel
theorem dX12_isPlayed_119 : decode cX12_isPlayed 119 = .ok (.iconst 1, 1) := by decide +kernel
theorem dX12_isPlayed_120 : decode cX12_isPlayed 120 = .ok (.goto 4, 3) := by decide +kernel
theorem dX12_isPlayed_125 : decode cX12_isPlayed 125 = .ok (.iconst 0, 1) := by decide +kernel
theorem dX12_isPlayed_126 : decode cX12_isPlayed 126 = .ok (.istore_n 3, 1) := by decide +kernel
theorem dX12_isPlayed_127 : decode cX12_isPlayed 127 = .ok (.iload_n 3, 1) := by decide +kernel
theorem dX12_isPlayed_128 : decode cX12_isPlayed 128 = .ok (.aload_n 0, 1) := by decide +kernel
theorem dX12_isPlayed_129 : decode cX12_isPlayed 129 = .ok (.getfield 28, 3) := by decide +kernel
theorem dX12_isPlayed_132 : decode cX12_isPlayed 132 = .ok (.iload_n 1, 1) := by decide +kernel
theorem dX12_isPlayed_133 : decode cX12_isPlayed 133 = .ok (.iconst 4, 1) := by decide +kernel
theorem dX12_isPlayed_134 : decode cX12_isPlayed 134 = .ok (.iadd, 1) := by decide +kernel
theorem dX12_isPlayed_135 : decode cX12_isPlayed 135 = .ok (.iaload, 1) := by decide +kernel
theorem dX12_isPlayed_136 : decode cX12_isPlayed 136 = .ok (.if_icmp .ge 29, 3) := by decide +kernel
theorem dX12_isPlayed_165 : decode cX12_isPlayed 165 = .ok (.iconst 1, 1) := by decide +kernel
theorem dX12_isPlayed_166 : decode cX12_isPlayed 166 = .ok (.ireturn, 1) := by decide +kernel
theorem dX12_isPlayed_139 : decode cX12_isPlayed 139 = .ok (.aload_n 0, 1) := by decide +kernel
theorem dX12_isPlayed_140 : decode cX12_isPlayed 140 = .ok (.aload_n 0, 1) := by decide +kernel
theorem dX12_isPlayed_141 : decode cX12_isPlayed 141 = .ok (.getfield 31, 3) := by decide +kernel
theorem dX12_isPlayed_144 : decode cX12_isPlayed 144 = .ok (.aload_n 0, 1) := by decide +kernel
theorem dX12_isPlayed_145 : decode cX12_isPlayed 145 = .ok (.getfield 28, 3) := by decide +kernel
theorem dX12_isPlayed_148 : decode cX12_isPlayed 148 = .ok (.iload_n 1, 1) := by decide +kernel
theorem dX12_isPlayed_149 : decode cX12_isPlayed 149 = .ok (.iconst 3, 1) := by decide +kernel
theorem dX12_isPlayed_150 : decode cX12_isPlayed 150 = .ok (.iadd, 1) := by decide +kernel
theorem dX12_isPlayed_151 : decode cX12_isPlayed 151 = .ok (.iaload, 1) := by decide +kernel
theorem dX12_isPlayed_152 : decode cX12_isPlayed 152 = .ok (.iload_n 3, 1) := by decide +kernel
theorem dX12_isPlayed_153 : decode cX12_isPlayed 153 = .ok (.iadd, 1) := by decide +kernel
theorem dX12_isPlayed_154 : decode cX12_isPlayed 154 = .ok (.iaload, 1) := by decide +kernel
theorem dX12_isPlayed_155 : decode cX12_isPlayed 155 = .ok (.invokevirtual 218, 3) := by decide +kernel
theorem dX12_isPlayed_158 : decode cX12_isPlayed 158 = .ok (.pop, 1) := by decide +kernel
theorem dX12_isPlayed_159 : decode cX12_isPlayed 159 = .ok (.iinc 3 1, 3) := by decide +kernel
theorem dX12_isPlayed_162 : decode cX12_isPlayed 162 = .ok (.goto (-35), 3) := by decide +kernel
theorem dX12_isPlayed_167 : decode cX12_isPlayed 167 = .ok (.aload_n 0, 1) := by decide +kernel
theorem dX12_isPlayed_168 : decode cX12_isPlayed 168 = .ok (.iload_n 1, 1) := by decide +kernel
theorem dX12_isPlayed_169 : decode cX12_isPlayed 169 = .ok (.invokevirtual 388, 3) := by decide +kernel
theorem glV_RX12_388 : GLV RX12 388 yX12_isBound RX12 cX12_isBound 5 (some .boolean) 1 := ⟨⟨(mT10 83 rfl rfl), (mT10 85 rfl rfl), (mTs 97 rfl rfl), (mT1 13 rfl rfl), (mT10 86 rfl rfl)⟩, by decide +kernel⟩
theorem dX12_isPlayed_172 : decode cX12_isPlayed 172 = .ok (.ireturn, 1) := by decide +kernel
set_option maxRecDepth 100000 in
set_option maxHeartbeats 4000000 in
theorem rX12_isPlayed (l : Launch) (D : va_G) (Y : Nat → ClassId) (h0 : Nat) (h1 : Nat) (h2 : Nat) (h3 : Nat) (h4 : Nat) (h5 : Nat) (h6 : Nat) (p2 : Int32) (k5 : Nat) (k6 : Nat) (p7 : Int32) (p8 : Int32) (p9 : Int32) (k10 : Nat) (p11 : Int32) (q12 : Int64) (k15 : Nat) (k16 : Nat) (f0 : Nat → Int32) (f1 : Nat → Int32) (f3 : Nat → Int32) (f4 : Nat → Int32) (f13 : Nat → Int32) (f14 : Nat → Int32) (ph : Nat → Int32) (HI : INV ph f0) (HL : k5 ≤ 1600) (HP : PLV f13) (s0 : Nat) (hn0 : s0 < 40) (sz : Nat) : Met l yX12_isPlayed (WSm yX12_isPlayed cX12_isPlayed 4 (some .boolean)) (mkR 9 0 0 204) (PreC D Y [.ref h0, .int (nI (5 * s0))] [(h0, oC 13 [.ref h1, .ref h2, .int p2, .ref h3, .ref h4, .int (nI k5), .int (nI k6), .int p7, .int p8, .int p9, .int (nI k10), .int p11, .long q12, .ref h5, .ref h6, .int (nI k15), .int (nI k16)]), (h1, aI Y 3640 f0), (h2, aZ Y 2 f1), (h3, aZ Y 80 f3), (h4, aB Y 1600 f4), (h5, aI Y 200 f13), (h6, aI Y 800 f14)] sz) (QI D (fun (r : Int32) (u : WU) => (r = 0 ∨ r = 1) ∧ INV ph (u.2.2.2.1 0)) (fun (u : WU) => [(h0, oC 13 [.ref h1, .ref h2, .int (u.2.1 0), .ref h3, .ref h4, .int (nI k5), .int (nI k6), .int p7, .int p8, .int p9, .int (nI k10), .int p11, .long q12, .ref h5, .ref h6, .int (nI k15), .int (nI k16)]), (h1, aI Y 3640 (u.2.2.2.1 0)), (h2, aZ Y 2 f1), (h3, aZ Y 80 f3), (h4, aB Y 1600 f4), (h5, aI Y 200 f13), (h6, aI Y 800 f14)]) (va_A [(h0, oC 13 [.ref h1, .ref h2, .int p2, .ref h3, .ref h4, .int (nI k5), .int (nI k6), .int p7, .int p8, .int p9, .int (nI k10), .int p11, .long q12, .ref h5, .ref h6, .int (nI k15), .int (nI k16)]), (h1, aI Y 3640 f0), (h2, aZ Y 2 f1), (h3, aZ Y 80 f3), (h4, aB Y 1600 f4), (h5, aI Y 200 f13), (h6, aI Y 800 f14)] sz)) 0 0 (va_A [(h0, oC 13 [.ref h1, .ref h2, .int p2, .ref h3, .ref h4, .int (nI k5), .int (nI k6), .int p7, .int p8, .int p9, .int (nI k10), .int p11, .long q12, .ref h5, .ref h6, .int (nI k15), .int (nI k16)]), (h1, aI Y 3640 f0), (h2, aZ Y 2 f1), (h3, aZ Y 80 f3), (h4, aB Y 1600 f4), (h5, aI Y 200 f13), (h6, aI Y 800 f14)] sz) :=
  met_of  (by decide +kernel) (Nat.le_of_ble_eq_true rfl) (fun p e s m args below meth c B hin hsz => by
    have B : VB p s m args meth c D Y (va_A [(h0, oC 13 [.ref h1, .ref h2, .int p2, .ref h3, .ref h4, .int (nI k5), .int (nI k6), .int p7, .int p8, .int p9, .int (nI k10), .int p11, .long q12, .ref h5, .ref h6, .int (nI k15), .int (nI k16)]), (h1, aI Y 3640 f0), (h2, aZ Y 2 f1), (h3, aZ Y 80 f3), (h4, aB Y 1600 f4), (h5, aI Y 200 f13), (h6, aI Y 800 f14)] sz) cX12_isPlayed 4 RX12 (some .boolean) := B
    refine V_aload_n 0 B dX12_isPlayed_0 0 rfl ?_
    refine V_get 1 B gf_RX12_28 0 rfl rfl dX12_isPlayed_1 ?_
    refine V_iload_n 4 B dX12_isPlayed_4 1 rfl ?_
    refine V_iconst 5 B (v := 1) dX12_isPlayed_5 (by decide +kernel) ?_
    refine V_iadd 6 B (v := (nI (1 + 5 * s0))) dX12_isPlayed_6 (nI_addE (a := 5 * s0) (b := 1) (by omega)) ?_
    refine V_iald 7 B 5 rfl (vp_in_nI (n := 1 + 5 * s0) (by omega) (by decide)) dX12_isPlayed_7 rfl ?_
    refine V_nmi (fun j0 e1 => ?_)
    refine V_istore_n 8 B (lv2 := [(2, .int j0), (0, .ref h0), (1, .int (nI (5 * s0)))]) dX12_isPlayed_8 (by decide) rfl ?_
    refine V_aload_n 9 B dX12_isPlayed_9 1 rfl ?_
    refine V_get 10 B gf_RX12_28 0 rfl rfl dX12_isPlayed_10 ?_
    refine V_iload_n 13 B dX12_isPlayed_13 2 rfl ?_
    refine V_iald 14 B 5 rfl (vp_in_nI (n := 5 * s0) (by omega) (by decide)) dX12_isPlayed_14 rfl ?_
    refine V_nmi (fun j2 e3 => ?_)
    by_cases kk4 : j2 = 0
    ·
      refine V_eqi _ 0 kk4 ?_
      refine V_tableIn 15 B 52 dX12_isPlayed_15 (by decide +kernel) (by decide +kernel) (off := 37) (by decide +kernel) (by decide) ?_
      refine V_aload_n 52 B dX12_isPlayed_52 1 rfl ?_
      refine V_iload_n 53 B dX12_isPlayed_53 0 rfl ?_
      refine V_cvi 54 B (st := []) (As := [.int j0]) (fun sz => rX12_press l D Y h0 h1 h2 h3 h4 h5 h6 p2 k5 k6 p7 p8 p9 k10 p11 q12 k15 k16 f0 f1 f3 f4 f13 f14 ph HI (by omega) HP j0 sz) glV_RX12_373 ⟨rfl, rfl⟩ ⟨(Nat.le_of_ble_eq_true rfl), (Nat.le_of_ble_eq_true rfl)⟩ ⟨(Nat.le_of_ble_eq_true rfl), (Nat.le_of_ble_eq_true rfl)⟩ [0, 0, 0, 0, 0, 0, 0] rfl 13 0 rfl rfl rfl rfl (Nat.le_of_ble_eq_true rfl) rfl (fun _ _ _ => rfl) dX12_isPlayed_54 (fun j5 u6 w7 => ?_)
      refine V_ws [(h0, oC 13 [.ref h1, .ref h2, .int (u6.2.1 0), .ref h3, .ref h4, .int (nI k5), .int (nI k6), .int p7, .int p8, .int p9, .int (nI k10), .int p11, .long q12, .ref h5, .ref h6, .int (nI k15), .int (nI k16)]), (h1, aI Y 3640 (u6.2.2.2.1 0)), (h2, aZ Y 2 f1), (h3, aZ Y 80 f3), (h4, aB Y 1600 f4), (h5, aI Y 200 f13), (h6, aI Y 800 f14)] rfl ?_
      have x8 := w7
      clear w7
      refine V_pop 57 B dX12_isPlayed_57 rfl ?_
      refine V_iconst 58 B (v := 1) dX12_isPlayed_58 (by decide +kernel) ?_
      exact V_zret 59 B rfl dX12_isPlayed_59 (mkW [] [(u6.2.1 0)] [] [(u6.2.2.2.1 0)] [] []) ⟨(Or.inr rfl), x8⟩ rfl
    ·
      by_cases kk9 : j2 = 1
      ·
        refine V_eqi _ 1 kk9 ?_
        refine V_tableIn 15 B 60 dX12_isPlayed_15 (by decide +kernel) (by decide +kernel) (off := 45) (by decide +kernel) (by decide) ?_
        refine V_aload_n 60 B dX12_isPlayed_60 1 rfl ?_
        refine V_iload_n 61 B dX12_isPlayed_61 0 rfl ?_
        refine V_cvi 62 B (st := []) (As := [.int j0]) (fun sz => rX12_release l D Y h0 h1 h2 h3 h4 h5 h6 p2 k5 k6 p7 p8 p9 k10 p11 q12 k15 k16 f0 f1 f3 f4 f13 f14 ph HI (by omega) HP j0 sz) glV_RX12_376 ⟨rfl, rfl⟩ ⟨(Nat.le_of_ble_eq_true rfl), (Nat.le_of_ble_eq_true rfl)⟩ ⟨(Nat.le_of_ble_eq_true rfl), (Nat.le_of_ble_eq_true rfl)⟩ [0, 0, 0, 0, 0, 0, 0] rfl 13 0 rfl rfl rfl rfl (Nat.le_of_ble_eq_true rfl) rfl (fun _ _ _ => rfl) dX12_isPlayed_62 (fun j10 u11 w12 => ?_)
        refine V_ws [(h0, oC 13 [.ref h1, .ref h2, .int (u11.2.1 0), .ref h3, .ref h4, .int (nI k5), .int (nI k6), .int p7, .int p8, .int p9, .int (nI k10), .int p11, .long q12, .ref h5, .ref h6, .int (nI k15), .int (nI k16)]), (h1, aI Y 3640 (u11.2.2.2.1 0)), (h2, aZ Y 2 f1), (h3, aZ Y 80 f3), (h4, aB Y 1600 f4), (h5, aI Y 200 f13), (h6, aI Y 800 f14)] rfl ?_
        obtain ⟨x13, x14⟩ := w12
        rcases x13 with rfl | rfl
        ·
          exact V_zret 65 B rfl dX12_isPlayed_65 (mkW [] [(u11.2.1 0)] [] [(u11.2.2.2.1 0)] [] []) ⟨(Or.inl rfl), x14⟩ rfl
        ·
          exact V_zret 65 B rfl dX12_isPlayed_65 (mkW [] [(u11.2.1 0)] [] [(u11.2.2.2.1 0)] [] []) ⟨(Or.inr rfl), x14⟩ rfl
      ·
        by_cases kk15 : j2 = 2
        ·
          refine V_eqi _ 2 kk15 ?_
          refine V_tableIn 15 B 66 dX12_isPlayed_15 (by decide +kernel) (by decide +kernel) (off := 51) (by decide +kernel) (by decide) ?_
          refine V_aload_n 66 B dX12_isPlayed_66 1 rfl ?_
          refine V_iload_n 67 B dX12_isPlayed_67 0 rfl ?_
          refine V_cvi 68 B (st := []) (As := [.int j0]) (fun sz => rX12_hold l D Y h0 h1 h2 h3 h4 h5 h6 p2 k5 k6 p7 p8 p9 k10 p11 q12 k15 k16 f0 f1 f3 f4 f13 f14 ph HI (by omega) HP j0 sz) glV_RX12_379 ⟨rfl, rfl⟩ ⟨(Nat.le_of_ble_eq_true rfl), (Nat.le_of_ble_eq_true rfl)⟩ ⟨(Nat.le_of_ble_eq_true rfl), (Nat.le_of_ble_eq_true rfl)⟩ [0, 0, 0, 0, 0, 0, 0] rfl 13 0 rfl rfl rfl rfl (Nat.le_of_ble_eq_true rfl) rfl (fun _ _ _ => rfl) dX12_isPlayed_68 (fun j16 u17 w18 => ?_)
          refine V_ws [(h0, oC 13 [.ref h1, .ref h2, .int (u17.2.1 0), .ref h3, .ref h4, .int (nI k5), .int (nI k6), .int p7, .int p8, .int p9, .int (nI k10), .int p11, .long q12, .ref h5, .ref h6, .int (nI k15), .int (nI k16)]), (h1, aI Y 3640 (u17.2.2.2.1 0)), (h2, aZ Y 2 f1), (h3, aZ Y 80 f3), (h4, aB Y 1600 f4), (h5, aI Y 200 f13), (h6, aI Y 800 f14)] rfl ?_
          have x19 := w18
          clear w18
          refine V_pop 71 B dX12_isPlayed_71 rfl ?_
          refine V_aload_n 72 B dX12_isPlayed_72 1 rfl ?_
          refine V_get 73 B gf_RX12_38 0 rfl rfl dX12_isPlayed_73 ?_
          refine V_if_ne 76 B 83 dX12_isPlayed_76 (by decide) (fun kk20 => ?_) (fun kk20 => ?_)
          ·
            have x21 := x_ne kk20
            rw [show (0 : Int32).toInt = 0 by decide +kernel] at x21
            refine V_iconst 83 B (v := 0) dX12_isPlayed_83 (by decide +kernel) ?_
            exact V_zret 84 B rfl dX12_isPlayed_84 (mkW [] [(u17.2.1 0)] [] [(u17.2.2.2.1 0)] [] []) ⟨(Or.inl rfl), x19⟩ rfl
          ·
            have x22 := x_eq kk20
            rw [show (0 : Int32).toInt = 0 by decide +kernel] at x22
            refine V_iconst 79 B (v := 1) dX12_isPlayed_79 (by decide +kernel) ?_
            refine V_goto 80 B 84 dX12_isPlayed_80 (by decide) ?_
            exact V_zret 84 B rfl dX12_isPlayed_84 (mkW [] [(u17.2.1 0)] [] [(u17.2.2.2.1 0)] [] []) ⟨(Or.inr rfl), x19⟩ rfl
        ·
          by_cases kk23 : j2 = 3
          ·
            refine V_eqi _ 3 kk23 ?_
            refine V_tableIn 15 B 85 dX12_isPlayed_15 (by decide +kernel) (by decide +kernel) (off := 70) (by decide +kernel) (by decide) ?_
            refine V_aload_n 85 B dX12_isPlayed_85 1 rfl ?_
            refine V_iload_n 86 B dX12_isPlayed_86 0 rfl ?_
            refine V_cvi 87 B (st := []) (As := [.int j0]) (fun sz => rX12_tick l D Y h0 h1 h2 h3 h4 h5 h6 p2 k5 k6 p7 p8 p9 k10 p11 q12 k15 k16 f0 f1 f3 f4 f13 f14 ph HI (by omega) HP j0 sz) glV_RX12_382 ⟨rfl, rfl⟩ ⟨(Nat.le_of_ble_eq_true rfl), (Nat.le_of_ble_eq_true rfl)⟩ ⟨(Nat.le_of_ble_eq_true rfl), (Nat.le_of_ble_eq_true rfl)⟩ [0, 0, 0, 0, 0, 0, 0] rfl 13 0 rfl rfl rfl rfl (Nat.le_of_ble_eq_true rfl) rfl (fun _ _ _ => rfl) dX12_isPlayed_87 (fun j24 u25 w26 => ?_)
            refine V_ws [(h0, oC 13 [.ref h1, .ref h2, .int (u25.2.1 0), .ref h3, .ref h4, .int (nI k5), .int (nI k6), .int p7, .int p8, .int p9, .int (nI k10), .int p11, .long q12, .ref h5, .ref h6, .int (nI k15), .int (nI k16)]), (h1, aI Y 3640 (u25.2.2.2.1 0)), (h2, aZ Y 2 f1), (h3, aZ Y 80 f3), (h4, aB Y 1600 f4), (h5, aI Y 200 f13), (h6, aI Y 800 f14)] rfl ?_
            have x27 := w26
            clear w26
            refine V_if_le 90 B 104 dX12_isPlayed_90 (by decide) (fun kk28 => ?_) (fun kk28 => ?_)
            ·
              have x29 := x_le kk28
              rw [show (0 : Int32).toInt = 0 by decide +kernel] at x29
              refine V_iconst 104 B (v := 0) dX12_isPlayed_104 (by decide +kernel) ?_
              exact V_zret 105 B rfl dX12_isPlayed_105 (mkW [] [(u25.2.1 0)] [] [(u25.2.2.2.1 0)] [] []) ⟨(Or.inl rfl), x27⟩ rfl
            ·
              have x30 := x_nle kk28
              rw [show (0 : Int32).toInt = 0 by decide +kernel] at x30
              refine V_aload_n 93 B dX12_isPlayed_93 1 rfl ?_
              refine V_get 94 B gf_RX12_38 0 rfl rfl dX12_isPlayed_94 ?_
              refine V_if_ne 97 B 104 dX12_isPlayed_97 (by decide) (fun kk31 => ?_) (fun kk31 => ?_)
              ·
                have x32 := x_ne kk31
                rw [show (0 : Int32).toInt = 0 by decide +kernel] at x32
                refine V_iconst 104 B (v := 0) dX12_isPlayed_104 (by decide +kernel) ?_
                exact V_zret 105 B rfl dX12_isPlayed_105 (mkW [] [(u25.2.1 0)] [] [(u25.2.2.2.1 0)] [] []) ⟨(Or.inl rfl), x27⟩ rfl
              ·
                have x33 := x_eq kk31
                rw [show (0 : Int32).toInt = 0 by decide +kernel] at x33
                refine V_iconst 100 B (v := 1) dX12_isPlayed_100 (by decide +kernel) ?_
                refine V_goto 101 B 105 dX12_isPlayed_101 (by decide) ?_
                exact V_zret 105 B rfl dX12_isPlayed_105 (mkW [] [(u25.2.1 0)] [] [(u25.2.2.2.1 0)] [] []) ⟨(Or.inr rfl), x27⟩ rfl
          ·
            by_cases kk34 : j2 = 4
            ·
              refine V_eqi _ 4 kk34 ?_
              refine V_tableIn 15 B 106 dX12_isPlayed_15 (by decide +kernel) (by decide +kernel) (off := 91) (by decide +kernel) (by decide) ?_
              refine V_aload_n 106 B dX12_isPlayed_106 1 rfl ?_
              refine V_iload_n 107 B dX12_isPlayed_107 0 rfl ?_
              refine V_cvi 108 B (st := []) (As := [.int j0]) (fun sz => rX12_unbind l D Y h0 h1 h2 h3 h4 h5 h6 p2 k5 k6 p7 p8 p9 k10 p11 q12 k15 k16 f0 f1 f3 f4 f13 f14 ph HI (by omega) HP j0 sz) glV_RX12_385 ⟨rfl, rfl⟩ ⟨(Nat.le_of_ble_eq_true rfl), (Nat.le_of_ble_eq_true rfl)⟩ ⟨(Nat.le_of_ble_eq_true rfl), (Nat.le_of_ble_eq_true rfl)⟩ [0, 0, 0, 0, 0, 0, 0] rfl 13 0 rfl rfl rfl rfl (Nat.le_of_ble_eq_true rfl) rfl (fun _ _ _ => rfl) dX12_isPlayed_108 (fun j35 u36 w37 => ?_)
              refine V_ws [(h0, oC 13 [.ref h1, .ref h2, .int (u36.2.1 0), .ref h3, .ref h4, .int (nI k5), .int (nI k6), .int p7, .int p8, .int p9, .int (nI k10), .int p11, .long q12, .ref h5, .ref h6, .int (nI k15), .int (nI k16)]), (h1, aI Y 3640 (u36.2.2.2.1 0)), (h2, aZ Y 2 f1), (h3, aZ Y 80 f3), (h4, aB Y 1600 f4), (h5, aI Y 200 f13), (h6, aI Y 800 f14)] rfl ?_
              have x38 := w37
              clear w37
              refine V_pop 111 B dX12_isPlayed_111 rfl ?_
              refine V_aload_n 112 B dX12_isPlayed_112 1 rfl ?_
              refine V_get 113 B gf_RX12_38 0 rfl rfl dX12_isPlayed_113 ?_
              refine V_if_ne 116 B 123 dX12_isPlayed_116 (by decide) (fun kk39 => ?_) (fun kk39 => ?_)
              ·
                have x40 := x_ne kk39
                rw [show (0 : Int32).toInt = 0 by decide +kernel] at x40
                refine V_iconst 123 B (v := 0) dX12_isPlayed_123 (by decide +kernel) ?_
                exact V_zret 124 B rfl dX12_isPlayed_124 (mkW [] [(u36.2.1 0)] [] [(u36.2.2.2.1 0)] [] []) ⟨(Or.inl rfl), x38⟩ rfl
              ·
                have x41 := x_eq kk39
                rw [show (0 : Int32).toInt = 0 by decide +kernel] at x41
                refine V_iconst 119 B (v := 1) dX12_isPlayed_119 (by decide +kernel) ?_
                refine V_goto 120 B 124 dX12_isPlayed_120 (by decide) ?_
                exact V_zret 124 B rfl dX12_isPlayed_124 (mkW [] [(u36.2.1 0)] [] [(u36.2.2.2.1 0)] [] []) ⟨(Or.inr rfl), x38⟩ rfl
            ·
              by_cases kk42 : j2 = 5
              ·
                refine V_eqi _ 5 kk42 ?_
                refine V_tableIn 15 B 125 dX12_isPlayed_15 (by decide +kernel) (by decide +kernel) (off := 110) (by decide +kernel) (by decide) ?_
                refine V_iconst 125 B (v := 0) dX12_isPlayed_125 (by decide +kernel) ?_
                refine V_istore_n 126 B (lv2 := [(3, .int 0), (2, .int j0), (0, .ref h0), (1, .int (nI (5 * s0)))]) dX12_isPlayed_126 (by decide) rfl ?_
                refine V_wloop (α := WU) (fun a => 100000 - (a.1 0)) (fun a => INV ph (a.2.2.2.1 0) ∧ (a.1 0) ≤ 4000) (fun a => [(3, .int (nI (a.1 0))), (2, .int j0), (0, .ref h0), (1, .int (nI (5 * s0)))]) (fun a => [(h0, oC 13 [.ref h1, .ref h2, .int p2, .ref h3, .ref h4, .int (nI k5), .int (nI k6), .int p7, .int p8, .int p9, .int (nI k10), .int p11, .long q12, .ref h5, .ref h6, .int (nI k15), .int (nI k16)]), (h1, aI Y 3640 (a.2.2.2.1 0)), (h2, aZ Y 2 f1), (h3, aZ Y 80 f3), (h4, aB Y 1600 f4), (h5, aI Y 200 f13), (h6, aI Y 800 f14)]) (mkW [0] [] [] [f0] [] []) ⟨HI, (show 0 ≤ 4000 by omega)⟩ rfl rfl (fun a43 hI45 IH44 => ?_)
                refine V_lv [(3, .int (nI (a43.1 0))), (2, .int j0), (0, .ref h0), (1, .int (nI (5 * s0)))] [0, 1, 2, 3] rfl ?_
                refine V_ws [(h0, oC 13 [.ref h1, .ref h2, .int p2, .ref h3, .ref h4, .int (nI k5), .int (nI k6), .int p7, .int p8, .int p9, .int (nI k10), .int p11, .long q12, .ref h5, .ref h6, .int (nI k15), .int (nI k16)]), (h1, aI Y 3640 (a43.2.2.2.1 0)), (h2, aZ Y 2 f1), (h3, aZ Y 80 f3), (h4, aB Y 1600 f4), (h5, aI Y 200 f13), (h6, aI Y 800 f14)] rfl ?_
                obtain ⟨x46, x47⟩ := hI45
                refine V_iload_n 127 B dX12_isPlayed_127 0 rfl ?_
                refine V_aload_n 128 B dX12_isPlayed_128 2 rfl ?_
                refine V_get 129 B gf_RX12_28 0 rfl rfl dX12_isPlayed_129 ?_
                refine V_iload_n 132 B dX12_isPlayed_132 3 rfl ?_
                refine V_iconst 133 B (v := 4) dX12_isPlayed_133 (by decide +kernel) ?_
                refine V_iadd 134 B (v := (nI (4 + 5 * s0))) dX12_isPlayed_134 (nI_addE (a := 5 * s0) (b := 4) (by omega)) ?_
                refine V_iald 135 B 5 rfl (vp_in_nI (n := 4 + 5 * s0) (by omega) (by decide)) dX12_isPlayed_135 rfl ?_
                refine V_nmi (fun j48 e49 => ?_)
                have x50 : 0 ≤ j48.toInt ∧ j48.toInt ≤ 4 := by rw [e49, nI_clamp (show 4 + 5 * s0 < 2 ^ 31 by omega), show 4 + 5 * s0 = 5 * s0 + 4 by omega]; exact (HP s0 (by omega)).2
                obtain ⟨n51, x52, rfl⟩ := nat_of (x := j48) (n := 4) (by omega) (by omega)
                have e53 := nI_toInt (show n51 < 2 ^ 31 by omega)
                refine V_icmp_ge 136 B 165 dX12_isPlayed_136 (by decide) (fun kk54 => ?_) (fun kk54 => ?_)
                ·
                  have x55 := n_le (a := n51) (b := (a43.1 0)) kk54 (by omega) (by omega)
                  refine V_iconst 165 B (v := 1) dX12_isPlayed_165 (by decide +kernel) ?_
                  exact V_zret 166 B rfl dX12_isPlayed_166 (mkW [] [p2] [] [(a43.2.2.2.1 0)] [] []) ⟨(Or.inr rfl), x46⟩ rfl
                ·
                  have x56 := n_nle (a := n51) (b := (a43.1 0)) kk54 (by omega) (by omega)
                  refine V_aload_n 139 B dX12_isPlayed_139 2 rfl ?_
                  refine V_aload_n 140 B dX12_isPlayed_140 2 rfl ?_
                  refine V_get 141 B gf_RX12_31 0 rfl rfl dX12_isPlayed_141 ?_
                  refine V_aload_n 144 B dX12_isPlayed_144 2 rfl ?_
                  refine V_get 145 B gf_RX12_28 0 rfl rfl dX12_isPlayed_145 ?_
                  refine V_iload_n 148 B dX12_isPlayed_148 3 rfl ?_
                  refine V_iconst 149 B (v := 3) dX12_isPlayed_149 (by decide +kernel) ?_
                  refine V_iadd 150 B (v := (nI (3 + 5 * s0))) dX12_isPlayed_150 (nI_addE (a := 5 * s0) (b := 3) (by omega)) ?_
                  refine V_iald 151 B 5 rfl (vp_in_nI (n := 3 + 5 * s0) (by omega) (by decide)) dX12_isPlayed_151 rfl ?_
                  refine V_nmi (fun j57 e58 => ?_)
                  have x59 : 0 ≤ j57.toInt ∧ j57.toInt ≤ 160 := by rw [e58, nI_clamp (show 3 + 5 * s0 < 2 ^ 31 by omega), show 3 + 5 * s0 = 5 * s0 + 3 by omega]; exact (HP s0 (by omega)).1
                  obtain ⟨n60, x61, rfl⟩ := nat_of (x := j57) (n := 160) (by omega) (by omega)
                  have e62 := nI_toInt (show n60 < 2 ^ 31 by omega)
                  refine V_iload_n 152 B dX12_isPlayed_152 0 rfl ?_
                  refine V_iadd 153 B (v := (nI ((a43.1 0) + n60))) dX12_isPlayed_153 (nI_addE (a := n60) (b := (a43.1 0)) (by omega)) ?_
                  refine V_iald 154 B 6 rfl (vp_in_nI (n := (a43.1 0) + n60) (by omega) (by decide)) dX12_isPlayed_154 rfl ?_
                  refine V_nmi (fun j63 e64 => ?_)
                  refine V_cvi 155 B (st := []) (As := [.int j63]) (fun sz => rX12_makes l D Y h0 h1 h2 h3 h4 h5 h6 p2 k5 k6 p7 p8 p9 k10 p11 q12 k15 k16 (a43.2.2.2.1 0) f1 f3 f4 f13 f14 ph x46 (by omega) HP j63 sz) glV_RX12_218 ⟨rfl, rfl⟩ ⟨(Nat.le_of_ble_eq_true rfl), (Nat.le_of_ble_eq_true rfl)⟩ ⟨(Nat.le_of_ble_eq_true rfl), (Nat.le_of_ble_eq_true rfl)⟩ [0, 0, 0, 0, 0, 0, 0] rfl 13 0 rfl rfl rfl rfl (Nat.le_of_ble_eq_true rfl) rfl (fun _ _ _ => rfl) dX12_isPlayed_155 (fun j65 u66 w67 => ?_)
                  refine V_ws [(h0, oC 13 [.ref h1, .ref h2, .int p2, .ref h3, .ref h4, .int (nI k5), .int (nI k6), .int p7, .int p8, .int p9, .int (nI k10), .int p11, .long q12, .ref h5, .ref h6, .int (nI k15), .int (nI k16)]), (h1, aI Y 3640 (u66.2.2.2.1 0)), (h2, aZ Y 2 f1), (h3, aZ Y 80 f3), (h4, aB Y 1600 f4), (h5, aI Y 200 f13), (h6, aI Y 800 f14)] rfl ?_
                  have x68 := w67
                  clear w67
                  refine V_pop 158 B dX12_isPlayed_158 rfl ?_
                  refine V_iinc 159 B (v := (nI (1 + (a43.1 0)))) (lv2 := [(3, .int (nI (1 + (a43.1 0)))), (2, .int j0), (0, .ref h0), (1, .int (nI (5 * s0)))]) dX12_isPlayed_159 0 rfl (nI_addE (a := (a43.1 0)) (b := 1) (by omega)) (by decide) rfl ?_
                  refine V_goto 162 B 127 dX12_isPlayed_162 (by decide) ?_
                  refine V_lv [(3, .int (nI (1 + (a43.1 0)))), (2, .int j0), (0, .ref h0), (1, .int (nI (5 * s0)))] [0, 1, 2, 3] rfl ?_
                  exact IH44 (mkW [1 + (a43.1 0)] [] [] [(u66.2.2.2.1 0)] [] []) ⟨x68, (show 1 + (a43.1 0) ≤ 4000 by omega)⟩ (by show 100000 - (1 + (a43.1 0)) < 100000 - (a43.1 0); omega)
              ·
                refine V_tableOut 15 B 167 dX12_isPlayed_15 (sw_out_0_5 kk4 kk9 kk15 kk23 kk34 kk42) (by decide) ?_
                refine V_aload_n 167 B dX12_isPlayed_167 1 rfl ?_
                refine V_iload_n 168 B dX12_isPlayed_168 2 rfl ?_
                refine V_cvi 169 B (st := []) (As := [.int (nI (5 * s0))]) (fun sz => rX12_isBound l D Y h0 h1 h2 h3 h4 h5 h6 p2 k5 k6 p7 p8 p9 k10 p11 q12 k15 k16 f0 f1 f3 f4 f13 f14 ph HI (by omega) HP s0 (by omega) sz) glV_RX12_388 ⟨rfl, rfl⟩ ⟨(Nat.le_of_ble_eq_true rfl), (Nat.le_of_ble_eq_true rfl)⟩ ⟨(Nat.le_of_ble_eq_true rfl), (Nat.le_of_ble_eq_true rfl)⟩ [0, 0, 0, 0, 0, 0, 0] rfl 13 0 rfl rfl rfl rfl (Nat.le_of_ble_eq_true rfl) rfl (fun _ _ _ => rfl) dX12_isPlayed_169 (fun j69 u70 w71 => ?_)
                refine V_ws [(h0, oC 13 [.ref h1, .ref h2, .int p2, .ref h3, .ref h4, .int (nI k5), .int (nI k6), .int p7, .int p8, .int p9, .int (nI k10), .int p11, .long q12, .ref h5, .ref h6, .int (nI k15), .int (nI k16)]), (h1, aI Y 3640 (u70.2.2.2.1 0)), (h2, aZ Y 2 f1), (h3, aZ Y 80 f3), (h4, aB Y 1600 f4), (h5, aI Y 200 f13), (h6, aI Y 800 f14)] rfl ?_
                obtain ⟨x72, x73⟩ := w71
                rcases x72 with rfl | rfl
                ·
                  exact V_zret 172 B rfl dX12_isPlayed_172 (mkW [] [p2] [] [(u70.2.2.2.1 0)] [] []) ⟨(Or.inl rfl), x73⟩ rfl
                ·
                  exact V_zret 172 B rfl dX12_isPlayed_172 (mkW [] [p2] [] [(u70.2.2.2.1 0)] [] []) ⟨(Or.inr rfl), x73⟩ rfl)
theorem dX12_play_0 : decode cX12_play 0 = .ok (.aload_n 0, 1) := by decide +kernel
theorem dX12_play_1 : decode cX12_play 1 = .ok (.iconst 0, 1) := by decide +kernel
theorem dX12_play_2 : decode cX12_play 2 = .ok (.putfield 38, 3) := by decide +kernel
theorem dX12_play_5 : decode cX12_play 5 = .ok (.aload_n 0, 1) := by decide +kernel
theorem dX12_play_6 : decode cX12_play 6 = .ok (.iconst 0, 1) := by decide +kernel
theorem dX12_play_7 : decode cX12_play 7 = .ok (.putfield 361, 3) := by decide +kernel
theorem dX12_play_10 : decode cX12_play 10 = .ok (.aload_n 0, 1) := by decide +kernel
theorem dX12_play_11 : decode cX12_play 11 = .ok (.iconst 0, 1) := by decide +kernel
theorem dX12_play_12 : decode cX12_play 12 = .ok (.putfield 358, 3) := by decide +kernel
theorem dX12_play_15 : decode cX12_play 15 = .ok (.aload_n 0, 1) := by decide +kernel
theorem dX12_play_16 : decode cX12_play 16 = .ok (.invokevirtual 349, 3) := by decide +kernel
theorem dX12_play_19 : decode cX12_play 19 = .ok (.iconst 1, 1) := by decide +kernel
theorem dX12_play_20 : decode cX12_play 20 = .ok (.istore_n 1, 1) := by decide +kernel
theorem dX12_play_21 : decode cX12_play 21 = .ok (.iload_n 1, 1) := by decide +kernel
theorem dX12_play_22 : decode cX12_play 22 = .ok (.ifCond .eq 18, 3) := by decide +kernel
theorem dX12_play_40 : decode cX12_play 40 = .ok (.aload_n 0, 1) := by decide +kernel
theorem dX12_play_41 : decode cX12_play 41 = .ok (.iconst 0, 1) := by decide +kernel
theorem dX12_play_42 : decode cX12_play 42 = .ok (.putfield 240, 3) := by decide +kernel
theorem dX12_play_45 : decode cX12_play 45 = .ok (.iload_n 1, 1) := by decide +kernel
theorem dX12_play_46 : decode cX12_play 46 = .ok (.ifCond .ne 6, 3) := by decide +kernel
theorem dX12_play_49 : decode cX12_play 49 = .ok (.bipush (-3), 2) := by decide +kernel
theorem dX12_play_51 : decode cX12_play 51 = .ok (.ireturn, 1) := by decide +kernel
theorem dX12_play_25 : decode cX12_play 25 = .ok (.aload_n 0, 1) := by decide +kernel
theorem dX12_play_26 : decode cX12_play 26 = .ok (.getfield 283, 3) := by decide +kernel
theorem dX12_play_29 : decode cX12_play 29 = .ok (.ifCond .eq 11, 3) := by decide +kernel
theorem dX12_play_52 : decode cX12_play 52 = .ok (.iconst 0, 1) := by decide +kernel
theorem dX12_play_53 : decode cX12_play 53 = .ok (.istore_n 2, 1) := by decide +kernel
theorem dX12_play_54 : decode cX12_play 54 = .ok (.iload_n 2, 1) := by decide +kernel
theorem dX12_play_55 : decode cX12_play 55 = .ok (.aload_n 0, 1) := by decide +kernel
theorem dX12_play_56 : decode cX12_play 56 = .ok (.getfield 361, 3) := by decide +kernel
theorem dX12_play_59 : decode cX12_play 59 = .ok (.if_icmp .ge 19, 3) := by decide +kernel
theorem dX12_play_78 : decode cX12_play 78 = .ok (.aload_n 0, 1) := by decide +kernel
theorem dX12_play_79 : decode cX12_play 79 = .ok (.iconst 0, 1) := by decide +kernel
theorem dX12_play_80 : decode cX12_play 80 = .ok (.putfield 38, 3) := by decide +kernel
theorem dX12_play_83 : decode cX12_play 83 = .ok (.iload_n 2, 1) := by decide +kernel
theorem dX12_play_84 : decode cX12_play 84 = .ok (.ireturn, 1) := by decide +kernel
theorem dX12_play_62 : decode cX12_play 62 = .ok (.aload_n 0, 1) := by decide +kernel
theorem dX12_play_63 : decode cX12_play 63 = .ok (.iconst 5, 1) := by decide +kernel
theorem dX12_play_64 : decode cX12_play 64 = .ok (.iload_n 2, 1) := by decide +kernel
theorem dX12_play_65 : decode cX12_play 65 = .ok (.imul, 1) := by decide +kernel
theorem dX12_play_66 : decode cX12_play 66 = .ok (.invokevirtual 394, 3) := by decide +kernel
theorem glV_RX12_394 : GLV RX12 394 yX12_isPlayed RX12 cX12_isPlayed 4 (some .boolean) 1 := ⟨⟨(mT10 74 rfl rfl), (mT10 76 rfl rfl), (mTs 96 rfl rfl), (mT1 13 rfl rfl), (mT10 77 rfl rfl)⟩, by decide +kernel⟩
theorem dX12_play_69 : decode cX12_play 69 = .ok (.ifCond .eq 9, 3) := by decide +kernel
theorem dX12_play_72 : decode cX12_play 72 = .ok (.iinc 2 1, 3) := by decide +kernel
theorem dX12_play_75 : decode cX12_play 75 = .ok (.goto (-21), 3) := by decide +kernel
theorem dX12_play_32 : decode cX12_play 32 = .ok (.aload_n 0, 1) := by decide +kernel
theorem dX12_play_33 : decode cX12_play 33 = .ok (.invokevirtual 391, 3) := by decide +kernel
theorem glV_RX12_391 : GLV RX12 391 yX12_readPlayed RX12 cX12_readPlayed 4 (some .boolean) 0 := ⟨⟨(mT10 58 rfl rfl), (mT10 60 rfl rfl), (mTs 92 rfl rfl), (mT1 13 rfl rfl), (mT10 61 rfl rfl)⟩, by decide +kernel⟩
theorem dX12_play_36 : decode cX12_play 36 = .ok (.istore_n 1, 1) := by decide +kernel
theorem dX12_play_37 : decode cX12_play 37 = .ok (.goto (-16), 3) := by decide +kernel
set_option maxRecDepth 100000 in
set_option maxHeartbeats 4000000 in
theorem rX12_play (l : Launch) (D : va_G) (Y : Nat → ClassId) (h0 : Nat) (h1 : Nat) (h2 : Nat) (h3 : Nat) (h4 : Nat) (h5 : Nat) (h6 : Nat) (p2 : Int32) (k5 : Nat) (k6 : Nat) (p7 : Int32) (p8 : Int32) (p9 : Int32) (k10 : Nat) (p11 : Int32) (q12 : Int64) (k15 : Nat) (k16 : Nat) (f0 : Nat → Int32) (f1 : Nat → Int32) (f3 : Nat → Int32) (f4 : Nat → Int32) (f13 : Nat → Int32) (f14 : Nat → Int32) (ph : Nat → Int32) (HI : INV ph f0) (HL : k5 ≤ 1600) (HP : PLV f13)   (sz : Nat) : Met l yX12_play (WSm yX12_play cX12_play 3 (some .int)) (mkR 10 0 0 227) (PreC D Y [.ref h0] [(h0, oC 13 [.ref h1, .ref h2, .int p2, .ref h3, .ref h4, .int (nI k5), .int (nI k6), .int p7, .int p8, .int p9, .int (nI k10), .int p11, .long q12, .ref h5, .ref h6, .int (nI k15), .int (nI k16)]), (h1, aI Y 3640 f0), (h2, aZ Y 2 f1), (h3, aZ Y 80 f3), (h4, aB Y 1600 f4), (h5, aI Y 200 f13), (h6, aI Y 800 f14)] sz) (QI D (fun (r : Int32) (u : WU) => INV ph (u.2.2.2.1 0) ∧ (u.1 0) ≤ 1600 ∧ PLV (u.2.2.2.1 1)) (fun (u : WU) => [(h0, oC 13 [.ref h1, .ref h2, .int (u.2.1 0), .ref h3, .ref h4, .int (nI (u.1 0)), .int (nI (u.1 1)), .int (u.2.1 1), .int (u.2.1 2), .int (u.2.1 3), .int (nI (u.1 2)), .int (u.2.1 4), .long (u.2.2.1 0), .ref h5, .ref h6, .int (nI (u.1 3)), .int (nI (u.1 4))]), (h1, aI Y 3640 (u.2.2.2.1 0)), (h2, aZ Y 2 f1), (h3, aZ Y 80 f3), (h4, aB Y 1600 f4), (h5, aI Y 200 (u.2.2.2.1 1)), (h6, aI Y 800 (u.2.2.2.1 2))]) (va_A [(h0, oC 13 [.ref h1, .ref h2, .int p2, .ref h3, .ref h4, .int (nI k5), .int (nI k6), .int p7, .int p8, .int p9, .int (nI k10), .int p11, .long q12, .ref h5, .ref h6, .int (nI k15), .int (nI k16)]), (h1, aI Y 3640 f0), (h2, aZ Y 2 f1), (h3, aZ Y 80 f3), (h4, aB Y 1600 f4), (h5, aI Y 200 f13), (h6, aI Y 800 f14)] sz)) 0 0 (va_A [(h0, oC 13 [.ref h1, .ref h2, .int p2, .ref h3, .ref h4, .int (nI k5), .int (nI k6), .int p7, .int p8, .int p9, .int (nI k10), .int p11, .long q12, .ref h5, .ref h6, .int (nI k15), .int (nI k16)]), (h1, aI Y 3640 f0), (h2, aZ Y 2 f1), (h3, aZ Y 80 f3), (h4, aB Y 1600 f4), (h5, aI Y 200 f13), (h6, aI Y 800 f14)] sz) :=
  met_of  (by decide +kernel) (Nat.le_of_ble_eq_true rfl) (fun p e s m args below meth c B hin hsz => by
    have B : VB p s m args meth c D Y (va_A [(h0, oC 13 [.ref h1, .ref h2, .int p2, .ref h3, .ref h4, .int (nI k5), .int (nI k6), .int p7, .int p8, .int p9, .int (nI k10), .int p11, .long q12, .ref h5, .ref h6, .int (nI k15), .int (nI k16)]), (h1, aI Y 3640 f0), (h2, aZ Y 2 f1), (h3, aZ Y 80 f3), (h4, aB Y 1600 f4), (h5, aI Y 200 f13), (h6, aI Y 800 f14)] sz) cX12_play 3 RX12 (some .int) := B
    refine V_aload_n 0 B dX12_play_0 0 rfl ?_
    refine V_iconst 1 B (v := 0) dX12_play_1 (by decide +kernel) ?_
    refine V_put 2 B gp_RX12_38 0 rfl (Nat.le_of_ble_eq_true rfl) rfl rfl dX12_play_2 [(h0, oC 13 [.ref h1, .ref h2, .int 0, .ref h3, .ref h4, .int (nI k5), .int (nI k6), .int p7, .int p8, .int p9, .int (nI k10), .int p11, .long q12, .ref h5, .ref h6, .int (nI k15), .int (nI k16)]), (h1, aI Y 3640 f0), (h2, aZ Y 2 f1), (h3, aZ Y 80 f3), (h4, aB Y 1600 f4), (h5, aI Y 200 f13), (h6, aI Y 800 f14)] rfl ?_
    refine V_aload_n 5 B dX12_play_5 0 rfl ?_
    refine V_iconst 6 B (v := 0) dX12_play_6 (by decide +kernel) ?_
    refine V_put 7 B gp_RX12_361 0 rfl (Nat.le_of_ble_eq_true rfl) rfl rfl dX12_play_7 [(h0, oC 13 [.ref h1, .ref h2, .int 0, .ref h3, .ref h4, .int (nI k5), .int (nI k6), .int p7, .int p8, .int p9, .int (nI k10), .int p11, .long q12, .ref h5, .ref h6, .int 0, .int (nI k16)]), (h1, aI Y 3640 f0), (h2, aZ Y 2 f1), (h3, aZ Y 80 f3), (h4, aB Y 1600 f4), (h5, aI Y 200 f13), (h6, aI Y 800 f14)] rfl ?_
    refine V_aload_n 10 B dX12_play_10 0 rfl ?_
    refine V_iconst 11 B (v := 0) dX12_play_11 (by decide +kernel) ?_
    refine V_put 12 B gp_RX12_358 0 rfl (Nat.le_of_ble_eq_true rfl) rfl rfl dX12_play_12 [(h0, oC 13 [.ref h1, .ref h2, .int 0, .ref h3, .ref h4, .int (nI k5), .int (nI k6), .int p7, .int p8, .int p9, .int (nI k10), .int p11, .long q12, .ref h5, .ref h6, .int 0, .int 0]), (h1, aI Y 3640 f0), (h2, aZ Y 2 f1), (h3, aZ Y 80 f3), (h4, aB Y 1600 f4), (h5, aI Y 200 f13), (h6, aI Y 800 f14)] rfl ?_
    refine V_aload_n 15 B dX12_play_15 0 rfl ?_
    refine V_cvv 16 B (st := []) (As := []) (fun sz => rX12_beginText l D Y h0 h1 h2 h3 h4 h5 h6 0 k5 k6 p7 p8 p9 k10 p11 q12 0 0 f0 f1 f3 f4 f13 f14 ph HI (by omega) HP sz) glV_RX12_349 ⟨rfl, rfl⟩ ⟨(Nat.le_of_ble_eq_true rfl), (Nat.le_of_ble_eq_true rfl)⟩ ⟨(Nat.le_of_ble_eq_true rfl), (Nat.le_of_ble_eq_true rfl)⟩ [0, 0, 0, 0, 0, 0, 0] rfl 13 0 rfl rfl rfl rfl (Nat.le_of_ble_eq_true rfl) rfl (fun _ _ => rfl) dX12_play_16 (fun u1 w2 => ?_)
    refine V_ws [(h0, oC 13 [.ref h1, .ref h2, .int 0, .ref h3, .ref h4, .int (nI k5), .int (nI (u1.1 0)), .int (u1.2.1 0), .int (u1.2.1 1), .int (u1.2.1 2), .int (nI (u1.1 1)), .int p11, .long (u1.2.2.1 0), .ref h5, .ref h6, .int 0, .int 0]), (h1, aI Y 3640 f0), (h2, aZ Y 2 f1), (h3, aZ Y 80 f3), (h4, aB Y 1600 f4), (h5, aI Y 200 f13), (h6, aI Y 800 f14)] rfl ?_
    obtain ⟨x3, x4, x5⟩ := w2
    refine V_iconst 19 B (v := 1) dX12_play_19 (by decide +kernel) ?_
    refine V_istore_n 20 B (lv2 := [(1, .int 1), (0, .ref h0)]) dX12_play_20 (by decide) rfl ?_
    refine V_wloop (α := WU) (fun a => ldM (a.2.1 0) (a.1 1)) (fun a => PLV (a.2.2.2.1 0) ∧ ((a.2.1 0) = 0 ∨ (a.2.1 0) = 1) ∧ ((a.1 1) ≤ (a.1 0) ∧ (a.1 0) ≤ k5 ∧ (a.1 2) ≤ 40 ∧ (a.1 3) ≤ 4 * (a.1 2) ∧ ((a.2.1 3) = 0 ∨ (a.1 1) < (a.1 0)))) (fun a => [(1, .int (a.2.1 0)), (0, .ref h0)]) (fun a => [(h0, oC 13 [.ref h1, .ref h2, .int 0, .ref h3, .ref h4, .int (nI k5), .int (nI (a.1 0)), .int (a.2.1 1), .int (a.2.1 2), .int (a.2.1 3), .int (nI (a.1 1)), .int (a.2.1 4), .long (a.2.2.1 0), .ref h5, .ref h6, .int (nI (a.1 2)), .int (nI (a.1 3))]), (h1, aI Y 3640 f0), (h2, aZ Y 2 f1), (h3, aZ Y 80 f3), (h4, aB Y 1600 f4), (h5, aI Y 200 (a.2.2.2.1 0)), (h6, aI Y 800 (a.2.2.2.1 1))]) (mkW [(u1.1 0), (u1.1 1), 0, 0] [1, (u1.2.1 0), (u1.2.1 1), (u1.2.1 2), p11] [(u1.2.2.1 0)] [f13, f14] [] []) ⟨HP, (Or.inr rfl), ⟨(show (u1.1 1) ≤ (u1.1 0) by omega), (show (u1.1 0) ≤ k5 by omega), (show 0 ≤ 40 by omega), (show 0 ≤ 4 * 0 by omega), (show ((u1.2.1 2) = 0 ∨ (u1.1 1) < (u1.1 0)) by first | assumption | exact Or.inr (by omega))⟩⟩ rfl rfl (fun a6 hI8 IH7 => ?_)
    refine V_lv [(1, .int (a6.2.1 0)), (0, .ref h0)] [0, 1] rfl ?_
    refine V_ws [(h0, oC 13 [.ref h1, .ref h2, .int 0, .ref h3, .ref h4, .int (nI k5), .int (nI (a6.1 0)), .int (a6.2.1 1), .int (a6.2.1 2), .int (a6.2.1 3), .int (nI (a6.1 1)), .int (a6.2.1 4), .long (a6.2.2.1 0), .ref h5, .ref h6, .int (nI (a6.1 2)), .int (nI (a6.1 3))]), (h1, aI Y 3640 f0), (h2, aZ Y 2 f1), (h3, aZ Y 80 f3), (h4, aB Y 1600 f4), (h5, aI Y 200 (a6.2.2.2.1 0)), (h6, aI Y 800 (a6.2.2.2.1 1))] rfl ?_
    obtain ⟨x9, x10, x11⟩ := hI8
    obtain ⟨x12, x13, x14, x15, x16⟩ := x11
    rcases x10 with e17 | e17
    ·
      refine V_lv [(1, .int 0), (0, .ref h0)] [0, 1] (by rw [e17]; rfl) ?_
      refine V_iload_n 21 B dX12_play_21 0 rfl ?_
      refine V_if_eq_t 22 B 40 dX12_play_22 (by decide) (by decide +kernel) ?_
      refine V_aload_n 40 B dX12_play_40 1 rfl ?_
      refine V_iconst 41 B (v := 0) dX12_play_41 (by decide +kernel) ?_
      refine V_put 42 B gp_RX12_240 0 rfl (Nat.le_of_ble_eq_true rfl) rfl rfl dX12_play_42 [(h0, oC 13 [.ref h1, .ref h2, .int 0, .ref h3, .ref h4, .int 0, .int (nI (a6.1 0)), .int (a6.2.1 1), .int (a6.2.1 2), .int (a6.2.1 3), .int (nI (a6.1 1)), .int (a6.2.1 4), .long (a6.2.2.1 0), .ref h5, .ref h6, .int (nI (a6.1 2)), .int (nI (a6.1 3))]), (h1, aI Y 3640 f0), (h2, aZ Y 2 f1), (h3, aZ Y 80 f3), (h4, aB Y 1600 f4), (h5, aI Y 200 (a6.2.2.2.1 0)), (h6, aI Y 800 (a6.2.2.2.1 1))] rfl ?_
      refine V_iload_n 45 B dX12_play_45 0 rfl ?_
      refine V_if_ne_f 46 B 52 dX12_play_46 (by decide) (by decide +kernel) ?_
      refine V_bipush 49 B (v := (-3)) dX12_play_49 (by decide +kernel) ?_
      exact V_iret 51 B dX12_play_51 (mkW [0, (a6.1 0), (a6.1 1), (a6.1 2), (a6.1 3)] [0, (a6.2.1 1), (a6.2.1 2), (a6.2.1 3), (a6.2.1 4)] [(a6.2.2.1 0)] [f0, (a6.2.2.2.1 0), (a6.2.2.2.1 1)] [] []) ⟨HI, (show 0 ≤ 1600 by omega), x9⟩ rfl
    ·
      refine V_lv [(1, .int 1), (0, .ref h0)] [0, 1] (by rw [e17]; rfl) ?_
      refine V_iload_n 21 B dX12_play_21 0 rfl ?_
      refine V_if_eq_f 22 B 40 dX12_play_22 (by decide) (by decide +kernel) ?_
      refine V_aload_n 25 B dX12_play_25 1 rfl ?_
      refine V_get 26 B gf_RX12_283 0 rfl rfl dX12_play_26 ?_
      refine V_if_eq 29 B 40 dX12_play_29 (by decide) (fun kk18 => ?_) (fun kk18 => ?_)
      ·
        have x19 := x_eq kk18
        rw [show (0 : Int32).toInt = 0 by decide +kernel] at x19
        refine V_aload_n 40 B dX12_play_40 1 rfl ?_
        refine V_iconst 41 B (v := 0) dX12_play_41 (by decide +kernel) ?_
        refine V_put 42 B gp_RX12_240 0 rfl (Nat.le_of_ble_eq_true rfl) rfl rfl dX12_play_42 [(h0, oC 13 [.ref h1, .ref h2, .int 0, .ref h3, .ref h4, .int 0, .int (nI (a6.1 0)), .int (a6.2.1 1), .int (a6.2.1 2), .int (a6.2.1 3), .int (nI (a6.1 1)), .int (a6.2.1 4), .long (a6.2.2.1 0), .ref h5, .ref h6, .int (nI (a6.1 2)), .int (nI (a6.1 3))]), (h1, aI Y 3640 f0), (h2, aZ Y 2 f1), (h3, aZ Y 80 f3), (h4, aB Y 1600 f4), (h5, aI Y 200 (a6.2.2.2.1 0)), (h6, aI Y 800 (a6.2.2.2.1 1))] rfl ?_
        refine V_iload_n 45 B dX12_play_45 0 rfl ?_
        refine V_if_ne_t 46 B 52 dX12_play_46 (by decide) (by decide +kernel) ?_
        refine V_iconst 52 B (v := 0) dX12_play_52 (by decide +kernel) ?_
        refine V_istore_n 53 B (lv2 := [(2, .int 0), (1, .int 1), (0, .ref h0)]) dX12_play_53 (by decide) rfl ?_
        refine V_wloop (α := WU) (fun a => 100000 - (a.1 0)) (fun a => INV ph (a.2.2.2.1 0) ∧ (a.1 0) ≤ 4000) (fun a => [(2, .int (nI (a.1 0))), (1, .int 1), (0, .ref h0)]) (fun a => [(h0, oC 13 [.ref h1, .ref h2, .int (a.2.1 0), .ref h3, .ref h4, .int 0, .int (nI (a6.1 0)), .int (a6.2.1 1), .int (a6.2.1 2), .int (a6.2.1 3), .int (nI (a6.1 1)), .int (a6.2.1 4), .long (a6.2.2.1 0), .ref h5, .ref h6, .int (nI (a6.1 2)), .int (nI (a6.1 3))]), (h1, aI Y 3640 (a.2.2.2.1 0)), (h2, aZ Y 2 f1), (h3, aZ Y 80 f3), (h4, aB Y 1600 f4), (h5, aI Y 200 (a6.2.2.2.1 0)), (h6, aI Y 800 (a6.2.2.2.1 1))]) (mkW [0] [0] [] [f0] [] []) ⟨HI, (show 0 ≤ 4000 by omega)⟩ rfl rfl (fun a20 hI22 IH21 => ?_)
        refine V_lv [(2, .int (nI (a20.1 0))), (1, .int 1), (0, .ref h0)] [0, 1, 2] rfl ?_
        refine V_ws [(h0, oC 13 [.ref h1, .ref h2, .int (a20.2.1 0), .ref h3, .ref h4, .int 0, .int (nI (a6.1 0)), .int (a6.2.1 1), .int (a6.2.1 2), .int (a6.2.1 3), .int (nI (a6.1 1)), .int (a6.2.1 4), .long (a6.2.2.1 0), .ref h5, .ref h6, .int (nI (a6.1 2)), .int (nI (a6.1 3))]), (h1, aI Y 3640 (a20.2.2.2.1 0)), (h2, aZ Y 2 f1), (h3, aZ Y 80 f3), (h4, aB Y 1600 f4), (h5, aI Y 200 (a6.2.2.2.1 0)), (h6, aI Y 800 (a6.2.2.2.1 1))] rfl ?_
        obtain ⟨x23, x24⟩ := hI22
        refine V_iload_n 54 B dX12_play_54 0 rfl ?_
        refine V_aload_n 55 B dX12_play_55 2 rfl ?_
        refine V_get 56 B gf_RX12_361 0 rfl rfl dX12_play_56 ?_
        refine V_icmp_ge 59 B 78 dX12_play_59 (by decide) (fun kk25 => ?_) (fun kk25 => ?_)
        ·
          have x26 := n_le (a := (a6.1 2)) (b := (a20.1 0)) kk25 (by omega) (by omega)
          refine V_aload_n 78 B dX12_play_78 2 rfl ?_
          refine V_iconst 79 B (v := 0) dX12_play_79 (by decide +kernel) ?_
          refine V_put 80 B gp_RX12_38 0 rfl (Nat.le_of_ble_eq_true rfl) rfl rfl dX12_play_80 [(h0, oC 13 [.ref h1, .ref h2, .int 0, .ref h3, .ref h4, .int 0, .int (nI (a6.1 0)), .int (a6.2.1 1), .int (a6.2.1 2), .int (a6.2.1 3), .int (nI (a6.1 1)), .int (a6.2.1 4), .long (a6.2.2.1 0), .ref h5, .ref h6, .int (nI (a6.1 2)), .int (nI (a6.1 3))]), (h1, aI Y 3640 (a20.2.2.2.1 0)), (h2, aZ Y 2 f1), (h3, aZ Y 80 f3), (h4, aB Y 1600 f4), (h5, aI Y 200 (a6.2.2.2.1 0)), (h6, aI Y 800 (a6.2.2.2.1 1))] rfl ?_
          refine V_iload_n 83 B dX12_play_83 0 rfl ?_
          exact V_iret 84 B dX12_play_84 (mkW [0, (a6.1 0), (a6.1 1), (a6.1 2), (a6.1 3)] [0, (a6.2.1 1), (a6.2.1 2), (a6.2.1 3), (a6.2.1 4)] [(a6.2.2.1 0)] [(a20.2.2.2.1 0), (a6.2.2.2.1 0), (a6.2.2.2.1 1)] [] []) ⟨x23, (show 0 ≤ 1600 by omega), x9⟩ rfl
        ·
          have x27 := n_nle (a := (a6.1 2)) (b := (a20.1 0)) kk25 (by omega) (by omega)
          refine V_aload_n 62 B dX12_play_62 2 rfl ?_
          refine V_iconst 63 B (v := 5) dX12_play_63 (by decide +kernel) ?_
          refine V_iload_n 64 B dX12_play_64 0 rfl ?_
          refine V_imul 65 B (v := (nI (5 * (a20.1 0)))) dX12_play_65 (nI_mulE (a := 5) (b := (a20.1 0)) (by omega)) ?_
          refine V_cvi 66 B (st := []) (As := [.int (nI (5 * (a20.1 0)))]) (fun sz => rX12_isPlayed l D Y h0 h1 h2 h3 h4 h5 h6 (a20.2.1 0) 0 (a6.1 0) (a6.2.1 1) (a6.2.1 2) (a6.2.1 3) (a6.1 1) (a6.2.1 4) (a6.2.2.1 0) (a6.1 2) (a6.1 3) (a20.2.2.2.1 0) f1 f3 f4 (a6.2.2.2.1 0) (a6.2.2.2.1 1) ph x23 (by omega) x9 (a20.1 0) (by omega) sz) glV_RX12_394 ⟨rfl, rfl⟩ ⟨(Nat.le_of_ble_eq_true rfl), (Nat.le_of_ble_eq_true rfl)⟩ ⟨(Nat.le_of_ble_eq_true rfl), (Nat.le_of_ble_eq_true rfl)⟩ [0, 0, 0, 0, 0, 0, 0] rfl 13 0 rfl rfl rfl rfl (Nat.le_of_ble_eq_true rfl) rfl (fun _ _ _ => rfl) dX12_play_66 (fun j28 u29 w30 => ?_)
          refine V_ws [(h0, oC 13 [.ref h1, .ref h2, .int (u29.2.1 0), .ref h3, .ref h4, .int 0, .int (nI (a6.1 0)), .int (a6.2.1 1), .int (a6.2.1 2), .int (a6.2.1 3), .int (nI (a6.1 1)), .int (a6.2.1 4), .long (a6.2.2.1 0), .ref h5, .ref h6, .int (nI (a6.1 2)), .int (nI (a6.1 3))]), (h1, aI Y 3640 (u29.2.2.2.1 0)), (h2, aZ Y 2 f1), (h3, aZ Y 80 f3), (h4, aB Y 1600 f4), (h5, aI Y 200 (a6.2.2.2.1 0)), (h6, aI Y 800 (a6.2.2.2.1 1))] rfl ?_
          obtain ⟨x31, x32⟩ := w30
          rcases x31 with rfl | rfl
          ·
            refine V_if_eq_t 69 B 78 dX12_play_69 (by decide) (by decide +kernel) ?_
            refine V_aload_n 78 B dX12_play_78 2 rfl ?_
            refine V_iconst 79 B (v := 0) dX12_play_79 (by decide +kernel) ?_
            refine V_put 80 B gp_RX12_38 0 rfl (Nat.le_of_ble_eq_true rfl) rfl rfl dX12_play_80 [(h0, oC 13 [.ref h1, .ref h2, .int 0, .ref h3, .ref h4, .int 0, .int (nI (a6.1 0)), .int (a6.2.1 1), .int (a6.2.1 2), .int (a6.2.1 3), .int (nI (a6.1 1)), .int (a6.2.1 4), .long (a6.2.2.1 0), .ref h5, .ref h6, .int (nI (a6.1 2)), .int (nI (a6.1 3))]), (h1, aI Y 3640 (u29.2.2.2.1 0)), (h2, aZ Y 2 f1), (h3, aZ Y 80 f3), (h4, aB Y 1600 f4), (h5, aI Y 200 (a6.2.2.2.1 0)), (h6, aI Y 800 (a6.2.2.2.1 1))] rfl ?_
            refine V_iload_n 83 B dX12_play_83 0 rfl ?_
            exact V_iret 84 B dX12_play_84 (mkW [0, (a6.1 0), (a6.1 1), (a6.1 2), (a6.1 3)] [0, (a6.2.1 1), (a6.2.1 2), (a6.2.1 3), (a6.2.1 4)] [(a6.2.2.1 0)] [(u29.2.2.2.1 0), (a6.2.2.2.1 0), (a6.2.2.2.1 1)] [] []) ⟨x32, (show 0 ≤ 1600 by omega), x9⟩ rfl
          ·
            refine V_if_eq_f 69 B 78 dX12_play_69 (by decide) (by decide +kernel) ?_
            refine V_iinc 72 B (v := (nI (1 + (a20.1 0)))) (lv2 := [(2, .int (nI (1 + (a20.1 0)))), (1, .int 1), (0, .ref h0)]) dX12_play_72 0 rfl (nI_addE (a := (a20.1 0)) (b := 1) (by omega)) (by decide) rfl ?_
            refine V_goto 75 B 54 dX12_play_75 (by decide) ?_
            refine V_lv [(2, .int (nI (1 + (a20.1 0)))), (1, .int 1), (0, .ref h0)] [0, 1, 2] rfl ?_
            exact IH21 (mkW [1 + (a20.1 0)] [(u29.2.1 0)] [] [(u29.2.2.2.1 0)] [] []) ⟨x32, (show 1 + (a20.1 0) ≤ 4000 by omega)⟩ (by show 100000 - (1 + (a20.1 0)) < 100000 - (a20.1 0); omega)
      ·
        have x33 := x_ne kk18
        rw [show (0 : Int32).toInt = 0 by decide +kernel] at x33
        have x34 : (a6.1 1) < (a6.1 0) := by
          rcases x16 with z | z
          · first | contradiction | exact absurd z (by decide) | omega
          · exact z
        refine V_aload_n 32 B dX12_play_32 1 rfl ?_
        refine V_cvi 33 B (st := []) (As := []) (fun sz => rX12_readPlayed l D Y h0 h1 h2 h3 h4 h5 h6 0 k5 (a6.1 0) (a6.2.1 1) (a6.2.1 2) (a6.2.1 3) (a6.1 1) (a6.2.1 4) (a6.2.2.1 0) (a6.1 2) (a6.1 3) f0 f1 f3 f4 (a6.2.2.2.1 0) (a6.2.2.2.1 1) ph HI (by omega) x9 (by omega) (by omega) (by first | assumption | exact Or.inl rfl | exact Or.inr (by omega)) (by omega) (by omega) (by omega) sz) glV_RX12_391 ⟨rfl, rfl⟩ ⟨(Nat.le_of_ble_eq_true rfl), (Nat.le_of_ble_eq_true rfl)⟩ ⟨(Nat.le_of_ble_eq_true rfl), (Nat.le_of_ble_eq_true rfl)⟩ [0, 0, 0, 0, 0, 0, 0] rfl 13 0 rfl rfl rfl rfl (Nat.le_of_ble_eq_true rfl) rfl (fun _ _ _ => rfl) dX12_play_33 (fun j35 u36 w37 => ?_)
        refine V_ws [(h0, oC 13 [.ref h1, .ref h2, .int 0, .ref h3, .ref h4, .int (nI k5), .int (nI (u36.1 0)), .int (u36.2.1 0), .int (u36.2.1 1), .int (u36.2.1 2), .int (nI (u36.1 1)), .int (u36.2.1 3), .long (u36.2.2.1 0), .ref h5, .ref h6, .int (nI (u36.1 2)), .int (nI (u36.1 3))]), (h1, aI Y 3640 f0), (h2, aZ Y 2 f1), (h3, aZ Y 80 f3), (h4, aB Y 1600 f4), (h5, aI Y 200 (u36.2.2.2.1 0)), (h6, aI Y 800 (u36.2.2.2.1 1))] rfl ?_
        obtain ⟨x38, x39, x40, x41, x42, x43, x44, x45⟩ := w37
        rcases x38 with rfl | ⟨rfl, x46⟩
        ·
          refine V_istore_n 36 B (lv2 := [(1, .int 0), (0, .ref h0)]) dX12_play_36 (by decide) rfl ?_
          refine V_goto 37 B 21 dX12_play_37 (by decide) ?_
          refine V_lv [(1, .int 0), (0, .ref h0)] [0, 1] rfl ?_
          exact IH7 (mkW [(u36.1 0), (u36.1 1), (u36.1 2), (u36.1 3)] [0, (u36.2.1 0), (u36.2.1 1), (u36.2.1 2), (u36.2.1 3)] [(u36.2.2.1 0)] [(u36.2.2.2.1 0), (u36.2.2.2.1 1)] [] []) ⟨x39, (Or.inl rfl), ⟨(show (u36.1 1) ≤ (u36.1 0) by omega), (show (u36.1 0) ≤ k5 by omega), (show (u36.1 2) ≤ 40 by omega), (show (u36.1 3) ≤ 4 * (u36.1 2) by omega), (show ((u36.2.1 2) = 0 ∨ (u36.1 1) < (u36.1 0)) by first | assumption | exact Or.inr (by omega))⟩⟩ (ld0 e17)
        ·
          refine V_istore_n 36 B (lv2 := [(1, .int 1), (0, .ref h0)]) dX12_play_36 (by decide) rfl ?_
          refine V_goto 37 B 21 dX12_play_37 (by decide) ?_
          refine V_lv [(1, .int 1), (0, .ref h0)] [0, 1] rfl ?_
          exact IH7 (mkW [(u36.1 0), (u36.1 1), (u36.1 2), (u36.1 3)] [1, (u36.2.1 0), (u36.2.1 1), (u36.2.1 2), (u36.2.1 3)] [(u36.2.2.1 0)] [(u36.2.2.2.1 0), (u36.2.2.2.1 1)] [] []) ⟨x39, (Or.inr rfl), ⟨(show (u36.1 1) ≤ (u36.1 0) by omega), (show (u36.1 0) ≤ k5 by omega), (show (u36.1 2) ≤ 40 by omega), (show (u36.1 3) ≤ 4 * (u36.1 2) by omega), (show ((u36.2.1 2) = 0 ∨ (u36.1 1) < (u36.1 0)) by first | assumption | exact Or.inr (by omega))⟩⟩ (ld1 (s := (a6.1 1)) (t := (u36.1 1)) e17 (by omega) (by omega)))
