theorem glV_RX12_145 : GLV RX12 145 yX12_forced RX12 cX12_forced 6 (some .int) 3 := ⟨⟨(mT8 120 rfl rfl), (mT8 122 rfl rfl), (mTs 48 rfl rfl), (mT1 13 rfl rfl), (mT8 123 rfl rfl)⟩, by decide +kernel⟩
theorem dX12_isBound_133 : decode cX12_isBound 133 = .ok (.ifCond .lt 7, 3) := by decide +kernel
theorem dX12_isBound_140 : decode cX12_isBound 140 = .ok (.iconst 0, 1) := by decide +kernel
theorem dX12_isBound_141 : decode cX12_isBound 141 = .ok (.ireturn, 1) := by decide +kernel
theorem dX12_isBound_136 : decode cX12_isBound 136 = .ok (.iconst 1, 1) := by decide +kernel
theorem dX12_isBound_137 : decode cX12_isBound 137 = .ok (.goto 4, 3) := by decide +kernel
theorem dX12_isBound_112 : decode cX12_isBound 112 = .ok (.aload_n 0, 1) := by decide +kernel
theorem dX12_isBound_113 : decode cX12_isBound 113 = .ok (.iload_n 2, 1) := by decide +kernel
theorem dX12_isBound_114 : decode cX12_isBound 114 = .ok (.iload_n 3, 1) := by decide +kernel
theorem dX12_isBound_115 : decode cX12_isBound 115 = .ok (.sipush 3629, 3) := by decide +kernel
theorem dX12_isBound_118 : decode cX12_isBound 118 = .ok (.invokevirtual 136, 3) := by decide +kernel
theorem dX12_bound_0 : decode cX12_bound 0 = .ok (.aload_n 0, 1) := by decide +kernel
theorem dX12_bound_1 : decode cX12_bound 1 = .ok (.iload_n 1, 1) := by decide +kernel
theorem dX12_bound_2 : decode cX12_bound 2 = .ok (.iload_n 3, 1) := by decide +kernel
theorem dX12_bound_3 : decode cX12_bound 3 = .ok (.invokevirtual 129, 3) := by decide +kernel
theorem dX12_canBind_0 : decode cX12_canBind 0 = .ok (.aload_n 0, 1) := by decide +kernel
theorem dX12_canBind_1 : decode cX12_canBind 1 = .ok (.iload_n 2, 1) := by decide +kernel
theorem dX12_canBind_2 : decode cX12_canBind 2 = .ok (.invokevirtual 118, 3) := by decide +kernel
theorem dX12_canBind_5 : decode cX12_canBind 5 = .ok (.ifCond .ne 18, 3) := by decide +kernel
theorem dX12_canBind_8 : decode cX12_canBind 8 = .ok (.aload_n 0, 1) := by decide +kernel
theorem dX12_canBind_9 : decode cX12_canBind 9 = .ok (.iload_n 1, 1) := by decide +kernel
theorem dX12_canBind_10 : decode cX12_canBind 10 = .ok (.iload_n 2, 1) := by decide +kernel
theorem dX12_canBind_11 : decode cX12_canBind 11 = .ok (.iconst (-1), 1) := by decide +kernel
theorem dX12_canBind_12 : decode cX12_canBind 12 = .ok (.invokevirtual 121, 3) := by decide +kernel
theorem dX12_canBind_15 : decode cX12_canBind 15 = .ok (.iconst (-1), 1) := by decide +kernel
theorem dX12_canBind_16 : decode cX12_canBind 16 = .ok (.if_icmp .ne 7, 3) := by decide +kernel
theorem dX12_canBind_19 : decode cX12_canBind 19 = .ok (.iconst 1, 1) := by decide +kernel
theorem dX12_canBind_20 : decode cX12_canBind 20 = .ok (.goto 4, 3) := by decide +kernel
theorem dX12_canBind_24 : decode cX12_canBind 24 = .ok (.ireturn, 1) := by decide +kernel
theorem dX12_canBind_23 : decode cX12_canBind 23 = .ok (.iconst 0, 1) := by decide +kernel
set_option maxRecDepth 100000 in
set_option maxHeartbeats 4000000 in
theorem rX12_canBind (l : Launch) (D : va_G) (Y : Nat → ClassId) (h0 : Nat) (h1 : Nat) (h2 : Nat) (h3 : Nat) (h4 : Nat) (h5 : Nat) (h6 : Nat) (p2 : Int32) (k5 : Nat) (k6 : Nat) (p7 : Int32) (p8 : Int32) (p9 : Int32) (k10 : Nat) (p11 : Int32) (q12 : Int64) (k15 : Nat) (k16 : Nat) (f0 : Nat → Int32) (f1 : Nat → Int32) (f3 : Nat → Int32) (f4 : Nat → Int32) (f13 : Nat → Int32) (f14 : Nat → Int32) (HI : INV f0) (HL : k5 ≤ 1600) (HP : PLV f13) (s0 : Int32) (s1 : Nat) (hs1 : SQ s1) (sz : Nat) : Met l yX12_canBind (WSm yX12_canBind cX12_canBind 3 (some .boolean)) (mkR 4 0 0 90) (PreC D Y [.ref h0, .int s0, .int (nI s1)] [(h0, oC 13 [.ref h1, .ref h2, .int p2, .ref h3, .ref h4, .int (nI k5), .int (nI k6), .int p7, .int p8, .int p9, .int (nI k10), .int p11, .long q12, .ref h5, .ref h6, .int (nI k15), .int (nI k16)]), (h1, aI Y 3640 f0), (h2, aZ Y 2 f1), (h3, aZ Y 80 f3), (h4, aB Y 1600 f4), (h5, aI Y 200 f13), (h6, aI Y 800 f14)] sz) (QI D (fun (r : Int32) (u : WU) => (r = 0 ∨ r = 1)) (fun (u : WU) => [(h0, oC 13 [.ref h1, .ref h2, .int p2, .ref h3, .ref h4, .int (nI k5), .int (nI k6), .int p7, .int p8, .int p9, .int (nI k10), .int p11, .long q12, .ref h5, .ref h6, .int (nI k15), .int (nI k16)]), (h1, aI Y 3640 f0), (h2, aZ Y 2 f1), (h3, aZ Y 80 f3), (h4, aB Y 1600 f4), (h5, aI Y 200 f13), (h6, aI Y 800 f14)]) (va_A [(h0, oC 13 [.ref h1, .ref h2, .int p2, .ref h3, .ref h4, .int (nI k5), .int (nI k6), .int p7, .int p8, .int p9, .int (nI k10), .int p11, .long q12, .ref h5, .ref h6, .int (nI k15), .int (nI k16)]), (h1, aI Y 3640 f0), (h2, aZ Y 2 f1), (h3, aZ Y 80 f3), (h4, aB Y 1600 f4), (h5, aI Y 200 f13), (h6, aI Y 800 f14)] sz)) 0 0 (va_A [(h0, oC 13 [.ref h1, .ref h2, .int p2, .ref h3, .ref h4, .int (nI k5), .int (nI k6), .int p7, .int p8, .int p9, .int (nI k10), .int p11, .long q12, .ref h5, .ref h6, .int (nI k15), .int (nI k16)]), (h1, aI Y 3640 f0), (h2, aZ Y 2 f1), (h3, aZ Y 80 f3), (h4, aB Y 1600 f4), (h5, aI Y 200 f13), (h6, aI Y 800 f14)] sz) :=
  met_of  (by decide +kernel) (Nat.le_of_ble_eq_true rfl) (fun p e s m args below meth c B hin hsz => by
    have B : VB p s m args meth c D Y (va_A [(h0, oC 13 [.ref h1, .ref h2, .int p2, .ref h3, .ref h4, .int (nI k5), .int (nI k6), .int p7, .int p8, .int p9, .int (nI k10), .int p11, .long q12, .ref h5, .ref h6, .int (nI k15), .int (nI k16)]), (h1, aI Y 3640 f0), (h2, aZ Y 2 f1), (h3, aZ Y 80 f3), (h4, aB Y 1600 f4), (h5, aI Y 200 f13), (h6, aI Y 800 f14)] sz) cX12_canBind 3 RX12 (some .boolean) := B
    have hq_s1 := hs1.1
    refine V_aload_n 0 B dX12_canBind_0 0 rfl ?_
    refine V_iload_n 1 B dX12_canBind_1 2 rfl ?_
    refine V_cvi 2 B (st := []) (As := [.int (nI s1)]) (fun sz => rX12_clashesReserved l D Y h0 h1 h2 h3 h4 h5 h6 p2 k5 k6 p7 p8 p9 k10 p11 q12 k15 k16 f0 f1 f3 f4 f13 f14 HI (by omega) HP s1 hs1 sz) glV_RX12_118 ⟨rfl, rfl⟩ ⟨(Nat.le_of_ble_eq_true rfl), (Nat.le_of_ble_eq_true rfl)⟩ ⟨(Nat.le_of_ble_eq_true rfl), (Nat.le_of_ble_eq_true rfl)⟩ [0, 0, 0, 0, 0, 0, 0] rfl 13 0 rfl rfl rfl rfl (Nat.le_of_ble_eq_true rfl) rfl (fun _ _ _ => rfl) dX12_canBind_2 (fun j0 u1 w2 => ?_)
    refine V_ws [(h0, oC 13 [.ref h1, .ref h2, .int p2, .ref h3, .ref h4, .int (nI k5), .int (nI k6), .int p7, .int p8, .int p9, .int (nI k10), .int p11, .long q12, .ref h5, .ref h6, .int (nI k15), .int (nI k16)]), (h1, aI Y 3640 f0), (h2, aZ Y 2 f1), (h3, aZ Y 80 f3), (h4, aB Y 1600 f4), (h5, aI Y 200 f13), (h6, aI Y 800 f14)] rfl ?_
    have x3 := w2
    clear w2
    rcases x3 with rfl | rfl
    ·
      refine V_if_ne_f 5 B 23 dX12_canBind_5 (by decide) (by decide +kernel) ?_
      refine V_aload_n 8 B dX12_canBind_8 0 rfl ?_
      refine V_iload_n 9 B dX12_canBind_9 1 rfl ?_
      refine V_iload_n 10 B dX12_canBind_10 2 rfl ?_
      refine V_iconst 11 B (v := (-1)) dX12_canBind_11 (by decide +kernel) ?_
      refine V_cvi 12 B (st := []) (As := [.int s0, .int (nI s1), .int (-1)]) (fun sz => rX12_clashIn l D Y h0 h1 h2 h3 h4 h5 h6 p2 k5 k6 p7 p8 p9 k10 p11 q12 k15 k16 f0 f1 f3 f4 f13 f14 HI (by omega) HP s0 s1 (-1) hs1 sz) glV_RX12_121 ⟨rfl, rfl⟩ ⟨(Nat.le_of_ble_eq_true rfl), (Nat.le_of_ble_eq_true rfl)⟩ ⟨(Nat.le_of_ble_eq_true rfl), (Nat.le_of_ble_eq_true rfl)⟩ [0, 0, 0, 0, 0, 0, 0] rfl 13 0 rfl rfl rfl rfl (Nat.le_of_ble_eq_true rfl) rfl (fun _ _ _ => rfl) dX12_canBind_12 (fun j4 u5 w6 => ?_)
      refine V_ws [(h0, oC 13 [.ref h1, .ref h2, .int p2, .ref h3, .ref h4, .int (nI k5), .int (nI k6), .int p7, .int p8, .int p9, .int (nI k10), .int p11, .long q12, .ref h5, .ref h6, .int (nI k15), .int (nI k16)]), (h1, aI Y 3640 f0), (h2, aZ Y 2 f1), (h3, aZ Y 80 f3), (h4, aB Y 1600 f4), (h5, aI Y 200 f13), (h6, aI Y 800 f14)] rfl ?_
      have x7 := w6
      clear w6
      have x10 : (gN f0 3) ≤ 80 := gN_le HI (by omega) (show bd 3 = (0, ((80 : Nat) : Int)) by decide +kernel)
      rcases x7 with ⟨rfl, x9⟩ | ⟨n8, rfl, x9, x11⟩
      ·
        refine V_iconst 15 B (v := (-1)) dX12_canBind_15 (by decide +kernel) ?_
        refine V_icmp_ne_f 16 B 23 dX12_canBind_16 (by decide) (by decide +kernel) ?_
        refine V_iconst 19 B (v := 1) dX12_canBind_19 (by decide +kernel) ?_
        refine V_goto 20 B 24 dX12_canBind_20 (by decide) ?_
        exact V_zret 24 B rfl dX12_canBind_24 (mkW [] [] [] [] [] []) (Or.inr rfl) rfl
      ·
        refine V_iconst 15 B (v := (-1)) dX12_canBind_15 (by decide +kernel) ?_
        refine V_icmp_ne_t 16 B 23 dX12_canBind_16 (by decide) (fun z => by have z2 := x_eq z; rw [nI_toInt (show n8 < 2 ^ 31 by omega), show ((-1) : Int32).toInt = (-1) by decide +kernel] at z2; omega) ?_
        refine V_iconst 23 B (v := 0) dX12_canBind_23 (by decide +kernel) ?_
        exact V_zret 24 B rfl dX12_canBind_24 (mkW [] [] [] [] [] []) (Or.inl rfl) rfl
    ·
      refine V_if_ne_t 5 B 23 dX12_canBind_5 (by decide) (by decide +kernel) ?_
      refine V_iconst 23 B (v := 0) dX12_canBind_23 (by decide +kernel) ?_
      exact V_zret 24 B rfl dX12_canBind_24 (mkW [] [] [] [] [] []) (Or.inl rfl) rfl)
theorem glV_RX12_129 : GLV RX12 129 yX12_canBind RX12 cX12_canBind 3 (some .boolean) 2 := ⟨⟨(mT8 104 rfl rfl), (mT8 106 rfl rfl), (mTs 45 rfl rfl), (mT1 13 rfl rfl), (mT8 107 rfl rfl)⟩, by decide +kernel⟩
theorem dX12_bound_6 : decode cX12_bound 6 = .ok (.ifCond .ne 7, 3) := by decide +kernel
theorem dX12_bound_9 : decode cX12_bound 9 = .ok (.sipush (-1000), 3) := by decide +kernel
theorem dX12_bound_12 : decode cX12_bound 12 = .ok (.ireturn, 1) := by decide +kernel
theorem dX12_bound_13 : decode cX12_bound 13 = .ok (.aload_n 0, 1) := by decide +kernel
theorem dX12_bound_14 : decode cX12_bound 14 = .ok (.getfield 9, 3) := by decide +kernel
theorem dX12_bound_17 : decode cX12_bound 17 = .ok (.iconst 3, 1) := by decide +kernel
theorem dX12_bound_18 : decode cX12_bound 18 = .ok (.iaload, 1) := by decide +kernel
theorem dX12_bound_19 : decode cX12_bound 19 = .ok (.bipush 80, 2) := by decide +kernel
theorem dX12_bound_21 : decode cX12_bound 21 = .ok (.if_icmp .ne 6, 3) := by decide +kernel
theorem dX12_bound_27 : decode cX12_bound 27 = .ok (.aload_n 0, 1) := by decide +kernel
theorem dX12_bound_28 : decode cX12_bound 28 = .ok (.iload_n 1, 1) := by decide +kernel
theorem dX12_bound_29 : decode cX12_bound 29 = .ok (.iload_n 2, 1) := by decide +kernel
theorem dX12_bound_30 : decode cX12_bound 30 = .ok (.iload_n 3, 1) := by decide +kernel
theorem dX12_bound_31 : decode cX12_bound 31 = .ok (.invokevirtual 132, 3) := by decide +kernel
theorem dX12_bound_34 : decode cX12_bound 34 = .ok (.aload_n 0, 1) := by decide +kernel
theorem dX12_bound_35 : decode cX12_bound 35 = .ok (.getfield 9, 3) := by decide +kernel
theorem dX12_bound_38 : decode cX12_bound 38 = .ok (.iconst 3, 1) := by decide +kernel
theorem dX12_bound_39 : decode cX12_bound 39 = .ok (.iaload, 1) := by decide +kernel
theorem dX12_bound_40 : decode cX12_bound 40 = .ok (.iconst 1, 1) := by decide +kernel
theorem dX12_bound_41 : decode cX12_bound 41 = .ok (.isub, 1) := by decide +kernel
theorem dX12_bound_42 : decode cX12_bound 42 = .ok (.ireturn, 1) := by decide +kernel
theorem dX12_bound_24 : decode cX12_bound 24 = .ok (.bipush (-2), 2) := by decide +kernel
theorem dX12_bound_26 : decode cX12_bound 26 = .ok (.ireturn, 1) := by decide +kernel
set_option maxRecDepth 100000 in
set_option maxHeartbeats 4000000 in
theorem rX12_bound (l : Launch) (D : va_G) (Y : Nat → ClassId) (h0 : Nat) (h1 : Nat) (h2 : Nat) (h3 : Nat) (h4 : Nat) (h5 : Nat) (h6 : Nat) (p2 : Int32) (k5 : Nat) (k6 : Nat) (p7 : Int32) (p8 : Int32) (p9 : Int32) (k10 : Nat) (p11 : Int32) (q12 : Int64) (k15 : Nat) (k16 : Nat) (f0 : Nat → Int32) (f1 : Nat → Int32) (f3 : Nat → Int32) (f4 : Nat → Int32) (f13 : Nat → Int32) (f14 : Nat → Int32) (HI : INV f0) (HL : k5 ≤ 1600) (HP : PLV f13) (s0 : Int32) (s1 : Nat) (s2 : Nat) (hn1 : s1 < 40) (hs2 : SQ s2) (sz : Nat) : Met l yX12_bound (WSm yX12_bound cX12_bound 4 (some .int)) (mkR 5 0 0 112) (PreC D Y [.ref h0, .int s0, .int (nI s1), .int (nI s2)] [(h0, oC 13 [.ref h1, .ref h2, .int p2, .ref h3, .ref h4, .int (nI k5), .int (nI k6), .int p7, .int p8, .int p9, .int (nI k10), .int p11, .long q12, .ref h5, .ref h6, .int (nI k15), .int (nI k16)]), (h1, aI Y 3640 f0), (h2, aZ Y 2 f1), (h3, aZ Y 80 f3), (h4, aB Y 1600 f4), (h5, aI Y 200 f13), (h6, aI Y 800 f14)] sz) (QI D (fun (r : Int32) (u : WU) => INV (u.2.2.2.1 0)) (fun (u : WU) => [(h0, oC 13 [.ref h1, .ref h2, .int p2, .ref h3, .ref h4, .int (nI k5), .int (nI k6), .int p7, .int p8, .int p9, .int (nI k10), .int p11, .long q12, .ref h5, .ref h6, .int (nI k15), .int (nI k16)]), (h1, aI Y 3640 (u.2.2.2.1 0)), (h2, aZ Y 2 f1), (h3, aZ Y 80 f3), (h4, aB Y 1600 f4), (h5, aI Y 200 f13), (h6, aI Y 800 f14)]) (va_A [(h0, oC 13 [.ref h1, .ref h2, .int p2, .ref h3, .ref h4, .int (nI k5), .int (nI k6), .int p7, .int p8, .int p9, .int (nI k10), .int p11, .long q12, .ref h5, .ref h6, .int (nI k15), .int (nI k16)]), (h1, aI Y 3640 f0), (h2, aZ Y 2 f1), (h3, aZ Y 80 f3), (h4, aB Y 1600 f4), (h5, aI Y 200 f13), (h6, aI Y 800 f14)] sz)) 0 0 (va_A [(h0, oC 13 [.ref h1, .ref h2, .int p2, .ref h3, .ref h4, .int (nI k5), .int (nI k6), .int p7, .int p8, .int p9, .int (nI k10), .int p11, .long q12, .ref h5, .ref h6, .int (nI k15), .int (nI k16)]), (h1, aI Y 3640 f0), (h2, aZ Y 2 f1), (h3, aZ Y 80 f3), (h4, aB Y 1600 f4), (h5, aI Y 200 f13), (h6, aI Y 800 f14)] sz) :=
  met_of  (by decide +kernel) (Nat.le_of_ble_eq_true rfl) (fun p e s m args below meth c B hin hsz => by
    have B : VB p s m args meth c D Y (va_A [(h0, oC 13 [.ref h1, .ref h2, .int p2, .ref h3, .ref h4, .int (nI k5), .int (nI k6), .int p7, .int p8, .int p9, .int (nI k10), .int p11, .long q12, .ref h5, .ref h6, .int (nI k15), .int (nI k16)]), (h1, aI Y 3640 f0), (h2, aZ Y 2 f1), (h3, aZ Y 80 f3), (h4, aB Y 1600 f4), (h5, aI Y 200 f13), (h6, aI Y 800 f14)] sz) cX12_bound 4 RX12 (some .int) := B
    have hq_s2 := hs2.1
    refine V_aload_n 0 B dX12_bound_0 0 rfl ?_
    refine V_iload_n 1 B dX12_bound_1 1 rfl ?_
    refine V_iload_n 2 B dX12_bound_2 3 rfl ?_
    refine V_cvi 3 B (st := []) (As := [.int s0, .int (nI s2)]) (fun sz => rX12_canBind l D Y h0 h1 h2 h3 h4 h5 h6 p2 k5 k6 p7 p8 p9 k10 p11 q12 k15 k16 f0 f1 f3 f4 f13 f14 HI (by omega) HP s0 s2 hs2 sz) glV_RX12_129 ⟨rfl, rfl⟩ ⟨(Nat.le_of_ble_eq_true rfl), (Nat.le_of_ble_eq_true rfl)⟩ ⟨(Nat.le_of_ble_eq_true rfl), (Nat.le_of_ble_eq_true rfl)⟩ [0, 0, 0, 0, 0, 0, 0] rfl 13 0 rfl rfl rfl rfl (Nat.le_of_ble_eq_true rfl) rfl (fun _ _ _ => rfl) dX12_bound_3 (fun j0 u1 w2 => ?_)
    refine V_ws [(h0, oC 13 [.ref h1, .ref h2, .int p2, .ref h3, .ref h4, .int (nI k5), .int (nI k6), .int p7, .int p8, .int p9, .int (nI k10), .int p11, .long q12, .ref h5, .ref h6, .int (nI k15), .int (nI k16)]), (h1, aI Y 3640 f0), (h2, aZ Y 2 f1), (h3, aZ Y 80 f3), (h4, aB Y 1600 f4), (h5, aI Y 200 f13), (h6, aI Y 800 f14)] rfl ?_
    have x3 := w2
    clear w2
    rcases x3 with rfl | rfl
    ·
      refine V_if_ne_f 6 B 13 dX12_bound_6 (by decide) (by decide +kernel) ?_
      refine V_sipush 9 B (v := (-1000)) dX12_bound_9 (by decide +kernel) ?_
      exact V_iret 12 B dX12_bound_12 (mkW [] [] [] [f0] [] []) HI rfl
    ·
      refine V_if_ne_t 6 B 13 dX12_bound_6 (by decide) (by decide +kernel) ?_
      refine V_aload_n 13 B dX12_bound_13 0 rfl ?_
      refine V_get 14 B gf_RX12_9 0 rfl rfl dX12_bound_14 ?_
      refine V_iconst 17 B (v := 3) dX12_bound_17 (by decide +kernel) ?_
      have x4 : (gN f0 3) ≤ 80 := gN_le HI (by omega) (show bd 3 = (0, ((80 : Nat) : Int)) by decide +kernel)
      refine V_iald 18 B (v := (nI (gN f0 3))) 1 rfl (vpin _ _ (by decide +kernel)) dX12_bound_18 (by show f0 3 = _; exact gN_eq HI (by omega) (show bd 3 = (0, ((80 : Nat) : Int)) by decide +kernel)) ?_
      refine V_bipush 19 B (v := 80) dX12_bound_19 (by decide +kernel) ?_
      refine V_icmp_ne 21 B 27 dX12_bound_21 (by decide) (fun kk5 => ?_) (fun kk5 => ?_)
      ·
        have x6 := n_ne (a := (gN f0 3)) (b := 80) kk5
        refine V_aload_n 27 B dX12_bound_27 0 rfl ?_
        refine V_iload_n 28 B dX12_bound_28 1 rfl ?_
        refine V_iload_n 29 B dX12_bound_29 2 rfl ?_
        refine V_iload_n 30 B dX12_bound_30 3 rfl ?_
        refine V_cvv 31 B (st := []) (As := [.int s0, .int (nI s1), .int (nI s2)]) (fun sz => rX12_add l D Y h0 h1 h2 h3 h4 h5 h6 p2 k5 k6 p7 p8 p9 k10 p11 q12 k15 k16 f0 f1 f3 f4 f13 f14 HI (by omega) HP s0 s1 s2 (by omega) hs2 (by omega) sz) glV_RX12_132 ⟨rfl, rfl⟩ ⟨(Nat.le_of_ble_eq_true rfl), (Nat.le_of_ble_eq_true rfl)⟩ ⟨(Nat.le_of_ble_eq_true rfl), (Nat.le_of_ble_eq_true rfl)⟩ [0, 0, 0, 0, 0, 0, 0] rfl 13 0 rfl rfl rfl rfl (Nat.le_of_ble_eq_true rfl) rfl (fun _ _ => rfl) dX12_bound_31 (fun u8 w9 => ?_)
        refine V_ws [(h0, oC 13 [.ref h1, .ref h2, .int p2, .ref h3, .ref h4, .int (nI k5), .int (nI k6), .int p7, .int p8, .int p9, .int (nI k10), .int p11, .long q12, .ref h5, .ref h6, .int (nI k15), .int (nI k16)]), (h1, aI Y 3640 (u8.2.2.2.1 0)), (h2, aZ Y 2 f1), (h3, aZ Y 80 f3), (h4, aB Y 1600 f4), (h5, aI Y 200 f13), (h6, aI Y 800 f14)] rfl ?_
        have x10 := w9
        clear w9
        refine V_aload_n 34 B dX12_bound_34 0 rfl ?_
        refine V_get 35 B gf_RX12_9 0 rfl rfl dX12_bound_35 ?_
        refine V_iconst 38 B (v := 3) dX12_bound_38 (by decide +kernel) ?_
        have x11 : (gN (u8.2.2.2.1 0) 3) ≤ 80 := gN_le x10 (by omega) (show bd 3 = (0, ((80 : Nat) : Int)) by decide +kernel)
        refine V_iald 39 B (v := (nI ((gN (u8.2.2.2.1 0) 3)))) 1 rfl (vpin _ _ (by decide +kernel)) dX12_bound_39 (by show (u8.2.2.2.1 0) 3 = _; exact gN_eq x10 (by omega) (show bd 3 = (0, ((80 : Nat) : Int)) by decide +kernel)) ?_
        refine V_iconst 40 B (v := 1) dX12_bound_40 (by decide +kernel) ?_
        refine V_isub 41 B dX12_bound_41 rfl ?_
        refine V_nmi (fun j12 e13 => ?_)
        have x14 : j12.toInt = (((gN (u8.2.2.2.1 0) 3) : Nat) : Int) - ((1 : Nat) : Int) := by rw [e13]; exact nI_subT (a := (gN (u8.2.2.2.1 0) 3)) (b := 1) (by omega) (by omega)
        exact V_iret 42 B dX12_bound_42 (mkW [] [] [] [(u8.2.2.2.1 0)] [] []) x10 rfl
      ·
        have x15 := n_eq (a := (gN f0 3)) (b := 80) kk5 (by omega) (by omega)
        refine V_bipush 24 B (v := (-2)) dX12_bound_24 (by decide +kernel) ?_
        exact V_iret 26 B dX12_bound_26 (mkW [] [] [] [f0] [] []) HI rfl)
theorem glV_RX12_136 : GLV RX12 136 yX12_bound RX12 cX12_bound 4 (some .int) 3 := ⟨⟨(mT8 100 rfl rfl), (mT8 102 rfl rfl), (mTs 44 rfl rfl), (mT1 13 rfl rfl), (mT8 103 rfl rfl)⟩, by decide +kernel⟩
theorem dX12_isBound_121 : decode cX12_isBound 121 = .ok (.goto 12, 3) := by decide +kernel
theorem dX12_isBound_68 : decode cX12_isBound 68 = .ok (.aload_n 0, 1) := by decide +kernel
theorem dX12_isBound_69 : decode cX12_isBound 69 = .ok (.getfield 9, 3) := by decide +kernel
theorem dX12_isBound_72 : decode cX12_isBound 72 = .ok (.sipush 3630, 3) := by decide +kernel
theorem dX12_isBound_75 : decode cX12_isBound 75 = .ok (.iload 4, 2) := by decide +kernel
theorem dX12_isBound_77 : decode cX12_isBound 77 = .ok (.iadd, 1) := by decide +kernel
theorem dX12_isBound_78 : decode cX12_isBound 78 = .ok (.aload_n 0, 1) := by decide +kernel
theorem dX12_isBound_79 : decode cX12_isBound 79 = .ok (.getfield 31, 3) := by decide +kernel
theorem dX12_isBound_82 : decode cX12_isBound 82 = .ok (.aload_n 0, 1) := by decide +kernel
theorem dX12_isBound_83 : decode cX12_isBound 83 = .ok (.getfield 28, 3) := by decide +kernel
theorem dX12_isBound_86 : decode cX12_isBound 86 = .ok (.iload_n 1, 1) := by decide +kernel
theorem dX12_isBound_87 : decode cX12_isBound 87 = .ok (.iconst 3, 1) := by decide +kernel
theorem dX12_isBound_88 : decode cX12_isBound 88 = .ok (.iadd, 1) := by decide +kernel
theorem dX12_isBound_89 : decode cX12_isBound 89 = .ok (.iaload, 1) := by decide +kernel
theorem dX12_isBound_90 : decode cX12_isBound 90 = .ok (.iload 4, 2) := by decide +kernel
theorem dX12_isBound_92 : decode cX12_isBound 92 = .ok (.iadd, 1) := by decide +kernel
theorem dX12_isBound_93 : decode cX12_isBound 93 = .ok (.iaload, 1) := by decide +kernel
theorem dX12_isBound_94 : decode cX12_isBound 94 = .ok (.iastore, 1) := by decide +kernel
theorem rl14 : ∀ z0, z0 < 4 → bd (3630 + z0) = FREE := by decide +kernel
theorem dX12_isBound_95 : decode cX12_isBound 95 = .ok (.iinc 4 1, 3) := by decide +kernel
theorem dX12_isBound_98 : decode cX12_isBound 98 = .ok (.goto (-43), 3) := by decide +kernel
set_option maxRecDepth 100000 in
set_option maxHeartbeats 4000000 in
theorem rX12_isBound (l : Launch) (D : va_G) (Y : Nat → ClassId) (h0 : Nat) (h1 : Nat) (h2 : Nat) (h3 : Nat) (h4 : Nat) (h5 : Nat) (h6 : Nat) (p2 : Int32) (k5 : Nat) (k6 : Nat) (p7 : Int32) (p8 : Int32) (p9 : Int32) (k10 : Nat) (p11 : Int32) (q12 : Int64) (k15 : Nat) (k16 : Nat) (f0 : Nat → Int32) (f1 : Nat → Int32) (f3 : Nat → Int32) (f4 : Nat → Int32) (f13 : Nat → Int32) (f14 : Nat → Int32) (HI : INV f0) (HL : k5 ≤ 1600) (HP : PLV f13) (s0 : Nat) (hn0 : s0 < 40) (sz : Nat) : Met l yX12_isBound (WSm yX12_isBound cX12_isBound 5 (some .boolean)) (mkR 6 0 0 135) (PreC D Y [.ref h0, .int (nI (5 * s0))] [(h0, oC 13 [.ref h1, .ref h2, .int p2, .ref h3, .ref h4, .int (nI k5), .int (nI k6), .int p7, .int p8, .int p9, .int (nI k10), .int p11, .long q12, .ref h5, .ref h6, .int (nI k15), .int (nI k16)]), (h1, aI Y 3640 f0), (h2, aZ Y 2 f1), (h3, aZ Y 80 f3), (h4, aB Y 1600 f4), (h5, aI Y 200 f13), (h6, aI Y 800 f14)] sz) (QI D (fun (r : Int32) (u : WU) => (r = 0 ∨ r = 1) ∧ INV (u.2.2.2.1 0)) (fun (u : WU) => [(h0, oC 13 [.ref h1, .ref h2, .int p2, .ref h3, .ref h4, .int (nI k5), .int (nI k6), .int p7, .int p8, .int p9, .int (nI k10), .int p11, .long q12, .ref h5, .ref h6, .int (nI k15), .int (nI k16)]), (h1, aI Y 3640 (u.2.2.2.1 0)), (h2, aZ Y 2 f1), (h3, aZ Y 80 f3), (h4, aB Y 1600 f4), (h5, aI Y 200 f13), (h6, aI Y 800 f14)]) (va_A [(h0, oC 13 [.ref h1, .ref h2, .int p2, .ref h3, .ref h4, .int (nI k5), .int (nI k6), .int p7, .int p8, .int p9, .int (nI k10), .int p11, .long q12, .ref h5, .ref h6, .int (nI k15), .int (nI k16)]), (h1, aI Y 3640 f0), (h2, aZ Y 2 f1), (h3, aZ Y 80 f3), (h4, aB Y 1600 f4), (h5, aI Y 200 f13), (h6, aI Y 800 f14)] sz)) 0 0 (va_A [(h0, oC 13 [.ref h1, .ref h2, .int p2, .ref h3, .ref h4, .int (nI k5), .int (nI k6), .int p7, .int p8, .int p9, .int (nI k10), .int p11, .long q12, .ref h5, .ref h6, .int (nI k15), .int (nI k16)]), (h1, aI Y 3640 f0), (h2, aZ Y 2 f1), (h3, aZ Y 80 f3), (h4, aB Y 1600 f4), (h5, aI Y 200 f13), (h6, aI Y 800 f14)] sz) :=
  met_of  (by decide +kernel) (Nat.le_of_ble_eq_true rfl) (fun p e s m args below meth c B hin hsz => by
    have B : VB p s m args meth c D Y (va_A [(h0, oC 13 [.ref h1, .ref h2, .int p2, .ref h3, .ref h4, .int (nI k5), .int (nI k6), .int p7, .int p8, .int p9, .int (nI k10), .int p11, .long q12, .ref h5, .ref h6, .int (nI k15), .int (nI k16)]), (h1, aI Y 3640 f0), (h2, aZ Y 2 f1), (h3, aZ Y 80 f3), (h4, aB Y 1600 f4), (h5, aI Y 200 f13), (h6, aI Y 800 f14)] sz) cX12_isBound 5 RX12 (some .boolean) := B
    refine V_aload_n 0 B dX12_isBound_0 0 rfl ?_
    refine V_get 1 B gf_RX12_28 0 rfl rfl dX12_isBound_1 ?_
    refine V_iload_n 4 B dX12_isBound_4 1 rfl ?_
    refine V_iconst 5 B (v := 1) dX12_isBound_5 (by decide +kernel) ?_
    refine V_iadd 6 B (v := (nI (1 + 5 * s0))) dX12_isBound_6 (nI_addE (a := 5 * s0) (b := 1) (by omega)) ?_
    refine V_iald 7 B 5 rfl (vp_in_nI (n := 1 + 5 * s0) (by omega) (by decide)) dX12_isBound_7 rfl ?_
    refine V_nmi (fun j0 e1 => ?_)
    refine V_istore_n 8 B (lv2 := [(2, .int j0), (0, .ref h0), (1, .int (nI (5 * s0)))]) dX12_isBound_8 (by decide) rfl ?_
    refine V_aload_n 9 B dX12_isBound_9 1 rfl ?_
    refine V_get 10 B gf_RX12_28 0 rfl rfl dX12_isBound_10 ?_
    refine V_iload_n 13 B dX12_isBound_13 2 rfl ?_
    refine V_iconst 14 B (v := 2) dX12_isBound_14 (by decide +kernel) ?_
    refine V_iadd 15 B (v := (nI (2 + 5 * s0))) dX12_isBound_15 (nI_addE (a := 5 * s0) (b := 2) (by omega)) ?_
    refine V_iald 16 B 5 rfl (vp_in_nI (n := 2 + 5 * s0) (by omega) (by decide)) dX12_isBound_16 rfl ?_
    refine V_nmi (fun j2 e3 => ?_)
    refine V_istore_n 17 B (lv2 := [(3, .int j2), (2, .int j0), (0, .ref h0), (1, .int (nI (5 * s0)))]) dX12_isBound_17 (by decide) rfl ?_
    refine V_aload_n 18 B dX12_isBound_18 2 rfl ?_
    refine V_iload_n 19 B dX12_isBound_19 1 rfl ?_
    refine V_cvi 20 B (st := []) (As := [.int j0]) (fun sz => rX12_isMode l D Y h0 h1 h2 h3 h4 h5 h6 p2 k5 k6 p7 p8 p9 k10 p11 q12 k15 k16 f0 f1 f3 f4 f13 f14 HI (by omega) HP j0 sz) glV_RX12_91 ⟨rfl, rfl⟩ ⟨(Nat.le_of_ble_eq_true rfl), (Nat.le_of_ble_eq_true rfl)⟩ ⟨(Nat.le_of_ble_eq_true rfl), (Nat.le_of_ble_eq_true rfl)⟩ [0, 0, 0, 0, 0, 0, 0] rfl 13 0 rfl rfl rfl rfl (Nat.le_of_ble_eq_true rfl) rfl (fun _ _ _ => rfl) dX12_isBound_20 (fun j4 u5 w6 => ?_)
    refine V_ws [(h0, oC 13 [.ref h1, .ref h2, .int p2, .ref h3, .ref h4, .int (nI k5), .int (nI k6), .int p7, .int p8, .int p9, .int (nI k10), .int p11, .long q12, .ref h5, .ref h6, .int (nI k15), .int (nI k16)]), (h1, aI Y 3640 f0), (h2, aZ Y 2 f1), (h3, aZ Y 80 f3), (h4, aB Y 1600 f4), (h5, aI Y 200 f13), (h6, aI Y 800 f14)] rfl ?_
    have x7 := w6
    clear w6
    have x11 : (gN f0 0) ≤ 6 := gN_le HI (by omega) (show bd 0 = (0, ((6 : Nat) : Int)) by decide +kernel)
    rcases x7 with rfl | ⟨rfl, n8, rfl, x10⟩
    ·
      refine V_if_eq_t 23 B 34 dX12_isBound_23 (by decide) (by decide +kernel) ?_
      refine V_iconst 34 B (v := 0) dX12_isBound_34 (by decide +kernel) ?_
      exact V_zret 35 B rfl dX12_isBound_35 (mkW [] [] [] [f0] [] []) ⟨(Or.inl rfl), HI⟩ rfl
    ·
      have e12 := nI_toInt (show n8 < 2 ^ 31 by omega)
      have x13 : (gN f0 0) ≤ 6 := gN_le HI (by omega) (show bd 0 = (0, ((6 : Nat) : Int)) by decide +kernel)
      refine V_if_eq_f 23 B 34 dX12_isBound_23 (by decide) (by decide +kernel) ?_
      refine V_aload_n 26 B dX12_isBound_26 2 rfl ?_
      refine V_iload_n 27 B dX12_isBound_27 0 rfl ?_
      refine V_cvi 28 B (st := []) (As := [.int j2]) (fun sz => rX12_isCommand l D Y h0 h1 h2 h3 h4 h5 h6 p2 k5 k6 p7 p8 p9 k10 p11 q12 k15 k16 f0 f1 f3 f4 f13 f14 HI (by omega) HP j2 sz) glV_RX12_99 ⟨rfl, rfl⟩ ⟨(Nat.le_of_ble_eq_true rfl), (Nat.le_of_ble_eq_true rfl)⟩ ⟨(Nat.le_of_ble_eq_true rfl), (Nat.le_of_ble_eq_true rfl)⟩ [0, 0, 0, 0, 0, 0, 0] rfl 13 0 rfl rfl rfl rfl (Nat.le_of_ble_eq_true rfl) rfl (fun _ _ _ => rfl) dX12_isBound_28 (fun j14 u15 w16 => ?_)
      refine V_ws [(h0, oC 13 [.ref h1, .ref h2, .int p2, .ref h3, .ref h4, .int (nI k5), .int (nI k6), .int p7, .int p8, .int p9, .int (nI k10), .int p11, .long q12, .ref h5, .ref h6, .int (nI k15), .int (nI k16)]), (h1, aI Y 3640 f0), (h2, aZ Y 2 f1), (h3, aZ Y 80 f3), (h4, aB Y 1600 f4), (h5, aI Y 200 f13), (h6, aI Y 800 f14)] rfl ?_
      have x17 := w16
      clear w16
      have x21 : (gN f0 1) ≤ 40 := gN_le HI (by omega) (show bd 1 = (0, ((40 : Nat) : Int)) by decide +kernel)
      rcases x17 with rfl | ⟨rfl, n18, rfl, x20⟩
      ·
        refine V_if_ne_f 31 B 36 dX12_isBound_31 (by decide) (by decide +kernel) ?_
        refine V_iconst 34 B (v := 0) dX12_isBound_34 (by decide +kernel) ?_
        exact V_zret 35 B rfl dX12_isBound_35 (mkW [] [] [] [f0] [] []) ⟨(Or.inl rfl), HI⟩ rfl
      ·
        have e22 := nI_toInt (show n18 < 2 ^ 31 by omega)
        have x23 : (gN f0 1) ≤ 40 := gN_le HI (by omega) (show bd 1 = (0, ((40 : Nat) : Int)) by decide +kernel)
        refine V_if_ne_t 31 B 36 dX12_isBound_31 (by decide) (by decide +kernel) ?_
        refine V_aload_n 36 B dX12_isBound_36 2 rfl ?_
        refine V_get 37 B gf_RX12_9 0 rfl rfl dX12_isBound_37 ?_
        refine V_sipush 40 B (v := 3629) dX12_isBound_40 (by decide +kernel) ?_
        refine V_aload_n 43 B dX12_isBound_43 2 rfl ?_
        refine V_get 44 B gf_RX12_28 0 rfl rfl dX12_isBound_44 ?_
        refine V_iload_n 47 B dX12_isBound_47 3 rfl ?_
        refine V_iconst 48 B (v := 4) dX12_isBound_48 (by decide +kernel) ?_
        refine V_iadd 49 B (v := (nI (4 + 5 * s0))) dX12_isBound_49 (nI_addE (a := 5 * s0) (b := 4) (by omega)) ?_
        refine V_iald 50 B 5 rfl (vp_in_nI (n := 4 + 5 * s0) (by omega) (by decide)) dX12_isBound_50 rfl ?_
        refine V_nmi (fun j24 e25 => ?_)
        have x26 : 0 ≤ j24.toInt ∧ j24.toInt ≤ 4 := by rw [e25, nI_clamp (show 4 + 5 * s0 < 2 ^ 31 by omega), show 4 + 5 * s0 = 5 * s0 + 4 by omega]; exact (HP s0 (by omega)).2
        obtain ⟨n27, x28, rfl⟩ := nat_of (x := j24) (n := 4) (by omega) (by omega)
        have e29 := nI_toInt (show n27 < 2 ^ 31 by omega)
        have hv30 : INV (upd f0 3629 (nI n27)) := INV_nat (v := n27) HI (show bd 3629 = (0, ((4 : Nat) : Int)) by decide +kernel) (by omega) (by decide)
        refine V_iast 51 B 1 rfl (vpin _ _ (by decide +kernel)) dX12_isBound_51 [(h0, oC 13 [.ref h1, .ref h2, .int p2, .ref h3, .ref h4, .int (nI k5), .int (nI k6), .int p7, .int p8, .int p9, .int (nI k10), .int p11, .long q12, .ref h5, .ref h6, .int (nI k15), .int (nI k16)]), (h1, aI Y 3640 (upd f0 3629 (nI n27))), (h2, aZ Y 2 f1), (h3, aZ Y 80 f3), (h4, aB Y 1600 f4), (h5, aI Y 200 f13), (h6, aI Y 800 f14)] rfl ?_
        refine V_iconst 52 B (v := 0) dX12_isBound_52 (by decide +kernel) ?_
        refine V_istore 53 B (lv2 := [(4, .int 0), (3, .int (nI n18)), (2, .int (nI n8)), (0, .ref h0), (1, .int (nI (5 * s0)))]) dX12_isBound_53 (by decide) rfl ?_
        refine V_wloop (α := WU) (fun a => 100000 - (a.1 0)) (fun a => INV (a.2.2.2.1 0) ∧ (a.1 0) ≤ 4000) (fun a => [(4, .int (nI (a.1 0))), (3, .int (nI n18)), (2, .int (nI n8)), (0, .ref h0), (1, .int (nI (5 * s0)))]) (fun a => [(h0, oC 13 [.ref h1, .ref h2, .int p2, .ref h3, .ref h4, .int (nI k5), .int (nI k6), .int p7, .int p8, .int p9, .int (nI k10), .int p11, .long q12, .ref h5, .ref h6, .int (nI k15), .int (nI k16)]), (h1, aI Y 3640 (a.2.2.2.1 0)), (h2, aZ Y 2 f1), (h3, aZ Y 80 f3), (h4, aB Y 1600 f4), (h5, aI Y 200 f13), (h6, aI Y 800 f14)]) (mkW [0] [] [] [(upd f0 3629 (nI n27))] [] []) ⟨hv30, (show 0 ≤ 4000 by omega)⟩ rfl rfl (fun a31 hI33 IH32 => ?_)
        refine V_lv [(4, .int (nI (a31.1 0))), (3, .int (nI n18)), (2, .int (nI n8)), (0, .ref h0), (1, .int (nI (5 * s0)))] [0, 1, 2, 3, 4] rfl ?_
        refine V_ws [(h0, oC 13 [.ref h1, .ref h2, .int p2, .ref h3, .ref h4, .int (nI k5), .int (nI k6), .int p7, .int p8, .int p9, .int (nI k10), .int p11, .long q12, .ref h5, .ref h6, .int (nI k15), .int (nI k16)]), (h1, aI Y 3640 (a31.2.2.2.1 0)), (h2, aZ Y 2 f1), (h3, aZ Y 80 f3), (h4, aB Y 1600 f4), (h5, aI Y 200 f13), (h6, aI Y 800 f14)] rfl ?_
        obtain ⟨x34, x35⟩ := hI33
        refine V_iload 55 B dX12_isBound_55 0 rfl ?_
        refine V_aload_n 57 B dX12_isBound_57 3 rfl ?_
        refine V_get 58 B gf_RX12_28 0 rfl rfl dX12_isBound_58 ?_
        refine V_iload_n 61 B dX12_isBound_61 4 rfl ?_
        refine V_iconst 62 B (v := 4) dX12_isBound_62 (by decide +kernel) ?_
        refine V_iadd 63 B (v := (nI (4 + 5 * s0))) dX12_isBound_63 (nI_addE (a := 5 * s0) (b := 4) (by omega)) ?_
        refine V_iald 64 B 5 rfl (vp_in_nI (n := 4 + 5 * s0) (by omega) (by decide)) dX12_isBound_64 rfl ?_
        refine V_nmi (fun j36 e37 => ?_)
        have x38 : 0 ≤ j36.toInt ∧ j36.toInt ≤ 4 := by rw [e37, nI_clamp (show 4 + 5 * s0 < 2 ^ 31 by omega), show 4 + 5 * s0 = 5 * s0 + 4 by omega]; exact (HP s0 (by omega)).2
        obtain ⟨n39, x40, rfl⟩ := nat_of (x := j36) (n := 4) (by omega) (by omega)
        have e41 := nI_toInt (show n39 < 2 ^ 31 by omega)
        refine V_icmp_ge 65 B 101 dX12_isBound_65 (by decide) (fun kk42 => ?_) (fun kk42 => ?_)
        ·
          have x43 := n_le (a := n39) (b := (a31.1 0)) kk42 (by omega) (by omega)
          refine V_aload_n 101 B dX12_isBound_101 3 rfl ?_
          refine V_get 102 B gf_RX12_28 0 rfl rfl dX12_isBound_102 ?_
          refine V_iload_n 105 B dX12_isBound_105 4 rfl ?_
          refine V_iald 106 B 5 rfl (vp_in_nI (n := 5 * s0) (by omega) (by decide)) dX12_isBound_106 rfl ?_
          refine V_nmi (fun j44 e45 => ?_)
          refine V_bipush 107 B (v := 6) dX12_isBound_107 (by decide +kernel) ?_
          refine V_icmp_ne 109 B 124 dX12_isBound_109 (by decide) (fun kk46 => ?_) (fun kk46 => ?_)
          ·
            have x47 := x_ne kk46
            rw [show (6 : Int32).toInt = 6 by decide +kernel] at x47
            refine V_aload_n 124 B dX12_isBound_124 3 rfl ?_
            refine V_iload_n 125 B dX12_isBound_125 2 rfl ?_
            refine V_iload_n 126 B dX12_isBound_126 1 rfl ?_
            refine V_sipush 127 B (v := 3629) dX12_isBound_127 (by decide +kernel) ?_
            refine V_cvi 130 B (st := []) (As := [.int (nI n8), .int (nI n18), .int 3629]) (fun sz => rX12_forced l D Y h0 h1 h2 h3 h4 h5 h6 p2 k5 k6 p7 p8 p9 k10 p11 q12 k15 k16 (a31.2.2.2.1 0) f1 f3 f4 f13 f14 x34 (by omega) HP (nI n8) n18 3629 (by omega) (show SQ 3629 by unfold SQ; decide +kernel) sz) glV_RX12_145 ⟨rfl, rfl⟩ ⟨(Nat.le_of_ble_eq_true rfl), (Nat.le_of_ble_eq_true rfl)⟩ ⟨(Nat.le_of_ble_eq_true rfl), (Nat.le_of_ble_eq_true rfl)⟩ [0, 0, 0, 0, 0, 0, 0] rfl 13 0 rfl rfl rfl rfl (Nat.le_of_ble_eq_true rfl) rfl (fun _ _ _ => rfl) dX12_isBound_130 (fun j48 u49 w50 => ?_)
            refine V_ws [(h0, oC 13 [.ref h1, .ref h2, .int p2, .ref h3, .ref h4, .int (nI k5), .int (nI k6), .int p7, .int p8, .int p9, .int (nI k10), .int p11, .long q12, .ref h5, .ref h6, .int (nI k15), .int (nI k16)]), (h1, aI Y 3640 (u49.2.2.2.1 0)), (h2, aZ Y 2 f1), (h3, aZ Y 80 f3), (h4, aB Y 1600 f4), (h5, aI Y 200 f13), (h6, aI Y 800 f14)] rfl ?_
            have x51 := w50
            clear w50
            refine V_if_lt 133 B 140 dX12_isBound_133 (by decide) (fun kk52 => ?_) (fun kk52 => ?_)
            ·
              have x53 := x_lt kk52
              rw [show (0 : Int32).toInt = 0 by decide +kernel] at x53
              refine V_iconst 140 B (v := 0) dX12_isBound_140 (by decide +kernel) ?_
              exact V_zret 141 B rfl dX12_isBound_141 (mkW [] [] [] [(u49.2.2.2.1 0)] [] []) ⟨(Or.inl rfl), x51⟩ rfl
            ·
              have x54 := x_nlt kk52
              rw [show (0 : Int32).toInt = 0 by decide +kernel] at x54
              refine V_iconst 136 B (v := 1) dX12_isBound_136 (by decide +kernel) ?_
              refine V_goto 137 B 141 dX12_isBound_137 (by decide) ?_
              exact V_zret 141 B rfl dX12_isBound_141 (mkW [] [] [] [(u49.2.2.2.1 0)] [] []) ⟨(Or.inr rfl), x51⟩ rfl
          ·
            obtain rfl : j44 = 6 := kk46
            have e56 : (6 : Int32).toInt = 6 := by decide +kernel
            refine V_aload_n 112 B dX12_isBound_112 3 rfl ?_
            refine V_iload_n 113 B dX12_isBound_113 2 rfl ?_
            refine V_iload_n 114 B dX12_isBound_114 1 rfl ?_
            refine V_sipush 115 B (v := 3629) dX12_isBound_115 (by decide +kernel) ?_
            refine V_cvi 118 B (st := []) (As := [.int (nI n8), .int (nI n18), .int 3629]) (fun sz => rX12_bound l D Y h0 h1 h2 h3 h4 h5 h6 p2 k5 k6 p7 p8 p9 k10 p11 q12 k15 k16 (a31.2.2.2.1 0) f1 f3 f4 f13 f14 x34 (by omega) HP (nI n8) n18 3629 (by omega) (show SQ 3629 by unfold SQ; decide +kernel) sz) glV_RX12_136 ⟨rfl, rfl⟩ ⟨(Nat.le_of_ble_eq_true rfl), (Nat.le_of_ble_eq_true rfl)⟩ ⟨(Nat.le_of_ble_eq_true rfl), (Nat.le_of_ble_eq_true rfl)⟩ [0, 0, 0, 0, 0, 0, 0] rfl 13 0 rfl rfl rfl rfl (Nat.le_of_ble_eq_true rfl) rfl (fun _ _ _ => rfl) dX12_isBound_118 (fun j57 u58 w59 => ?_)
            refine V_ws [(h0, oC 13 [.ref h1, .ref h2, .int p2, .ref h3, .ref h4, .int (nI k5), .int (nI k6), .int p7, .int p8, .int p9, .int (nI k10), .int p11, .long q12, .ref h5, .ref h6, .int (nI k15), .int (nI k16)]), (h1, aI Y 3640 (u58.2.2.2.1 0)), (h2, aZ Y 2 f1), (h3, aZ Y 80 f3), (h4, aB Y 1600 f4), (h5, aI Y 200 f13), (h6, aI Y 800 f14)] rfl ?_
            have x60 := w59
            clear w59
            refine V_goto 121 B 133 dX12_isBound_121 (by decide) ?_
            refine V_if_lt 133 B 140 dX12_isBound_133 (by decide) (fun kk61 => ?_) (fun kk61 => ?_)
            ·
              have x62 := x_lt kk61
              rw [show (0 : Int32).toInt = 0 by decide +kernel] at x62
              refine V_iconst 140 B (v := 0) dX12_isBound_140 (by decide +kernel) ?_
              exact V_zret 141 B rfl dX12_isBound_141 (mkW [] [] [] [(u58.2.2.2.1 0)] [] []) ⟨(Or.inl rfl), x60⟩ rfl
            ·
              have x63 := x_nlt kk61
              rw [show (0 : Int32).toInt = 0 by decide +kernel] at x63
              refine V_iconst 136 B (v := 1) dX12_isBound_136 (by decide +kernel) ?_
              refine V_goto 137 B 141 dX12_isBound_137 (by decide) ?_
              exact V_zret 141 B rfl dX12_isBound_141 (mkW [] [] [] [(u58.2.2.2.1 0)] [] []) ⟨(Or.inr rfl), x60⟩ rfl
        ·
          have x64 := n_nle (a := n39) (b := (a31.1 0)) kk42 (by omega) (by omega)
          refine V_aload_n 68 B dX12_isBound_68 3 rfl ?_
          refine V_get 69 B gf_RX12_9 0 rfl rfl dX12_isBound_69 ?_
          refine V_sipush 72 B (v := 3630) dX12_isBound_72 (by decide +kernel) ?_
          refine V_iload 75 B dX12_isBound_75 0 rfl ?_
          refine V_iadd 77 B (v := (nI (3630 + (a31.1 0)))) dX12_isBound_77 (nI_addE (a := 3630) (b := (a31.1 0)) (by omega)) ?_
          refine V_aload_n 78 B dX12_isBound_78 3 rfl ?_
          refine V_get 79 B gf_RX12_31 0 rfl rfl dX12_isBound_79 ?_
          refine V_aload_n 82 B dX12_isBound_82 3 rfl ?_
          refine V_get 83 B gf_RX12_28 0 rfl rfl dX12_isBound_83 ?_
          refine V_iload_n 86 B dX12_isBound_86 4 rfl ?_
          refine V_iconst 87 B (v := 3) dX12_isBound_87 (by decide +kernel) ?_
          refine V_iadd 88 B (v := (nI (3 + 5 * s0))) dX12_isBound_88 (nI_addE (a := 5 * s0) (b := 3) (by omega)) ?_
          refine V_iald 89 B 5 rfl (vp_in_nI (n := 3 + 5 * s0) (by omega) (by decide)) dX12_isBound_89 rfl ?_
          refine V_nmi (fun j65 e66 => ?_)
          have x67 : 0 ≤ j65.toInt ∧ j65.toInt ≤ 160 := by rw [e66, nI_clamp (show 3 + 5 * s0 < 2 ^ 31 by omega), show 3 + 5 * s0 = 5 * s0 + 3 by omega]; exact (HP s0 (by omega)).1
          obtain ⟨n68, x69, rfl⟩ := nat_of (x := j65) (n := 160) (by omega) (by omega)
          have e70 := nI_toInt (show n68 < 2 ^ 31 by omega)
          refine V_iload 90 B dX12_isBound_90 0 rfl ?_
          refine V_iadd 92 B (v := (nI ((a31.1 0) + n68))) dX12_isBound_92 (nI_addE (a := n68) (b := (a31.1 0)) (by omega)) ?_
          refine V_iald 93 B 6 rfl (vp_in_nI (n := (a31.1 0) + n68) (by omega) (by decide)) dX12_isBound_93 rfl ?_
          refine V_nmi (fun j71 e72 => ?_)
          have hv73 : INV (upd (a31.2.2.2.1 0) (3630 + (a31.1 0)) j71) := INV_free x34 (rl14 (a31.1 0) (by omega))
          refine V_iast 94 B 1 rfl (vp_in_nI (n := 3630 + (a31.1 0)) (by omega) (by decide)) dX12_isBound_94 [(h0, oC 13 [.ref h1, .ref h2, .int p2, .ref h3, .ref h4, .int (nI k5), .int (nI k6), .int p7, .int p8, .int p9, .int (nI k10), .int p11, .long q12, .ref h5, .ref h6, .int (nI k15), .int (nI k16)]), (h1, aI Y 3640 (upd (a31.2.2.2.1 0) (3630 + (a31.1 0)) j71)), (h2, aZ Y 2 f1), (h3, aZ Y 80 f3), (h4, aB Y 1600 f4), (h5, aI Y 200 f13), (h6, aI Y 800 f14)] (by rw [nI_clamp (show 3630 + (a31.1 0) < 2 ^ 31 by omega)]; rfl) ?_
          refine V_iinc 95 B (v := (nI (1 + (a31.1 0)))) (lv2 := [(4, .int (nI (1 + (a31.1 0)))), (3, .int (nI n18)), (2, .int (nI n8)), (0, .ref h0), (1, .int (nI (5 * s0)))]) dX12_isBound_95 0 rfl (nI_addE (a := (a31.1 0)) (b := 1) (by omega)) (by decide) rfl ?_
          refine V_goto 98 B 55 dX12_isBound_98 (by decide) ?_
          refine V_lv [(4, .int (nI (1 + (a31.1 0)))), (3, .int (nI n18)), (2, .int (nI n8)), (0, .ref h0), (1, .int (nI (5 * s0)))] [0, 1, 2, 3, 4] rfl ?_
          exact IH32 (mkW [1 + (a31.1 0)] [] [] [(upd (a31.2.2.2.1 0) (3630 + (a31.1 0)) j71)] [] []) ⟨hv73, (show 1 + (a31.1 0) ≤ 4000 by omega)⟩ (by show 100000 - (1 + (a31.1 0)) < 100000 - (a31.1 0); omega))
theorem dX12_isPlayed_0 : decode cX12_isPlayed 0 = .ok (.aload_n 0, 1) := by decide +kernel
theorem dX12_isPlayed_1 : decode cX12_isPlayed 1 = .ok (.getfield 28, 3) := by decide +kernel
theorem dX12_isPlayed_4 : decode cX12_isPlayed 4 = .ok (.iload_n 1, 1) := by decide +kernel
theorem dX12_isPlayed_5 : decode cX12_isPlayed 5 = .ok (.iconst 1, 1) := by decide +kernel
theorem dX12_isPlayed_6 : decode cX12_isPlayed 6 = .ok (.iadd, 1) := by decide +kernel
theorem dX12_isPlayed_7 : decode cX12_isPlayed 7 = .ok (.iaload, 1) := by decide +kernel
theorem dX12_isPlayed_8 : decode cX12_isPlayed 8 = .ok (.istore_n 2, 1) := by decide +kernel
theorem dX12_isPlayed_9 : decode cX12_isPlayed 9 = .ok (.aload_n 0, 1) := by decide +kernel
theorem dX12_isPlayed_10 : decode cX12_isPlayed 10 = .ok (.getfield 28, 3) := by decide +kernel
theorem dX12_isPlayed_13 : decode cX12_isPlayed 13 = .ok (.iload_n 1, 1) := by decide +kernel
theorem dX12_isPlayed_14 : decode cX12_isPlayed 14 = .ok (.iaload, 1) := by decide +kernel
theorem dX12_isPlayed_15 : decode cX12_isPlayed 15 = .ok (.tableswitch 152 0 5 #[37, 45, 51, 70, 91, 110], 37) := by decide +kernel
theorem dX12_isPlayed_52 : decode cX12_isPlayed 52 = .ok (.aload_n 0, 1) := by decide +kernel
theorem dX12_isPlayed_53 : decode cX12_isPlayed 53 = .ok (.iload_n 2, 1) := by decide +kernel
theorem dX12_isPlayed_54 : decode cX12_isPlayed 54 = .ok (.invokevirtual 373, 3) := by decide +kernel
theorem dX12_press_0 : decode cX12_press 0 = .ok (.aload_n 0, 1) := by decide +kernel
theorem dX12_press_1 : decode cX12_press 1 = .ok (.iconst 0, 1) := by decide +kernel
theorem dX12_press_2 : decode cX12_press 2 = .ok (.putfield 38, 3) := by decide +kernel
theorem dX12_press_5 : decode cX12_press 5 = .ok (.aload_n 0, 1) := by decide +kernel
theorem dX12_press_6 : decode cX12_press 6 = .ok (.iload_n 1, 1) := by decide +kernel
theorem dX12_press_7 : decode cX12_press 7 = .ok (.invokestatic 204, 3) := by decide +kernel
theorem dX12_isKey_0 : decode cX12_isKey 0 = .ok (.iload_n 0, 1) := by decide +kernel
theorem dX12_isKey_1 : decode cX12_isKey 1 = .ok (.i2l, 1) := by decide +kernel
theorem dX12_isKey_2 : decode cX12_isKey 2 = .ok (.lconst 0, 1) := by decide +kernel
theorem dX12_isKey_3 : decode cX12_isKey 3 = .ok (.ldc2_w 202, 3) := by decide +kernel
theorem dX12_isKey_6 : decode cX12_isKey 6 = .ok (.invokestatic 41, 3) := by decide +kernel
theorem dX12_isKey_9 : decode cX12_isKey 9 = .ok (.ireturn, 1) := by decide +kernel
set_option maxRecDepth 100000 in
set_option maxHeartbeats 4000000 in
theorem rX12_isKey (l : Launch) (D : va_G) (Y : Nat → ClassId)  (s0 : Int32)  (sz : Nat) : Met l yX12_isKey (WSm yX12_isKey cX12_isKey 1 (some .boolean)) (mkR 1 0 0 25) (PreC D Y [.int s0] [] sz) (QI D (fun (r : Int32) (u : WU) => (r = 0 ∨ (r = 1 ∧ ∃ m : Nat, s0 = nI m ∧ m < 26))) (fun (u : WU) => []) (va_A [] sz)) 0 0 (va_A [] sz) :=
  met_of  (by decide +kernel) (Nat.le_of_ble_eq_true rfl) (fun p e s m args below meth c B hin hsz => by
    have B : VB p s m args meth c D Y (va_A [] sz) cX12_isKey 1 RX12 (some .boolean) := B
    refine V_iload_n 0 B dX12_isKey_0 0 rfl ?_
    refine V_i2l 1 B dX12_isKey_1 rfl ?_
    refine V_nml (fun o0 e1 => ?_)
    have x2 : o0.toInt = s0.toInt := by rw [e1, Int32.toInt_toInt64]
    refine V_lconst 2 B (v := 0) dX12_isKey_2 (by decide +kernel) ?_
    refine V_ldc2 3 B (v := 25) dX12_isKey_3 (mT9 71 rfl rfl) ?_
    refine V_csi 6 B (st := []) (As := [.long o0, .long 0, .long 25]) (fun sz => rX12_inRange l D Y o0 0 25 sz) glS_RX12_41 ⟨rfl, rfl⟩ ⟨(Nat.le_of_ble_eq_true rfl), (Nat.le_of_ble_eq_true rfl)⟩ ⟨(Nat.le_of_ble_eq_true rfl), (Nat.le_of_ble_eq_true rfl)⟩ [] rfl rfl (Nat.le_of_ble_eq_true rfl) rfl (fun _ _ _ => rfl) dX12_isKey_6 (fun j3 u4 w5 => ?_)
    rcases w5 with ⟨rfl, x8⟩ | ⟨rfl, x6, x7⟩
    ·
      rw [show (0 : Int64).toInt = 0 by decide +kernel] at x8
      rw [show (25 : Int64).toInt = 25 by decide +kernel] at x8
      exact V_zret 9 B rfl dX12_isKey_9 (mkW [] [] [] [] [] []) (Or.inl rfl) rfl
    ·
      rw [show (0 : Int64).toInt = 0 by decide +kernel] at x6
      rw [show (25 : Int64).toInt = 25 by decide +kernel] at x7
      exact V_zret 9 B rfl dX12_isKey_9 (mkW [] [] [] [] [] []) (Or.inr ⟨rfl, nat_lt (n := 26) (by omega) (by omega)⟩) rfl)
theorem glS_RX12_204 : GLS RX12 204 yX12_isKey cX12_isKey 1 (some .boolean) 1 := ⟨⟨(mT9 68 rfl rfl), (mT9 69 rfl rfl), (mT1 13 rfl rfl), (mT9 70 rfl rfl)⟩, by decide +kernel⟩
theorem dX12_press_10 : decode cX12_press 10 = .ok (.ifCond .ne 7, 3) := by decide +kernel
theorem dX12_press_13 : decode cX12_press 13 = .ok (.iconst 1, 1) := by decide +kernel
theorem dX12_press_14 : decode cX12_press 14 = .ok (.goto 4, 3) := by decide +kernel
theorem dX12_press_18 : decode cX12_press 18 = .ok (.iconst 1, 1) := by decide +kernel
theorem dX12_press_19 : decode cX12_press 19 = .ok (.invokevirtual 69, 3) := by decide +kernel
theorem dX12_throwsIf_0 : decode cX12_throwsIf 0 = .ok (.iload_n 1, 1) := by decide +kernel
theorem dX12_throwsIf_1 : decode cX12_throwsIf 1 = .ok (.ifCond .eq 8, 3) := by decide +kernel
theorem dX12_throwsIf_4 : decode cX12_throwsIf 4 = .ok (.aload_n 0, 1) := by decide +kernel
theorem dX12_throwsIf_5 : decode cX12_throwsIf 5 = .ok (.iload_n 2, 1) := by decide +kernel
theorem dX12_throwsIf_6 : decode cX12_throwsIf 6 = .ok (.putfield 38, 3) := by decide +kernel
theorem dX12_throwsIf_9 : decode cX12_throwsIf 9 = .ok (.iload_n 1, 1) := by decide +kernel
theorem dX12_throwsIf_10 : decode cX12_throwsIf 10 = .ok (.ireturn, 1) := by decide +kernel
set_option maxRecDepth 100000 in
set_option maxHeartbeats 4000000 in
theorem rX12_throwsIf_1 (l : Launch) (D : va_G) (Y : Nat → ClassId) (h0 : Nat) (h1 : Nat) (h2 : Nat) (h3 : Nat) (h4 : Nat) (h5 : Nat) (h6 : Nat) (p2 : Int32) (k5 : Nat) (k6 : Nat) (p7 : Int32) (p8 : Int32) (p9 : Int32) (k10 : Nat) (p11 : Int32) (q12 : Int64) (k15 : Nat) (k16 : Nat) (f0 : Nat → Int32) (f1 : Nat → Int32) (f3 : Nat → Int32) (f4 : Nat → Int32) (f13 : Nat → Int32) (f14 : Nat → Int32) (HI : INV f0) (HL : k5 ≤ 1600) (HP : PLV f13) (s1 : Int32)  (sz : Nat) : Met l yX12_throwsIf (WSm yX12_throwsIf cX12_throwsIf 3 (some .boolean)) (mkR 0 0 0 0) (PreC D Y [.ref h0, .int 1, .int s1] [(h0, oC 13 [.ref h1, .ref h2, .int p2, .ref h3, .ref h4, .int (nI k5), .int (nI k6), .int p7, .int p8, .int p9, .int (nI k10), .int p11, .long q12, .ref h5, .ref h6, .int (nI k15), .int (nI k16)]), (h1, aI Y 3640 f0), (h2, aZ Y 2 f1), (h3, aZ Y 80 f3), (h4, aB Y 1600 f4), (h5, aI Y 200 f13), (h6, aI Y 800 f14)] sz) (QI D (fun (r : Int32) (u : WU) => r = 1) (fun (u : WU) => [(h0, oC 13 [.ref h1, .ref h2, .int (u.2.1 0), .ref h3, .ref h4, .int (nI k5), .int (nI k6), .int p7, .int p8, .int p9, .int (nI k10), .int p11, .long q12, .ref h5, .ref h6, .int (nI k15), .int (nI k16)]), (h1, aI Y 3640 f0), (h2, aZ Y 2 f1), (h3, aZ Y 80 f3), (h4, aB Y 1600 f4), (h5, aI Y 200 f13), (h6, aI Y 800 f14)]) (va_A [(h0, oC 13 [.ref h1, .ref h2, .int p2, .ref h3, .ref h4, .int (nI k5), .int (nI k6), .int p7, .int p8, .int p9, .int (nI k10), .int p11, .long q12, .ref h5, .ref h6, .int (nI k15), .int (nI k16)]), (h1, aI Y 3640 f0), (h2, aZ Y 2 f1), (h3, aZ Y 80 f3), (h4, aB Y 1600 f4), (h5, aI Y 200 f13), (h6, aI Y 800 f14)] sz)) 0 0 (va_A [(h0, oC 13 [.ref h1, .ref h2, .int p2, .ref h3, .ref h4, .int (nI k5), .int (nI k6), .int p7, .int p8, .int p9, .int (nI k10), .int p11, .long q12, .ref h5, .ref h6, .int (nI k15), .int (nI k16)]), (h1, aI Y 3640 f0), (h2, aZ Y 2 f1), (h3, aZ Y 80 f3), (h4, aB Y 1600 f4), (h5, aI Y 200 f13), (h6, aI Y 800 f14)] sz) :=
  met_of  (by decide +kernel) (Nat.le_of_ble_eq_true rfl) (fun p e s m args below meth c B hin hsz => by
    have B : VB p s m args meth c D Y (va_A [(h0, oC 13 [.ref h1, .ref h2, .int p2, .ref h3, .ref h4, .int (nI k5), .int (nI k6), .int p7, .int p8, .int p9, .int (nI k10), .int p11, .long q12, .ref h5, .ref h6, .int (nI k15), .int (nI k16)]), (h1, aI Y 3640 f0), (h2, aZ Y 2 f1), (h3, aZ Y 80 f3), (h4, aB Y 1600 f4), (h5, aI Y 200 f13), (h6, aI Y 800 f14)] sz) cX12_throwsIf 3 RX12 (some .boolean) := B
    refine V_iload_n 0 B dX12_throwsIf_0 1 rfl ?_
    refine V_if_eq_f 1 B 9 dX12_throwsIf_1 (by decide) (by decide +kernel) ?_
    refine V_aload_n 4 B dX12_throwsIf_4 0 rfl ?_
    refine V_iload_n 5 B dX12_throwsIf_5 2 rfl ?_
    refine V_put 6 B gp_RX12_38 0 rfl (Nat.le_of_ble_eq_true rfl) rfl rfl dX12_throwsIf_6 [(h0, oC 13 [.ref h1, .ref h2, .int s1, .ref h3, .ref h4, .int (nI k5), .int (nI k6), .int p7, .int p8, .int p9, .int (nI k10), .int p11, .long q12, .ref h5, .ref h6, .int (nI k15), .int (nI k16)]), (h1, aI Y 3640 f0), (h2, aZ Y 2 f1), (h3, aZ Y 80 f3), (h4, aB Y 1600 f4), (h5, aI Y 200 f13), (h6, aI Y 800 f14)] rfl ?_
    refine V_iload_n 9 B dX12_throwsIf_9 1 rfl ?_
    exact V_zret 10 B rfl dX12_throwsIf_10 (mkW [] [s1] [] [] [] []) rfl rfl)
theorem glV_RX12_69 : GLV RX12 69 yX12_throwsIf RX12 cX12_throwsIf 3 (some .boolean) 2 := ⟨⟨(mT7 213 rfl rfl), (mT7 215 rfl rfl), (mTs 29 rfl rfl), (mT1 13 rfl rfl), (mT7 216 rfl rfl)⟩, by decide +kernel⟩
theorem dX12_press_22 : decode cX12_press 22 = .ok (.ifCond .eq 7, 3) := by decide +kernel
theorem dX12_press_25 : decode cX12_press 25 = .ok (.iconst 0, 1) := by decide +kernel
theorem dX12_press_26 : decode cX12_press 26 = .ok (.goto 8, 3) := by decide +kernel
theorem dX12_press_34 : decode cX12_press 34 = .ok (.ireturn, 1) := by decide +kernel
theorem dX12_press_17 : decode cX12_press 17 = .ok (.iconst 0, 1) := by decide +kernel
set_option maxRecDepth 100000 in
set_option maxHeartbeats 4000000 in
theorem rX12_throwsIf_0 (l : Launch) (D : va_G) (Y : Nat → ClassId) (h0 : Nat) (h1 : Nat) (h2 : Nat) (h3 : Nat) (h4 : Nat) (h5 : Nat) (h6 : Nat) (p2 : Int32) (k5 : Nat) (k6 : Nat) (p7 : Int32) (p8 : Int32) (p9 : Int32) (k10 : Nat) (p11 : Int32) (q12 : Int64) (k15 : Nat) (k16 : Nat) (f0 : Nat → Int32) (f1 : Nat → Int32) (f3 : Nat → Int32) (f4 : Nat → Int32) (f13 : Nat → Int32) (f14 : Nat → Int32) (HI : INV f0) (HL : k5 ≤ 1600) (HP : PLV f13) (s1 : Int32)  (sz : Nat) : Met l yX12_throwsIf (WSm yX12_throwsIf cX12_throwsIf 3 (some .boolean)) (mkR 0 0 0 0) (PreC D Y [.ref h0, .int 0, .int s1] [(h0, oC 13 [.ref h1, .ref h2, .int p2, .ref h3, .ref h4, .int (nI k5), .int (nI k6), .int p7, .int p8, .int p9, .int (nI k10), .int p11, .long q12, .ref h5, .ref h6, .int (nI k15), .int (nI k16)]), (h1, aI Y 3640 f0), (h2, aZ Y 2 f1), (h3, aZ Y 80 f3), (h4, aB Y 1600 f4), (h5, aI Y 200 f13), (h6, aI Y 800 f14)] sz) (QI D (fun (r : Int32) (u : WU) => r = 0) (fun (u : WU) => [(h0, oC 13 [.ref h1, .ref h2, .int (u.2.1 0), .ref h3, .ref h4, .int (nI k5), .int (nI k6), .int p7, .int p8, .int p9, .int (nI k10), .int p11, .long q12, .ref h5, .ref h6, .int (nI k15), .int (nI k16)]), (h1, aI Y 3640 f0), (h2, aZ Y 2 f1), (h3, aZ Y 80 f3), (h4, aB Y 1600 f4), (h5, aI Y 200 f13), (h6, aI Y 800 f14)]) (va_A [(h0, oC 13 [.ref h1, .ref h2, .int p2, .ref h3, .ref h4, .int (nI k5), .int (nI k6), .int p7, .int p8, .int p9, .int (nI k10), .int p11, .long q12, .ref h5, .ref h6, .int (nI k15), .int (nI k16)]), (h1, aI Y 3640 f0), (h2, aZ Y 2 f1), (h3, aZ Y 80 f3), (h4, aB Y 1600 f4), (h5, aI Y 200 f13), (h6, aI Y 800 f14)] sz)) 0 0 (va_A [(h0, oC 13 [.ref h1, .ref h2, .int p2, .ref h3, .ref h4, .int (nI k5), .int (nI k6), .int p7, .int p8, .int p9, .int (nI k10), .int p11, .long q12, .ref h5, .ref h6, .int (nI k15), .int (nI k16)]), (h1, aI Y 3640 f0), (h2, aZ Y 2 f1), (h3, aZ Y 80 f3), (h4, aB Y 1600 f4), (h5, aI Y 200 f13), (h6, aI Y 800 f14)] sz) :=
  met_of  (by decide +kernel) (Nat.le_of_ble_eq_true rfl) (fun p e s m args below meth c B hin hsz => by
    have B : VB p s m args meth c D Y (va_A [(h0, oC 13 [.ref h1, .ref h2, .int p2, .ref h3, .ref h4, .int (nI k5), .int (nI k6), .int p7, .int p8, .int p9, .int (nI k10), .int p11, .long q12, .ref h5, .ref h6, .int (nI k15), .int (nI k16)]), (h1, aI Y 3640 f0), (h2, aZ Y 2 f1), (h3, aZ Y 80 f3), (h4, aB Y 1600 f4), (h5, aI Y 200 f13), (h6, aI Y 800 f14)] sz) cX12_throwsIf 3 RX12 (some .boolean) := B
    refine V_iload_n 0 B dX12_throwsIf_0 1 rfl ?_
    refine V_if_eq_t 1 B 9 dX12_throwsIf_1 (by decide) (by decide +kernel) ?_
    refine V_iload_n 9 B dX12_throwsIf_9 1 rfl ?_
    exact V_zret 10 B rfl dX12_throwsIf_10 (mkW [] [p2] [] [] [] []) rfl rfl)
theorem dX12_press_29 : decode cX12_press 29 = .ok (.aload_n 0, 1) := by decide +kernel
theorem dX12_press_30 : decode cX12_press 30 = .ok (.iload_n 1, 1) := by decide +kernel
theorem dX12_press_31 : decode cX12_press 31 = .ok (.invokevirtual 221, 3) := by decide +kernel
theorem dX12_pressed_0 : decode cX12_pressed 0 = .ok (.aload_n 0, 1) := by decide +kernel
theorem dX12_pressed_1 : decode cX12_pressed 1 = .ok (.iload_n 1, 1) := by decide +kernel
theorem dX12_pressed_2 : decode cX12_pressed 2 = .ok (.invokevirtual 209, 3) := by decide +kernel
theorem dX12_layerOf_0 : decode cX12_layerOf 0 = .ok (.iconst 0, 1) := by decide +kernel
theorem dX12_layerOf_1 : decode cX12_layerOf 1 = .ok (.istore_n 2, 1) := by decide +kernel
theorem dX12_layerOf_2 : decode cX12_layerOf 2 = .ok (.iload_n 2, 1) := by decide +kernel
theorem dX12_layerOf_3 : decode cX12_layerOf 3 = .ok (.aload_n 0, 1) := by decide +kernel
theorem dX12_layerOf_4 : decode cX12_layerOf 4 = .ok (.getfield 9, 3) := by decide +kernel
theorem dX12_layerOf_7 : decode cX12_layerOf 7 = .ok (.iconst 4, 1) := by decide +kernel
theorem dX12_layerOf_8 : decode cX12_layerOf 8 = .ok (.iaload, 1) := by decide +kernel
theorem dX12_layerOf_9 : decode cX12_layerOf 9 = .ok (.if_icmp .ge 21, 3) := by decide +kernel
theorem dX12_layerOf_30 : decode cX12_layerOf 30 = .ok (.iconst (-1), 1) := by decide +kernel
theorem dX12_layerOf_31 : decode cX12_layerOf 31 = .ok (.ireturn, 1) := by decide +kernel
theorem dX12_layerOf_12 : decode cX12_layerOf 12 = .ok (.aload_n 0, 1) := by decide +kernel
theorem dX12_layerOf_13 : decode cX12_layerOf 13 = .ok (.iload_n 2, 1) := by decide +kernel
theorem dX12_layerOf_14 : decode cX12_layerOf 14 = .ok (.iconst 0, 1) := by decide +kernel
theorem dX12_layerOf_15 : decode cX12_layerOf 15 = .ok (.invokevirtual 193, 3) := by decide +kernel
theorem dX12_ofLayer_0 : decode cX12_ofLayer 0 = .ok (.aload_n 0, 1) := by decide +kernel
theorem dX12_ofLayer_1 : decode cX12_ofLayer 1 = .ok (.getfield 9, 3) := by decide +kernel
theorem dX12_ofLayer_4 : decode cX12_ofLayer 4 = .ok (.sipush 744, 3) := by decide +kernel
theorem dX12_ofLayer_7 : decode cX12_ofLayer 7 = .ok (.bipush 28, 2) := by decide +kernel
theorem dX12_ofLayer_9 : decode cX12_ofLayer 9 = .ok (.iload_n 1, 1) := by decide +kernel
theorem dX12_ofLayer_10 : decode cX12_ofLayer 10 = .ok (.imul, 1) := by decide +kernel
theorem dX12_ofLayer_11 : decode cX12_ofLayer 11 = .ok (.iadd, 1) := by decide +kernel
theorem dX12_ofLayer_12 : decode cX12_ofLayer 12 = .ok (.iload_n 2, 1) := by decide +kernel
theorem dX12_ofLayer_13 : decode cX12_ofLayer 13 = .ok (.iadd, 1) := by decide +kernel
theorem dX12_ofLayer_14 : decode cX12_ofLayer 14 = .ok (.iaload, 1) := by decide +kernel
theorem rl15 : ∀ z0, z0 < 4 → ∀ z1, z1 < 28 → bd (744 + 28 * z0 + z1) = FREE := by decide +kernel
theorem dX12_ofLayer_15 : decode cX12_ofLayer 15 = .ok (.ireturn, 1) := by decide +kernel
set_option maxRecDepth 100000 in
set_option maxHeartbeats 4000000 in
theorem rX12_ofLayer (l : Launch) (D : va_G) (Y : Nat → ClassId) (h0 : Nat) (h1 : Nat) (h2 : Nat) (h3 : Nat) (h4 : Nat) (h5 : Nat) (h6 : Nat) (p2 : Int32) (k5 : Nat) (k6 : Nat) (p7 : Int32) (p8 : Int32) (p9 : Int32) (k10 : Nat) (p11 : Int32) (q12 : Int64) (k15 : Nat) (k16 : Nat) (f0 : Nat → Int32) (f1 : Nat → Int32) (f3 : Nat → Int32) (f4 : Nat → Int32) (f13 : Nat → Int32) (f14 : Nat → Int32) (HI : INV f0) (HL : k5 ≤ 1600) (HP : PLV f13) (s0 : Nat) (s1 : Nat) (hn0 : s0 < 4) (hn1 : s1 < 28) (sz : Nat) : Met l yX12_ofLayer (WSm yX12_ofLayer cX12_ofLayer 3 (some .int)) (mkR 0 0 0 0) (PreC D Y [.ref h0, .int (nI s0), .int (nI s1)] [(h0, oC 13 [.ref h1, .ref h2, .int p2, .ref h3, .ref h4, .int (nI k5), .int (nI k6), .int p7, .int p8, .int p9, .int (nI k10), .int p11, .long q12, .ref h5, .ref h6, .int (nI k15), .int (nI k16)]), (h1, aI Y 3640 f0), (h2, aZ Y 2 f1), (h3, aZ Y 80 f3), (h4, aB Y 1600 f4), (h5, aI Y 200 f13), (h6, aI Y 800 f14)] sz) (QI D (fun (r : Int32) (u : WU) => True) (fun (u : WU) => [(h0, oC 13 [.ref h1, .ref h2, .int p2, .ref h3, .ref h4, .int (nI k5), .int (nI k6), .int p7, .int p8, .int p9, .int (nI k10), .int p11, .long q12, .ref h5, .ref h6, .int (nI k15), .int (nI k16)]), (h1, aI Y 3640 f0), (h2, aZ Y 2 f1), (h3, aZ Y 80 f3), (h4, aB Y 1600 f4), (h5, aI Y 200 f13), (h6, aI Y 800 f14)]) (va_A [(h0, oC 13 [.ref h1, .ref h2, .int p2, .ref h3, .ref h4, .int (nI k5), .int (nI k6), .int p7, .int p8, .int p9, .int (nI k10), .int p11, .long q12, .ref h5, .ref h6, .int (nI k15), .int (nI k16)]), (h1, aI Y 3640 f0), (h2, aZ Y 2 f1), (h3, aZ Y 80 f3), (h4, aB Y 1600 f4), (h5, aI Y 200 f13), (h6, aI Y 800 f14)] sz)) 0 0 (va_A [(h0, oC 13 [.ref h1, .ref h2, .int p2, .ref h3, .ref h4, .int (nI k5), .int (nI k6), .int p7, .int p8, .int p9, .int (nI k10), .int p11, .long q12, .ref h5, .ref h6, .int (nI k15), .int (nI k16)]), (h1, aI Y 3640 f0), (h2, aZ Y 2 f1), (h3, aZ Y 80 f3), (h4, aB Y 1600 f4), (h5, aI Y 200 f13), (h6, aI Y 800 f14)] sz) :=
  met_of  (by decide +kernel) (Nat.le_of_ble_eq_true rfl) (fun p e s m args below meth c B hin hsz => by
    have B : VB p s m args meth c D Y (va_A [(h0, oC 13 [.ref h1, .ref h2, .int p2, .ref h3, .ref h4, .int (nI k5), .int (nI k6), .int p7, .int p8, .int p9, .int (nI k10), .int p11, .long q12, .ref h5, .ref h6, .int (nI k15), .int (nI k16)]), (h1, aI Y 3640 f0), (h2, aZ Y 2 f1), (h3, aZ Y 80 f3), (h4, aB Y 1600 f4), (h5, aI Y 200 f13), (h6, aI Y 800 f14)] sz) cX12_ofLayer 3 RX12 (some .int) := B
    refine V_aload_n 0 B dX12_ofLayer_0 0 rfl ?_
    refine V_get 1 B gf_RX12_9 0 rfl rfl dX12_ofLayer_1 ?_
    refine V_sipush 4 B (v := 744) dX12_ofLayer_4 (by decide +kernel) ?_
    refine V_bipush 7 B (v := 28) dX12_ofLayer_7 (by decide +kernel) ?_
    refine V_iload_n 9 B dX12_ofLayer_9 1 rfl ?_
    refine V_imul 10 B (v := (nI (28 * s0))) dX12_ofLayer_10 (nI_mulE (a := 28) (b := s0) (by omega)) ?_
    refine V_iadd 11 B (v := (nI (744 + 28 * s0))) dX12_ofLayer_11 (nI_addE (a := 744) (b := 28 * s0) (by omega)) ?_
    refine V_iload_n 12 B dX12_ofLayer_12 2 rfl ?_
    refine V_iadd 13 B (v := (nI (744 + 28 * s0 + s1))) dX12_ofLayer_13 (nI_addE (a := 744 + 28 * s0) (b := s1) (by omega)) ?_
    refine V_iald 14 B (v := f0 (744 + 28 * s0 + s1)) 1 rfl (vp_in_nI (n := 744 + 28 * s0 + s1) (by omega) (by decide)) dX12_ofLayer_14 (by rw [nI_clamp (show 744 + 28 * s0 + s1 < 2 ^ 31 by omega)]) ?_
    refine V_nmi (fun j0 e1 => ?_)
    exact V_iret 15 B dX12_ofLayer_15 (mkW [] [] [] [] [] []) trivial rfl)
theorem glV_RX12_193 : GLV RX12 193 yX12_ofLayer RX12 cX12_ofLayer 3 (some .int) 2 := ⟨⟨(mT9 56 rfl rfl), (mT9 58 rfl rfl), (mTs 62 rfl rfl), (mT1 13 rfl rfl), (mT9 59 rfl rfl)⟩, by decide +kernel⟩
theorem dX12_layerOf_18 : decode cX12_layerOf 18 = .ok (.iload_n 1, 1) := by decide +kernel
theorem dX12_layerOf_19 : decode cX12_layerOf 19 = .ok (.if_icmp .ne 5, 3) := by decide +kernel
theorem dX12_layerOf_24 : decode cX12_layerOf 24 = .ok (.iinc 2 1, 3) := by decide +kernel
theorem dX12_layerOf_27 : decode cX12_layerOf 27 = .ok (.goto (-25), 3) := by decide +kernel
theorem dX12_layerOf_22 : decode cX12_layerOf 22 = .ok (.iload_n 2, 1) := by decide +kernel
theorem dX12_layerOf_23 : decode cX12_layerOf 23 = .ok (.ireturn, 1) := by decide +kernel
set_option maxRecDepth 100000 in
set_option maxHeartbeats 4000000 in
theorem rX12_layerOf (l : Launch) (D : va_G) (Y : Nat → ClassId) (h0 : Nat) (h1 : Nat) (h2 : Nat) (h3 : Nat) (h4 : Nat) (h5 : Nat) (h6 : Nat) (p2 : Int32) (k5 : Nat) (k6 : Nat) (p7 : Int32) (p8 : Int32) (p9 : Int32) (k10 : Nat) (p11 : Int32) (q12 : Int64) (k15 : Nat) (k16 : Nat) (f0 : Nat → Int32) (f1 : Nat → Int32) (f3 : Nat → Int32) (f4 : Nat → Int32) (f13 : Nat → Int32) (f14 : Nat → Int32) (HI : INV f0) (HL : k5 ≤ 1600) (HP : PLV f13) (s0 : Int32)  (sz : Nat) : Met l yX12_layerOf (WSm yX12_layerOf cX12_layerOf 3 (some .int)) (mkR 1 0 0 22) (PreC D Y [.ref h0, .int s0] [(h0, oC 13 [.ref h1, .ref h2, .int p2, .ref h3, .ref h4, .int (nI k5), .int (nI k6), .int p7, .int p8, .int p9, .int (nI k10), .int p11, .long q12, .ref h5, .ref h6, .int (nI k15), .int (nI k16)]), (h1, aI Y 3640 f0), (h2, aZ Y 2 f1), (h3, aZ Y 80 f3), (h4, aB Y 1600 f4), (h5, aI Y 200 f13), (h6, aI Y 800 f14)] sz) (QI D (fun (r : Int32) (u : WU) => (r = -1 ∨ ∃ b : Nat, r = nI b ∧ b < gN f0 4)) (fun (u : WU) => [(h0, oC 13 [.ref h1, .ref h2, .int p2, .ref h3, .ref h4, .int (nI k5), .int (nI k6), .int p7, .int p8, .int p9, .int (nI k10), .int p11, .long q12, .ref h5, .ref h6, .int (nI k15), .int (nI k16)]), (h1, aI Y 3640 f0), (h2, aZ Y 2 f1), (h3, aZ Y 80 f3), (h4, aB Y 1600 f4), (h5, aI Y 200 f13), (h6, aI Y 800 f14)]) (va_A [(h0, oC 13 [.ref h1, .ref h2, .int p2, .ref h3, .ref h4, .int (nI k5), .int (nI k6), .int p7, .int p8, .int p9, .int (nI k10), .int p11, .long q12, .ref h5, .ref h6, .int (nI k15), .int (nI k16)]), (h1, aI Y 3640 f0), (h2, aZ Y 2 f1), (h3, aZ Y 80 f3), (h4, aB Y 1600 f4), (h5, aI Y 200 f13), (h6, aI Y 800 f14)] sz)) 0 0 (va_A [(h0, oC 13 [.ref h1, .ref h2, .int p2, .ref h3, .ref h4, .int (nI k5), .int (nI k6), .int p7, .int p8, .int p9, .int (nI k10), .int p11, .long q12, .ref h5, .ref h6, .int (nI k15), .int (nI k16)]), (h1, aI Y 3640 f0), (h2, aZ Y 2 f1), (h3, aZ Y 80 f3), (h4, aB Y 1600 f4), (h5, aI Y 200 f13), (h6, aI Y 800 f14)] sz) :=
  met_of  (by decide +kernel) (Nat.le_of_ble_eq_true rfl) (fun p e s m args below meth c B hin hsz => by
    have B : VB p s m args meth c D Y (va_A [(h0, oC 13 [.ref h1, .ref h2, .int p2, .ref h3, .ref h4, .int (nI k5), .int (nI k6), .int p7, .int p8, .int p9, .int (nI k10), .int p11, .long q12, .ref h5, .ref h6, .int (nI k15), .int (nI k16)]), (h1, aI Y 3640 f0), (h2, aZ Y 2 f1), (h3, aZ Y 80 f3), (h4, aB Y 1600 f4), (h5, aI Y 200 f13), (h6, aI Y 800 f14)] sz) cX12_layerOf 3 RX12 (some .int) := B
    refine V_iconst 0 B (v := 0) dX12_layerOf_0 (by decide +kernel) ?_
    refine V_istore_n 1 B (lv2 := [(2, .int 0), (0, .ref h0), (1, .int s0)]) dX12_layerOf_1 (by decide) rfl ?_
    refine V_wloop (α := WU) (fun a => 100000 - (a.1 0)) (fun a => (a.1 0) ≤ 4000) (fun a => [(2, .int (nI (a.1 0))), (0, .ref h0), (1, .int s0)]) (fun a => [(h0, oC 13 [.ref h1, .ref h2, .int p2, .ref h3, .ref h4, .int (nI k5), .int (nI k6), .int p7, .int p8, .int p9, .int (nI k10), .int p11, .long q12, .ref h5, .ref h6, .int (nI k15), .int (nI k16)]), (h1, aI Y 3640 f0), (h2, aZ Y 2 f1), (h3, aZ Y 80 f3), (h4, aB Y 1600 f4), (h5, aI Y 200 f13), (h6, aI Y 800 f14)]) (mkW [0] [] [] [] [] []) (show 0 ≤ 4000 by omega) rfl rfl (fun a0 hI2 IH1 => ?_)
    refine V_lv [(2, .int (nI (a0.1 0))), (0, .ref h0), (1, .int s0)] [0, 1, 2] rfl ?_
    refine V_ws [(h0, oC 13 [.ref h1, .ref h2, .int p2, .ref h3, .ref h4, .int (nI k5), .int (nI k6), .int p7, .int p8, .int p9, .int (nI k10), .int p11, .long q12, .ref h5, .ref h6, .int (nI k15), .int (nI k16)]), (h1, aI Y 3640 f0), (h2, aZ Y 2 f1), (h3, aZ Y 80 f3), (h4, aB Y 1600 f4), (h5, aI Y 200 f13), (h6, aI Y 800 f14)] rfl ?_
    have x3 := hI2
    refine V_iload_n 2 B dX12_layerOf_2 0 rfl ?_
    refine V_aload_n 3 B dX12_layerOf_3 1 rfl ?_
    refine V_get 4 B gf_RX12_9 0 rfl rfl dX12_layerOf_4 ?_
    refine V_iconst 7 B (v := 4) dX12_layerOf_7 (by decide +kernel) ?_
    have x4 : (gN f0 4) ≤ 4 := gN_le HI (by omega) (show bd 4 = (0, ((4 : Nat) : Int)) by decide +kernel)
    refine V_iald 8 B (v := (nI (gN f0 4))) 1 rfl (vpin _ _ (by decide +kernel)) dX12_layerOf_8 (by show f0 4 = _; exact gN_eq HI (by omega) (show bd 4 = (0, ((4 : Nat) : Int)) by decide +kernel)) ?_
    refine V_icmp_ge 9 B 30 dX12_layerOf_9 (by decide) (fun kk5 => ?_) (fun kk5 => ?_)
    ·
      have x6 := n_le (a := (gN f0 4)) (b := (a0.1 0)) kk5 (by omega) (by omega)
      refine V_iconst 30 B (v := (-1)) dX12_layerOf_30 (by decide +kernel) ?_
      exact V_iret 31 B dX12_layerOf_31 (mkW [] [] [] [] [] []) (Or.inl rfl) rfl
    ·
      have x7 := n_nle (a := (gN f0 4)) (b := (a0.1 0)) kk5 (by omega) (by omega)
      refine V_aload_n 12 B dX12_layerOf_12 1 rfl ?_
      refine V_iload_n 13 B dX12_layerOf_13 0 rfl ?_
      refine V_iconst 14 B (v := 0) dX12_layerOf_14 (by decide +kernel) ?_
      refine V_cvi 15 B (st := []) (As := [.int (nI (a0.1 0)), .int 0]) (fun sz => rX12_ofLayer l D Y h0 h1 h2 h3 h4 h5 h6 p2 k5 k6 p7 p8 p9 k10 p11 q12 k15 k16 f0 f1 f3 f4 f13 f14 HI (by omega) HP (a0.1 0) 0 (by omega) (by omega) sz) glV_RX12_193 ⟨rfl, rfl⟩ ⟨(Nat.le_of_ble_eq_true rfl), (Nat.le_of_ble_eq_true rfl)⟩ ⟨(Nat.le_of_ble_eq_true rfl), (Nat.le_of_ble_eq_true rfl)⟩ [0, 0, 0, 0, 0, 0, 0] rfl 13 0 rfl rfl rfl rfl (Nat.le_of_ble_eq_true rfl) rfl (fun _ _ _ => rfl) dX12_layerOf_15 (fun j8 u9 w10 => ?_)
      refine V_ws [(h0, oC 13 [.ref h1, .ref h2, .int p2, .ref h3, .ref h4, .int (nI k5), .int (nI k6), .int p7, .int p8, .int p9, .int (nI k10), .int p11, .long q12, .ref h5, .ref h6, .int (nI k15), .int (nI k16)]), (h1, aI Y 3640 f0), (h2, aZ Y 2 f1), (h3, aZ Y 80 f3), (h4, aB Y 1600 f4), (h5, aI Y 200 f13), (h6, aI Y 800 f14)] rfl ?_
      refine V_iload_n 18 B dX12_layerOf_18 2 rfl ?_
      refine V_icmp_ne 19 B 24 dX12_layerOf_19 (by decide) (fun kk11 => ?_) (fun kk11 => ?_)
      ·
        have x12 := x_ne kk11
        refine V_iinc 24 B (v := (nI (1 + (a0.1 0)))) (lv2 := [(2, .int (nI (1 + (a0.1 0)))), (0, .ref h0), (1, .int s0)]) dX12_layerOf_24 0 rfl (nI_addE (a := (a0.1 0)) (b := 1) (by omega)) (by decide) rfl ?_
        refine V_goto 27 B 2 dX12_layerOf_27 (by decide) ?_
        refine V_lv [(2, .int (nI (1 + (a0.1 0)))), (0, .ref h0), (1, .int s0)] [0, 1, 2] rfl ?_
        exact IH1 (mkW [1 + (a0.1 0)] [] [] [] [] []) (show 1 + (a0.1 0) ≤ 4000 by omega) (by show 100000 - (1 + (a0.1 0)) < 100000 - (a0.1 0); omega)
      ·
        have x13 := x_eq kk11
        refine V_iload_n 22 B dX12_layerOf_22 0 rfl ?_
        exact V_iret 23 B dX12_layerOf_23 (mkW [] [] [] [] [] []) (Or.inr ⟨(a0.1 0), rfl, by omega⟩) rfl)
theorem glV_RX12_209 : GLV RX12 209 yX12_layerOf RX12 cX12_layerOf 3 (some .int) 1 := ⟨⟨(mT9 81 rfl rfl), (mT9 83 rfl rfl), (mTs 64 rfl rfl), (mT1 13 rfl rfl), (mT9 84 rfl rfl)⟩, by decide +kernel⟩
theorem dX12_pressed_5 : decode cX12_pressed 5 = .ok (.istore_n 2, 1) := by decide +kernel
theorem dX12_pressed_6 : decode cX12_pressed 6 = .ok (.iload_n 2, 1) := by decide +kernel
theorem dX12_pressed_7 : decode cX12_pressed 7 = .ok (.iconst (-1), 1) := by decide +kernel
theorem dX12_pressed_8 : decode cX12_pressed 8 = .ok (.if_icmp .ne 13, 3) := by decide +kernel
theorem dX12_pressed_11 : decode cX12_pressed 11 = .ok (.aload_n 0, 1) := by decide +kernel
theorem dX12_pressed_12 : decode cX12_pressed 12 = .ok (.aload_n 0, 1) := by decide +kernel
theorem dX12_pressed_13 : decode cX12_pressed 13 = .ok (.iload_n 1, 1) := by decide +kernel
theorem dX12_pressed_14 : decode cX12_pressed 14 = .ok (.invokevirtual 212, 3) := by decide +kernel
theorem dX12_madeBy_0 : decode cX12_madeBy 0 = .ok (.iload_n 1, 1) := by decide +kernel
theorem dX12_madeBy_1 : decode cX12_madeBy 1 = .ok (.istore_n 2, 1) := by decide +kernel
theorem dX12_madeBy_2 : decode cX12_madeBy 2 = .ok (.iconst 0, 1) := by decide +kernel
theorem dX12_madeBy_3 : decode cX12_madeBy 3 = .ok (.istore_n 3, 1) := by decide +kernel
theorem dX12_madeBy_4 : decode cX12_madeBy 4 = .ok (.iload_n 3, 1) := by decide +kernel
theorem dX12_madeBy_5 : decode cX12_madeBy 5 = .ok (.aload_n 0, 1) := by decide +kernel
theorem dX12_madeBy_6 : decode cX12_madeBy 6 = .ok (.getfield 9, 3) := by decide +kernel
theorem dX12_madeBy_9 : decode cX12_madeBy 9 = .ok (.iconst 4, 1) := by decide +kernel
theorem dX12_madeBy_10 : decode cX12_madeBy 10 = .ok (.iaload, 1) := by decide +kernel
theorem dX12_madeBy_11 : decode cX12_madeBy 11 = .ok (.if_icmp .ge 41, 3) := by decide +kernel
theorem dX12_madeBy_52 : decode cX12_madeBy 52 = .ok (.bipush 32, 2) := by decide +kernel
theorem dX12_madeBy_54 : decode cX12_madeBy 54 = .ok (.aload_n 0, 1) := by decide +kernel
theorem dX12_madeBy_55 : decode cX12_madeBy 55 = .ok (.getfield 9, 3) := by decide +kernel
theorem dX12_madeBy_58 : decode cX12_madeBy 58 = .ok (.bipush 14, 2) := by decide +kernel
theorem dX12_madeBy_60 : decode cX12_madeBy 60 = .ok (.iaload, 1) := by decide +kernel
theorem dX12_madeBy_61 : decode cX12_madeBy 61 = .ok (.imul, 1) := by decide +kernel
theorem dX12_madeBy_62 : decode cX12_madeBy 62 = .ok (.iload_n 2, 1) := by decide +kernel
theorem dX12_madeBy_63 : decode cX12_madeBy 63 = .ok (.iadd, 1) := by decide +kernel
theorem dX12_madeBy_64 : decode cX12_madeBy 64 = .ok (.ireturn, 1) := by decide +kernel
theorem dX12_madeBy_14 : decode cX12_madeBy 14 = .ok (.aload_n 0, 1) := by decide +kernel
theorem dX12_madeBy_15 : decode cX12_madeBy 15 = .ok (.iload_n 3, 1) := by decide +kernel
theorem dX12_madeBy_16 : decode cX12_madeBy 16 = .ok (.iconst 1, 1) := by decide +kernel
theorem dX12_madeBy_17 : decode cX12_madeBy 17 = .ok (.invokevirtual 193, 3) := by decide +kernel
theorem dX12_madeBy_20 : decode cX12_madeBy 20 = .ok (.iconst 1, 1) := by decide +kernel
theorem dX12_madeBy_21 : decode cX12_madeBy 21 = .ok (.if_icmp .ne 25, 3) := by decide +kernel
theorem dX12_madeBy_46 : decode cX12_madeBy 46 = .ok (.iinc 3 1, 3) := by decide +kernel
theorem dX12_madeBy_49 : decode cX12_madeBy 49 = .ok (.goto (-45), 3) := by decide +kernel
theorem dX12_madeBy_24 : decode cX12_madeBy 24 = .ok (.aload_n 0, 1) := by decide +kernel
theorem dX12_madeBy_25 : decode cX12_madeBy 25 = .ok (.iload_n 3, 1) := by decide +kernel
theorem dX12_madeBy_26 : decode cX12_madeBy 26 = .ok (.iconst 2, 1) := by decide +kernel
theorem dX12_madeBy_27 : decode cX12_madeBy 27 = .ok (.iload_n 1, 1) := by decide +kernel
theorem dX12_madeBy_28 : decode cX12_madeBy 28 = .ok (.iadd, 1) := by decide +kernel
theorem dX12_madeBy_29 : decode cX12_madeBy 29 = .ok (.invokevirtual 193, 3) := by decide +kernel
theorem dX12_madeBy_32 : decode cX12_madeBy 32 = .ok (.ifCond .le 14, 3) := by decide +kernel
theorem dX12_madeBy_35 : decode cX12_madeBy 35 = .ok (.aload_n 0, 1) := by decide +kernel
theorem dX12_madeBy_36 : decode cX12_madeBy 36 = .ok (.iload_n 3, 1) := by decide +kernel
theorem dX12_madeBy_37 : decode cX12_madeBy 37 = .ok (.iconst 2, 1) := by decide +kernel
theorem dX12_madeBy_38 : decode cX12_madeBy 38 = .ok (.iload_n 1, 1) := by decide +kernel
theorem dX12_madeBy_39 : decode cX12_madeBy 39 = .ok (.iadd, 1) := by decide +kernel
theorem dX12_madeBy_40 : decode cX12_madeBy 40 = .ok (.invokevirtual 193, 3) := by decide +kernel
theorem dX12_madeBy_43 : decode cX12_madeBy 43 = .ok (.iconst 1, 1) := by decide +kernel
theorem dX12_madeBy_44 : decode cX12_madeBy 44 = .ok (.isub, 1) := by decide +kernel
theorem dX12_madeBy_45 : decode cX12_madeBy 45 = .ok (.istore_n 2, 1) := by decide +kernel
set_option maxRecDepth 100000 in
set_option maxHeartbeats 4000000 in
theorem rX12_madeBy (l : Launch) (D : va_G) (Y : Nat → ClassId) (h0 : Nat) (h1 : Nat) (h2 : Nat) (h3 : Nat) (h4 : Nat) (h5 : Nat) (h6 : Nat) (p2 : Int32) (k5 : Nat) (k6 : Nat) (p7 : Int32) (p8 : Int32) (p9 : Int32) (k10 : Nat) (p11 : Int32) (q12 : Int64) (k15 : Nat) (k16 : Nat) (f0 : Nat → Int32) (f1 : Nat → Int32) (f3 : Nat → Int32) (f4 : Nat → Int32) (f13 : Nat → Int32) (f14 : Nat → Int32) (HI : INV f0) (HL : k5 ≤ 1600) (HP : PLV f13) (s0 : Nat) (hn0 : s0 < 26) (sz : Nat) : Met l yX12_madeBy (WSm yX12_madeBy cX12_madeBy 4 (some .int)) (mkR 1 0 0 22) (PreC D Y [.ref h0, .int (nI s0)] [(h0, oC 13 [.ref h1, .ref h2, .int p2, .ref h3, .ref h4, .int (nI k5), .int (nI k6), .int p7, .int p8, .int p9, .int (nI k10), .int p11, .long q12, .ref h5, .ref h6, .int (nI k15), .int (nI k16)]), (h1, aI Y 3640 f0), (h2, aZ Y 2 f1), (h3, aZ Y 80 f3), (h4, aB Y 1600 f4), (h5, aI Y 200 f13), (h6, aI Y 800 f14)] sz) (QI D (fun (r : Int32) (u : WU) => True) (fun (u : WU) => [(h0, oC 13 [.ref h1, .ref h2, .int p2, .ref h3, .ref h4, .int (nI k5), .int (nI k6), .int p7, .int p8, .int p9, .int (nI k10), .int p11, .long q12, .ref h5, .ref h6, .int (nI k15), .int (nI k16)]), (h1, aI Y 3640 f0), (h2, aZ Y 2 f1), (h3, aZ Y 80 f3), (h4, aB Y 1600 f4), (h5, aI Y 200 f13), (h6, aI Y 800 f14)]) (va_A [(h0, oC 13 [.ref h1, .ref h2, .int p2, .ref h3, .ref h4, .int (nI k5), .int (nI k6), .int p7, .int p8, .int p9, .int (nI k10), .int p11, .long q12, .ref h5, .ref h6, .int (nI k15), .int (nI k16)]), (h1, aI Y 3640 f0), (h2, aZ Y 2 f1), (h3, aZ Y 80 f3), (h4, aB Y 1600 f4), (h5, aI Y 200 f13), (h6, aI Y 800 f14)] sz)) 0 0 (va_A [(h0, oC 13 [.ref h1, .ref h2, .int p2, .ref h3, .ref h4, .int (nI k5), .int (nI k6), .int p7, .int p8, .int p9, .int (nI k10), .int p11, .long q12, .ref h5, .ref h6, .int (nI k15), .int (nI k16)]), (h1, aI Y 3640 f0), (h2, aZ Y 2 f1), (h3, aZ Y 80 f3), (h4, aB Y 1600 f4), (h5, aI Y 200 f13), (h6, aI Y 800 f14)] sz) :=
  met_of  (by decide +kernel) (Nat.le_of_ble_eq_true rfl) (fun p e s m args below meth c B hin hsz => by
    have B : VB p s m args meth c D Y (va_A [(h0, oC 13 [.ref h1, .ref h2, .int p2, .ref h3, .ref h4, .int (nI k5), .int (nI k6), .int p7, .int p8, .int p9, .int (nI k10), .int p11, .long q12, .ref h5, .ref h6, .int (nI k15), .int (nI k16)]), (h1, aI Y 3640 f0), (h2, aZ Y 2 f1), (h3, aZ Y 80 f3), (h4, aB Y 1600 f4), (h5, aI Y 200 f13), (h6, aI Y 800 f14)] sz) cX12_madeBy 4 RX12 (some .int) := B
    refine V_iload_n 0 B dX12_madeBy_0 1 rfl ?_
    refine V_istore_n 1 B (lv2 := [(2, .int (nI s0)), (0, .ref h0), (1, .int (nI s0))]) dX12_madeBy_1 (by decide) rfl ?_
    refine V_iconst 2 B (v := 0) dX12_madeBy_2 (by decide +kernel) ?_
    refine V_istore_n 3 B (lv2 := [(3, .int 0), (2, .int (nI s0)), (0, .ref h0), (1, .int (nI s0))]) dX12_madeBy_3 (by decide) rfl ?_
    refine V_wloop (α := WU) (fun a => 100000 - (a.1 0)) (fun a => (a.1 0) ≤ 4000) (fun a => [(3, .int (nI (a.1 0))), (2, .int (a.2.1 0)), (0, .ref h0), (1, .int (nI s0))]) (fun a => [(h0, oC 13 [.ref h1, .ref h2, .int p2, .ref h3, .ref h4, .int (nI k5), .int (nI k6), .int p7, .int p8, .int p9, .int (nI k10), .int p11, .long q12, .ref h5, .ref h6, .int (nI k15), .int (nI k16)]), (h1, aI Y 3640 f0), (h2, aZ Y 2 f1), (h3, aZ Y 80 f3), (h4, aB Y 1600 f4), (h5, aI Y 200 f13), (h6, aI Y 800 f14)]) (mkW [0] [(nI s0)] [] [] [] []) (show 0 ≤ 4000 by omega) rfl rfl (fun a0 hI2 IH1 => ?_)
    refine V_lv [(3, .int (nI (a0.1 0))), (2, .int (a0.2.1 0)), (0, .ref h0), (1, .int (nI s0))] [0, 1, 2, 3] rfl ?_
    refine V_ws [(h0, oC 13 [.ref h1, .ref h2, .int p2, .ref h3, .ref h4, .int (nI k5), .int (nI k6), .int p7, .int p8, .int p9, .int (nI k10), .int p11, .long q12, .ref h5, .ref h6, .int (nI k15), .int (nI k16)]), (h1, aI Y 3640 f0), (h2, aZ Y 2 f1), (h3, aZ Y 80 f3), (h4, aB Y 1600 f4), (h5, aI Y 200 f13), (h6, aI Y 800 f14)] rfl ?_
    have x3 := hI2
    refine V_iload_n 4 B dX12_madeBy_4 0 rfl ?_
    refine V_aload_n 5 B dX12_madeBy_5 2 rfl ?_
    refine V_get 6 B gf_RX12_9 0 rfl rfl dX12_madeBy_6 ?_
    refine V_iconst 9 B (v := 4) dX12_madeBy_9 (by decide +kernel) ?_
    have x4 : (gN f0 4) ≤ 4 := gN_le HI (by omega) (show bd 4 = (0, ((4 : Nat) : Int)) by decide +kernel)
    refine V_iald 10 B (v := (nI (gN f0 4))) 1 rfl (vpin _ _ (by decide +kernel)) dX12_madeBy_10 (by show f0 4 = _; exact gN_eq HI (by omega) (show bd 4 = (0, ((4 : Nat) : Int)) by decide +kernel)) ?_
    refine V_icmp_ge 11 B 52 dX12_madeBy_11 (by decide) (fun kk5 => ?_) (fun kk5 => ?_)
    ·
      have x6 := n_le (a := (gN f0 4)) (b := (a0.1 0)) kk5 (by omega) (by omega)
      refine V_bipush 52 B (v := 32) dX12_madeBy_52 (by decide +kernel) ?_
      refine V_aload_n 54 B dX12_madeBy_54 2 rfl ?_
      refine V_get 55 B gf_RX12_9 0 rfl rfl dX12_madeBy_55 ?_
      refine V_bipush 58 B (v := 14) dX12_madeBy_58 (by decide +kernel) ?_
      refine V_iald 60 B (v := f0 (14)) 1 rfl (vpin _ _ (by decide +kernel)) dX12_madeBy_60 (by rfl) ?_
      refine V_nmi (fun j7 e8 => ?_)
      refine V_imul 61 B dX12_madeBy_61 rfl ?_
      refine V_nmi (fun j9 e10 => ?_)
      refine V_iload_n 62 B dX12_madeBy_62 1 rfl ?_
      refine V_iadd 63 B dX12_madeBy_63 rfl ?_
      refine V_nmi (fun j11 e12 => ?_)
      exact V_iret 64 B dX12_madeBy_64 (mkW [] [] [] [] [] []) trivial rfl
    ·
      have x13 := n_nle (a := (gN f0 4)) (b := (a0.1 0)) kk5 (by omega) (by omega)
      refine V_aload_n 14 B dX12_madeBy_14 2 rfl ?_
      refine V_iload_n 15 B dX12_madeBy_15 0 rfl ?_
      refine V_iconst 16 B (v := 1) dX12_madeBy_16 (by decide +kernel) ?_
      refine V_cvi 17 B (st := []) (As := [.int (nI (a0.1 0)), .int 1]) (fun sz => rX12_ofLayer l D Y h0 h1 h2 h3 h4 h5 h6 p2 k5 k6 p7 p8 p9 k10 p11 q12 k15 k16 f0 f1 f3 f4 f13 f14 HI (by omega) HP (a0.1 0) 1 (by omega) (by omega) sz) glV_RX12_193 ⟨rfl, rfl⟩ ⟨(Nat.le_of_ble_eq_true rfl), (Nat.le_of_ble_eq_true rfl)⟩ ⟨(Nat.le_of_ble_eq_true rfl), (Nat.le_of_ble_eq_true rfl)⟩ [0, 0, 0, 0, 0, 0, 0] rfl 13 0 rfl rfl rfl rfl (Nat.le_of_ble_eq_true rfl) rfl (fun _ _ _ => rfl) dX12_madeBy_17 (fun j14 u15 w16 => ?_)
      refine V_ws [(h0, oC 13 [.ref h1, .ref h2, .int p2, .ref h3, .ref h4, .int (nI k5), .int (nI k6), .int p7, .int p8, .int p9, .int (nI k10), .int p11, .long q12, .ref h5, .ref h6, .int (nI k15), .int (nI k16)]), (h1, aI Y 3640 f0), (h2, aZ Y 2 f1), (h3, aZ Y 80 f3), (h4, aB Y 1600 f4), (h5, aI Y 200 f13), (h6, aI Y 800 f14)] rfl ?_
      refine V_iconst 20 B (v := 1) dX12_madeBy_20 (by decide +kernel) ?_
      refine V_icmp_ne 21 B 46 dX12_madeBy_21 (by decide) (fun kk17 => ?_) (fun kk17 => ?_)
      ·
        have x18 := x_ne kk17
        rw [show (1 : Int32).toInt = 1 by decide +kernel] at x18
        refine V_iinc 46 B (v := (nI (1 + (a0.1 0)))) (lv2 := [(3, .int (nI (1 + (a0.1 0)))), (2, .int (a0.2.1 0)), (0, .ref h0), (1, .int (nI s0))]) dX12_madeBy_46 0 rfl (nI_addE (a := (a0.1 0)) (b := 1) (by omega)) (by decide) rfl ?_
        refine V_goto 49 B 4 dX12_madeBy_49 (by decide) ?_
        refine V_lv [(3, .int (nI (1 + (a0.1 0)))), (2, .int (a0.2.1 0)), (0, .ref h0), (1, .int (nI s0))] [0, 1, 2, 3] rfl ?_
        exact IH1 (mkW [1 + (a0.1 0)] [(a0.2.1 0)] [] [] [] []) (show 1 + (a0.1 0) ≤ 4000 by omega) (by show 100000 - (1 + (a0.1 0)) < 100000 - (a0.1 0); omega)
      ·
        obtain rfl : j14 = 1 := kk17
        have e20 : (1 : Int32).toInt = 1 := by decide +kernel
        refine V_aload_n 24 B dX12_madeBy_24 2 rfl ?_
        refine V_iload_n 25 B dX12_madeBy_25 0 rfl ?_
        refine V_iconst 26 B (v := 2) dX12_madeBy_26 (by decide +kernel) ?_
        refine V_iload_n 27 B dX12_madeBy_27 3 rfl ?_
        refine V_iadd 28 B (v := (nI (2 + s0))) dX12_madeBy_28 (nI_addE (a := 2) (b := s0) (by omega)) ?_
        refine V_cvi 29 B (st := []) (As := [.int (nI (a0.1 0)), .int (nI (2 + s0))]) (fun sz => rX12_ofLayer l D Y h0 h1 h2 h3 h4 h5 h6 p2 k5 k6 p7 p8 p9 k10 p11 q12 k15 k16 f0 f1 f3 f4 f13 f14 HI (by omega) HP (a0.1 0) (2 + s0) (by omega) (by omega) sz) glV_RX12_193 ⟨rfl, rfl⟩ ⟨(Nat.le_of_ble_eq_true rfl), (Nat.le_of_ble_eq_true rfl)⟩ ⟨(Nat.le_of_ble_eq_true rfl), (Nat.le_of_ble_eq_true rfl)⟩ [0, 0, 0, 0, 0, 0, 0] rfl 13 0 rfl rfl rfl rfl (Nat.le_of_ble_eq_true rfl) rfl (fun _ _ _ => rfl) dX12_madeBy_29 (fun j21 u22 w23 => ?_)
        refine V_ws [(h0, oC 13 [.ref h1, .ref h2, .int p2, .ref h3, .ref h4, .int (nI k5), .int (nI k6), .int p7, .int p8, .int p9, .int (nI k10), .int p11, .long q12, .ref h5, .ref h6, .int (nI k15), .int (nI k16)]), (h1, aI Y 3640 f0), (h2, aZ Y 2 f1), (h3, aZ Y 80 f3), (h4, aB Y 1600 f4), (h5, aI Y 200 f13), (h6, aI Y 800 f14)] rfl ?_
        refine V_if_le 32 B 46 dX12_madeBy_32 (by decide) (fun kk24 => ?_) (fun kk24 => ?_)
        ·
          have x25 := x_le kk24
          rw [show (0 : Int32).toInt = 0 by decide +kernel] at x25
          refine V_iinc 46 B (v := (nI (1 + (a0.1 0)))) (lv2 := [(3, .int (nI (1 + (a0.1 0)))), (2, .int (a0.2.1 0)), (0, .ref h0), (1, .int (nI s0))]) dX12_madeBy_46 0 rfl (nI_addE (a := (a0.1 0)) (b := 1) (by omega)) (by decide) rfl ?_
          refine V_goto 49 B 4 dX12_madeBy_49 (by decide) ?_
          refine V_lv [(3, .int (nI (1 + (a0.1 0)))), (2, .int (a0.2.1 0)), (0, .ref h0), (1, .int (nI s0))] [0, 1, 2, 3] rfl ?_
          exact IH1 (mkW [1 + (a0.1 0)] [(a0.2.1 0)] [] [] [] []) (show 1 + (a0.1 0) ≤ 4000 by omega) (by show 100000 - (1 + (a0.1 0)) < 100000 - (a0.1 0); omega)
        ·
          have x26 := x_nle kk24
          rw [show (0 : Int32).toInt = 0 by decide +kernel] at x26
          refine V_aload_n 35 B dX12_madeBy_35 2 rfl ?_
          refine V_iload_n 36 B dX12_madeBy_36 0 rfl ?_
          refine V_iconst 37 B (v := 2) dX12_madeBy_37 (by decide +kernel) ?_
          refine V_iload_n 38 B dX12_madeBy_38 3 rfl ?_
          refine V_iadd 39 B (v := (nI (2 + s0))) dX12_madeBy_39 (nI_addE (a := 2) (b := s0) (by omega)) ?_
          refine V_cvi 40 B (st := []) (As := [.int (nI (a0.1 0)), .int (nI (2 + s0))]) (fun sz => rX12_ofLayer l D Y h0 h1 h2 h3 h4 h5 h6 p2 k5 k6 p7 p8 p9 k10 p11 q12 k15 k16 f0 f1 f3 f4 f13 f14 HI (by omega) HP (a0.1 0) (2 + s0) (by omega) (by omega) sz) glV_RX12_193 ⟨rfl, rfl⟩ ⟨(Nat.le_of_ble_eq_true rfl), (Nat.le_of_ble_eq_true rfl)⟩ ⟨(Nat.le_of_ble_eq_true rfl), (Nat.le_of_ble_eq_true rfl)⟩ [0, 0, 0, 0, 0, 0, 0] rfl 13 0 rfl rfl rfl rfl (Nat.le_of_ble_eq_true rfl) rfl (fun _ _ _ => rfl) dX12_madeBy_40 (fun j27 u28 w29 => ?_)
          refine V_ws [(h0, oC 13 [.ref h1, .ref h2, .int p2, .ref h3, .ref h4, .int (nI k5), .int (nI k6), .int p7, .int p8, .int p9, .int (nI k10), .int p11, .long q12, .ref h5, .ref h6, .int (nI k15), .int (nI k16)]), (h1, aI Y 3640 f0), (h2, aZ Y 2 f1), (h3, aZ Y 80 f3), (h4, aB Y 1600 f4), (h5, aI Y 200 f13), (h6, aI Y 800 f14)] rfl ?_
          refine V_iconst 43 B (v := 1) dX12_madeBy_43 (by decide +kernel) ?_
          refine V_isub 44 B dX12_madeBy_44 rfl ?_
          refine V_nmi (fun j30 e31 => ?_)
          refine V_istore_n 45 B (lv2 := [(2, .int j30), (3, .int (nI (a0.1 0))), (0, .ref h0), (1, .int (nI s0))]) dX12_madeBy_45 (by decide) rfl ?_
          refine V_iinc 46 B (v := (nI (1 + (a0.1 0)))) (lv2 := [(3, .int (nI (1 + (a0.1 0)))), (2, .int j30), (0, .ref h0), (1, .int (nI s0))]) dX12_madeBy_46 1 rfl (nI_addE (a := (a0.1 0)) (b := 1) (by omega)) (by decide) rfl ?_
          refine V_goto 49 B 4 dX12_madeBy_49 (by decide) ?_
          refine V_lv [(3, .int (nI (1 + (a0.1 0)))), (2, .int j30), (0, .ref h0), (1, .int (nI s0))] [0, 1, 2, 3] rfl ?_
          exact IH1 (mkW [1 + (a0.1 0)] [j30] [] [] [] []) (show 1 + (a0.1 0) ≤ 4000 by omega) (by show 100000 - (1 + (a0.1 0)) < 100000 - (a0.1 0); omega))
theorem glV_RX12_212 : GLV RX12 212 yX12_madeBy RX12 cX12_madeBy 4 (some .int) 1 := ⟨⟨(mT9 85 rfl rfl), (mT9 87 rfl rfl), (mTs 65 rfl rfl), (mT1 13 rfl rfl), (mT9 88 rfl rfl)⟩, by decide +kernel⟩
theorem dX12_pressed_17 : decode cX12_pressed 17 = .ok (.invokevirtual 218, 3) := by decide +kernel
theorem dX12_makes_0 : decode cX12_makes 0 = .ok (.iconst 1, 1) := by decide +kernel
theorem dX12_makes_1 : decode cX12_makes 1 = .ok (.istore_n 2, 1) := by decide +kernel
theorem dX12_makes_2 : decode cX12_makes 2 = .ok (.iload_n 2, 1) := by decide +kernel
theorem dX12_makes_3 : decode cX12_makes 3 = .ok (.ifCond .eq 229, 3) := by decide +kernel
theorem dX12_makes_232 : decode cX12_makes 232 = .ok (.iconst (-1), 1) := by decide +kernel
theorem dX12_makes_233 : decode cX12_makes 233 = .ok (.ireturn, 1) := by decide +kernel
theorem dX12_makes_6 : decode cX12_makes 6 = .ok (.aload_n 0, 1) := by decide +kernel
theorem dX12_makes_7 : decode cX12_makes 7 = .ok (.getfield 9, 3) := by decide +kernel
theorem dX12_makes_10 : decode cX12_makes 10 = .ok (.bipush 13, 2) := by decide +kernel
theorem dX12_makes_12 : decode cX12_makes 12 = .ok (.dup2, 1) := by decide +kernel
theorem dX12_makes_13 : decode cX12_makes 13 = .ok (.iaload, 1) := by decide +kernel
theorem dX12_makes_14 : decode cX12_makes 14 = .ok (.iconst 1, 1) := by decide +kernel
theorem dX12_makes_15 : decode cX12_makes 15 = .ok (.iadd, 1) := by decide +kernel
theorem dX12_makes_16 : decode cX12_makes 16 = .ok (.iastore, 1) := by decide +kernel
theorem dX12_makes_17 : decode cX12_makes 17 = .ok (.aload_n 0, 1) := by decide +kernel
theorem dX12_makes_18 : decode cX12_makes 18 = .ok (.getfield 9, 3) := by decide +kernel
theorem dX12_makes_21 : decode cX12_makes 21 = .ok (.bipush 10, 2) := by decide +kernel
theorem dX12_makes_23 : decode cX12_makes 23 = .ok (.aload_n 0, 1) := by decide +kernel
theorem dX12_makes_24 : decode cX12_makes 24 = .ok (.getfield 9, 3) := by decide +kernel
theorem dX12_makes_27 : decode cX12_makes 27 = .ok (.bipush 9, 2) := by decide +kernel
theorem dX12_makes_29 : decode cX12_makes 29 = .ok (.iaload, 1) := by decide +kernel
theorem dX12_makes_30 : decode cX12_makes 30 = .ok (.iastore, 1) := by decide +kernel
theorem dX12_makes_31 : decode cX12_makes 31 = .ok (.aload_n 0, 1) := by decide +kernel
theorem dX12_makes_32 : decode cX12_makes 32 = .ok (.getfield 9, 3) := by decide +kernel
theorem dX12_makes_35 : decode cX12_makes 35 = .ok (.sipush 3629, 3) := by decide +kernel
theorem dX12_makes_38 : decode cX12_makes 38 = .ok (.aload_n 0, 1) := by decide +kernel
theorem dX12_makes_39 : decode cX12_makes 39 = .ok (.getfield 9, 3) := by decide +kernel
theorem dX12_makes_42 : decode cX12_makes 42 = .ok (.bipush 8, 2) := by decide +kernel
theorem dX12_makes_44 : decode cX12_makes 44 = .ok (.iaload, 1) := by decide +kernel
theorem dX12_makes_45 : decode cX12_makes 45 = .ok (.iconst 1, 1) := by decide +kernel
theorem dX12_makes_46 : decode cX12_makes 46 = .ok (.iadd, 1) := by decide +kernel
theorem dX12_makes_47 : decode cX12_makes 47 = .ok (.iastore, 1) := by decide +kernel
theorem dX12_makes_48 : decode cX12_makes 48 = .ok (.iconst 0, 1) := by decide +kernel
theorem dX12_makes_49 : decode cX12_makes 49 = .ok (.istore_n 3, 1) := by decide +kernel
theorem dX12_makes_50 : decode cX12_makes 50 = .ok (.iload_n 3, 1) := by decide +kernel
theorem dX12_makes_51 : decode cX12_makes 51 = .ok (.aload_n 0, 1) := by decide +kernel
theorem dX12_makes_52 : decode cX12_makes 52 = .ok (.getfield 9, 3) := by decide +kernel
theorem dX12_makes_55 : decode cX12_makes 55 = .ok (.bipush 8, 2) := by decide +kernel
theorem dX12_makes_57 : decode cX12_makes 57 = .ok (.iaload, 1) := by decide +kernel
theorem dX12_makes_58 : decode cX12_makes 58 = .ok (.if_icmp .ge 28, 3) := by decide +kernel
theorem dX12_makes_86 : decode cX12_makes 86 = .ok (.aload_n 0, 1) := by decide +kernel
theorem dX12_makes_87 : decode cX12_makes 87 = .ok (.getfield 9, 3) := by decide +kernel
theorem dX12_makes_90 : decode cX12_makes 90 = .ok (.sipush 3629, 3) := by decide +kernel
theorem dX12_makes_93 : decode cX12_makes 93 = .ok (.aload_n 0, 1) := by decide +kernel
theorem dX12_makes_94 : decode cX12_makes 94 = .ok (.getfield 9, 3) := by decide +kernel
theorem dX12_makes_97 : decode cX12_makes 97 = .ok (.sipush 3629, 3) := by decide +kernel
theorem dX12_makes_100 : decode cX12_makes 100 = .ok (.iaload, 1) := by decide +kernel
theorem dX12_makes_101 : decode cX12_makes 101 = .ok (.iadd, 1) := by decide +kernel
theorem dX12_makes_102 : decode cX12_makes 102 = .ok (.iload_n 1, 1) := by decide +kernel
theorem dX12_makes_103 : decode cX12_makes 103 = .ok (.iastore, 1) := by decide +kernel
theorem rl16 : ∀ z0, z0 < 5 → 1 ≤ z0 → bd (3629 + z0) = FREE := by decide +kernel
theorem dX12_makes_104 : decode cX12_makes 104 = .ok (.aload_n 0, 1) := by decide +kernel
theorem dX12_makes_105 : decode cX12_makes 105 = .ok (.aload_n 0, 1) := by decide +kernel
theorem dX12_makes_106 : decode cX12_makes 106 = .ok (.getfield 9, 3) := by decide +kernel
theorem dX12_makes_109 : decode cX12_makes 109 = .ok (.bipush 6, 2) := by decide +kernel
theorem dX12_makes_111 : decode cX12_makes 111 = .ok (.iaload, 1) := by decide +kernel
theorem dX12_makes_112 : decode cX12_makes 112 = .ok (.sipush 3629, 3) := by decide +kernel
theorem dX12_makes_115 : decode cX12_makes 115 = .ok (.invokevirtual 157, 3) := by decide +kernel
theorem dX12_visibleWith_0 : decode cX12_visibleWith 0 = .ok (.iconst 0, 1) := by decide +kernel
theorem dX12_visibleWith_1 : decode cX12_visibleWith 1 = .ok (.istore_n 3, 1) := by decide +kernel
theorem dX12_visibleWith_2 : decode cX12_visibleWith 2 = .ok (.iload_n 3, 1) := by decide +kernel
theorem dX12_visibleWith_3 : decode cX12_visibleWith 3 = .ok (.aload_n 0, 1) := by decide +kernel
theorem dX12_visibleWith_4 : decode cX12_visibleWith 4 = .ok (.getfield 9, 3) := by decide +kernel
theorem dX12_visibleWith_7 : decode cX12_visibleWith 7 = .ok (.iconst 3, 1) := by decide +kernel
theorem dX12_visibleWith_8 : decode cX12_visibleWith 8 = .ok (.iaload, 1) := by decide +kernel
theorem dX12_visibleWith_9 : decode cX12_visibleWith 9 = .ok (.if_icmp .ge 32, 3) := by decide +kernel
theorem dX12_visibleWith_41 : decode cX12_visibleWith 41 = .ok (.iconst (-1), 1) := by decide +kernel
theorem dX12_visibleWith_42 : decode cX12_visibleWith 42 = .ok (.ireturn, 1) := by decide +kernel
theorem dX12_visibleWith_12 : decode cX12_visibleWith 12 = .ok (.aload_n 0, 1) := by decide +kernel
theorem dX12_visibleWith_13 : decode cX12_visibleWith 13 = .ok (.iload_n 2, 1) := by decide +kernel
theorem dX12_visibleWith_14 : decode cX12_visibleWith 14 = .ok (.iload_n 3, 1) := by decide +kernel
theorem dX12_visibleWith_15 : decode cX12_visibleWith 15 = .ok (.invokestatic 85, 3) := by decide +kernel
theorem dX12_visibleWith_18 : decode cX12_visibleWith 18 = .ok (.invokevirtual 148, 3) := by decide +kernel
theorem dX12_areEqual_0 : decode cX12_areEqual 0 = .ok (.aload_n 0, 1) := by decide +kernel
theorem dX12_areEqual_1 : decode cX12_areEqual 1 = .ok (.getfield 9, 3) := by decide +kernel
theorem dX12_areEqual_4 : decode cX12_areEqual 4 = .ok (.iload_n 1, 1) := by decide +kernel
theorem dX12_areEqual_5 : decode cX12_areEqual 5 = .ok (.iaload, 1) := by decide +kernel
theorem dX12_areEqual_6 : decode cX12_areEqual 6 = .ok (.aload_n 0, 1) := by decide +kernel
theorem dX12_areEqual_7 : decode cX12_areEqual 7 = .ok (.getfield 9, 3) := by decide +kernel
theorem dX12_areEqual_10 : decode cX12_areEqual 10 = .ok (.iload_n 2, 1) := by decide +kernel
theorem dX12_areEqual_11 : decode cX12_areEqual 11 = .ok (.iaload, 1) := by decide +kernel
theorem dX12_areEqual_12 : decode cX12_areEqual 12 = .ok (.if_icmp .ne 22, 3) := by decide +kernel
theorem dX12_areEqual_34 : decode cX12_areEqual 34 = .ok (.iconst 0, 1) := by decide +kernel
theorem dX12_areEqual_35 : decode cX12_areEqual 35 = .ok (.ireturn, 1) := by decide +kernel
theorem dX12_areEqual_15 : decode cX12_areEqual 15 = .ok (.aload_n 0, 1) := by decide +kernel
theorem dX12_areEqual_16 : decode cX12_areEqual 16 = .ok (.iload_n 1, 1) := by decide +kernel
theorem dX12_areEqual_17 : decode cX12_areEqual 17 = .ok (.iload_n 2, 1) := by decide +kernel
theorem dX12_areEqual_18 : decode cX12_areEqual 18 = .ok (.invokevirtual 62, 3) := by decide +kernel
theorem dX12_areEqual_21 : decode cX12_areEqual 21 = .ok (.aload_n 0, 1) := by decide +kernel
theorem dX12_areEqual_22 : decode cX12_areEqual 22 = .ok (.getfield 9, 3) := by decide +kernel
theorem dX12_areEqual_25 : decode cX12_areEqual 25 = .ok (.iload_n 1, 1) := by decide +kernel
theorem dX12_areEqual_26 : decode cX12_areEqual 26 = .ok (.iaload, 1) := by decide +kernel
theorem dX12_areEqual_27 : decode cX12_areEqual 27 = .ok (.if_icmp .ne 7, 3) := by decide +kernel
theorem dX12_areEqual_30 : decode cX12_areEqual 30 = .ok (.iconst 1, 1) := by decide +kernel
theorem dX12_areEqual_31 : decode cX12_areEqual 31 = .ok (.goto 4, 3) := by decide +kernel
set_option maxRecDepth 100000 in
set_option maxHeartbeats 4000000 in
theorem rX12_areEqual (l : Launch) (D : va_G) (Y : Nat → ClassId) (h0 : Nat) (h1 : Nat) (h2 : Nat) (h3 : Nat) (h4 : Nat) (h5 : Nat) (h6 : Nat) (p2 : Int32) (k5 : Nat) (k6 : Nat) (p7 : Int32) (p8 : Int32) (p9 : Int32) (k10 : Nat) (p11 : Int32) (q12 : Int64) (k15 : Nat) (k16 : Nat) (f0 : Nat → Int32) (f1 : Nat → Int32) (f3 : Nat → Int32) (f4 : Nat → Int32) (f13 : Nat → Int32) (f14 : Nat → Int32) (HI : INV f0) (HL : k5 ≤ 1600) (HP : PLV f13) (s0 : Nat) (s1 : Nat) (hs0 : SQ s0) (hs1 : SQ s1) (sz : Nat) : Met l yX12_areEqual (WSm yX12_areEqual cX12_areEqual 3 (some .boolean)) (mkR 2 0 0 44) (PreC D Y [.ref h0, .int (nI s0), .int (nI s1)] [(h0, oC 13 [.ref h1, .ref h2, .int p2, .ref h3, .ref h4, .int (nI k5), .int (nI k6), .int p7, .int p8, .int p9, .int (nI k10), .int p11, .long q12, .ref h5, .ref h6, .int (nI k15), .int (nI k16)]), (h1, aI Y 3640 f0), (h2, aZ Y 2 f1), (h3, aZ Y 80 f3), (h4, aB Y 1600 f4), (h5, aI Y 200 f13), (h6, aI Y 800 f14)] sz) (QI D (fun (r : Int32) (u : WU) => (r = 0 ∨ r = 1)) (fun (u : WU) => [(h0, oC 13 [.ref h1, .ref h2, .int p2, .ref h3, .ref h4, .int (nI k5), .int (nI k6), .int p7, .int p8, .int p9, .int (nI k10), .int p11, .long q12, .ref h5, .ref h6, .int (nI k15), .int (nI k16)]), (h1, aI Y 3640 f0), (h2, aZ Y 2 f1), (h3, aZ Y 80 f3), (h4, aB Y 1600 f4), (h5, aI Y 200 f13), (h6, aI Y 800 f14)]) (va_A [(h0, oC 13 [.ref h1, .ref h2, .int p2, .ref h3, .ref h4, .int (nI k5), .int (nI k6), .int p7, .int p8, .int p9, .int (nI k10), .int p11, .long q12, .ref h5, .ref h6, .int (nI k15), .int (nI k16)]), (h1, aI Y 3640 f0), (h2, aZ Y 2 f1), (h3, aZ Y 80 f3), (h4, aB Y 1600 f4), (h5, aI Y 200 f13), (h6, aI Y 800 f14)] sz)) 0 0 (va_A [(h0, oC 13 [.ref h1, .ref h2, .int p2, .ref h3, .ref h4, .int (nI k5), .int (nI k6), .int p7, .int p8, .int p9, .int (nI k10), .int p11, .long q12, .ref h5, .ref h6, .int (nI k15), .int (nI k16)]), (h1, aI Y 3640 f0), (h2, aZ Y 2 f1), (h3, aZ Y 80 f3), (h4, aB Y 1600 f4), (h5, aI Y 200 f13), (h6, aI Y 800 f14)] sz) :=
  met_of  (by decide +kernel) (Nat.le_of_ble_eq_true rfl) (fun p e s m args below meth c B hin hsz => by
    have B : VB p s m args meth c D Y (va_A [(h0, oC 13 [.ref h1, .ref h2, .int p2, .ref h3, .ref h4, .int (nI k5), .int (nI k6), .int p7, .int p8, .int p9, .int (nI k10), .int p11, .long q12, .ref h5, .ref h6, .int (nI k15), .int (nI k16)]), (h1, aI Y 3640 f0), (h2, aZ Y 2 f1), (h3, aZ Y 80 f3), (h4, aB Y 1600 f4), (h5, aI Y 200 f13), (h6, aI Y 800 f14)] sz) cX12_areEqual 3 RX12 (some .boolean) := B
    have hq_s0 := hs0.1
    have hq_s1 := hs1.1
    refine V_aload_n 0 B dX12_areEqual_0 0 rfl ?_
    refine V_get 1 B gf_RX12_9 0 rfl rfl dX12_areEqual_1 ?_
    refine V_iload_n 4 B dX12_areEqual_4 1 rfl ?_
    have x0 : (gN f0 s0) ≤ 4 := gN_le HI (by omega) hs0.2.1
    refine V_iald 5 B (v := (nI (gN f0 s0))) 1 rfl (vp_in_nI (n := s0) (by omega) (by decide)) dX12_areEqual_5 (by rw [nI_clamp (show s0 < 2 ^ 31 by omega)]; exact gN_eq HI (by omega) hs0.2.1) ?_
    refine V_aload_n 6 B dX12_areEqual_6 0 rfl ?_
    refine V_get 7 B gf_RX12_9 0 rfl rfl dX12_areEqual_7 ?_
    refine V_iload_n 10 B dX12_areEqual_10 2 rfl ?_
    have x1 : (gN f0 s1) ≤ 4 := gN_le HI (by omega) hs1.2.1
    refine V_iald 11 B (v := (nI (gN f0 s1))) 1 rfl (vp_in_nI (n := s1) (by omega) (by decide)) dX12_areEqual_11 (by rw [nI_clamp (show s1 < 2 ^ 31 by omega)]; exact gN_eq HI (by omega) hs1.2.1) ?_
    refine V_icmp_ne 12 B 34 dX12_areEqual_12 (by decide) (fun kk2 => ?_) (fun kk2 => ?_)
    ·
      have x3 := n_ne (a := (gN f0 s0)) (b := (gN f0 s1)) kk2
      refine V_iconst 34 B (v := 0) dX12_areEqual_34 (by decide +kernel) ?_
      exact V_zret 35 B rfl dX12_areEqual_35 (mkW [] [] [] [] [] []) (Or.inl rfl) rfl
    ·
      have x4 := n_eq (a := (gN f0 s0)) (b := (gN f0 s1)) kk2 (by omega) (by omega)
      refine V_aload_n 15 B dX12_areEqual_15 0 rfl ?_
      refine V_iload_n 16 B dX12_areEqual_16 1 rfl ?_
      refine V_iload_n 17 B dX12_areEqual_17 2 rfl ?_
      refine V_cvi 18 B (st := []) (As := [.int (nI s0), .int (nI s1)]) (fun sz => rX12_commonOf l D Y h0 h1 h2 h3 h4 h5 h6 p2 k5 k6 p7 p8 p9 k10 p11 q12 k15 k16 f0 f1 f3 f4 f13 f14 HI (by omega) HP s0 s1 hs0 hs1 sz) glV_RX12_62 ⟨rfl, rfl⟩ ⟨(Nat.le_of_ble_eq_true rfl), (Nat.le_of_ble_eq_true rfl)⟩ ⟨(Nat.le_of_ble_eq_true rfl), (Nat.le_of_ble_eq_true rfl)⟩ [0, 0, 0, 0, 0, 0, 0] rfl 13 0 rfl rfl rfl rfl (Nat.le_of_ble_eq_true rfl) rfl (fun _ _ _ => rfl) dX12_areEqual_18 (fun j5 u6 w7 => ?_)
      refine V_ws [(h0, oC 13 [.ref h1, .ref h2, .int p2, .ref h3, .ref h4, .int (nI k5), .int (nI k6), .int p7, .int p8, .int p9, .int (nI k10), .int p11, .long q12, .ref h5, .ref h6, .int (nI k15), .int (nI k16)]), (h1, aI Y 3640 f0), (h2, aZ Y 2 f1), (h3, aZ Y 80 f3), (h4, aB Y 1600 f4), (h5, aI Y 200 f13), (h6, aI Y 800 f14)] rfl ?_
      have x8 := w7
      clear w7
      obtain rfl := x8
      have x9 := kmV_le f0 s0 s1
      have x10 : gN f0 s0 ≤ 4 := gN_le HI (by omega) hs0.2.1
      have x11 : gN f0 s1 ≤ 4 := gN_le HI (by omega) hs1.2.1
      refine V_aload_n 21 B dX12_areEqual_21 0 rfl ?_
      refine V_get 22 B gf_RX12_9 0 rfl rfl dX12_areEqual_22 ?_
      refine V_iload_n 25 B dX12_areEqual_25 1 rfl ?_
      have x12 : (gN f0 s0) ≤ 4 := gN_le HI (by omega) hs0.2.1
      refine V_iald 26 B (v := (nI (gN f0 s0))) 1 rfl (vp_in_nI (n := s0) (by omega) (by decide)) dX12_areEqual_26 (by rw [nI_clamp (show s0 < 2 ^ 31 by omega)]; exact gN_eq HI (by omega) hs0.2.1) ?_
      refine V_icmp_ne 27 B 34 dX12_areEqual_27 (by decide) (fun kk13 => ?_) (fun kk13 => ?_)
      ·
        have x14 := n_ne (a := (kmV f0 s0 s1)) (b := (gN f0 s0)) kk13
        refine V_iconst 34 B (v := 0) dX12_areEqual_34 (by decide +kernel) ?_
        exact V_zret 35 B rfl dX12_areEqual_35 (mkW [] [] [] [] [] []) (Or.inl rfl) rfl
      ·
        have x15 := n_eq (a := (kmV f0 s0 s1)) (b := (gN f0 s0)) kk13 (by omega) (by omega)
        refine V_iconst 30 B (v := 1) dX12_areEqual_30 (by decide +kernel) ?_
        refine V_goto 31 B 35 dX12_areEqual_31 (by decide) ?_
        exact V_zret 35 B rfl dX12_areEqual_35 (mkW [] [] [] [] [] []) (Or.inr rfl) rfl)
theorem glV_RX12_148 : GLV RX12 148 yX12_areEqual RX12 cX12_areEqual 3 (some .boolean) 2 := ⟨⟨(mT8 160 rfl rfl), (mT8 162 rfl rfl), (mTs 51 rfl rfl), (mT1 13 rfl rfl), (mT8 163 rfl rfl)⟩, by decide +kernel⟩
theorem dX12_visibleWith_21 : decode cX12_visibleWith 21 = .ok (.ifCond .eq 14, 3) := by decide +kernel
theorem dX12_visibleWith_35 : decode cX12_visibleWith 35 = .ok (.iinc 3 1, 3) := by decide +kernel
theorem dX12_visibleWith_38 : decode cX12_visibleWith 38 = .ok (.goto (-36), 3) := by decide +kernel
theorem dX12_visibleWith_24 : decode cX12_visibleWith 24 = .ok (.aload_n 0, 1) := by decide +kernel
theorem dX12_visibleWith_25 : decode cX12_visibleWith 25 = .ok (.iload_n 1, 1) := by decide +kernel
theorem dX12_visibleWith_26 : decode cX12_visibleWith 26 = .ok (.iload_n 3, 1) := by decide +kernel
theorem dX12_visibleWith_27 : decode cX12_visibleWith 27 = .ok (.invokevirtual 154, 3) := by decide +kernel
theorem dX12_isVisible_0 : decode cX12_isVisible 0 = .ok (.iload_n 1, 1) := by decide +kernel
theorem dX12_isVisible_1 : decode cX12_isVisible 1 = .ok (.istore_n 3, 1) := by decide +kernel
theorem dX12_isVisible_2 : decode cX12_isVisible 2 = .ok (.iload_n 3, 1) := by decide +kernel
theorem dX12_isVisible_3 : decode cX12_isVisible 3 = .ok (.iconst (-1), 1) := by decide +kernel
theorem dX12_isVisible_4 : decode cX12_isVisible 4 = .ok (.if_icmp .eq 39, 3) := by decide +kernel
theorem dX12_isVisible_43 : decode cX12_isVisible 43 = .ok (.iload_n 3, 1) := by decide +kernel
theorem dX12_isVisible_44 : decode cX12_isVisible 44 = .ok (.aload_n 0, 1) := by decide +kernel
theorem dX12_isVisible_45 : decode cX12_isVisible 45 = .ok (.iload_n 2, 1) := by decide +kernel
theorem dX12_isVisible_46 : decode cX12_isVisible 46 = .ok (.invokevirtual 115, 3) := by decide +kernel
theorem dX12_isVisible_49 : decode cX12_isVisible 49 = .ok (.if_icmp .ne 7, 3) := by decide +kernel
theorem dX12_isVisible_56 : decode cX12_isVisible 56 = .ok (.iconst 0, 1) := by decide +kernel
theorem dX12_isVisible_57 : decode cX12_isVisible 57 = .ok (.ireturn, 1) := by decide +kernel
theorem dX12_isVisible_52 : decode cX12_isVisible 52 = .ok (.iconst 1, 1) := by decide +kernel
theorem dX12_isVisible_53 : decode cX12_isVisible 53 = .ok (.goto 4, 3) := by decide +kernel
theorem dX12_isVisible_7 : decode cX12_isVisible 7 = .ok (.iload_n 3, 1) := by decide +kernel
theorem dX12_isVisible_8 : decode cX12_isVisible 8 = .ok (.aload_n 0, 1) := by decide +kernel
theorem dX12_isVisible_9 : decode cX12_isVisible 9 = .ok (.iload_n 2, 1) := by decide +kernel
theorem dX12_isVisible_10 : decode cX12_isVisible 10 = .ok (.invokevirtual 115, 3) := by decide +kernel
theorem dX12_isVisible_13 : decode cX12_isVisible 13 = .ok (.if_icmp .eq 30, 3) := by decide +kernel
theorem dX12_isVisible_16 : decode cX12_isVisible 16 = .ok (.aload_n 0, 1) := by decide +kernel
theorem dX12_isVisible_17 : decode cX12_isVisible 17 = .ok (.iload_n 3, 1) := by decide +kernel
theorem dX12_isVisible_18 : decode cX12_isVisible 18 = .ok (.iload_n 2, 1) := by decide +kernel
theorem dX12_isVisible_19 : decode cX12_isVisible 19 = .ok (.invokestatic 85, 3) := by decide +kernel
theorem dX12_isVisible_22 : decode cX12_isVisible 22 = .ok (.iconst (-1), 1) := by decide +kernel
theorem dX12_isVisible_23 : decode cX12_isVisible 23 = .ok (.invokevirtual 121, 3) := by decide +kernel
theorem dX12_isVisible_26 : decode cX12_isVisible 26 = .ok (.iconst (-1), 1) := by decide +kernel
theorem dX12_isVisible_27 : decode cX12_isVisible 27 = .ok (.if_icmp .ne 16, 3) := by decide +kernel
theorem dX12_isVisible_30 : decode cX12_isVisible 30 = .ok (.aload_n 0, 1) := by decide +kernel
theorem dX12_isVisible_31 : decode cX12_isVisible 31 = .ok (.getfield 9, 3) := by decide +kernel
theorem dX12_isVisible_34 : decode cX12_isVisible 34 = .ok (.bipush 16, 2) := by decide +kernel
theorem dX12_isVisible_36 : decode cX12_isVisible 36 = .ok (.iload_n 3, 1) := by decide +kernel
theorem dX12_isVisible_37 : decode cX12_isVisible 37 = .ok (.iadd, 1) := by decide +kernel
theorem dX12_isVisible_38 : decode cX12_isVisible 38 = .ok (.iaload, 1) := by decide +kernel
theorem rl17 : ∀ z0, z0 < 6 → bd (16 + z0) = (-1, (z0 : Int) - 1) := by decide +kernel
theorem dX12_isVisible_39 : decode cX12_isVisible 39 = .ok (.istore_n 3, 1) := by decide +kernel
theorem dX12_isVisible_40 : decode cX12_isVisible 40 = .ok (.goto (-38), 3) := by decide +kernel
set_option maxRecDepth 100000 in
set_option maxHeartbeats 4000000 in
theorem rX12_isVisible (l : Launch) (D : va_G) (Y : Nat → ClassId) (h0 : Nat) (h1 : Nat) (h2 : Nat) (h3 : Nat) (h4 : Nat) (h5 : Nat) (h6 : Nat) (p2 : Int32) (k5 : Nat) (k6 : Nat) (p7 : Int32) (p8 : Int32) (p9 : Int32) (k10 : Nat) (p11 : Int32) (q12 : Int64) (k15 : Nat) (k16 : Nat) (f0 : Nat → Int32) (f1 : Nat → Int32) (f3 : Nat → Int32) (f4 : Nat → Int32) (f13 : Nat → Int32) (f14 : Nat → Int32) (HI : INV f0) (HL : k5 ≤ 1600) (HP : PLV f13) (s0 : Int32) (s1 : Nat) (hm0 : -1 ≤ s0.toInt ∧ s0.toInt ≤ 5) (hn1 : s1 < 80) (sz : Nat) : Met l yX12_isVisible (WSm yX12_isVisible cX12_isVisible 4 (some .boolean)) (mkR 4 0 0 90) (PreC D Y [.ref h0, .int s0, .int (nI s1)] [(h0, oC 13 [.ref h1, .ref h2, .int p2, .ref h3, .ref h4, .int (nI k5), .int (nI k6), .int p7, .int p8, .int p9, .int (nI k10), .int p11, .long q12, .ref h5, .ref h6, .int (nI k15), .int (nI k16)]), (h1, aI Y 3640 f0), (h2, aZ Y 2 f1), (h3, aZ Y 80 f3), (h4, aB Y 1600 f4), (h5, aI Y 200 f13), (h6, aI Y 800 f14)] sz) (QI D (fun (r : Int32) (u : WU) => ((r = 0 ∧ ¬ VIS f0 s0 s1) ∨ (r = 1 ∧ VIS f0 s0 s1))) (fun (u : WU) => [(h0, oC 13 [.ref h1, .ref h2, .int p2, .ref h3, .ref h4, .int (nI k5), .int (nI k6), .int p7, .int p8, .int p9, .int (nI k10), .int p11, .long q12, .ref h5, .ref h6, .int (nI k15), .int (nI k16)]), (h1, aI Y 3640 f0), (h2, aZ Y 2 f1), (h3, aZ Y 80 f3), (h4, aB Y 1600 f4), (h5, aI Y 200 f13), (h6, aI Y 800 f14)]) (va_A [(h0, oC 13 [.ref h1, .ref h2, .int p2, .ref h3, .ref h4, .int (nI k5), .int (nI k6), .int p7, .int p8, .int p9, .int (nI k10), .int p11, .long q12, .ref h5, .ref h6, .int (nI k15), .int (nI k16)]), (h1, aI Y 3640 f0), (h2, aZ Y 2 f1), (h3, aZ Y 80 f3), (h4, aB Y 1600 f4), (h5, aI Y 200 f13), (h6, aI Y 800 f14)] sz)) 0 0 (va_A [(h0, oC 13 [.ref h1, .ref h2, .int p2, .ref h3, .ref h4, .int (nI k5), .int (nI k6), .int p7, .int p8, .int p9, .int (nI k10), .int p11, .long q12, .ref h5, .ref h6, .int (nI k15), .int (nI k16)]), (h1, aI Y 3640 f0), (h2, aZ Y 2 f1), (h3, aZ Y 80 f3), (h4, aB Y 1600 f4), (h5, aI Y 200 f13), (h6, aI Y 800 f14)] sz) :=
  met_of  (by decide +kernel) (Nat.le_of_ble_eq_true rfl) (fun p e s m args below meth c B hin hsz => by
    have B : VB p s m args meth c D Y (va_A [(h0, oC 13 [.ref h1, .ref h2, .int p2, .ref h3, .ref h4, .int (nI k5), .int (nI k6), .int p7, .int p8, .int p9, .int (nI k10), .int p11, .long q12, .ref h5, .ref h6, .int (nI k15), .int (nI k16)]), (h1, aI Y 3640 f0), (h2, aZ Y 2 f1), (h3, aZ Y 80 f3), (h4, aB Y 1600 f4), (h5, aI Y 200 f13), (h6, aI Y 800 f14)] sz) cX12_isVisible 4 RX12 (some .boolean) := B
    refine V_iload_n 0 B dX12_isVisible_0 1 rfl ?_
    refine V_istore_n 1 B (lv2 := [(3, .int s0), (0, .ref h0), (1, .int s0), (2, .int (nI s1))]) dX12_isVisible_1 (by decide) rfl ?_
    refine V_wloop (α := WU) (fun a => (((a.2.1 0)).toInt + 1).toNat) (fun a => ((-1) ≤ (a.2.1 0).toInt ∧ (a.2.1 0).toInt ≤ 5) ∧ (∃ m : Nat, (a.2.1 0).toInt + 1 ≤ m ∧ (VISn f0 s1 m (a.2.1 0) ↔ VIS f0 s0 s1))) (fun a => [(3, .int (a.2.1 0)), (0, .ref h0), (1, .int s0), (2, .int (nI s1))]) (fun a => [(h0, oC 13 [.ref h1, .ref h2, .int p2, .ref h3, .ref h4, .int (nI k5), .int (nI k6), .int p7, .int p8, .int p9, .int (nI k10), .int p11, .long q12, .ref h5, .ref h6, .int (nI k15), .int (nI k16)]), (h1, aI Y 3640 f0), (h2, aZ Y 2 f1), (h3, aZ Y 80 f3), (h4, aB Y 1600 f4), (h5, aI Y 200 f13), (h6, aI Y 800 f14)]) (mkW [] [s0] [] [] [] []) ⟨(show (-1) ≤ (s0 : Int32).toInt ∧ (s0 : Int32).toInt ≤ 5 by omega), ⟨7, (show (s0 : Int32).toInt + 1 ≤ 7 by omega), Iff.rfl⟩⟩ rfl rfl (fun a0 hI2 IH1 => ?_)
    refine V_lv [(3, .int (a0.2.1 0)), (0, .ref h0), (1, .int s0), (2, .int (nI s1))] [0, 1, 2, 3] rfl ?_
    refine V_ws [(h0, oC 13 [.ref h1, .ref h2, .int p2, .ref h3, .ref h4, .int (nI k5), .int (nI k6), .int p7, .int p8, .int p9, .int (nI k10), .int p11, .long q12, .ref h5, .ref h6, .int (nI k15), .int (nI k16)]), (h1, aI Y 3640 f0), (h2, aZ Y 2 f1), (h3, aZ Y 80 f3), (h4, aB Y 1600 f4), (h5, aI Y 200 f13), (h6, aI Y 800 f14)] rfl ?_
    obtain ⟨x3, x4⟩ := hI2
    generalize a0.2.1 0 = j5 at *
    obtain ⟨m6, x7⟩ := x4
    refine V_iload_n 2 B dX12_isVisible_2 0 rfl ?_
    refine V_iconst 3 B (v := (-1)) dX12_isVisible_3 (by decide +kernel) ?_
    refine V_icmp_eq 4 B 43 dX12_isVisible_4 (by decide) (fun kk8 => ?_) (fun kk8 => ?_)
    ·
      obtain rfl : j5 = (-1) := kk8
      have e10 : ((-1) : Int32).toInt = (-1) := by decide +kernel
      refine V_iload_n 43 B dX12_isVisible_43 0 rfl ?_
      refine V_aload_n 44 B dX12_isVisible_44 1 rfl ?_
      refine V_iload_n 45 B dX12_isVisible_45 3 rfl ?_
      refine V_cvi 46 B (st := [.int (-1)]) (As := [.int (nI s1)]) (fun sz => rX12_modeOf l D Y h0 h1 h2 h3 h4 h5 h6 p2 k5 k6 p7 p8 p9 k10 p11 q12 k15 k16 f0 f1 f3 f4 f13 f14 HI (by omega) HP s1 (by omega) sz) glV_RX12_115 ⟨rfl, rfl⟩ ⟨(Nat.le_of_ble_eq_true rfl), (Nat.le_of_ble_eq_true rfl)⟩ ⟨(Nat.le_of_ble_eq_true rfl), (Nat.le_of_ble_eq_true rfl)⟩ [0, 0, 0, 0, 0, 0, 0] rfl 13 0 rfl rfl rfl rfl (Nat.le_of_ble_eq_true rfl) rfl (fun _ _ _ => rfl) dX12_isVisible_46 (fun j11 u12 w13 => ?_)
      refine V_ws [(h0, oC 13 [.ref h1, .ref h2, .int p2, .ref h3, .ref h4, .int (nI k5), .int (nI k6), .int p7, .int p8, .int p9, .int (nI k10), .int p11, .long q12, .ref h5, .ref h6, .int (nI k15), .int (nI k16)]), (h1, aI Y 3640 f0), (h2, aZ Y 2 f1), (h3, aZ Y 80 f3), (h4, aB Y 1600 f4), (h5, aI Y 200 f13), (h6, aI Y 800 f14)] rfl ?_
      have x14 := w13
      clear w13
      refine V_icmp_ne 49 B 56 dX12_isVisible_49 (by decide) (fun kk15 => ?_) (fun kk15 => ?_)
      ·
        have x16 := x_ne kk15
        rw [show ((-1) : Int32).toInt = (-1) by decide +kernel] at x16
        refine V_iconst 56 B (v := 0) dX12_isVisible_56 (by decide +kernel) ?_
        exact V_zret 57 B rfl dX12_isVisible_57 (mkW [] [] [] [] [] []) (Or.inl ⟨rfl, fun z7 => vis_m1 (fun z8 => kk15 (by rw [x14]; exact z8)) (x7.2.mpr z7)⟩) rfl
      ·
        have x17 := x_eq kk15
        rw [show ((-1) : Int32).toInt = (-1) by decide +kernel] at x17
        refine V_iconst 52 B (v := 1) dX12_isVisible_52 (by decide +kernel) ?_
        refine V_goto 53 B 57 dX12_isVisible_53 (by decide) ?_
        exact V_zret 57 B rfl dX12_isVisible_57 (mkW [] [] [] [] [] []) (Or.inr ⟨rfl, x7.2.mp (vis_eq (by rw [← x14]; exact kk15))⟩) rfl
    ·
      have x18 := x_ne kk8
      rw [show ((-1) : Int32).toInt = (-1) by decide +kernel] at x18
      refine V_iload_n 7 B dX12_isVisible_7 0 rfl ?_
      refine V_aload_n 8 B dX12_isVisible_8 1 rfl ?_
      refine V_iload_n 9 B dX12_isVisible_9 3 rfl ?_
      refine V_cvi 10 B (st := [.int j5]) (As := [.int (nI s1)]) (fun sz => rX12_modeOf l D Y h0 h1 h2 h3 h4 h5 h6 p2 k5 k6 p7 p8 p9 k10 p11 q12 k15 k16 f0 f1 f3 f4 f13 f14 HI (by omega) HP s1 (by omega) sz) glV_RX12_115 ⟨rfl, rfl⟩ ⟨(Nat.le_of_ble_eq_true rfl), (Nat.le_of_ble_eq_true rfl)⟩ ⟨(Nat.le_of_ble_eq_true rfl), (Nat.le_of_ble_eq_true rfl)⟩ [0, 0, 0, 0, 0, 0, 0] rfl 13 0 rfl rfl rfl rfl (Nat.le_of_ble_eq_true rfl) rfl (fun _ _ _ => rfl) dX12_isVisible_10 (fun j19 u20 w21 => ?_)
      refine V_ws [(h0, oC 13 [.ref h1, .ref h2, .int p2, .ref h3, .ref h4, .int (nI k5), .int (nI k6), .int p7, .int p8, .int p9, .int (nI k10), .int p11, .long q12, .ref h5, .ref h6, .int (nI k15), .int (nI k16)]), (h1, aI Y 3640 f0), (h2, aZ Y 2 f1), (h3, aZ Y 80 f3), (h4, aB Y 1600 f4), (h5, aI Y 200 f13), (h6, aI Y 800 f14)] rfl ?_
      have x22 := w21
      clear w21
      refine V_icmp_eq 13 B 43 dX12_isVisible_13 (by decide) (fun kk23 => ?_) (fun kk23 => ?_)
      ·
        have x24 := x_eq kk23
        refine V_iload_n 43 B dX12_isVisible_43 0 rfl ?_
        refine V_aload_n 44 B dX12_isVisible_44 1 rfl ?_
        refine V_iload_n 45 B dX12_isVisible_45 3 rfl ?_
        refine V_cvi 46 B (st := [.int j5]) (As := [.int (nI s1)]) (fun sz => rX12_modeOf l D Y h0 h1 h2 h3 h4 h5 h6 p2 k5 k6 p7 p8 p9 k10 p11 q12 k15 k16 f0 f1 f3 f4 f13 f14 HI (by omega) HP s1 (by omega) sz) glV_RX12_115 ⟨rfl, rfl⟩ ⟨(Nat.le_of_ble_eq_true rfl), (Nat.le_of_ble_eq_true rfl)⟩ ⟨(Nat.le_of_ble_eq_true rfl), (Nat.le_of_ble_eq_true rfl)⟩ [0, 0, 0, 0, 0, 0, 0] rfl 13 0 rfl rfl rfl rfl (Nat.le_of_ble_eq_true rfl) rfl (fun _ _ _ => rfl) dX12_isVisible_46 (fun j25 u26 w27 => ?_)
        refine V_ws [(h0, oC 13 [.ref h1, .ref h2, .int p2, .ref h3, .ref h4, .int (nI k5), .int (nI k6), .int p7, .int p8, .int p9, .int (nI k10), .int p11, .long q12, .ref h5, .ref h6, .int (nI k15), .int (nI k16)]), (h1, aI Y 3640 f0), (h2, aZ Y 2 f1), (h3, aZ Y 80 f3), (h4, aB Y 1600 f4), (h5, aI Y 200 f13), (h6, aI Y 800 f14)] rfl ?_
        have x28 := w27
        clear w27
        refine V_icmp_ne 49 B 56 dX12_isVisible_49 (by decide) (fun kk29 => ?_) (fun kk29 => ?_)
        ·
          have x30 := x_ne kk29
          refine V_iconst 56 B (v := 0) dX12_isVisible_56 (by decide +kernel) ?_
          exact V_zret 57 B rfl dX12_isVisible_57 (mkW [] [] [] [] [] []) (Or.inl ⟨rfl, absurd (kk23.trans x22) (fun z8 => kk29 (by rw [x28]; exact z8))⟩) rfl
        ·
          have x31 := x_eq kk29
          refine V_iconst 52 B (v := 1) dX12_isVisible_52 (by decide +kernel) ?_
          refine V_goto 53 B 57 dX12_isVisible_53 (by decide) ?_
          exact V_zret 57 B rfl dX12_isVisible_57 (mkW [] [] [] [] [] []) (Or.inr ⟨rfl, x7.2.mp (vis_eq (by rw [← x28]; exact kk29))⟩) rfl
      ·
        have x32 := x_ne kk23
        refine V_aload_n 16 B dX12_isVisible_16 1 rfl ?_
        refine V_iload_n 17 B dX12_isVisible_17 0 rfl ?_
        refine V_iload_n 18 B dX12_isVisible_18 3 rfl ?_
        refine V_csi 19 B (st := [.int j5, .ref h0]) (As := [.int (nI s1)]) (fun sz => rX12_sequenceOf l D Y s1 (by omega) sz) glS_RX12_85 ⟨rfl, rfl⟩ ⟨(Nat.le_of_ble_eq_true rfl), (Nat.le_of_ble_eq_true rfl)⟩ ⟨(Nat.le_of_ble_eq_true rfl), (Nat.le_of_ble_eq_true rfl)⟩ [] rfl rfl (Nat.le_of_ble_eq_true rfl) rfl (fun _ _ _ => rfl) dX12_isVisible_19 (fun j33 u34 w35 => ?_)
        refine V_ws [(h0, oC 13 [.ref h1, .ref h2, .int p2, .ref h3, .ref h4, .int (nI k5), .int (nI k6), .int p7, .int p8, .int p9, .int (nI k10), .int p11, .long q12, .ref h5, .ref h6, .int (nI k15), .int (nI k16)]), (h1, aI Y 3640 f0), (h2, aZ Y 2 f1), (h3, aZ Y 80 f3), (h4, aB Y 1600 f4), (h5, aI Y 200 f13), (h6, aI Y 800 f14)] rfl ?_
        have x36 := w35
        clear w35
        obtain rfl := x36
        refine V_iconst 22 B (v := (-1)) dX12_isVisible_22 (by decide +kernel) ?_
        refine V_cvi 23 B (st := []) (As := [.int j5, .int (nI (186 + 7 * s1)), .int (-1)]) (fun sz => rX12_clashIn l D Y h0 h1 h2 h3 h4 h5 h6 p2 k5 k6 p7 p8 p9 k10 p11 q12 k15 k16 f0 f1 f3 f4 f13 f14 HI (by omega) HP j5 (186 + 7 * s1) (-1) (rl12 s1 (by omega)) sz) glV_RX12_121 ⟨rfl, rfl⟩ ⟨(Nat.le_of_ble_eq_true rfl), (Nat.le_of_ble_eq_true rfl)⟩ ⟨(Nat.le_of_ble_eq_true rfl), (Nat.le_of_ble_eq_true rfl)⟩ [0, 0, 0, 0, 0, 0, 0] rfl 13 0 rfl rfl rfl rfl (Nat.le_of_ble_eq_true rfl) rfl (fun _ _ _ => rfl) dX12_isVisible_23 (fun j37 u38 w39 => ?_)
        refine V_ws [(h0, oC 13 [.ref h1, .ref h2, .int p2, .ref h3, .ref h4, .int (nI k5), .int (nI k6), .int p7, .int p8, .int p9, .int (nI k10), .int p11, .long q12, .ref h5, .ref h6, .int (nI k15), .int (nI k16)]), (h1, aI Y 3640 f0), (h2, aZ Y 2 f1), (h3, aZ Y 80 f3), (h4, aB Y 1600 f4), (h5, aI Y 200 f13), (h6, aI Y 800 f14)] rfl ?_
        have x40 := w39
        clear w39
        have x43 : (gN f0 3) ≤ 80 := gN_le HI (by omega) (show bd 3 = (0, ((80 : Nat) : Int)) by decide +kernel)
        rcases x40 with ⟨rfl, x42⟩ | ⟨n41, rfl, x42, x44⟩
        ·
          refine V_iconst 26 B (v := (-1)) dX12_isVisible_26 (by decide +kernel) ?_
          refine V_icmp_ne_f 27 B 43 dX12_isVisible_27 (by decide) (by decide +kernel) ?_
          refine V_aload_n 30 B dX12_isVisible_30 1 rfl ?_
          refine V_get 31 B gf_RX12_9 0 rfl rfl dX12_isVisible_31 ?_
          refine V_bipush 34 B (v := 16) dX12_isVisible_34 (by decide +kernel) ?_
          refine V_iload_n 36 B dX12_isVisible_36 0 rfl ?_
          obtain ⟨n45, x46, rfl⟩ := nat_of (x := j5) (n := 5) (by omega) (by omega)
          have e47 := nI_toInt (show n45 < 2 ^ 31 by omega)
          refine V_iadd 37 B (v := (nI (16 + n45))) dX12_isVisible_37 (nI_addE (a := 16) (b := n45) (by omega)) ?_
          refine V_iald 38 B (v := f0 (16 + n45)) 1 rfl (vp_in_nI (n := 16 + n45) (by omega) (by decide)) dX12_isVisible_38 (by rw [nI_clamp (show 16 + n45 < 2 ^ 31 by omega)]) ?_
          refine V_nmi (fun j48 e49 => ?_)
          have x50 : (-1) ≤ j48.toInt ∧ j48.toInt ≤ (((n45 : Nat) : Int) - 1) := by rw [e49]; exact ⟨INV_lo HI (by omega) (rl17 n45 (by omega)), INV_hi HI (by omega) (rl17 n45 (by omega))⟩
          refine V_istore_n 39 B (lv2 := [(3, .int j48), (0, .ref h0), (1, .int s0), (2, .int (nI s1))]) dX12_isVisible_39 (by decide) rfl ?_
          refine V_goto 40 B 2 dX12_isVisible_40 (by decide) ?_
          refine V_lv [(3, .int j48), (0, .ref h0), (1, .int s0), (2, .int (nI s1))] [0, 1, 2, 3] rfl ?_
          exact IH1 (mkW [] [j48] [] [] [] []) ⟨(show (-1) ≤ (j48 : Int32).toInt ∧ (j48 : Int32).toInt ≤ 5 by omega), (vis_step (y := j48) x7 (by omega) (fun z8 => kk23 (by rw [x22]; exact z8)) (x42 rfl) e49 (by omega))⟩ (by show ((j48 : Int32).toInt + 1).toNat < _; omega)
        ·
          refine V_iconst 26 B (v := (-1)) dX12_isVisible_26 (by decide +kernel) ?_
          refine V_icmp_ne_t 27 B 43 dX12_isVisible_27 (by decide) (fun z => by have z2 := x_eq z; rw [nI_toInt (show n41 < 2 ^ 31 by omega), show ((-1) : Int32).toInt = (-1) by decide +kernel] at z2; omega) ?_
          refine V_iload_n 43 B dX12_isVisible_43 0 rfl ?_
          refine V_aload_n 44 B dX12_isVisible_44 1 rfl ?_
          refine V_iload_n 45 B dX12_isVisible_45 3 rfl ?_
          refine V_cvi 46 B (st := [.int j5]) (As := [.int (nI s1)]) (fun sz => rX12_modeOf l D Y h0 h1 h2 h3 h4 h5 h6 p2 k5 k6 p7 p8 p9 k10 p11 q12 k15 k16 f0 f1 f3 f4 f13 f14 HI (by omega) HP s1 (by omega) sz) glV_RX12_115 ⟨rfl, rfl⟩ ⟨(Nat.le_of_ble_eq_true rfl), (Nat.le_of_ble_eq_true rfl)⟩ ⟨(Nat.le_of_ble_eq_true rfl), (Nat.le_of_ble_eq_true rfl)⟩ [0, 0, 0, 0, 0, 0, 0] rfl 13 0 rfl rfl rfl rfl (Nat.le_of_ble_eq_true rfl) rfl (fun _ _ _ => rfl) dX12_isVisible_46 (fun j52 u53 w54 => ?_)
          refine V_ws [(h0, oC 13 [.ref h1, .ref h2, .int p2, .ref h3, .ref h4, .int (nI k5), .int (nI k6), .int p7, .int p8, .int p9, .int (nI k10), .int p11, .long q12, .ref h5, .ref h6, .int (nI k15), .int (nI k16)]), (h1, aI Y 3640 f0), (h2, aZ Y 2 f1), (h3, aZ Y 80 f3), (h4, aB Y 1600 f4), (h5, aI Y 200 f13), (h6, aI Y 800 f14)] rfl ?_
          have x55 := w54
          clear w54
          refine V_icmp_ne 49 B 56 dX12_isVisible_49 (by decide) (fun kk56 => ?_) (fun kk56 => ?_)
          ·
            have x57 := x_ne kk56
            refine V_iconst 56 B (v := 0) dX12_isVisible_56 (by decide +kernel) ?_
            exact V_zret 57 B rfl dX12_isVisible_57 (mkW [] [] [] [] [] []) (Or.inl ⟨rfl, fun z7 => by first | exact vis_cl (fun z8 => kk56 (by rw [x55]; exact z8)) x44 (by omega) (x7.2.mpr z7) | exact absurd rfl ‹_›⟩) rfl
          ·
            have x58 := x_eq kk56
            refine V_iconst 52 B (v := 1) dX12_isVisible_52 (by decide +kernel) ?_
            refine V_goto 53 B 57 dX12_isVisible_53 (by decide) ?_
            exact V_zret 57 B rfl dX12_isVisible_57 (mkW [] [] [] [] [] []) (Or.inr ⟨rfl, x7.2.mp (vis_eq (by rw [← x55]; exact kk56))⟩) rfl)
theorem glV_RX12_154 : GLV RX12 154 yX12_isVisible RX12 cX12_isVisible 4 (some .boolean) 2 := ⟨⟨(mT8 176 rfl rfl), (mT8 178 rfl rfl), (mTs 54 rfl rfl), (mT1 13 rfl rfl), (mT8 179 rfl rfl)⟩, by decide +kernel⟩
theorem dX12_visibleWith_30 : decode cX12_visibleWith 30 = .ok (.ifCond .eq 5, 3) := by decide +kernel
theorem dX12_visibleWith_33 : decode cX12_visibleWith 33 = .ok (.iload_n 3, 1) := by decide +kernel
theorem dX12_visibleWith_34 : decode cX12_visibleWith 34 = .ok (.ireturn, 1) := by decide +kernel
set_option maxRecDepth 100000 in
set_option maxHeartbeats 4000000 in
theorem rX12_visibleWith (l : Launch) (D : va_G) (Y : Nat → ClassId) (h0 : Nat) (h1 : Nat) (h2 : Nat) (h3 : Nat) (h4 : Nat) (h5 : Nat) (h6 : Nat) (p2 : Int32) (k5 : Nat) (k6 : Nat) (p7 : Int32) (p8 : Int32) (p9 : Int32) (k10 : Nat) (p11 : Int32) (q12 : Int64) (k15 : Nat) (k16 : Nat) (f0 : Nat → Int32) (f1 : Nat → Int32) (f3 : Nat → Int32) (f4 : Nat → Int32) (f13 : Nat → Int32) (f14 : Nat → Int32) (HI : INV f0) (HL : k5 ≤ 1600) (HP : PLV f13) (s0 : Int32) (s1 : Nat) (hm0 : -1 ≤ s0.toInt ∧ s0.toInt ≤ 5) (hs1 : SQ s1) (sz : Nat) : Met l yX12_visibleWith (WSm yX12_visibleWith cX12_visibleWith 4 (some .int)) (mkR 5 0 0 113) (PreC D Y [.ref h0, .int s0, .int (nI s1)] [(h0, oC 13 [.ref h1, .ref h2, .int p2, .ref h3, .ref h4, .int (nI k5), .int (nI k6), .int p7, .int p8, .int p9, .int (nI k10), .int p11, .long q12, .ref h5, .ref h6, .int (nI k15), .int (nI k16)]), (h1, aI Y 3640 f0), (h2, aZ Y 2 f1), (h3, aZ Y 80 f3), (h4, aB Y 1600 f4), (h5, aI Y 200 f13), (h6, aI Y 800 f14)] sz) (QI D (fun (r : Int32) (u : WU) => (r = -1 ∨ ∃ b : Nat, r = nI b ∧ b < gN f0 3)) (fun (u : WU) => [(h0, oC 13 [.ref h1, .ref h2, .int p2, .ref h3, .ref h4, .int (nI k5), .int (nI k6), .int p7, .int p8, .int p9, .int (nI k10), .int p11, .long q12, .ref h5, .ref h6, .int (nI k15), .int (nI k16)]), (h1, aI Y 3640 f0), (h2, aZ Y 2 f1), (h3, aZ Y 80 f3), (h4, aB Y 1600 f4), (h5, aI Y 200 f13), (h6, aI Y 800 f14)]) (va_A [(h0, oC 13 [.ref h1, .ref h2, .int p2, .ref h3, .ref h4, .int (nI k5), .int (nI k6), .int p7, .int p8, .int p9, .int (nI k10), .int p11, .long q12, .ref h5, .ref h6, .int (nI k15), .int (nI k16)]), (h1, aI Y 3640 f0), (h2, aZ Y 2 f1), (h3, aZ Y 80 f3), (h4, aB Y 1600 f4), (h5, aI Y 200 f13), (h6, aI Y 800 f14)] sz)) 0 0 (va_A [(h0, oC 13 [.ref h1, .ref h2, .int p2, .ref h3, .ref h4, .int (nI k5), .int (nI k6), .int p7, .int p8, .int p9, .int (nI k10), .int p11, .long q12, .ref h5, .ref h6, .int (nI k15), .int (nI k16)]), (h1, aI Y 3640 f0), (h2, aZ Y 2 f1), (h3, aZ Y 80 f3), (h4, aB Y 1600 f4), (h5, aI Y 200 f13), (h6, aI Y 800 f14)] sz) :=
  met_of  (by decide +kernel) (Nat.le_of_ble_eq_true rfl) (fun p e s m args below meth c B hin hsz => by
    have B : VB p s m args meth c D Y (va_A [(h0, oC 13 [.ref h1, .ref h2, .int p2, .ref h3, .ref h4, .int (nI k5), .int (nI k6), .int p7, .int p8, .int p9, .int (nI k10), .int p11, .long q12, .ref h5, .ref h6, .int (nI k15), .int (nI k16)]), (h1, aI Y 3640 f0), (h2, aZ Y 2 f1), (h3, aZ Y 80 f3), (h4, aB Y 1600 f4), (h5, aI Y 200 f13), (h6, aI Y 800 f14)] sz) cX12_visibleWith 4 RX12 (some .int) := B
    have hq_s1 := hs1.1
    refine V_iconst 0 B (v := 0) dX12_visibleWith_0 (by decide +kernel) ?_
    refine V_istore_n 1 B (lv2 := [(3, .int 0), (0, .ref h0), (1, .int s0), (2, .int (nI s1))]) dX12_visibleWith_1 (by decide) rfl ?_
    refine V_wloop (α := WU) (fun a => 100000 - (a.1 0)) (fun a => (a.1 0) ≤ 4000) (fun a => [(3, .int (nI (a.1 0))), (0, .ref h0), (1, .int s0), (2, .int (nI s1))]) (fun a => [(h0, oC 13 [.ref h1, .ref h2, .int p2, .ref h3, .ref h4, .int (nI k5), .int (nI k6), .int p7, .int p8, .int p9, .int (nI k10), .int p11, .long q12, .ref h5, .ref h6, .int (nI k15), .int (nI k16)]), (h1, aI Y 3640 f0), (h2, aZ Y 2 f1), (h3, aZ Y 80 f3), (h4, aB Y 1600 f4), (h5, aI Y 200 f13), (h6, aI Y 800 f14)]) (mkW [0] [] [] [] [] []) (show 0 ≤ 4000 by omega) rfl rfl (fun a0 hI2 IH1 => ?_)
    refine V_lv [(3, .int (nI (a0.1 0))), (0, .ref h0), (1, .int s0), (2, .int (nI s1))] [0, 1, 2, 3] rfl ?_
    refine V_ws [(h0, oC 13 [.ref h1, .ref h2, .int p2, .ref h3, .ref h4, .int (nI k5), .int (nI k6), .int p7, .int p8, .int p9, .int (nI k10), .int p11, .long q12, .ref h5, .ref h6, .int (nI k15), .int (nI k16)]), (h1, aI Y 3640 f0), (h2, aZ Y 2 f1), (h3, aZ Y 80 f3), (h4, aB Y 1600 f4), (h5, aI Y 200 f13), (h6, aI Y 800 f14)] rfl ?_
    have x3 := hI2
    refine V_iload_n 2 B dX12_visibleWith_2 0 rfl ?_
    refine V_aload_n 3 B dX12_visibleWith_3 1 rfl ?_
    refine V_get 4 B gf_RX12_9 0 rfl rfl dX12_visibleWith_4 ?_
    refine V_iconst 7 B (v := 3) dX12_visibleWith_7 (by decide +kernel) ?_
    have x4 : (gN f0 3) ≤ 80 := gN_le HI (by omega) (show bd 3 = (0, ((80 : Nat) : Int)) by decide +kernel)
    refine V_iald 8 B (v := (nI (gN f0 3))) 1 rfl (vpin _ _ (by decide +kernel)) dX12_visibleWith_8 (by show f0 3 = _; exact gN_eq HI (by omega) (show bd 3 = (0, ((80 : Nat) : Int)) by decide +kernel)) ?_
    refine V_icmp_ge 9 B 41 dX12_visibleWith_9 (by decide) (fun kk5 => ?_) (fun kk5 => ?_)
    ·
      have x6 := n_le (a := (gN f0 3)) (b := (a0.1 0)) kk5 (by omega) (by omega)
      refine V_iconst 41 B (v := (-1)) dX12_visibleWith_41 (by decide +kernel) ?_
      exact V_iret 42 B dX12_visibleWith_42 (mkW [] [] [] [] [] []) (Or.inl rfl) rfl
    ·
      have x7 := n_nle (a := (gN f0 3)) (b := (a0.1 0)) kk5 (by omega) (by omega)
      refine V_aload_n 12 B dX12_visibleWith_12 1 rfl ?_
      refine V_iload_n 13 B dX12_visibleWith_13 3 rfl ?_
      refine V_iload_n 14 B dX12_visibleWith_14 0 rfl ?_
      refine V_csi 15 B (st := [.int (nI s1), .ref h0]) (As := [.int (nI (a0.1 0))]) (fun sz => rX12_sequenceOf l D Y (a0.1 0) (by omega) sz) glS_RX12_85 ⟨rfl, rfl⟩ ⟨(Nat.le_of_ble_eq_true rfl), (Nat.le_of_ble_eq_true rfl)⟩ ⟨(Nat.le_of_ble_eq_true rfl), (Nat.le_of_ble_eq_true rfl)⟩ [] rfl rfl (Nat.le_of_ble_eq_true rfl) rfl (fun _ _ _ => rfl) dX12_visibleWith_15 (fun j8 u9 w10 => ?_)
      refine V_ws [(h0, oC 13 [.ref h1, .ref h2, .int p2, .ref h3, .ref h4, .int (nI k5), .int (nI k6), .int p7, .int p8, .int p9, .int (nI k10), .int p11, .long q12, .ref h5, .ref h6, .int (nI k15), .int (nI k16)]), (h1, aI Y 3640 f0), (h2, aZ Y 2 f1), (h3, aZ Y 80 f3), (h4, aB Y 1600 f4), (h5, aI Y 200 f13), (h6, aI Y 800 f14)] rfl ?_
      have x11 := w10
      clear w10
      obtain rfl := x11
      refine V_cvi 18 B (st := []) (As := [.int (nI s1), .int (nI (186 + 7 * (a0.1 0)))]) (fun sz => rX12_areEqual l D Y h0 h1 h2 h3 h4 h5 h6 p2 k5 k6 p7 p8 p9 k10 p11 q12 k15 k16 f0 f1 f3 f4 f13 f14 HI (by omega) HP s1 (186 + 7 * (a0.1 0)) hs1 (rl12 (a0.1 0) (by omega)) sz) glV_RX12_148 ⟨rfl, rfl⟩ ⟨(Nat.le_of_ble_eq_true rfl), (Nat.le_of_ble_eq_true rfl)⟩ ⟨(Nat.le_of_ble_eq_true rfl), (Nat.le_of_ble_eq_true rfl)⟩ [0, 0, 0, 0, 0, 0, 0] rfl 13 0 rfl rfl rfl rfl (Nat.le_of_ble_eq_true rfl) rfl (fun _ _ _ => rfl) dX12_visibleWith_18 (fun j12 u13 w14 => ?_)
      refine V_ws [(h0, oC 13 [.ref h1, .ref h2, .int p2, .ref h3, .ref h4, .int (nI k5), .int (nI k6), .int p7, .int p8, .int p9, .int (nI k10), .int p11, .long q12, .ref h5, .ref h6, .int (nI k15), .int (nI k16)]), (h1, aI Y 3640 f0), (h2, aZ Y 2 f1), (h3, aZ Y 80 f3), (h4, aB Y 1600 f4), (h5, aI Y 200 f13), (h6, aI Y 800 f14)] rfl ?_
      have x15 := w14
      clear w14
      rcases x15 with rfl | rfl
      ·
        refine V_if_eq_t 21 B 35 dX12_visibleWith_21 (by decide) (by decide +kernel) ?_
        refine V_iinc 35 B (v := (nI (1 + (a0.1 0)))) (lv2 := [(3, .int (nI (1 + (a0.1 0)))), (0, .ref h0), (1, .int s0), (2, .int (nI s1))]) dX12_visibleWith_35 0 rfl (nI_addE (a := (a0.1 0)) (b := 1) (by omega)) (by decide) rfl ?_
        refine V_goto 38 B 2 dX12_visibleWith_38 (by decide) ?_
        refine V_lv [(3, .int (nI (1 + (a0.1 0)))), (0, .ref h0), (1, .int s0), (2, .int (nI s1))] [0, 1, 2, 3] rfl ?_
        exact IH1 (mkW [1 + (a0.1 0)] [] [] [] [] []) (show 1 + (a0.1 0) ≤ 4000 by omega) (by show 100000 - (1 + (a0.1 0)) < 100000 - (a0.1 0); omega)
      ·
        refine V_if_eq_f 21 B 35 dX12_visibleWith_21 (by decide) (by decide +kernel) ?_
        refine V_aload_n 24 B dX12_visibleWith_24 1 rfl ?_
        refine V_iload_n 25 B dX12_visibleWith_25 2 rfl ?_
        refine V_iload_n 26 B dX12_visibleWith_26 0 rfl ?_
        refine V_cvi 27 B (st := []) (As := [.int s0, .int (nI (a0.1 0))]) (fun sz => rX12_isVisible l D Y h0 h1 h2 h3 h4 h5 h6 p2 k5 k6 p7 p8 p9 k10 p11 q12 k15 k16 f0 f1 f3 f4 f13 f14 HI (by omega) HP s0 (a0.1 0) (by omega) (by omega) sz) glV_RX12_154 ⟨rfl, rfl⟩ ⟨(Nat.le_of_ble_eq_true rfl), (Nat.le_of_ble_eq_true rfl)⟩ ⟨(Nat.le_of_ble_eq_true rfl), (Nat.le_of_ble_eq_true rfl)⟩ [0, 0, 0, 0, 0, 0, 0] rfl 13 0 rfl rfl rfl rfl (Nat.le_of_ble_eq_true rfl) rfl (fun _ _ _ => rfl) dX12_visibleWith_27 (fun j16 u17 w18 => ?_)
        refine V_ws [(h0, oC 13 [.ref h1, .ref h2, .int p2, .ref h3, .ref h4, .int (nI k5), .int (nI k6), .int p7, .int p8, .int p9, .int (nI k10), .int p11, .long q12, .ref h5, .ref h6, .int (nI k15), .int (nI k16)]), (h1, aI Y 3640 f0), (h2, aZ Y 2 f1), (h3, aZ Y 80 f3), (h4, aB Y 1600 f4), (h5, aI Y 200 f13), (h6, aI Y 800 f14)] rfl ?_
        have x19 := w18
        clear w18
        rcases x19 with ⟨rfl, x20⟩ | ⟨rfl, x20⟩
        ·
          refine V_if_eq_t 30 B 35 dX12_visibleWith_30 (by decide) (by decide +kernel) ?_
          refine V_iinc 35 B (v := (nI (1 + (a0.1 0)))) (lv2 := [(3, .int (nI (1 + (a0.1 0)))), (0, .ref h0), (1, .int s0), (2, .int (nI s1))]) dX12_visibleWith_35 0 rfl (nI_addE (a := (a0.1 0)) (b := 1) (by omega)) (by decide) rfl ?_
          refine V_goto 38 B 2 dX12_visibleWith_38 (by decide) ?_
          refine V_lv [(3, .int (nI (1 + (a0.1 0)))), (0, .ref h0), (1, .int s0), (2, .int (nI s1))] [0, 1, 2, 3] rfl ?_
          exact IH1 (mkW [1 + (a0.1 0)] [] [] [] [] []) (show 1 + (a0.1 0) ≤ 4000 by omega) (by show 100000 - (1 + (a0.1 0)) < 100000 - (a0.1 0); omega)
        ·
          refine V_if_eq_f 30 B 35 dX12_visibleWith_30 (by decide) (by decide +kernel) ?_
          refine V_iload_n 33 B dX12_visibleWith_33 0 rfl ?_
          exact V_iret 34 B dX12_visibleWith_34 (mkW [] [] [] [] [] []) (Or.inr ⟨(a0.1 0), rfl, by omega⟩) rfl)
theorem glV_RX12_157 : GLV RX12 157 yX12_visibleWith RX12 cX12_visibleWith 4 (some .int) 2 := ⟨⟨(mT8 172 rfl rfl), (mT8 174 rfl rfl), (mTs 53 rfl rfl), (mT1 13 rfl rfl), (mT8 175 rfl rfl)⟩, by decide +kernel⟩
theorem dX12_makes_118 : decode cX12_makes 118 = .ok (.istore_n 3, 1) := by decide +kernel
theorem dX12_makes_119 : decode cX12_makes 119 = .ok (.iload_n 3, 1) := by decide +kernel
theorem dX12_makes_120 : decode cX12_makes 120 = .ok (.iconst (-1), 1) := by decide +kernel
theorem dX12_makes_121 : decode cX12_makes 121 = .ok (.if_icmp .eq 27, 3) := by decide +kernel
theorem dX12_makes_148 : decode cX12_makes 148 = .ok (.aload_n 0, 1) := by decide +kernel
theorem dX12_makes_149 : decode cX12_makes 149 = .ok (.aload_n 0, 1) := by decide +kernel
theorem dX12_makes_150 : decode cX12_makes 150 = .ok (.getfield 9, 3) := by decide +kernel
theorem dX12_makes_153 : decode cX12_makes 153 = .ok (.bipush 6, 2) := by decide +kernel
theorem dX12_makes_155 : decode cX12_makes 155 = .ok (.iaload, 1) := by decide +kernel
theorem dX12_makes_156 : decode cX12_makes 156 = .ok (.sipush 3629, 3) := by decide +kernel
theorem dX12_makes_159 : decode cX12_makes 159 = .ok (.invokevirtual 160, 3) := by decide +kernel
theorem dX12_continued_0 : decode cX12_continued 0 = .ok (.iconst 0, 1) := by decide +kernel
theorem dX12_continued_1 : decode cX12_continued 1 = .ok (.istore_n 3, 1) := by decide +kernel
theorem dX12_continued_2 : decode cX12_continued 2 = .ok (.iconst 0, 1) := by decide +kernel
theorem dX12_continued_3 : decode cX12_continued 3 = .ok (.istore 4, 2) := by decide +kernel
theorem dX12_continued_5 : decode cX12_continued 5 = .ok (.iload 4, 2) := by decide +kernel
theorem dX12_continued_7 : decode cX12_continued 7 = .ok (.aload_n 0, 1) := by decide +kernel
theorem dX12_continued_8 : decode cX12_continued 8 = .ok (.getfield 9, 3) := by decide +kernel
theorem dX12_continued_11 : decode cX12_continued 11 = .ok (.iconst 3, 1) := by decide +kernel
theorem dX12_continued_12 : decode cX12_continued 12 = .ok (.iaload, 1) := by decide +kernel
theorem dX12_continued_13 : decode cX12_continued 13 = .ok (.if_icmp .ge 40, 3) := by decide +kernel
theorem dX12_continued_53 : decode cX12_continued 53 = .ok (.iload_n 3, 1) := by decide +kernel
theorem dX12_continued_54 : decode cX12_continued 54 = .ok (.ireturn, 1) := by decide +kernel
theorem dX12_continued_16 : decode cX12_continued 16 = .ok (.iload_n 3, 1) := by decide +kernel
theorem dX12_continued_17 : decode cX12_continued 17 = .ok (.aload_n 0, 1) := by decide +kernel
theorem dX12_continued_18 : decode cX12_continued 18 = .ok (.iload_n 2, 1) := by decide +kernel
theorem dX12_continued_19 : decode cX12_continued 19 = .ok (.iload 4, 2) := by decide +kernel
theorem dX12_continued_21 : decode cX12_continued 21 = .ok (.invokestatic 85, 3) := by decide +kernel
theorem dX12_continued_24 : decode cX12_continued 24 = .ok (.invokevirtual 151, 3) := by decide +kernel
theorem dX12_isProperPrefix_0 : decode cX12_isProperPrefix 0 = .ok (.aload_n 0, 1) := by decide +kernel
theorem dX12_isProperPrefix_1 : decode cX12_isProperPrefix 1 = .ok (.getfield 9, 3) := by decide +kernel
theorem dX12_isProperPrefix_4 : decode cX12_isProperPrefix 4 = .ok (.iload_n 1, 1) := by decide +kernel
