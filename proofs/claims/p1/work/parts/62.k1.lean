set_option maxRecDepth 100000 in
set_option maxHeartbeats 4000000 in
theorem mX10_cheaperPair_a_13 (l : Launch) (D : va_G) (Y : Nat → ClassId) (h0 : Nat) (g0 : Nat) (g1 : Nat) (g2 : Nat) (h1 : Nat) (g3 : Nat) (g4 : Nat) (p0 : Int64) (hl2 : ∀ c, c < 5 → ∀ d, d < 26 → lenF (extF p0 (sa0F (oneF (nI c) (nI d)))) = 2) (hc2 : ∀ c, c < 5 → ∀ d, d < 26 → (2 : Int) ≤ (cost2F (extF p0 (sa0F (oneF (nI c) (nI d))))).toInt) (sz : Nat) : Met l yX10_cheaperPair (WSm yX10_cheaperPair cX10_cheaperPair 12 (some .long)) (mkR 4 0 0 89) (PreX D Y [.ref h0, .long p0, .long 134479872] [(h0, oC 11 [.ref g0, .ref g1, .ref g2, .ref h1, .ref g3]), (h1, oC 7 [.ref g4, .int 0])] sz) (QJ D (fun (r : Int64) (u : Unit) => 134479872 = r) (fun (_ : Unit) => [(h0, oC 11 [.ref g0, .ref g1, .ref g2, .ref h1, .ref g3]), (h1, oC 7 [.ref g4, .int 0])]) (va_A [(h0, oC 11 [.ref g0, .ref g1, .ref g2, .ref h1, .ref g3]), (h1, oC 7 [.ref g4, .int 0])] sz)) 0 0 (va_A [(h0, oC 11 [.ref g0, .ref g1, .ref g2, .ref h1, .ref g3]), (h1, oC 7 [.ref g4, .int 0])] sz) :=
  kmet_of (by decide +kernel) (Nat.le_of_ble_eq_true rfl) (fun p e s m args below meth c B EB hsz => by
    have B : VB p s m args meth c D Y (va_A [(h0, oC 11 [.ref g0, .ref g1, .ref g2, .ref h1, .ref g3]), (h1, oC 7 [.ref g4, .int 0])] sz) cX10_cheaperPair 12 RX10 (some .long) := B
    refine V_lload_n 0 B dX10_cheaperPair_0 2 rfl ?_
    refine V_lstore 1 B (lv2 := [(5, .long 134479872), (0, .ref h0), (1, .long p0), (3, .long 134479872)]) dX10_cheaperPair_1 (by decide) rfl ?_
    refine V_iconst 3 B (v := 0) dX10_cheaperPair_3 (by decide +kernel) ?_
    refine V_istore 4 B (lv2 := [(7, .int 0), (5, .long 134479872), (0, .ref h0), (1, .long p0), (3, .long 134479872)]) dX10_cheaperPair_4 (by decide) rfl ?_
    refine V_loop (α := Unit) 5 (fun _ _ => True) (fun iC _ => [(7, .int (nI iC)), (5, .long 134479872), (0, .ref h0), (1, .long p0), (3, .long 134479872)]) (fun _ _ => [(h0, oC 11 [.ref g0, .ref g1, .ref g2, .ref h1, .ref g3]), (h1, oC 7 [.ref g4, .int 0])]) () trivial rfl rfl (fun iC _ hiC _ IHC => ?_) (fun _ _ => ?_)
    ·
      refine V_lv [(7, .int (nI iC)), (5, .long 134479872), (0, .ref h0), (1, .long p0), (3, .long 134479872)] [0, 1, 2, 3, 4] rfl ?_
      refine V_ws [(h0, oC 11 [.ref g0, .ref g1, .ref g2, .ref h1, .ref g3]), (h1, oC 7 [.ref g4, .int 0])] rfl ?_
      refine V_iload 6 B dX10_cheaperPair_6 0 rfl ?_
      refine V_iconst 8 B (v := 4) dX10_cheaperPair_8 (by decide +kernel) ?_
      refine V_icmp_gt_f 9 B 81 dX10_cheaperPair_9 (by decide) (q_ngt (nI_hi hiC (by decide) (k := 4) (by decide +kernel)) (by decide +kernel)) ?_
      refine V_iconst 12 B (v := 0) dX10_cheaperPair_12 (by decide +kernel) ?_
      refine V_istore 13 B (lv2 := [(8, .int 0), (7, .int (nI iC)), (5, .long 134479872), (0, .ref h0), (1, .long p0), (3, .long 134479872)]) dX10_cheaperPair_13 (by decide) rfl ?_
      refine V_loop (α := Unit) 26 (fun _ _ => True) (fun iD _ => [(8, .int (nI iD)), (7, .int (nI iC)), (5, .long 134479872), (0, .ref h0), (1, .long p0), (3, .long 134479872)]) (fun _ _ => [(h0, oC 11 [.ref g0, .ref g1, .ref g2, .ref h1, .ref g3]), (h1, oC 7 [.ref g4, .int 0])]) () trivial rfl rfl (fun iD _ hiD _ IHD => ?_) (fun _ _ => ?_)
      ·
        refine V_lv [(8, .int (nI iD)), (7, .int (nI iC)), (5, .long 134479872), (0, .ref h0), (1, .long p0), (3, .long 134479872)] [0, 1, 2, 3, 4, 5] rfl ?_
        refine V_ws [(h0, oC 11 [.ref g0, .ref g1, .ref g2, .ref h1, .ref g3]), (h1, oC 7 [.ref g4, .int 0])] rfl ?_
        refine V_iload 15 B dX10_cheaperPair_15 0 rfl ?_
        refine V_bipush 17 B (v := 26) dX10_cheaperPair_17 (by decide +kernel) ?_
        refine V_icmp_ge_f 19 B 75 dX10_cheaperPair_19 (by decide) (q_nge (nI_hi hiD (by decide) (k := 25) (by decide +kernel)) (by decide +kernel)) ?_
        refine V_iload 22 B dX10_cheaperPair_22 1 rfl ?_
        refine V_iload 24 B dX10_cheaperPair_24 0 rfl ?_
        refine V_csl 26 B (st := []) (As := [.int (nI iC), .int (nI iD)]) (fun sz => mX10_oneStroke_oneF l D Y ((nI iC)) ((nI iD)) sz) glS_RX10_119 ⟨rfl, rfl⟩ ⟨(Nat.le_of_ble_eq_true rfl), (Nat.le_of_ble_eq_true rfl)⟩ ⟨(Nat.le_of_ble_eq_true rfl), (Nat.le_of_ble_eq_true rfl)⟩ [] rfl rfl (Nat.le_of_ble_eq_true rfl) rfl (fun _ _ _ => rfl) dX10_cheaperPair_26 (fun r0 u0 w0 => ?_)
        obtain rfl := w0
        refine V_ws [(h0, oC 11 [.ref g0, .ref g1, .ref g2, .ref h1, .ref g3]), (h1, oC 7 [.ref g4, .int 0])] rfl ?_
        refine V_iconst 29 B (v := 0) dX10_cheaperPair_29 (by decide +kernel) ?_
        refine V_csi 30 B (st := []) (As := [.long (oneF (nI iC) (nI iD)), .int 0]) (fun sz => mX6_strokeAt_sa0F l D Y ((oneF (nI iC) (nI iD))) sz) glS_RX10_136 ⟨rfl, rfl⟩ ⟨(Nat.le_of_ble_eq_true rfl), (Nat.le_of_ble_eq_true rfl)⟩ ⟨(Nat.le_of_ble_eq_true rfl), (Nat.le_of_ble_eq_true rfl)⟩ [] rfl rfl (Nat.le_of_ble_eq_true rfl) rfl (fun _ _ _ => rfl) dX10_cheaperPair_30 (fun r1 u1 w1 => ?_)
        obtain rfl := w1
        refine V_ws [(h0, oC 11 [.ref g0, .ref g1, .ref g2, .ref h1, .ref g3]), (h1, oC 7 [.ref g4, .int 0])] rfl ?_
        refine V_istore 33 B (lv2 := [(9, .int (sa0F (oneF (nI iC) (nI iD)))), (8, .int (nI iD)), (7, .int (nI iC)), (5, .long 134479872), (0, .ref h0), (1, .long p0), (3, .long 134479872)]) dX10_cheaperPair_33 (by decide) rfl ?_
        refine V_lload_n 35 B dX10_cheaperPair_35 5 rfl ?_
        refine V_iload 36 B dX10_cheaperPair_36 0 rfl ?_
        refine V_csl 38 B (st := []) (As := [.long p0, .int (sa0F (oneF (nI iC) (nI iD)))]) (fun sz => mX6_extended_extF l D Y (p0) ((sa0F (oneF (nI iC) (nI iD)))) sz) glS_RX10_115 ⟨rfl, rfl⟩ ⟨(Nat.le_of_ble_eq_true rfl), (Nat.le_of_ble_eq_true rfl)⟩ ⟨(Nat.le_of_ble_eq_true rfl), (Nat.le_of_ble_eq_true rfl)⟩ [] rfl rfl (Nat.le_of_ble_eq_true rfl) rfl (fun _ _ _ => rfl) dX10_cheaperPair_38 (fun r2 u2 w2 => ?_)
        obtain rfl := w2
        refine V_ws [(h0, oC 11 [.ref g0, .ref g1, .ref g2, .ref h1, .ref g3]), (h1, oC 7 [.ref g4, .int 0])] rfl ?_
        refine V_lstore 41 B (lv2 := [(10, .long (extF p0 (sa0F (oneF (nI iC) (nI iD))))), (9, .int (sa0F (oneF (nI iC) (nI iD)))), (8, .int (nI iD)), (7, .int (nI iC)), (5, .long 134479872), (0, .ref h0), (1, .long p0), (3, .long 134479872)]) dX10_cheaperPair_41 (by decide) rfl ?_
        refine V_lload 43 B dX10_cheaperPair_43 0 rfl ?_
        refine V_lload 45 B dX10_cheaperPair_45 4 rfl ?_
        refine V_ksi 47 B EB (st := []) (As := [.long (extF p0 (sa0F (oneF (nI iC) (nI iD)))), .long 134479872]) (fun sz => mX10_isCheaper_2_134479872c l D Y ((extF p0 (sa0F (oneF (nI iC) (nI iD))))) ((hl2 iC hiC iD hiD)) ((hc2 iC hiC iD hiD)) sz) glS_RX10_126 ⟨rfl, rfl⟩ ⟨(Nat.le_of_ble_eq_true rfl), (Nat.le_of_ble_eq_true rfl)⟩ ⟨(Nat.le_of_ble_eq_true rfl), (Nat.le_of_ble_eq_true rfl)⟩ [] rfl rfl (Nat.le_of_ble_eq_true rfl) rfl (fun _ _ _ => rfl) dX10_cheaperPair_47 (fun r3 u3 w3 => ?_)
        obtain rfl := w3
        refine V_ws [(h0, oC 11 [.ref g0, .ref g1, .ref g2, .ref h1, .ref g3]), (h1, oC 7 [.ref g4, .int 0])] rfl ?_
        refine V_if_eq_t 50 B 69 dX10_cheaperPair_50 (by decide) (by decide +kernel) ?_
        refine V_iinc 69 B (v := (nI (iD + 1))) (lv2 := [(8, .int (nI (iD + 1))), (10, .long (extF p0 (sa0F (oneF (nI iC) (nI iD))))), (9, .int (sa0F (oneF (nI iC) (nI iD)))), (7, .int (nI iC)), (5, .long 134479872), (0, .ref h0), (1, .long p0), (3, .long 134479872)]) dX10_cheaperPair_69 2 rfl (nI_1 _) (by decide) rfl ?_
        refine V_goto 72 B 15 dX10_cheaperPair_72 (by decide) ?_
        refine V_lv [(8, .int (nI (iD + 1))), (7, .int (nI iC)), (5, .long 134479872), (0, .ref h0), (1, .long p0), (3, .long 134479872)] [0, 3, 4, 5, 6, 7] rfl ?_
        exact IHD () trivial
      ·
        refine V_lv [(8, .int 26), (7, .int (nI iC)), (5, .long 134479872), (0, .ref h0), (1, .long p0), (3, .long 134479872)] [0, 1, 2, 3, 4, 5] rfl ?_
        refine V_ws [(h0, oC 11 [.ref g0, .ref g1, .ref g2, .ref h1, .ref g3]), (h1, oC 7 [.ref g4, .int 0])] rfl ?_
        refine V_iload 15 B dX10_cheaperPair_15 0 rfl ?_
        refine V_bipush 17 B (v := 26) dX10_cheaperPair_17 (by decide +kernel) ?_
        refine V_icmp_ge_t 19 B 75 dX10_cheaperPair_19 (by decide) (by decide +kernel) ?_
        refine V_iinc 75 B (v := (nI (iC + 1))) (lv2 := [(7, .int (nI (iC + 1))), (8, .int 26), (5, .long 134479872), (0, .ref h0), (1, .long p0), (3, .long 134479872)]) dX10_cheaperPair_75 1 rfl (nI_1 _) (by decide) rfl ?_
        refine V_goto 78 B 6 dX10_cheaperPair_78 (by decide) ?_
        refine V_lv [(7, .int (nI (iC + 1))), (5, .long 134479872), (0, .ref h0), (1, .long p0), (3, .long 134479872)] [0, 2, 3, 4, 5] rfl ?_
        exact IHC () trivial
    ·
      refine V_lv [(7, .int 5), (5, .long 134479872), (0, .ref h0), (1, .long p0), (3, .long 134479872)] [0, 1, 2, 3, 4] rfl ?_
      refine V_ws [(h0, oC 11 [.ref g0, .ref g1, .ref g2, .ref h1, .ref g3]), (h1, oC 7 [.ref g4, .int 0])] rfl ?_
      refine V_iload 6 B dX10_cheaperPair_6 0 rfl ?_
      refine V_iconst 8 B (v := 4) dX10_cheaperPair_8 (by decide +kernel) ?_
      refine V_icmp_gt_t 9 B 81 dX10_cheaperPair_9 (by decide) (by decide +kernel) ?_
      refine V_lload 81 B dX10_cheaperPair_81 1 rfl ?_
      exact V_lret 83 B dX10_cheaperPair_83 () rfl rfl)
theorem dX10_cheapestPair_0 : decode cX10_cheapestPair 0 = .ok (.lconst 0, 1) := by decide +kernel
theorem dX10_cheapestPair_1 : decode cX10_cheapestPair 1 = .ok (.lstore_n 1, 1) := by decide +kernel
theorem dX10_cheapestPair_2 : decode cX10_cheapestPair 2 = .ok (.iconst 0, 1) := by decide +kernel
theorem dX10_cheapestPair_3 : decode cX10_cheapestPair 3 = .ok (.istore_n 3, 1) := by decide +kernel
theorem dX10_cheapestPair_4 : decode cX10_cheapestPair 4 = .ok (.iload_n 3, 1) := by decide +kernel
theorem dX10_cheapestPair_5 : decode cX10_cheapestPair 5 = .ok (.iconst 4, 1) := by decide +kernel
theorem dX10_cheapestPair_6 : decode cX10_cheapestPair 6 = .ok (.if_icmp .gt 62, 3) := by decide +kernel
theorem dX10_cheapestPair_9 : decode cX10_cheapestPair 9 = .ok (.iconst 0, 1) := by decide +kernel
theorem dX10_cheapestPair_10 : decode cX10_cheapestPair 10 = .ok (.istore 4, 2) := by decide +kernel
theorem dX10_cheapestPair_12 : decode cX10_cheapestPair 12 = .ok (.iload 4, 2) := by decide +kernel
theorem dX10_cheapestPair_14 : decode cX10_cheapestPair 14 = .ok (.bipush 26, 2) := by decide +kernel
theorem dX10_cheapestPair_16 : decode cX10_cheapestPair 16 = .ok (.if_icmp .ge 46, 3) := by decide +kernel
theorem dX10_cheapestPair_19 : decode cX10_cheapestPair 19 = .ok (.iload_n 3, 1) := by decide +kernel
theorem dX10_cheapestPair_20 : decode cX10_cheapestPair 20 = .ok (.iload 4, 2) := by decide +kernel
theorem dX10_cheapestPair_22 : decode cX10_cheapestPair 22 = .ok (.invokestatic 119, 3) := by decide +kernel
theorem dX10_cheapestPair_25 : decode cX10_cheapestPair 25 = .ok (.lstore 5, 2) := by decide +kernel
theorem dX10_cheapestPair_27 : decode cX10_cheapestPair 27 = .ok (.lload 5, 2) := by decide +kernel
theorem dX10_cheapestPair_29 : decode cX10_cheapestPair 29 = .ok (.lload_n 1, 1) := by decide +kernel
theorem dX10_cheapestPair_30 : decode cX10_cheapestPair 30 = .ok (.invokestatic 126, 3) := by decide +kernel
theorem dX10_cheapestPair_33 : decode cX10_cheapestPair 33 = .ok (.ifCond .eq 23, 3) := by decide +kernel
theorem dX10_cheapestPair_36 : decode cX10_cheapestPair 36 = .ok (.aload_n 0, 1) := by decide +kernel
theorem dX10_cheapestPair_37 : decode cX10_cheapestPair 37 = .ok (.getfield 30, 3) := by decide +kernel
theorem dX10_cheapestPair_40 : decode cX10_cheapestPair 40 = .ok (.lload 5, 2) := by decide +kernel
theorem dX10_cheapestPair_42 : decode cX10_cheapestPair 42 = .ok (.invokevirtual 129, 3) := by decide +kernel
theorem glV_RX10_129 : GLV RX10 129 yX5_contains RX5 cX5_contains 4 (some .boolean) 1 := ⟨⟨(mT6 188 rfl rfl), (mT6 189 rfl rfl), (mT6 190 rfl rfl), (mT1 5 rfl rfl), (mT6 191 rfl rfl)⟩, by decide +kernel⟩
theorem dX10_cheapestPair_45 : decode cX10_cheapestPair 45 = .ok (.ifCond .ne 11, 3) := by decide +kernel
theorem dX10_cheapestPair_48 : decode cX10_cheapestPair 48 = .ok (.aload_n 0, 1) := by decide +kernel
theorem dX10_cheapestPair_49 : decode cX10_cheapestPair 49 = .ok (.lload 5, 2) := by decide +kernel
theorem dX10_cheapestPair_51 : decode cX10_cheapestPair 51 = .ok (.lload_n 1, 1) := by decide +kernel
theorem dX10_cheapestPair_52 : decode cX10_cheapestPair 52 = .ok (.invokevirtual 132, 3) := by decide +kernel
theorem glV_RX10_132 : GLV RX10 132 yX10_cheaperPair RX10 cX10_cheaperPair 12 (some .long) 2 := ⟨⟨(mT6 192 rfl rfl), (mT6 194 rfl rfl), (mTs 23 rfl rfl), (mT1 8 rfl rfl), (mT6 195 rfl rfl)⟩, by decide +kernel⟩
theorem dX10_cheapestPair_55 : decode cX10_cheapestPair 55 = .ok (.lstore_n 1, 1) := by decide +kernel
theorem dX10_cheapestPair_56 : decode cX10_cheapestPair 56 = .ok (.iinc 4 1, 3) := by decide +kernel
theorem dX10_cheapestPair_59 : decode cX10_cheapestPair 59 = .ok (.goto (-47), 3) := by decide +kernel
theorem dX10_cheapestPair_62 : decode cX10_cheapestPair 62 = .ok (.iinc 3 1, 3) := by decide +kernel
theorem dX10_cheapestPair_65 : decode cX10_cheapestPair 65 = .ok (.goto (-61), 3) := by decide +kernel
theorem dX10_cheapestPair_68 : decode cX10_cheapestPair 68 = .ok (.lload_n 1, 1) := by decide +kernel
theorem dX10_cheapestPair_69 : decode cX10_cheapestPair 69 = .ok (.lreturn, 1) := by decide +kernel
set_option maxRecDepth 100000 in
set_option maxHeartbeats 4000000 in
theorem mX10_cheapestPair_1 (l : Launch) (D : va_G) (Y : Nat → ClassId) (h0 : Nat) (g0 : Nat) (g1 : Nat) (g2 : Nat) (h1 : Nat) (g3 : Nat) (g4 : Nat) (sz : Nat) : Met l yX10_cheapestPair (WSm yX10_cheapestPair cX10_cheapestPair 7 (some .long)) (mkR 5 0 0 120) (PreX D Y [.ref h0] [(h0, oC 11 [.ref g0, .ref g1, .ref g2, .ref h1, .ref g3]), (h1, oC 7 [.ref g4, .int 0])] sz) (QJ D (fun (r : Int64) (u : Unit) => 134479872 = r) (fun (_ : Unit) => [(h0, oC 11 [.ref g0, .ref g1, .ref g2, .ref h1, .ref g3]), (h1, oC 7 [.ref g4, .int 0])]) (va_A [(h0, oC 11 [.ref g0, .ref g1, .ref g2, .ref h1, .ref g3]), (h1, oC 7 [.ref g4, .int 0])] sz)) 0 0 (va_A [(h0, oC 11 [.ref g0, .ref g1, .ref g2, .ref h1, .ref g3]), (h1, oC 7 [.ref g4, .int 0])] sz) :=
  kmet_of (by decide +kernel) (Nat.le_of_ble_eq_true rfl) (fun p e s m args below meth c B EB hsz => by
    have B : VB p s m args meth c D Y (va_A [(h0, oC 11 [.ref g0, .ref g1, .ref g2, .ref h1, .ref g3]), (h1, oC 7 [.ref g4, .int 0])] sz) cX10_cheapestPair 7 RX10 (some .long) := B
    refine V_lconst 0 B (v := 0) dX10_cheapestPair_0 (by decide +kernel) ?_
    refine V_lstore_n 1 B (lv2 := [(1, .long 0), (0, .ref h0)]) dX10_cheapestPair_1 (by decide) rfl ?_
    refine V_iconst 2 B (v := 0) dX10_cheapestPair_2 (by decide +kernel) ?_
    refine V_istore_n 3 B (lv2 := [(3, .int 0), (1, .long 0), (0, .ref h0)]) dX10_cheapestPair_3 (by decide) rfl ?_
    refine V_loop (α := Unit) 5 (fun _ _ => True) (fun iA _ => [(3, .int (nI iA)), (1, .long (bstP (26 * iA))), (0, .ref h0)]) (fun _ _ => [(h0, oC 11 [.ref g0, .ref g1, .ref g2, .ref h1, .ref g3]), (h1, oC 7 [.ref g4, .int 0])]) () trivial rfl rfl (fun iA _ hiA _ IHA => ?_) (fun _ _ => ?_)
    ·
      refine V_lv [(3, .int (nI iA)), (1, .long (bstP (26 * iA))), (0, .ref h0)] [0, 1, 2] rfl ?_
      refine V_ws [(h0, oC 11 [.ref g0, .ref g1, .ref g2, .ref h1, .ref g3]), (h1, oC 7 [.ref g4, .int 0])] rfl ?_
      refine V_iload_n 4 B dX10_cheapestPair_4 0 rfl ?_
      refine V_iconst 5 B (v := 4) dX10_cheapestPair_5 (by decide +kernel) ?_
      refine V_icmp_gt_f 6 B 68 dX10_cheapestPair_6 (by decide) (q_ngt (nI_hi hiA (by decide) (k := 4) (by decide +kernel)) (by decide +kernel)) ?_
      refine V_iconst 9 B (v := 0) dX10_cheapestPair_9 (by decide +kernel) ?_
      refine V_istore 10 B (lv2 := [(4, .int 0), (3, .int (nI iA)), (1, .long (bstP (26 * iA))), (0, .ref h0)]) dX10_cheapestPair_10 (by decide) rfl ?_
      refine V_loop (α := Unit) 26 (fun _ _ => True) (fun iB _ => [(4, .int (nI iB)), (3, .int (nI iA)), (1, .long (bstP (26 * iA + iB))), (0, .ref h0)]) (fun _ _ => [(h0, oC 11 [.ref g0, .ref g1, .ref g2, .ref h1, .ref g3]), (h1, oC 7 [.ref g4, .int 0])]) () trivial rfl rfl (fun iB _ hiB _ IHB => ?_) (fun _ _ => ?_)
      ·
        refine V_lv [(4, .int (nI iB)), (3, .int (nI iA)), (1, .long (bstP (26 * iA + iB))), (0, .ref h0)] [0, 1, 2, 3] rfl ?_
        refine V_ws [(h0, oC 11 [.ref g0, .ref g1, .ref g2, .ref h1, .ref g3]), (h1, oC 7 [.ref g4, .int 0])] rfl ?_
        refine V_iload 12 B dX10_cheapestPair_12 0 rfl ?_
        refine V_bipush 14 B (v := 26) dX10_cheapestPair_14 (by decide +kernel) ?_
        refine V_icmp_ge_f 16 B 62 dX10_cheapestPair_16 (by decide) (q_nge (nI_hi hiB (by decide) (k := 25) (by decide +kernel)) (by decide +kernel)) ?_
        by_cases k0 : 26 * iA + iB = 0
        ·
          obtain rfl : iA = 0 := by omega
          obtain rfl : iB = 0 := by omega
          refine V_lv [(4, .int 0), (3, .int 0), (1, .long 0), (0, .ref h0)] [0, 1, 2, 3] rfl ?_
          refine V_iload_n 19 B dX10_cheapestPair_19 1 rfl ?_
          refine V_iload 20 B dX10_cheapestPair_20 0 rfl ?_
          refine V_csl 22 B (st := []) (As := [.int 0, .int 0]) (fun sz => mX10_oneStroke_2 l D Y  sz) glS_RX10_119 ⟨rfl, rfl⟩ ⟨(Nat.le_of_ble_eq_true rfl), (Nat.le_of_ble_eq_true rfl)⟩ ⟨(Nat.le_of_ble_eq_true rfl), (Nat.le_of_ble_eq_true rfl)⟩ [] rfl rfl (Nat.le_of_ble_eq_true rfl) rfl (fun _ _ _ => rfl) dX10_cheapestPair_22 (fun r1 u1 w1 => ?_)
          obtain rfl := w1
          refine V_ws [(h0, oC 11 [.ref g0, .ref g1, .ref g2, .ref h1, .ref g3]), (h1, oC 7 [.ref g4, .int 0])] rfl ?_
          refine V_lstore 25 B (lv2 := [(5, .long 134217728), (4, .int 0), (3, .int 0), (1, .long 0), (0, .ref h0)]) dX10_cheapestPair_25 (by decide) rfl ?_
          refine V_lload 27 B dX10_cheapestPair_27 0 rfl ?_
          refine V_lload_n 29 B dX10_cheapestPair_29 3 rfl ?_
          refine V_ksi 30 B EB (st := []) (As := [.long 134217728, .long 0]) (fun sz => mX10_isCheaper_1 l D Y  sz) glS_RX10_126 ⟨rfl, rfl⟩ ⟨(Nat.le_of_ble_eq_true rfl), (Nat.le_of_ble_eq_true rfl)⟩ ⟨(Nat.le_of_ble_eq_true rfl), (Nat.le_of_ble_eq_true rfl)⟩ [] rfl rfl (Nat.le_of_ble_eq_true rfl) rfl (fun _ _ _ => rfl) dX10_cheapestPair_30 (fun r2 u2 w2 => ?_)
          obtain rfl := w2
          refine V_ws [(h0, oC 11 [.ref g0, .ref g1, .ref g2, .ref h1, .ref g3]), (h1, oC 7 [.ref g4, .int 0])] rfl ?_
          refine V_if_eq_f 33 B 56 dX10_cheapestPair_33 (by decide) (by decide +kernel) ?_
          refine V_aload_n 36 B dX10_cheapestPair_36 4 rfl ?_
          refine V_get 37 B gf_RX10_30 0 rfl rfl dX10_cheapestPair_37 ?_
          refine V_lload 40 B dX10_cheapestPair_40 0 rfl ?_
          refine V_cvi 42 B (st := []) (As := [.long 134217728]) (fun sz => mX5_contains_1 l D Y (h1) (g4) sz) glV_RX10_129 ⟨rfl, rfl⟩ ⟨(Nat.le_of_ble_eq_true rfl), (Nat.le_of_ble_eq_true rfl)⟩ ⟨(Nat.le_of_ble_eq_true rfl), (Nat.le_of_ble_eq_true rfl)⟩ [1] rfl 7 0 rfl rfl rfl rfl (Nat.le_of_ble_eq_true rfl) rfl (fun _ _ _ => rfl) dX10_cheapestPair_42 (fun r3 u3 w3 => ?_)
          obtain rfl := w3
          refine V_ws [(h0, oC 11 [.ref g0, .ref g1, .ref g2, .ref h1, .ref g3]), (h1, oC 7 [.ref g4, .int 0])] rfl ?_
          refine V_if_ne_f 45 B 56 dX10_cheapestPair_45 (by decide) (by decide +kernel) ?_
          refine V_aload_n 48 B dX10_cheapestPair_48 4 rfl ?_
          refine V_lload 49 B dX10_cheapestPair_49 0 rfl ?_
          refine V_lload_n 51 B dX10_cheapestPair_51 3 rfl ?_
          refine V_kvl 52 B EB (st := []) (As := [.long 134217728, .long 0]) (fun sz => mX10_cheaperPair_1 l D Y (h0) (g0) (g1) (g2) (h1) (g3) (g4) sz) glV_RX10_132 ⟨rfl, rfl⟩ ⟨(Nat.le_of_ble_eq_true rfl), (Nat.le_of_ble_eq_true rfl)⟩ ⟨(Nat.le_of_ble_eq_true rfl), (Nat.le_of_ble_eq_true rfl)⟩ [0, 0] rfl 11 0 rfl rfl rfl rfl (Nat.le_of_ble_eq_true rfl) rfl (fun _ _ _ => rfl) dX10_cheapestPair_52 (fun r4 u4 w4 => ?_)
          obtain rfl := w4
          refine V_ws [(h0, oC 11 [.ref g0, .ref g1, .ref g2, .ref h1, .ref g3]), (h1, oC 7 [.ref g4, .int 0])] rfl ?_
          refine V_lstore_n 55 B (lv2 := [(1, .long 134479872), (5, .long 134217728), (4, .int 0), (3, .int 0), (0, .ref h0)]) dX10_cheapestPair_55 (by decide) rfl ?_
          refine V_iinc 56 B (v := 1) (lv2 := [(4, .int 1), (1, .long 134479872), (5, .long 134217728), (3, .int 0), (0, .ref h0)]) dX10_cheapestPair_56 2 rfl (by decide +kernel) (by decide) rfl ?_
          refine V_goto 59 B 12 dX10_cheapestPair_59 (by decide) ?_
          refine V_lv [(4, .int (nI (0 + 1))), (3, .int (nI 0)), (1, .long (bstP (26 * 0 + (0 + 1)))), (0, .ref h0)] [0, 3, 1, 4] rfl ?_
          exact IHB () trivial
        ·
          refine V_lv [(4, .int (nI iB)), (3, .int (nI iA)), (1, .long 134479872), (0, .ref h0)] [0, 1, 2, 3] (by rw [show (bstP (26 * iA + iB)) = 134479872 from bstP_pos k0]; rfl) ?_
          refine V_iload_n 19 B dX10_cheapestPair_19 1 rfl ?_
          refine V_iload 20 B dX10_cheapestPair_20 0 rfl ?_
          refine V_csl 22 B (st := []) (As := [.int (nI iA), .int (nI iB)]) (fun sz => mX10_oneStroke_oneF l D Y ((nI iA)) ((nI iB)) sz) glS_RX10_119 ⟨rfl, rfl⟩ ⟨(Nat.le_of_ble_eq_true rfl), (Nat.le_of_ble_eq_true rfl)⟩ ⟨(Nat.le_of_ble_eq_true rfl), (Nat.le_of_ble_eq_true rfl)⟩ [] rfl rfl (Nat.le_of_ble_eq_true rfl) rfl (fun _ _ _ => rfl) dX10_cheapestPair_22 (fun r5 u5 w5 => ?_)
          obtain rfl := w5
          refine V_ws [(h0, oC 11 [.ref g0, .ref g1, .ref g2, .ref h1, .ref g3]), (h1, oC 7 [.ref g4, .int 0])] rfl ?_
          refine V_lstore 25 B (lv2 := [(5, .long (oneF (nI iA) (nI iB))), (4, .int (nI iB)), (3, .int (nI iA)), (1, .long 134479872), (0, .ref h0)]) dX10_cheapestPair_25 (by decide) rfl ?_
          refine V_lload 27 B dX10_cheapestPair_27 0 rfl ?_
          refine V_lload_n 29 B dX10_cheapestPair_29 3 rfl ?_
          refine V_ksi 30 B EB (st := []) (As := [.long (oneF (nI iA) (nI iB)), .long 134479872]) (fun sz => mX10_isCheaper_1_134479872 l D Y ((oneF (nI iA) (nI iB))) ((len1 hiA hiB)) sz) glS_RX10_126 ⟨rfl, rfl⟩ ⟨(Nat.le_of_ble_eq_true rfl), (Nat.le_of_ble_eq_true rfl)⟩ ⟨(Nat.le_of_ble_eq_true rfl), (Nat.le_of_ble_eq_true rfl)⟩ [] rfl rfl (Nat.le_of_ble_eq_true rfl) rfl (fun _ _ _ => rfl) dX10_cheapestPair_30 (fun r6 u6 w6 => ?_)
          rcases w6 with ⟨k7, rfl⟩ | ⟨k8, rfl⟩
          ·
            refine V_ws [(h0, oC 11 [.ref g0, .ref g1, .ref g2, .ref h1, .ref g3]), (h1, oC 7 [.ref g4, .int 0])] rfl ?_
            refine V_if_eq_t 33 B 56 dX10_cheapestPair_33 (by decide) (by decide +kernel) ?_
            refine V_iinc 56 B (v := (nI (iB + 1))) (lv2 := [(4, .int (nI (iB + 1))), (5, .long (oneF (nI iA) (nI iB))), (3, .int (nI iA)), (1, .long 134479872), (0, .ref h0)]) dX10_cheapestPair_56 1 rfl (nI_1 _) (by decide) rfl ?_
            refine V_goto 59 B 12 dX10_cheapestPair_59 (by decide) ?_
            refine V_lv [(4, .int (nI (iB + 1))), (3, .int (nI iA)), (1, .long (bstP (26 * iA + (iB + 1)))), (0, .ref h0)] [0, 2, 3, 4] rfl ?_
            exact IHB () trivial
          ·
            refine V_ws [(h0, oC 11 [.ref g0, .ref g1, .ref g2, .ref h1, .ref g3]), (h1, oC 7 [.ref g4, .int 0])] rfl ?_
            refine V_if_eq_f 33 B 56 dX10_cheapestPair_33 (by decide) (by decide +kernel) ?_
            refine V_aload_n 36 B dX10_cheapestPair_36 4 rfl ?_
            refine V_get 37 B gf_RX10_30 0 rfl rfl dX10_cheapestPair_37 ?_
            refine V_lload 40 B dX10_cheapestPair_40 0 rfl ?_
            refine V_cvi 42 B (st := []) (As := [.long (oneF (nI iA) (nI iB))]) (fun sz => mX5_contains_2 l D Y (h1) (g4) ((oneF (nI iA) (nI iB))) sz) glV_RX10_129 ⟨rfl, rfl⟩ ⟨(Nat.le_of_ble_eq_true rfl), (Nat.le_of_ble_eq_true rfl)⟩ ⟨(Nat.le_of_ble_eq_true rfl), (Nat.le_of_ble_eq_true rfl)⟩ [1] rfl 7 0 rfl rfl rfl rfl (Nat.le_of_ble_eq_true rfl) rfl (fun _ _ _ => rfl) dX10_cheapestPair_42 (fun r9 u9 w9 => ?_)
            obtain rfl := w9
            refine V_ws [(h0, oC 11 [.ref g0, .ref g1, .ref g2, .ref h1, .ref g3]), (h1, oC 7 [.ref g4, .int 0])] rfl ?_
            refine V_if_ne_f 45 B 56 dX10_cheapestPair_45 (by decide) (by decide +kernel) ?_
            refine V_aload_n 48 B dX10_cheapestPair_48 4 rfl ?_
            refine V_lload 49 B dX10_cheapestPair_49 0 rfl ?_
            refine V_lload_n 51 B dX10_cheapestPair_51 3 rfl ?_
            refine V_kvl 52 B EB (st := []) (As := [.long (oneF (nI iA) (nI iB)), .long 134479872]) (fun sz => mX10_cheaperPair_a_13 l D Y (h0) (g0) (g1) (g2) (h1) (g3) (g4) ((oneF (nI iA) (nI iB))) (fun c hc d hd => len2 hiA hiB hc hd) (fun c hc d hd => cost2 hiA hiB hc hd) sz) glV_RX10_132 ⟨rfl, rfl⟩ ⟨(Nat.le_of_ble_eq_true rfl), (Nat.le_of_ble_eq_true rfl)⟩ ⟨(Nat.le_of_ble_eq_true rfl), (Nat.le_of_ble_eq_true rfl)⟩ [0, 0] rfl 11 0 rfl rfl rfl rfl (Nat.le_of_ble_eq_true rfl) rfl (fun _ _ _ => rfl) dX10_cheapestPair_52 (fun r10 u10 w10 => ?_)
            obtain rfl := w10
            refine V_ws [(h0, oC 11 [.ref g0, .ref g1, .ref g2, .ref h1, .ref g3]), (h1, oC 7 [.ref g4, .int 0])] rfl ?_
            refine V_lstore_n 55 B (lv2 := [(1, .long 134479872), (5, .long (oneF (nI iA) (nI iB))), (4, .int (nI iB)), (3, .int (nI iA)), (0, .ref h0)]) dX10_cheapestPair_55 (by decide) rfl ?_
            refine V_iinc 56 B (v := (nI (iB + 1))) (lv2 := [(4, .int (nI (iB + 1))), (1, .long 134479872), (5, .long (oneF (nI iA) (nI iB))), (3, .int (nI iA)), (0, .ref h0)]) dX10_cheapestPair_56 2 rfl (nI_1 _) (by decide) rfl ?_
            refine V_goto 59 B 12 dX10_cheapestPair_59 (by decide) ?_
            refine V_lv [(4, .int (nI (iB + 1))), (3, .int (nI iA)), (1, .long (bstP (26 * iA + (iB + 1)))), (0, .ref h0)] [0, 3, 1, 4] rfl ?_
            exact IHB () trivial
      ·
        refine V_lv [(4, .int 26), (3, .int (nI iA)), (1, .long (bstP (26 * iA + 26))), (0, .ref h0)] [0, 1, 2, 3] rfl ?_
        refine V_ws [(h0, oC 11 [.ref g0, .ref g1, .ref g2, .ref h1, .ref g3]), (h1, oC 7 [.ref g4, .int 0])] rfl ?_
        refine V_iload 12 B dX10_cheapestPair_12 0 rfl ?_
        refine V_bipush 14 B (v := 26) dX10_cheapestPair_14 (by decide +kernel) ?_
        refine V_icmp_ge_t 16 B 62 dX10_cheapestPair_16 (by decide) (by decide +kernel) ?_
        refine V_iinc 62 B (v := (nI (iA + 1))) (lv2 := [(3, .int (nI (iA + 1))), (4, .int 26), (1, .long (bstP (26 * iA + 26))), (0, .ref h0)]) dX10_cheapestPair_62 1 rfl (nI_1 _) (by decide) rfl ?_
        refine V_goto 65 B 4 dX10_cheapestPair_65 (by decide) ?_
        refine V_lv [(3, .int (nI (iA + 1))), (1, .long (bstP (26 * (iA + 1)))), (0, .ref h0)] [0, 2, 3] rfl ?_
        exact IHA () trivial
    ·
      refine V_lv [(3, .int 5), (1, .long 134479872), (0, .ref h0)] [0, 1, 2] rfl ?_
      refine V_ws [(h0, oC 11 [.ref g0, .ref g1, .ref g2, .ref h1, .ref g3]), (h1, oC 7 [.ref g4, .int 0])] rfl ?_
      refine V_iload_n 4 B dX10_cheapestPair_4 0 rfl ?_
      refine V_iconst 5 B (v := 4) dX10_cheapestPair_5 (by decide +kernel) ?_
      refine V_icmp_gt_t 6 B 68 dX10_cheapestPair_6 (by decide) (by decide +kernel) ?_
      refine V_lload_n 68 B dX10_cheapestPair_68 1 rfl ?_
      exact V_lret 69 B dX10_cheapestPair_69 () rfl rfl)
set_option maxRecDepth 100000 in
set_option maxHeartbeats 4000000 in
theorem mX5_hasClash_3 (l : Launch) (D : va_G) (Y : Nat → ClassId) (h0 : Nat) (g0 : Nat) (sz : Nat) : Met l yX5_hasClash (WSm yX5_hasClash cX5_hasClash 4 (some .boolean)) (mkR 0 0 0 0) (PreC D Y [.ref h0, .long 134217728] [(h0, oC 7 [.ref g0, .int 0])] sz) (QI D (fun (r : Int32) (u : Unit) => 0 = r) (fun (_ : Unit) => [(h0, oC 7 [.ref g0, .int 0])]) (va_A [(h0, oC 7 [.ref g0, .int 0])] sz)) 0 0 (va_A [(h0, oC 7 [.ref g0, .int 0])] sz) :=
  met_of (by decide +kernel) (Nat.le_of_ble_eq_true rfl) (fun p e s m args below meth c B hin hsz => by
    have B : VB p s m args meth c D Y (va_A [(h0, oC 7 [.ref g0, .int 0])] sz) cX5_hasClash 4 RX5 (some .boolean) := B
    refine V_iconst 0 B (v := 0) dX5_hasClash_0 (by decide +kernel) ?_
    refine V_istore_n 1 B (lv2 := [(3, .int 0), (0, .ref h0), (1, .long 134217728)]) dX5_hasClash_1 (by decide) rfl ?_
    refine V_iload_n 2 B dX5_hasClash_2 0 rfl ?_
    refine V_aload_n 3 B dX5_hasClash_3 1 rfl ?_
    refine V_get 4 B gf_RX5_19 0 rfl rfl dX5_hasClash_4 ?_
    refine V_icmp_ge_t 7 B 40 dX5_hasClash_7 (by decide) (by decide +kernel) ?_
    refine V_iconst 40 B (v := 0) dX5_hasClash_40 (by decide +kernel) ?_
    exact V_zret 41 B rfl dX5_hasClash_41 () rfl rfl)
set_option maxRecDepth 100000 in
set_option maxHeartbeats 4000000 in
theorem mX6_costOf_3 (l : Launch) (D : va_G) (Y : Nat → ClassId)  (sz : Nat) : Met l yX6_costOf (WSm yX6_costOf cX6_costOf 5 (some .int)) (mkR 2 0 0 42) (PreX D Y [.long 134217728] [] sz) (QI D (fun (r : Int32) (u : Unit) => 1 = r) (fun (_ : Unit) => []) (va_A [] sz)) 0 0 (va_A [] sz) :=
  kmet_of (by decide +kernel) (Nat.le_of_ble_eq_true rfl) (fun p e s m args below meth c B EB hsz => by
    have B : VB p s m args meth c D Y (va_A [] sz) cX6_costOf 5 RX6 (some .int) := B
    refine V_iconst 0 B (v := 0) dX6_costOf_0 (by decide +kernel) ?_
    refine V_istore_n 1 B (lv2 := [(2, .int 0), (0, .long 134217728)]) dX6_costOf_1 (by decide) rfl ?_
    refine V_lload_n 2 B dX6_costOf_2 1 rfl ?_
    refine V_csi 3 B (st := []) (As := [.long 134217728]) (fun sz => mX6_lengthOf_2 l D Y  sz) glS_RX6_13 ⟨rfl, rfl⟩ ⟨(Nat.le_of_ble_eq_true rfl), (Nat.le_of_ble_eq_true rfl)⟩ ⟨(Nat.le_of_ble_eq_true rfl), (Nat.le_of_ble_eq_true rfl)⟩ [] rfl rfl (Nat.le_of_ble_eq_true rfl) rfl (fun _ _ _ => rfl) dX6_costOf_3 (fun r0 u0 w0 => ?_)
    obtain rfl := w0
    refine V_ws [] rfl ?_
    refine V_istore_n 6 B (lv2 := [(3, .int 1), (2, .int 0), (0, .long 134217728)]) dX6_costOf_6 (by decide) rfl ?_
    refine V_iconst 7 B (v := 0) dX6_costOf_7 (by decide +kernel) ?_
    refine V_istore 8 B (lv2 := [(4, .int 0), (3, .int 1), (2, .int 0), (0, .long 134217728)]) dX6_costOf_8 (by decide) rfl ?_
    refine V_iload 10 B dX6_costOf_10 0 rfl ?_
    refine V_iload_n 12 B dX6_costOf_12 1 rfl ?_
    refine V_icmp_ge_f 13 B 34 dX6_costOf_13 (by decide) (by decide +kernel) ?_
    refine V_iload_n 16 B dX6_costOf_16 2 rfl ?_
    refine V_lload_n 17 B dX6_costOf_17 3 rfl ?_
    refine V_iload 18 B dX6_costOf_18 0 rfl ?_
    refine V_csi 20 B (st := [.int 0]) (As := [.long 134217728, .int 0]) (fun sz => mX6_strokeAt_2 l D Y  sz) glS_RX6_27 ⟨rfl, rfl⟩ ⟨(Nat.le_of_ble_eq_true rfl), (Nat.le_of_ble_eq_true rfl)⟩ ⟨(Nat.le_of_ble_eq_true rfl), (Nat.le_of_ble_eq_true rfl)⟩ [] rfl rfl (Nat.le_of_ble_eq_true rfl) rfl (fun _ _ _ => rfl) dX6_costOf_20 (fun r1 u1 w1 => ?_)
    obtain rfl := w1
    refine V_ws [] rfl ?_
    refine V_ksi 23 B EB (st := [.int 0]) (As := [.int 0]) (fun sz => mX6_strokeCost_1 l D Y  sz) glS_RX6_31 ⟨rfl, rfl⟩ ⟨(Nat.le_of_ble_eq_true rfl), (Nat.le_of_ble_eq_true rfl)⟩ ⟨(Nat.le_of_ble_eq_true rfl), (Nat.le_of_ble_eq_true rfl)⟩ [] rfl rfl (Nat.le_of_ble_eq_true rfl) rfl (fun _ _ _ => rfl) dX6_costOf_23 (fun r2 u2 w2 => ?_)
    obtain rfl := w2
    refine V_ws [] rfl ?_
    refine V_iadd 26 B (v := 1) dX6_costOf_26 (by decide +kernel) ?_
    refine V_istore_n 27 B (lv2 := [(2, .int 1), (4, .int 0), (3, .int 1), (0, .long 134217728)]) dX6_costOf_27 (by decide) rfl ?_
    refine V_iinc 28 B (v := 1) (lv2 := [(4, .int 1), (2, .int 1), (3, .int 1), (0, .long 134217728)]) dX6_costOf_28 1 rfl (by decide +kernel) (by decide) rfl ?_
    refine V_goto 31 B 10 dX6_costOf_31 (by decide) ?_
    refine V_iload 10 B dX6_costOf_10 0 rfl ?_
    refine V_iload_n 12 B dX6_costOf_12 2 rfl ?_
    refine V_icmp_ge_t 13 B 34 dX6_costOf_13 (by decide) (by decide +kernel) ?_
    refine V_iload_n 34 B dX6_costOf_34 1 rfl ?_
    exact V_iret 35 B dX6_costOf_35 () rfl rfl)
set_option maxRecDepth 100000 in
set_option maxHeartbeats 4000000 in
theorem mX10_isCheaper_1_134217728c (l : Launch) (D : va_G) (Y : Nat → ClassId) (p0 : Int64) (hl : lenF p0 = 1) (hc : (1 : Int) ≤ (cost1F p0).toInt) (sz : Nat) : Met l yX10_isCheaper (WSm yX10_isCheaper cX10_isCheaper 4 (some .boolean)) (mkR 3 0 0 66) (PreX D Y [.long p0, .long 134217728] [] sz) (QI D (fun (r : Int32) (u : Unit) => 0 = r) (fun (_ : Unit) => []) (va_A [] sz)) 0 0 (va_A [] sz) :=
  kmet_of (by decide +kernel) (Nat.le_of_ble_eq_true rfl) (fun p e s m args below meth c B EB hsz => by
    have B : VB p s m args meth c D Y (va_A [] sz) cX10_isCheaper 4 RX10 (some .boolean) := B
    refine V_lload_n 0 B dX10_isCheaper_0 1 rfl ?_
    refine V_lconst 1 B (v := 0) dX10_isCheaper_1 (by decide +kernel) ?_
    refine V_lcmp 2 B (v := 1) dX10_isCheaper_2 (by decide +kernel) ?_
    refine V_if_eq_f 3 B 17 dX10_isCheaper_3 (by decide) (by decide +kernel) ?_
    refine V_lload_n 6 B dX10_isCheaper_6 0 rfl ?_
    refine V_ksi 7 B EB (st := []) (As := [.long p0]) (fun sz => mX6_costOf_cost1F l D Y (p0) (hl) sz) glS_RX10_99 ⟨rfl, rfl⟩ ⟨(Nat.le_of_ble_eq_true rfl), (Nat.le_of_ble_eq_true rfl)⟩ ⟨(Nat.le_of_ble_eq_true rfl), (Nat.le_of_ble_eq_true rfl)⟩ [] rfl rfl (Nat.le_of_ble_eq_true rfl) rfl (fun _ _ _ => rfl) dX10_isCheaper_7 (fun r0 u0 w0 => ?_)
    obtain rfl := w0
    refine V_ws [] rfl ?_
    refine V_lload_n 10 B dX10_isCheaper_10 1 rfl ?_
    refine V_ksi 11 B EB (st := [.int (cost1F p0)]) (As := [.long 134217728]) (fun sz => mX6_costOf_3 l D Y  sz) glS_RX10_99 ⟨rfl, rfl⟩ ⟨(Nat.le_of_ble_eq_true rfl), (Nat.le_of_ble_eq_true rfl)⟩ ⟨(Nat.le_of_ble_eq_true rfl), (Nat.le_of_ble_eq_true rfl)⟩ [] rfl rfl (Nat.le_of_ble_eq_true rfl) rfl (fun _ _ _ => rfl) dX10_isCheaper_11 (fun r1 u1 w1 => ?_)
    obtain rfl := w1
    refine V_ws [] rfl ?_
    refine V_icmp_ge_t 14 B 21 dX10_isCheaper_14 (by decide) (q_ge hc (by decide +kernel)) ?_
    refine V_iconst 21 B (v := 0) dX10_isCheaper_21 (by decide +kernel) ?_
    exact V_zret 22 B rfl dX10_isCheaper_22 () rfl rfl)
theorem dX10_cheapestStroke_0 : decode cX10_cheapestStroke 0 = .ok (.lconst 0, 1) := by decide +kernel
theorem dX10_cheapestStroke_1 : decode cX10_cheapestStroke 1 = .ok (.lstore_n 1, 1) := by decide +kernel
theorem dX10_cheapestStroke_2 : decode cX10_cheapestStroke 2 = .ok (.iconst 0, 1) := by decide +kernel
theorem dX10_cheapestStroke_3 : decode cX10_cheapestStroke 3 = .ok (.istore_n 3, 1) := by decide +kernel
theorem dX10_cheapestStroke_4 : decode cX10_cheapestStroke 4 = .ok (.iload_n 3, 1) := by decide +kernel
theorem dX10_cheapestStroke_5 : decode cX10_cheapestStroke 5 = .ok (.iconst 4, 1) := by decide +kernel
theorem dX10_cheapestStroke_6 : decode cX10_cheapestStroke 6 = .ok (.if_icmp .gt 57, 3) := by decide +kernel
theorem dX10_cheapestStroke_9 : decode cX10_cheapestStroke 9 = .ok (.iconst 0, 1) := by decide +kernel
theorem dX10_cheapestStroke_10 : decode cX10_cheapestStroke 10 = .ok (.istore 4, 2) := by decide +kernel
theorem dX10_cheapestStroke_12 : decode cX10_cheapestStroke 12 = .ok (.iload 4, 2) := by decide +kernel
theorem dX10_cheapestStroke_14 : decode cX10_cheapestStroke 14 = .ok (.bipush 26, 2) := by decide +kernel
theorem dX10_cheapestStroke_16 : decode cX10_cheapestStroke 16 = .ok (.if_icmp .ge 41, 3) := by decide +kernel
theorem dX10_cheapestStroke_19 : decode cX10_cheapestStroke 19 = .ok (.iload_n 3, 1) := by decide +kernel
theorem dX10_cheapestStroke_20 : decode cX10_cheapestStroke 20 = .ok (.iload 4, 2) := by decide +kernel
theorem dX10_cheapestStroke_22 : decode cX10_cheapestStroke 22 = .ok (.invokestatic 119, 3) := by decide +kernel
theorem dX10_cheapestStroke_25 : decode cX10_cheapestStroke 25 = .ok (.lstore 5, 2) := by decide +kernel
theorem dX10_cheapestStroke_27 : decode cX10_cheapestStroke 27 = .ok (.lload 5, 2) := by decide +kernel
theorem dX10_cheapestStroke_29 : decode cX10_cheapestStroke 29 = .ok (.lload_n 1, 1) := by decide +kernel
theorem dX10_cheapestStroke_30 : decode cX10_cheapestStroke 30 = .ok (.invokestatic 126, 3) := by decide +kernel
theorem dX10_cheapestStroke_33 : decode cX10_cheapestStroke 33 = .ok (.ifCond .eq 18, 3) := by decide +kernel
theorem dX10_cheapestStroke_36 : decode cX10_cheapestStroke 36 = .ok (.aload_n 0, 1) := by decide +kernel
theorem dX10_cheapestStroke_37 : decode cX10_cheapestStroke 37 = .ok (.getfield 30, 3) := by decide +kernel
theorem dX10_cheapestStroke_40 : decode cX10_cheapestStroke 40 = .ok (.lload 5, 2) := by decide +kernel
theorem dX10_cheapestStroke_42 : decode cX10_cheapestStroke 42 = .ok (.invokevirtual 123, 3) := by decide +kernel
theorem dX10_cheapestStroke_45 : decode cX10_cheapestStroke 45 = .ok (.ifCond .ne 6, 3) := by decide +kernel
theorem dX10_cheapestStroke_48 : decode cX10_cheapestStroke 48 = .ok (.lload 5, 2) := by decide +kernel
theorem dX10_cheapestStroke_50 : decode cX10_cheapestStroke 50 = .ok (.lstore_n 1, 1) := by decide +kernel
theorem dX10_cheapestStroke_51 : decode cX10_cheapestStroke 51 = .ok (.iinc 4 1, 3) := by decide +kernel
theorem dX10_cheapestStroke_54 : decode cX10_cheapestStroke 54 = .ok (.goto (-42), 3) := by decide +kernel
theorem dX10_cheapestStroke_57 : decode cX10_cheapestStroke 57 = .ok (.iinc 3 1, 3) := by decide +kernel
theorem dX10_cheapestStroke_60 : decode cX10_cheapestStroke 60 = .ok (.goto (-56), 3) := by decide +kernel
theorem dX10_cheapestStroke_63 : decode cX10_cheapestStroke 63 = .ok (.lload_n 1, 1) := by decide +kernel
theorem dX10_cheapestStroke_64 : decode cX10_cheapestStroke 64 = .ok (.lreturn, 1) := by decide +kernel
set_option maxRecDepth 100000 in
set_option maxHeartbeats 4000000 in
theorem mX10_cheapestStroke_1 (l : Launch) (D : va_G) (Y : Nat → ClassId) (h0 : Nat) (g0 : Nat) (g1 : Nat) (g2 : Nat) (h1 : Nat) (g3 : Nat) (g4 : Nat) (sz : Nat) : Met l yX10_cheapestStroke (WSm yX10_cheapestStroke cX10_cheapestStroke 7 (some .long)) (mkR 4 0 0 89) (PreX D Y [.ref h0] [(h0, oC 11 [.ref g0, .ref g1, .ref g2, .ref h1, .ref g3]), (h1, oC 7 [.ref g4, .int 0])] sz) (QJ D (fun (r : Int64) (u : Unit) => 134217728 = r) (fun (_ : Unit) => [(h0, oC 11 [.ref g0, .ref g1, .ref g2, .ref h1, .ref g3]), (h1, oC 7 [.ref g4, .int 0])]) (va_A [(h0, oC 11 [.ref g0, .ref g1, .ref g2, .ref h1, .ref g3]), (h1, oC 7 [.ref g4, .int 0])] sz)) 0 0 (va_A [(h0, oC 11 [.ref g0, .ref g1, .ref g2, .ref h1, .ref g3]), (h1, oC 7 [.ref g4, .int 0])] sz) :=
  kmet_of (by decide +kernel) (Nat.le_of_ble_eq_true rfl) (fun p e s m args below meth c B EB hsz => by
    have B : VB p s m args meth c D Y (va_A [(h0, oC 11 [.ref g0, .ref g1, .ref g2, .ref h1, .ref g3]), (h1, oC 7 [.ref g4, .int 0])] sz) cX10_cheapestStroke 7 RX10 (some .long) := B
    refine V_lconst 0 B (v := 0) dX10_cheapestStroke_0 (by decide +kernel) ?_
    refine V_lstore_n 1 B (lv2 := [(1, .long 0), (0, .ref h0)]) dX10_cheapestStroke_1 (by decide) rfl ?_
    refine V_iconst 2 B (v := 0) dX10_cheapestStroke_2 (by decide +kernel) ?_
    refine V_istore_n 3 B (lv2 := [(3, .int 0), (1, .long 0), (0, .ref h0)]) dX10_cheapestStroke_3 (by decide) rfl ?_
    refine V_loop (α := Unit) 5 (fun _ _ => True) (fun iA _ => [(3, .int (nI iA)), (1, .long (bstF (26 * iA))), (0, .ref h0)]) (fun _ _ => [(h0, oC 11 [.ref g0, .ref g1, .ref g2, .ref h1, .ref g3]), (h1, oC 7 [.ref g4, .int 0])]) () trivial rfl rfl (fun iA _ hiA _ IHA => ?_) (fun _ _ => ?_)
    ·
      refine V_lv [(3, .int (nI iA)), (1, .long (bstF (26 * iA))), (0, .ref h0)] [0, 1, 2] rfl ?_
      refine V_ws [(h0, oC 11 [.ref g0, .ref g1, .ref g2, .ref h1, .ref g3]), (h1, oC 7 [.ref g4, .int 0])] rfl ?_
      refine V_iload_n 4 B dX10_cheapestStroke_4 0 rfl ?_
      refine V_iconst 5 B (v := 4) dX10_cheapestStroke_5 (by decide +kernel) ?_
      refine V_icmp_gt_f 6 B 63 dX10_cheapestStroke_6 (by decide) (q_ngt (nI_hi hiA (by decide) (k := 4) (by decide +kernel)) (by decide +kernel)) ?_
      refine V_iconst 9 B (v := 0) dX10_cheapestStroke_9 (by decide +kernel) ?_
      refine V_istore 10 B (lv2 := [(4, .int 0), (3, .int (nI iA)), (1, .long (bstF (26 * iA))), (0, .ref h0)]) dX10_cheapestStroke_10 (by decide) rfl ?_
      refine V_loop (α := Unit) 26 (fun _ _ => True) (fun iB _ => [(4, .int (nI iB)), (3, .int (nI iA)), (1, .long (bstF (26 * iA + iB))), (0, .ref h0)]) (fun _ _ => [(h0, oC 11 [.ref g0, .ref g1, .ref g2, .ref h1, .ref g3]), (h1, oC 7 [.ref g4, .int 0])]) () trivial rfl rfl (fun iB _ hiB _ IHB => ?_) (fun _ _ => ?_)
      ·
        refine V_lv [(4, .int (nI iB)), (3, .int (nI iA)), (1, .long (bstF (26 * iA + iB))), (0, .ref h0)] [0, 1, 2, 3] rfl ?_
        refine V_ws [(h0, oC 11 [.ref g0, .ref g1, .ref g2, .ref h1, .ref g3]), (h1, oC 7 [.ref g4, .int 0])] rfl ?_
        refine V_iload 12 B dX10_cheapestStroke_12 0 rfl ?_
        refine V_bipush 14 B (v := 26) dX10_cheapestStroke_14 (by decide +kernel) ?_
        refine V_icmp_ge_f 16 B 57 dX10_cheapestStroke_16 (by decide) (q_nge (nI_hi hiB (by decide) (k := 25) (by decide +kernel)) (by decide +kernel)) ?_
        by_cases k0 : 26 * iA + iB = 0
        ·
          obtain rfl : iA = 0 := by omega
          obtain rfl : iB = 0 := by omega
          refine V_lv [(4, .int 0), (3, .int 0), (1, .long 0), (0, .ref h0)] [0, 1, 2, 3] rfl ?_
          refine V_iload_n 19 B dX10_cheapestStroke_19 1 rfl ?_
          refine V_iload 20 B dX10_cheapestStroke_20 0 rfl ?_
          refine V_csl 22 B (st := []) (As := [.int 0, .int 0]) (fun sz => mX10_oneStroke_2 l D Y  sz) glS_RX10_119 ⟨rfl, rfl⟩ ⟨(Nat.le_of_ble_eq_true rfl), (Nat.le_of_ble_eq_true rfl)⟩ ⟨(Nat.le_of_ble_eq_true rfl), (Nat.le_of_ble_eq_true rfl)⟩ [] rfl rfl (Nat.le_of_ble_eq_true rfl) rfl (fun _ _ _ => rfl) dX10_cheapestStroke_22 (fun r1 u1 w1 => ?_)
          obtain rfl := w1
          refine V_ws [(h0, oC 11 [.ref g0, .ref g1, .ref g2, .ref h1, .ref g3]), (h1, oC 7 [.ref g4, .int 0])] rfl ?_
          refine V_lstore 25 B (lv2 := [(5, .long 134217728), (4, .int 0), (3, .int 0), (1, .long 0), (0, .ref h0)]) dX10_cheapestStroke_25 (by decide) rfl ?_
          refine V_lload 27 B dX10_cheapestStroke_27 0 rfl ?_
          refine V_lload_n 29 B dX10_cheapestStroke_29 3 rfl ?_
          refine V_ksi 30 B EB (st := []) (As := [.long 134217728, .long 0]) (fun sz => mX10_isCheaper_1 l D Y  sz) glS_RX10_126 ⟨rfl, rfl⟩ ⟨(Nat.le_of_ble_eq_true rfl), (Nat.le_of_ble_eq_true rfl)⟩ ⟨(Nat.le_of_ble_eq_true rfl), (Nat.le_of_ble_eq_true rfl)⟩ [] rfl rfl (Nat.le_of_ble_eq_true rfl) rfl (fun _ _ _ => rfl) dX10_cheapestStroke_30 (fun r2 u2 w2 => ?_)
          obtain rfl := w2
          refine V_ws [(h0, oC 11 [.ref g0, .ref g1, .ref g2, .ref h1, .ref g3]), (h1, oC 7 [.ref g4, .int 0])] rfl ?_
          refine V_if_eq_f 33 B 51 dX10_cheapestStroke_33 (by decide) (by decide +kernel) ?_
          refine V_aload_n 36 B dX10_cheapestStroke_36 4 rfl ?_
          refine V_get 37 B gf_RX10_30 0 rfl rfl dX10_cheapestStroke_37 ?_
          refine V_lload 40 B dX10_cheapestStroke_40 0 rfl ?_
          refine V_cvi 42 B (st := []) (As := [.long 134217728]) (fun sz => mX5_hasClash_3 l D Y (h1) (g4) sz) glV_RX10_123 ⟨rfl, rfl⟩ ⟨(Nat.le_of_ble_eq_true rfl), (Nat.le_of_ble_eq_true rfl)⟩ ⟨(Nat.le_of_ble_eq_true rfl), (Nat.le_of_ble_eq_true rfl)⟩ [1] rfl 7 0 rfl rfl rfl rfl (Nat.le_of_ble_eq_true rfl) rfl (fun _ _ _ => rfl) dX10_cheapestStroke_42 (fun r3 u3 w3 => ?_)
          obtain rfl := w3
          refine V_ws [(h0, oC 11 [.ref g0, .ref g1, .ref g2, .ref h1, .ref g3]), (h1, oC 7 [.ref g4, .int 0])] rfl ?_
          refine V_if_ne_f 45 B 51 dX10_cheapestStroke_45 (by decide) (by decide +kernel) ?_
          refine V_lload 48 B dX10_cheapestStroke_48 0 rfl ?_
          refine V_lstore_n 50 B (lv2 := [(1, .long 134217728), (5, .long 134217728), (4, .int 0), (3, .int 0), (0, .ref h0)]) dX10_cheapestStroke_50 (by decide) rfl ?_
          refine V_iinc 51 B (v := 1) (lv2 := [(4, .int 1), (1, .long 134217728), (5, .long 134217728), (3, .int 0), (0, .ref h0)]) dX10_cheapestStroke_51 2 rfl (by decide +kernel) (by decide) rfl ?_
          refine V_goto 54 B 12 dX10_cheapestStroke_54 (by decide) ?_
          refine V_lv [(4, .int (nI (0 + 1))), (3, .int (nI 0)), (1, .long (bstF (26 * 0 + (0 + 1)))), (0, .ref h0)] [0, 3, 1, 4] rfl ?_
          exact IHB () trivial
        ·
          refine V_lv [(4, .int (nI iB)), (3, .int (nI iA)), (1, .long 134217728), (0, .ref h0)] [0, 1, 2, 3] (by rw [show (bstF (26 * iA + iB)) = 134217728 from bstF_pos k0]; rfl) ?_
          refine V_iload_n 19 B dX10_cheapestStroke_19 1 rfl ?_
          refine V_iload 20 B dX10_cheapestStroke_20 0 rfl ?_
          refine V_csl 22 B (st := []) (As := [.int (nI iA), .int (nI iB)]) (fun sz => mX10_oneStroke_oneF l D Y ((nI iA)) ((nI iB)) sz) glS_RX10_119 ⟨rfl, rfl⟩ ⟨(Nat.le_of_ble_eq_true rfl), (Nat.le_of_ble_eq_true rfl)⟩ ⟨(Nat.le_of_ble_eq_true rfl), (Nat.le_of_ble_eq_true rfl)⟩ [] rfl rfl (Nat.le_of_ble_eq_true rfl) rfl (fun _ _ _ => rfl) dX10_cheapestStroke_22 (fun r4 u4 w4 => ?_)
          obtain rfl := w4
          refine V_ws [(h0, oC 11 [.ref g0, .ref g1, .ref g2, .ref h1, .ref g3]), (h1, oC 7 [.ref g4, .int 0])] rfl ?_
          refine V_lstore 25 B (lv2 := [(5, .long (oneF (nI iA) (nI iB))), (4, .int (nI iB)), (3, .int (nI iA)), (1, .long 134217728), (0, .ref h0)]) dX10_cheapestStroke_25 (by decide) rfl ?_
          refine V_lload 27 B dX10_cheapestStroke_27 0 rfl ?_
          refine V_lload_n 29 B dX10_cheapestStroke_29 3 rfl ?_
          refine V_ksi 30 B EB (st := []) (As := [.long (oneF (nI iA) (nI iB)), .long 134217728]) (fun sz => mX10_isCheaper_1_134217728c l D Y ((oneF (nI iA) (nI iB))) ((len1 hiA hiB)) ((cost1 hiA hiB)) sz) glS_RX10_126 ⟨rfl, rfl⟩ ⟨(Nat.le_of_ble_eq_true rfl), (Nat.le_of_ble_eq_true rfl)⟩ ⟨(Nat.le_of_ble_eq_true rfl), (Nat.le_of_ble_eq_true rfl)⟩ [] rfl rfl (Nat.le_of_ble_eq_true rfl) rfl (fun _ _ _ => rfl) dX10_cheapestStroke_30 (fun r5 u5 w5 => ?_)
          obtain rfl := w5
          refine V_ws [(h0, oC 11 [.ref g0, .ref g1, .ref g2, .ref h1, .ref g3]), (h1, oC 7 [.ref g4, .int 0])] rfl ?_
          refine V_if_eq_t 33 B 51 dX10_cheapestStroke_33 (by decide) (by decide +kernel) ?_
          refine V_iinc 51 B (v := (nI (iB + 1))) (lv2 := [(4, .int (nI (iB + 1))), (5, .long (oneF (nI iA) (nI iB))), (3, .int (nI iA)), (1, .long 134217728), (0, .ref h0)]) dX10_cheapestStroke_51 1 rfl (nI_1 _) (by decide) rfl ?_
          refine V_goto 54 B 12 dX10_cheapestStroke_54 (by decide) ?_
          refine V_lv [(4, .int (nI (iB + 1))), (3, .int (nI iA)), (1, .long (bstF (26 * iA + (iB + 1)))), (0, .ref h0)] [0, 2, 3, 4] rfl ?_
          exact IHB () trivial
      ·
        refine V_lv [(4, .int 26), (3, .int (nI iA)), (1, .long (bstF (26 * iA + 26))), (0, .ref h0)] [0, 1, 2, 3] rfl ?_
        refine V_ws [(h0, oC 11 [.ref g0, .ref g1, .ref g2, .ref h1, .ref g3]), (h1, oC 7 [.ref g4, .int 0])] rfl ?_
        refine V_iload 12 B dX10_cheapestStroke_12 0 rfl ?_
        refine V_bipush 14 B (v := 26) dX10_cheapestStroke_14 (by decide +kernel) ?_
        refine V_icmp_ge_t 16 B 57 dX10_cheapestStroke_16 (by decide) (by decide +kernel) ?_
        refine V_iinc 57 B (v := (nI (iA + 1))) (lv2 := [(3, .int (nI (iA + 1))), (4, .int 26), (1, .long (bstF (26 * iA + 26))), (0, .ref h0)]) dX10_cheapestStroke_57 1 rfl (nI_1 _) (by decide) rfl ?_
        refine V_goto 60 B 4 dX10_cheapestStroke_60 (by decide) ?_
        refine V_lv [(3, .int (nI (iA + 1))), (1, .long (bstF (26 * (iA + 1)))), (0, .ref h0)] [0, 2, 3] rfl ?_
        exact IHA () trivial
    ·
      refine V_lv [(3, .int 5), (1, .long 134217728), (0, .ref h0)] [0, 1, 2] rfl ?_
      refine V_ws [(h0, oC 11 [.ref g0, .ref g1, .ref g2, .ref h1, .ref g3]), (h1, oC 7 [.ref g4, .int 0])] rfl ?_
      refine V_iload_n 4 B dX10_cheapestStroke_4 0 rfl ?_
      refine V_iconst 5 B (v := 4) dX10_cheapestStroke_5 (by decide +kernel) ?_
      refine V_icmp_gt_t 6 B 63 dX10_cheapestStroke_6 (by decide) (by decide +kernel) ?_
      refine V_lload_n 63 B dX10_cheapestStroke_63 1 rfl ?_
      exact V_lret 64 B dX10_cheapestStroke_64 () rfl rfl)
theorem dX11_cheapest_0 : decode cX11_cheapest 0 = .ok (.aload_n 0, 1) := by decide +kernel
theorem dX11_cheapest_1 : decode cX11_cheapest 1 = .ok (.iload_n 1, 1) := by decide +kernel
theorem dX11_cheapest_2 : decode cX11_cheapest 2 = .ok (.invokevirtual 180, 3) := by decide +kernel
theorem dX11_cheapest_5 : decode cX11_cheapest 5 = .ok (.iload_n 2, 1) := by decide +kernel
theorem dX11_cheapest_6 : decode cX11_cheapest 6 = .ok (.iconst 1, 1) := by decide +kernel
theorem dX11_cheapest_7 : decode cX11_cheapest 7 = .ok (.if_icmp .lt 8, 3) := by decide +kernel
theorem dX11_cheapest_15 : decode cX11_cheapest 15 = .ok (.new 190, 3) := by decide +kernel
theorem gt_RX11_190_308_194 : GT RX11 190 308 194 "java/lang/IllegalArgumentException" "no such length" ["java/lang/RuntimeException", "java/lang/Exception"] := ⟨rfl, (mT5 31 rfl rfl), (mT1 22 rfl rfl), List.mem_of_getElem? (i := 4) rfl, by decide +kernel, by decide +kernel, List.mem_of_getElem? (i := 0) rfl, gta_194⟩
theorem dX11_cheapest_18 : decode cX11_cheapest 18 = .ok (.dup, 1) := by decide +kernel
theorem dX11_cheapest_19 : decode cX11_cheapest 19 = .ok (.ldc_w 308, 3) := by decide +kernel
theorem dX11_cheapest_22 : decode cX11_cheapest 22 = .ok (.invokespecial 194, 3) := by decide +kernel
theorem dX11_cheapest_25 : decode cX11_cheapest 25 = .ok (.athrow, 1) := by decide +kernel
theorem dX11_cheapest_10 : decode cX11_cheapest 10 = .ok (.iload_n 2, 1) := by decide +kernel
theorem dX11_cheapest_11 : decode cX11_cheapest 11 = .ok (.iconst 2, 1) := by decide +kernel
theorem dX11_cheapest_12 : decode cX11_cheapest 12 = .ok (.if_icmp .le 14, 3) := by decide +kernel
theorem dX11_cheapest_26 : decode cX11_cheapest 26 = .ok (.aload_n 0, 1) := by decide +kernel
theorem dX11_cheapest_27 : decode cX11_cheapest 27 = .ok (.getfield 30, 3) := by decide +kernel
theorem dX11_cheapest_30 : decode cX11_cheapest 30 = .ok (.iload_n 1, 1) := by decide +kernel
theorem dX11_cheapest_31 : decode cX11_cheapest 31 = .ok (.iload_n 3, 1) := by decide +kernel
theorem dX11_cheapest_32 : decode cX11_cheapest 32 = .ok (.invokevirtual 301, 3) := by decide +kernel
theorem dX11_cheapest_35 : decode cX11_cheapest 35 = .ok (.iload_n 2, 1) := by decide +kernel
theorem dX11_cheapest_36 : decode cX11_cheapest 36 = .ok (.iconst 1, 1) := by decide +kernel
theorem dX11_cheapest_37 : decode cX11_cheapest 37 = .ok (.if_icmp .ne 13, 3) := by decide +kernel
theorem dX11_cheapest_50 : decode cX11_cheapest 50 = .ok (.aload_n 0, 1) := by decide +kernel
theorem dX11_cheapest_51 : decode cX11_cheapest 51 = .ok (.getfield 30, 3) := by decide +kernel
theorem dX11_cheapest_54 : decode cX11_cheapest 54 = .ok (.invokevirtual 314, 3) := by decide +kernel
theorem glV_RX11_314 : GLV RX11 314 yX10_cheapestPair RX10 cX10_cheapestPair 7 (some .long) 0 := ⟨⟨(mT6 184 rfl rfl), (mT6 185 rfl rfl), (mT6 186 rfl rfl), (mT1 8 rfl rfl), (mT6 187 rfl rfl)⟩, by decide +kernel⟩
theorem dX11_cheapest_57 : decode cX11_cheapest 57 = .ok (.lstore 4, 2) := by decide +kernel
theorem dX11_cheapest_59 : decode cX11_cheapest 59 = .ok (.lload 4, 2) := by decide +kernel
theorem dX11_cheapest_61 : decode cX11_cheapest 61 = .ok (.lconst 0, 1) := by decide +kernel
theorem dX11_cheapest_62 : decode cX11_cheapest 62 = .ok (.lcmp, 1) := by decide +kernel
theorem dX11_cheapest_63 : decode cX11_cheapest 63 = .ok (.ifCond .ne 5, 3) := by decide +kernel
theorem dX11_cheapest_68 : decode cX11_cheapest 68 = .ok (.aload_n 0, 1) := by decide +kernel
theorem dX11_cheapest_69 : decode cX11_cheapest 69 = .ok (.lload 4, 2) := by decide +kernel
theorem dX11_cheapest_71 : decode cX11_cheapest 71 = .ok (.putfield 68, 3) := by decide +kernel
theorem dX11_cheapest_74 : decode cX11_cheapest 74 = .ok (.lload 4, 2) := by decide +kernel
theorem dX11_cheapest_76 : decode cX11_cheapest 76 = .ok (.invokestatic 177, 3) := by decide +kernel
theorem dX11_cheapest_79 : decode cX11_cheapest 79 = .ok (.ireturn, 1) := by decide +kernel
theorem dX11_cheapest_40 : decode cX11_cheapest 40 = .ok (.aload_n 0, 1) := by decide +kernel
theorem dX11_cheapest_41 : decode cX11_cheapest 41 = .ok (.getfield 30, 3) := by decide +kernel
theorem dX11_cheapest_44 : decode cX11_cheapest 44 = .ok (.invokevirtual 310, 3) := by decide +kernel
theorem glV_RX11_310 : GLV RX11 310 yX10_cheapestStroke RX10 cX10_cheapestStroke 7 (some .long) 0 := ⟨⟨(mT6 177 rfl rfl), (mT6 178 rfl rfl), (mT6 179 rfl rfl), (mT1 8 rfl rfl), (mT6 180 rfl rfl)⟩, by decide +kernel⟩
theorem dX11_cheapest_47 : decode cX11_cheapest 47 = .ok (.goto 10, 3) := by decide +kernel
set_option maxRecDepth 100000 in
set_option maxHeartbeats 4000000 in
theorem mX11_cheapest_1 (l : Launch) (hl9 : l.stackTraces = false) (D : va_G) (Y : Nat → ClassId) (h0 : Nat) (h1 : Nat) (g0 : Nat) (g1 : Nat) (g2 : Nat) (h7 : Nat) (g3 : Nat) (g4 : Nat) (g5 : Nat) (g6 : Nat) (h2 : Nat) (g7 : Nat) (g8 : Nat) (g9 : Nat) (h4 : Nat) (h6 : Nat) (g10 : Nat) (g11 : Nat) (g12 : Nat) (g13 : Nat) (g14 : Nat) (h3 : Nat) (h5 : Nat) (g15 : Nat) (g16 : Nat) (g17 : Nat) (h8 : Nat) (g18 : Nat) (h9 : Nat) (p0 : Int32) (p1 : Int32) (p2 : Int32) (sz : Nat) : vx_Met l yX11_cheapest (WSm yX11_cheapest cX11_cheapest 6 (some .int)) (mkR 7 2 12 146) (PreX D Y [.ref h0, .int p0, .int p1, .int p2] [(h0, oC 12 [.ref h1, .ref g0, .ref g1, .ref g2, .ref h7, .ref g3, .ref g4, .ref g5, .ref g6, .long 0]), (h1, oC 2 [.ref h2, .ref g7, .ref g8, .ref g9, .ref h4, .ref h6, .ref g10, .ref g11, .ref g12, .ref g13, .ref g14, .int 0]), (h2, oC 3 [.ref h3, .int 1]), (h3, aI Y 6 (upd (fun _ => 0) 0 (-1))), (h4, oC 7 [.ref h5, .int 0]), (h5, aJ Y 6 (fun _ => 0)), (h6, oC 3 [.ref g15, .int 0]), (h7, oC 11 [.ref h1, .ref g16, .ref g17, .ref h8, .ref g18]), (h8, oC 7 [.ref h9, .int 0]), (h9, aJ Y 86 (fun _ => 0))] sz) (QI D (fun (r : Int32) (u : Nat) => (u = 0 ∧ p0 = 0 ∧ ¬ p1 < 1 ∧ p1 ≤ 2 ∧ ¬ p2 = 0 ∧ ¬ p1 = 1 ∧ 2 = r) ∨ (u = 1 ∧ p0 = 0 ∧ ¬ p2 = 0 ∧ p1 = 1 ∧ 1 = r) ∨ (u = 2 ∧ p0 = 0 ∧ ¬ p1 < 1 ∧ p1 ≤ 2 ∧ p2 = 0 ∧ ¬ p1 = 1 ∧ 2 = r) ∨ (u = 3 ∧ p0 = 0 ∧ p2 = 0 ∧ p1 = 1 ∧ 1 = r)) (fun (u : Nat) => match u with | 0 => [(h0, oC 12 [.ref h1, .ref g0, .ref g1, .ref g2, .ref h7, .ref g3, .ref g4, .ref g5, .ref g6, .long 134479872]), (h1, oC 2 [.ref h2, .ref g7, .ref g8, .ref g9, .ref h4, .ref h6, .ref g10, .ref g11, .ref g12, .ref g13, .ref g14, .int 0]), (h2, oC 3 [.ref h3, .int 1]), (h3, aI Y 6 (upd (fun _ => 0) 0 (-1))), (h4, oC 7 [.ref h5, .int 0]), (h5, aJ Y 6 (fun _ => 0)), (h6, oC 3 [.ref g15, .int 0]), (h7, oC 11 [.ref h1, .ref g16, .ref g17, .ref h8, .ref g18]), (h8, oC 7 [.ref h9, .int 0]), (h9, aJ Y 86 (fun _ => 0))] | 1 => [(h0, oC 12 [.ref h1, .ref g0, .ref g1, .ref g2, .ref h7, .ref g3, .ref g4, .ref g5, .ref g6, .long 134217728]), (h1, oC 2 [.ref h2, .ref g7, .ref g8, .ref g9, .ref h4, .ref h6, .ref g10, .ref g11, .ref g12, .ref g13, .ref g14, .int 0]), (h2, oC 3 [.ref h3, .int 1]), (h3, aI Y 6 (upd (fun _ => 0) 0 (-1))), (h4, oC 7 [.ref h5, .int 0]), (h5, aJ Y 6 (fun _ => 0)), (h6, oC 3 [.ref g15, .int 0]), (h7, oC 11 [.ref h1, .ref g16, .ref g17, .ref h8, .ref g18]), (h8, oC 7 [.ref h9, .int 0]), (h9, aJ Y 86 (fun _ => 0))] | 2 => [(h0, oC 12 [.ref h1, .ref g0, .ref g1, .ref g2, .ref h7, .ref g3, .ref g4, .ref g5, .ref g6, .long 134479872]), (h1, oC 2 [.ref h2, .ref g7, .ref g8, .ref g9, .ref h4, .ref h6, .ref g10, .ref g11, .ref g12, .ref g13, .ref g14, .int 0]), (h2, oC 3 [.ref h3, .int 1]), (h3, aI Y 6 (upd (fun _ => 0) 0 (-1))), (h4, oC 7 [.ref h5, .int 0]), (h5, aJ Y 6 (fun _ => 0)), (h6, oC 3 [.ref g15, .int 0]), (h7, oC 11 [.ref h1, .ref g16, .ref g17, .ref h8, .ref g18]), (h8, oC 7 [.ref h9, .int 0]), (h9, aJ Y 86 (fun _ => 0))] | _ => [(h0, oC 12 [.ref h1, .ref g0, .ref g1, .ref g2, .ref h7, .ref g3, .ref g4, .ref g5, .ref g6, .long 134217728]), (h1, oC 2 [.ref h2, .ref g7, .ref g8, .ref g9, .ref h4, .ref h6, .ref g10, .ref g11, .ref g12, .ref g13, .ref g14, .int 0]), (h2, oC 3 [.ref h3, .int 1]), (h3, aI Y 6 (upd (fun _ => 0) 0 (-1))), (h4, oC 7 [.ref h5, .int 0]), (h5, aJ Y 6 (fun _ => 0)), (h6, oC 3 [.ref g15, .int 0]), (h7, oC 11 [.ref h1, .ref g16, .ref g17, .ref h8, .ref g18]), (h8, oC 7 [.ref h9, .int 0]), (h9, aJ Y 86 (fun _ => 0))]) (va_A [(h0, oC 12 [.ref h1, .ref g0, .ref g1, .ref g2, .ref h7, .ref g3, .ref g4, .ref g5, .ref g6, .long 0]), (h1, oC 2 [.ref h2, .ref g7, .ref g8, .ref g9, .ref h4, .ref h6, .ref g10, .ref g11, .ref g12, .ref g13, .ref g14, .int 0]), (h2, oC 3 [.ref h3, .int 1]), (h3, aI Y 6 (upd (fun _ => 0) 0 (-1))), (h4, oC 7 [.ref h5, .int 0]), (h5, aJ Y 6 (fun _ => 0)), (h6, oC 3 [.ref g15, .int 0]), (h7, oC 11 [.ref h1, .ref g16, .ref g17, .ref h8, .ref g18]), (h8, oC 7 [.ref h9, .int 0]), (h9, aJ Y 86 (fun _ => 0))] sz)) (XW D (fun (E : String) (u : Unit) => (E = "java/lang/IndexOutOfBoundsException" ∧ p0 < 0) ∨ (E = "java/lang/IndexOutOfBoundsException" ∧ ¬ p0 < 0 ∧ 1 ≤ p0) ∨ (E = "java/lang/IllegalArgumentException" ∧ p0 = 0 ∧ p1 < 1) ∨ (E = "java/lang/IllegalArgumentException" ∧ p0 = 0 ∧ ¬ p1 < 1 ∧ ¬ p1 ≤ 2)) (fun (_ : Unit) => [(h0, oC 12 [.ref h1, .ref g0, .ref g1, .ref g2, .ref h7, .ref g3, .ref g4, .ref g5, .ref g6, .long 0]), (h1, oC 2 [.ref h2, .ref g7, .ref g8, .ref g9, .ref h4, .ref h6, .ref g10, .ref g11, .ref g12, .ref g13, .ref g14, .int 0]), (h2, oC 3 [.ref h3, .int 1]), (h3, aI Y 6 (upd (fun _ => 0) 0 (-1))), (h4, oC 7 [.ref h5, .int 0]), (h5, aJ Y 6 (fun _ => 0)), (h6, oC 3 [.ref g15, .int 0]), (h7, oC 11 [.ref h1, .ref g16, .ref g17, .ref h8, .ref g18]), (h8, oC 7 [.ref h9, .int 0]), (h9, aJ Y 86 (fun _ => 0))]) (va_A [(h0, oC 12 [.ref h1, .ref g0, .ref g1, .ref g2, .ref h7, .ref g3, .ref g4, .ref g5, .ref g6, .long 0]), (h1, oC 2 [.ref h2, .ref g7, .ref g8, .ref g9, .ref h4, .ref h6, .ref g10, .ref g11, .ref g12, .ref g13, .ref g14, .int 0]), (h2, oC 3 [.ref h3, .int 1]), (h3, aI Y 6 (upd (fun _ => 0) 0 (-1))), (h4, oC 7 [.ref h5, .int 0]), (h5, aJ Y 6 (fun _ => 0)), (h6, oC 3 [.ref g15, .int 0]), (h7, oC 11 [.ref h1, .ref g16, .ref g17, .ref h8, .ref g18]), (h8, oC 7 [.ref h9, .int 0]), (h9, aJ Y 86 (fun _ => 0))] sz)) 2 12 (va_A [(h0, oC 12 [.ref h1, .ref g0, .ref g1, .ref g2, .ref h7, .ref g3, .ref g4, .ref g5, .ref g6, .long 0]), (h1, oC 2 [.ref h2, .ref g7, .ref g8, .ref g9, .ref h4, .ref h6, .ref g10, .ref g11, .ref g12, .ref g13, .ref g14, .int 0]), (h2, oC 3 [.ref h3, .int 1]), (h3, aI Y 6 (upd (fun _ => 0) 0 (-1))), (h4, oC 7 [.ref h5, .int 0]), (h5, aJ Y 6 (fun _ => 0)), (h6, oC 3 [.ref g15, .int 0]), (h7, oC 11 [.ref h1, .ref g16, .ref g17, .ref h8, .ref g18]), (h8, oC 7 [.ref h9, .int 0]), (h9, aJ Y 86 (fun _ => 0))] sz) :=
  xmet_of (by decide +kernel) (Nat.le_of_ble_eq_true rfl) (fun p e s m args below meth c B EB hout hsz => by
    have B : VB p s m args meth c D Y (va_A [(h0, oC 12 [.ref h1, .ref g0, .ref g1, .ref g2, .ref h7, .ref g3, .ref g4, .ref g5, .ref g6, .long 0]), (h1, oC 2 [.ref h2, .ref g7, .ref g8, .ref g9, .ref h4, .ref h6, .ref g10, .ref g11, .ref g12, .ref g13, .ref g14, .int 0]), (h2, oC 3 [.ref h3, .int 1]), (h3, aI Y 6 (upd (fun _ => 0) 0 (-1))), (h4, oC 7 [.ref h5, .int 0]), (h5, aJ Y 6 (fun _ => 0)), (h6, oC 3 [.ref g15, .int 0]), (h7, oC 11 [.ref h1, .ref g16, .ref g17, .ref h8, .ref g18]), (h8, oC 7 [.ref h9, .int 0]), (h9, aJ Y 86 (fun _ => 0))] sz) cX11_cheapest 6 RX11 (some .int) := B
    refine V_aload_n 0 B dX11_cheapest_0 0 rfl ?_
    refine V_iload_n 1 B dX11_cheapest_1 1 rfl ?_
    refine V_xvv 2 B EB (st := []) (As := [.int p0]) (fun sz => mX11_needMode_1 l hl9 D Y (h0) (h1) (g0) (g1) (g2) (h7) (g3) (g4) (g5) (g6) (h2) (g7) (g8) (g9) (h4) (h6) (g10) (g11) (g12) (g13) (g14) (h3) (p0) sz) glV_RX11_180 ⟨rfl, rfl⟩ ⟨(Nat.le_of_ble_eq_true rfl), (Nat.le_of_ble_eq_true rfl)⟩ ⟨(Nat.le_of_ble_eq_true rfl), (Nat.le_of_ble_eq_true rfl)⟩ [0, 0, 0] rfl 12 0 rfl rfl rfl rfl (Nat.le_of_ble_eq_true rfl) rfl (fun _ _ => rfl) (fun _ _ _ => rfl) dX11_cheapest_2 (fun E u0 w0 => ?_) (fun u0 w0 => ?_)
    ·
      rcases w0 with ⟨rfl, k1⟩ | ⟨rfl, k2, k3⟩
      ·
        exact VX_out 2 B hout () (Or.inl ⟨rfl, k1⟩) rfl (Nat.le_of_ble_eq_true rfl) (Nat.le_of_ble_eq_true rfl)
      ·
        exact VX_out 2 B hout () (Or.inr (Or.inl ⟨rfl, k2, k3⟩)) rfl (Nat.le_of_ble_eq_true rfl) (Nat.le_of_ble_eq_true rfl)
    ·
      have k4 := w0
      refine V_ws [(h0, oC 12 [.ref h1, .ref g0, .ref g1, .ref g2, .ref h7, .ref g3, .ref g4, .ref g5, .ref g6, .long 0]), (h1, oC 2 [.ref h2, .ref g7, .ref g8, .ref g9, .ref h4, .ref h6, .ref g10, .ref g11, .ref g12, .ref g13, .ref g14, .int 0]), (h2, oC 3 [.ref h3, .int 1]), (h3, aI Y 6 (upd (fun _ => 0) 0 (-1))), (h4, oC 7 [.ref h5, .int 0]), (h5, aJ Y 6 (fun _ => 0)), (h6, oC 3 [.ref g15, .int 0]), (h7, oC 11 [.ref h1, .ref g16, .ref g17, .ref h8, .ref g18]), (h8, oC 7 [.ref h9, .int 0]), (h9, aJ Y 86 (fun _ => 0))] rfl ?_
      obtain rfl : p0 = 0 := k4
      refine V_iload_n 5 B dX11_cheapest_5 2 rfl ?_
      refine V_iconst 6 B (v := 1) dX11_cheapest_6 (by decide +kernel) ?_
      refine V_icmp_lt 7 B 15 dX11_cheapest_7 (by decide) (fun k5 => ?_) (fun k5 => ?_)
      ·
        exact V_throwSW 15 B EB hl9 gt_RX11_190_308_194 hout dX11_cheapest_15 dX11_cheapest_18 dX11_cheapest_19 dX11_cheapest_22 dX11_cheapest_25 (Nat.le_of_ble_eq_true rfl) (Nat.le_of_ble_eq_true rfl) (Nat.le_of_ble_eq_true rfl) (Nat.le_of_ble_eq_true rfl) (Nat.le_of_ble_eq_true rfl) (Nat.le_of_ble_eq_true rfl) () (Or.inr (Or.inr (Or.inl ⟨rfl, rfl, k5⟩))) rfl
      ·
        refine V_iload_n 10 B dX11_cheapest_10 2 rfl ?_
        refine V_iconst 11 B (v := 2) dX11_cheapest_11 (by decide +kernel) ?_
        refine V_icmp_le 12 B 26 dX11_cheapest_12 (by decide) (fun k6 => ?_) (fun k6 => ?_)
        ·
          refine V_aload_n 26 B dX11_cheapest_26 0 rfl ?_
          refine V_get 27 B gf_RX11_30 0 rfl rfl dX11_cheapest_27 ?_
          refine V_iload_n 30 B dX11_cheapest_30 1 rfl ?_
          refine V_iload_n 31 B dX11_cheapest_31 3 rfl ?_
          refine V_cvv 32 B (st := []) (As := [.int 0, .int p2]) (fun sz => mX10_barFor_2 l D Y (h7) (h1) (h2) (g7) (g8) (g9) (h4) (h6) (g10) (g11) (g12) (g13) (g14) (h3) (h5) (g15) (g16) (g17) (h8) (g18) (h9) (p2) sz) glV_RX11_301 ⟨rfl, rfl⟩ ⟨(Nat.le_of_ble_eq_true rfl), (Nat.le_of_ble_eq_true rfl)⟩ ⟨(Nat.le_of_ble_eq_true rfl), (Nat.le_of_ble_eq_true rfl)⟩ [1, 0, 0, 0, 0, 0, 0, 0, 0] rfl 11 6 rfl rfl rfl rfl (Nat.le_of_ble_eq_true rfl) rfl (fun _ _ => rfl) dX11_cheapest_32 (fun u7 w7 => ?_)
          rcases w7 with k8 | k9
          ·
            refine V_ws [(h0, oC 12 [.ref h1, .ref g0, .ref g1, .ref g2, .ref h7, .ref g3, .ref g4, .ref g5, .ref g6, .long 0]), (h1, oC 2 [.ref h2, .ref g7, .ref g8, .ref g9, .ref h4, .ref h6, .ref g10, .ref g11, .ref g12, .ref g13, .ref g14, .int 0]), (h2, oC 3 [.ref h3, .int 1]), (h3, aI Y 6 (upd (fun _ => 0) 0 (-1))), (h4, oC 7 [.ref h5, .int 0]), (h5, aJ Y 6 (fun _ => 0)), (h6, oC 3 [.ref g15, .int 0]), (h7, oC 11 [.ref h1, .ref g16, .ref g17, .ref h8, .ref g18]), (h8, oC 7 [.ref h9, .int 0]), (h9, aJ Y 86 (fun _ => 0))] rfl ?_
            refine V_iload_n 35 B dX11_cheapest_35 2 rfl ?_
            refine V_iconst 36 B (v := 1) dX11_cheapest_36 (by decide +kernel) ?_
            refine V_icmp_ne 37 B 50 dX11_cheapest_37 (by decide) (fun k10 => ?_) (fun k10 => ?_)
            ·
              refine V_aload_n 50 B dX11_cheapest_50 0 rfl ?_
              refine V_get 51 B gf_RX11_30 0 rfl rfl dX11_cheapest_51 ?_
              refine V_kvl 54 B EB (st := []) (As := []) (fun sz => mX10_cheapestPair_1 l D Y (h7) (h1) (g16) (g17) (h8) (g18) (h9) sz) glV_RX11_314 ⟨rfl, rfl⟩ ⟨(Nat.le_of_ble_eq_true rfl), (Nat.le_of_ble_eq_true rfl)⟩ ⟨(Nat.le_of_ble_eq_true rfl), (Nat.le_of_ble_eq_true rfl)⟩ [7, 0] rfl 11 0 rfl rfl rfl rfl (Nat.le_of_ble_eq_true rfl) rfl (fun _ _ _ => rfl) dX11_cheapest_54 (fun r11 u11 w11 => ?_)
              obtain rfl := w11
              refine V_ws [(h0, oC 12 [.ref h1, .ref g0, .ref g1, .ref g2, .ref h7, .ref g3, .ref g4, .ref g5, .ref g6, .long 0]), (h1, oC 2 [.ref h2, .ref g7, .ref g8, .ref g9, .ref h4, .ref h6, .ref g10, .ref g11, .ref g12, .ref g13, .ref g14, .int 0]), (h2, oC 3 [.ref h3, .int 1]), (h3, aI Y 6 (upd (fun _ => 0) 0 (-1))), (h4, oC 7 [.ref h5, .int 0]), (h5, aJ Y 6 (fun _ => 0)), (h6, oC 3 [.ref g15, .int 0]), (h7, oC 11 [.ref h1, .ref g16, .ref g17, .ref h8, .ref g18]), (h8, oC 7 [.ref h9, .int 0]), (h9, aJ Y 86 (fun _ => 0))] rfl ?_
              refine V_lstore 57 B (lv2 := [(4, .long 134479872), (0, .ref h0), (1, .int 0), (2, .int p1), (3, .int p2)]) dX11_cheapest_57 (by decide) rfl ?_
              refine V_lload 59 B dX11_cheapest_59 0 rfl ?_
              refine V_lconst 61 B (v := 0) dX11_cheapest_61 (by decide +kernel) ?_
              refine V_lcmp 62 B (v := 1) dX11_cheapest_62 (by decide +kernel) ?_
              refine V_if_ne_t 63 B 68 dX11_cheapest_63 (by decide) (by decide +kernel) ?_
              refine V_aload_n 68 B dX11_cheapest_68 1 rfl ?_
              refine V_lload 69 B dX11_cheapest_69 0 rfl ?_
              refine V_put 71 B gp_RX11_68 0 rfl (Nat.le_of_ble_eq_true rfl) rfl rfl dX11_cheapest_71 [(h0, oC 12 [.ref h1, .ref g0, .ref g1, .ref g2, .ref h7, .ref g3, .ref g4, .ref g5, .ref g6, .long 134479872]), (h1, oC 2 [.ref h2, .ref g7, .ref g8, .ref g9, .ref h4, .ref h6, .ref g10, .ref g11, .ref g12, .ref g13, .ref g14, .int 0]), (h2, oC 3 [.ref h3, .int 1]), (h3, aI Y 6 (upd (fun _ => 0) 0 (-1))), (h4, oC 7 [.ref h5, .int 0]), (h5, aJ Y 6 (fun _ => 0)), (h6, oC 3 [.ref g15, .int 0]), (h7, oC 11 [.ref h1, .ref g16, .ref g17, .ref h8, .ref g18]), (h8, oC 7 [.ref h9, .int 0]), (h9, aJ Y 86 (fun _ => 0))] rfl ?_
              refine V_lload 74 B dX11_cheapest_74 0 rfl ?_
              refine V_ksi 76 B EB (st := []) (As := [.long 134479872]) (fun sz => mX6_costOf_2 l D Y  sz) glS_RX11_177 ⟨rfl, rfl⟩ ⟨(Nat.le_of_ble_eq_true rfl), (Nat.le_of_ble_eq_true rfl)⟩ ⟨(Nat.le_of_ble_eq_true rfl), (Nat.le_of_ble_eq_true rfl)⟩ [] rfl rfl (Nat.le_of_ble_eq_true rfl) rfl (fun _ _ _ => rfl) dX11_cheapest_76 (fun r12 u12 w12 => ?_)
              obtain rfl := w12
              refine V_ws [(h0, oC 12 [.ref h1, .ref g0, .ref g1, .ref g2, .ref h7, .ref g3, .ref g4, .ref g5, .ref g6, .long 134479872]), (h1, oC 2 [.ref h2, .ref g7, .ref g8, .ref g9, .ref h4, .ref h6, .ref g10, .ref g11, .ref g12, .ref g13, .ref g14, .int 0]), (h2, oC 3 [.ref h3, .int 1]), (h3, aI Y 6 (upd (fun _ => 0) 0 (-1))), (h4, oC 7 [.ref h5, .int 0]), (h5, aJ Y 6 (fun _ => 0)), (h6, oC 3 [.ref g15, .int 0]), (h7, oC 11 [.ref h1, .ref g16, .ref g17, .ref h8, .ref g18]), (h8, oC 7 [.ref h9, .int 0]), (h9, aJ Y 86 (fun _ => 0))] rfl ?_
              refine V_xret ?_
              refine V_widen (k := 2) (n := 12) (Nat.le_of_ble_eq_true rfl) (Nat.le_of_ble_eq_true rfl) ?_
              exact V_iret 79 B dX11_cheapest_79 0 (Or.inl ⟨rfl, rfl, k5, k6, k8, k10, rfl⟩) rfl
            ·
              obtain rfl : p1 = 1 := k10
              refine V_aload_n 40 B dX11_cheapest_40 0 rfl ?_
              refine V_get 41 B gf_RX11_30 0 rfl rfl dX11_cheapest_41 ?_
              refine V_kvl 44 B EB (st := []) (As := []) (fun sz => mX10_cheapestStroke_1 l D Y (h7) (h1) (g16) (g17) (h8) (g18) (h9) sz) glV_RX11_310 ⟨rfl, rfl⟩ ⟨(Nat.le_of_ble_eq_true rfl), (Nat.le_of_ble_eq_true rfl)⟩ ⟨(Nat.le_of_ble_eq_true rfl), (Nat.le_of_ble_eq_true rfl)⟩ [7, 0] rfl 11 0 rfl rfl rfl rfl (Nat.le_of_ble_eq_true rfl) rfl (fun _ _ _ => rfl) dX11_cheapest_44 (fun r13 u13 w13 => ?_)
              obtain rfl := w13
              refine V_ws [(h0, oC 12 [.ref h1, .ref g0, .ref g1, .ref g2, .ref h7, .ref g3, .ref g4, .ref g5, .ref g6, .long 0]), (h1, oC 2 [.ref h2, .ref g7, .ref g8, .ref g9, .ref h4, .ref h6, .ref g10, .ref g11, .ref g12, .ref g13, .ref g14, .int 0]), (h2, oC 3 [.ref h3, .int 1]), (h3, aI Y 6 (upd (fun _ => 0) 0 (-1))), (h4, oC 7 [.ref h5, .int 0]), (h5, aJ Y 6 (fun _ => 0)), (h6, oC 3 [.ref g15, .int 0]), (h7, oC 11 [.ref h1, .ref g16, .ref g17, .ref h8, .ref g18]), (h8, oC 7 [.ref h9, .int 0]), (h9, aJ Y 86 (fun _ => 0))] rfl ?_
              refine V_goto 47 B 57 dX11_cheapest_47 (by decide) ?_
              refine V_lstore 57 B (lv2 := [(4, .long 134217728), (0, .ref h0), (1, .int 0), (2, .int 1), (3, .int p2)]) dX11_cheapest_57 (by decide) rfl ?_
              refine V_lload 59 B dX11_cheapest_59 0 rfl ?_
              refine V_lconst 61 B (v := 0) dX11_cheapest_61 (by decide +kernel) ?_
              refine V_lcmp 62 B (v := 1) dX11_cheapest_62 (by decide +kernel) ?_
              refine V_if_ne_t 63 B 68 dX11_cheapest_63 (by decide) (by decide +kernel) ?_
              refine V_aload_n 68 B dX11_cheapest_68 1 rfl ?_
              refine V_lload 69 B dX11_cheapest_69 0 rfl ?_
              refine V_put 71 B gp_RX11_68 0 rfl (Nat.le_of_ble_eq_true rfl) rfl rfl dX11_cheapest_71 [(h0, oC 12 [.ref h1, .ref g0, .ref g1, .ref g2, .ref h7, .ref g3, .ref g4, .ref g5, .ref g6, .long 134217728]), (h1, oC 2 [.ref h2, .ref g7, .ref g8, .ref g9, .ref h4, .ref h6, .ref g10, .ref g11, .ref g12, .ref g13, .ref g14, .int 0]), (h2, oC 3 [.ref h3, .int 1]), (h3, aI Y 6 (upd (fun _ => 0) 0 (-1))), (h4, oC 7 [.ref h5, .int 0]), (h5, aJ Y 6 (fun _ => 0)), (h6, oC 3 [.ref g15, .int 0]), (h7, oC 11 [.ref h1, .ref g16, .ref g17, .ref h8, .ref g18]), (h8, oC 7 [.ref h9, .int 0]), (h9, aJ Y 86 (fun _ => 0))] rfl ?_
              refine V_lload 74 B dX11_cheapest_74 0 rfl ?_
              refine V_ksi 76 B EB (st := []) (As := [.long 134217728]) (fun sz => mX6_costOf_3 l D Y  sz) glS_RX11_177 ⟨rfl, rfl⟩ ⟨(Nat.le_of_ble_eq_true rfl), (Nat.le_of_ble_eq_true rfl)⟩ ⟨(Nat.le_of_ble_eq_true rfl), (Nat.le_of_ble_eq_true rfl)⟩ [] rfl rfl (Nat.le_of_ble_eq_true rfl) rfl (fun _ _ _ => rfl) dX11_cheapest_76 (fun r14 u14 w14 => ?_)
              obtain rfl := w14
              refine V_ws [(h0, oC 12 [.ref h1, .ref g0, .ref g1, .ref g2, .ref h7, .ref g3, .ref g4, .ref g5, .ref g6, .long 134217728]), (h1, oC 2 [.ref h2, .ref g7, .ref g8, .ref g9, .ref h4, .ref h6, .ref g10, .ref g11, .ref g12, .ref g13, .ref g14, .int 0]), (h2, oC 3 [.ref h3, .int 1]), (h3, aI Y 6 (upd (fun _ => 0) 0 (-1))), (h4, oC 7 [.ref h5, .int 0]), (h5, aJ Y 6 (fun _ => 0)), (h6, oC 3 [.ref g15, .int 0]), (h7, oC 11 [.ref h1, .ref g16, .ref g17, .ref h8, .ref g18]), (h8, oC 7 [.ref h9, .int 0]), (h9, aJ Y 86 (fun _ => 0))] rfl ?_
              refine V_xret ?_
              refine V_widen (k := 2) (n := 12) (Nat.le_of_ble_eq_true rfl) (Nat.le_of_ble_eq_true rfl) ?_
              exact V_iret 79 B dX11_cheapest_79 1 (Or.inr (Or.inl ⟨rfl, rfl, k8, rfl, rfl⟩)) rfl
          ·
            refine V_ws [(h0, oC 12 [.ref h1, .ref g0, .ref g1, .ref g2, .ref h7, .ref g3, .ref g4, .ref g5, .ref g6, .long 0]), (h1, oC 2 [.ref h2, .ref g7, .ref g8, .ref g9, .ref h4, .ref h6, .ref g10, .ref g11, .ref g12, .ref g13, .ref g14, .int 0]), (h2, oC 3 [.ref h3, .int 1]), (h3, aI Y 6 (upd (fun _ => 0) 0 (-1))), (h4, oC 7 [.ref h5, .int 0]), (h5, aJ Y 6 (fun _ => 0)), (h6, oC 3 [.ref g15, .int 0]), (h7, oC 11 [.ref h1, .ref g16, .ref g17, .ref h8, .ref g18]), (h8, oC 7 [.ref h9, .int 0]), (h9, aJ Y 86 (fun _ => 0))] rfl ?_
            obtain rfl : p2 = 0 := k9
            refine V_iload_n 35 B dX11_cheapest_35 2 rfl ?_
            refine V_iconst 36 B (v := 1) dX11_cheapest_36 (by decide +kernel) ?_
            refine V_icmp_ne 37 B 50 dX11_cheapest_37 (by decide) (fun k15 => ?_) (fun k15 => ?_)
            ·
              refine V_aload_n 50 B dX11_cheapest_50 0 rfl ?_
              refine V_get 51 B gf_RX11_30 0 rfl rfl dX11_cheapest_51 ?_
              refine V_kvl 54 B EB (st := []) (As := []) (fun sz => mX10_cheapestPair_1 l D Y (h7) (h1) (g16) (g17) (h8) (g18) (h9) sz) glV_RX11_314 ⟨rfl, rfl⟩ ⟨(Nat.le_of_ble_eq_true rfl), (Nat.le_of_ble_eq_true rfl)⟩ ⟨(Nat.le_of_ble_eq_true rfl), (Nat.le_of_ble_eq_true rfl)⟩ [7, 0] rfl 11 0 rfl rfl rfl rfl (Nat.le_of_ble_eq_true rfl) rfl (fun _ _ _ => rfl) dX11_cheapest_54 (fun r16 u16 w16 => ?_)
              obtain rfl := w16
              refine V_ws [(h0, oC 12 [.ref h1, .ref g0, .ref g1, .ref g2, .ref h7, .ref g3, .ref g4, .ref g5, .ref g6, .long 0]), (h1, oC 2 [.ref h2, .ref g7, .ref g8, .ref g9, .ref h4, .ref h6, .ref g10, .ref g11, .ref g12, .ref g13, .ref g14, .int 0]), (h2, oC 3 [.ref h3, .int 1]), (h3, aI Y 6 (upd (fun _ => 0) 0 (-1))), (h4, oC 7 [.ref h5, .int 0]), (h5, aJ Y 6 (fun _ => 0)), (h6, oC 3 [.ref g15, .int 0]), (h7, oC 11 [.ref h1, .ref g16, .ref g17, .ref h8, .ref g18]), (h8, oC 7 [.ref h9, .int 0]), (h9, aJ Y 86 (fun _ => 0))] rfl ?_
              refine V_lstore 57 B (lv2 := [(4, .long 134479872), (0, .ref h0), (1, .int 0), (2, .int p1), (3, .int 0)]) dX11_cheapest_57 (by decide) rfl ?_
              refine V_lload 59 B dX11_cheapest_59 0 rfl ?_
              refine V_lconst 61 B (v := 0) dX11_cheapest_61 (by decide +kernel) ?_
              refine V_lcmp 62 B (v := 1) dX11_cheapest_62 (by decide +kernel) ?_
              refine V_if_ne_t 63 B 68 dX11_cheapest_63 (by decide) (by decide +kernel) ?_
              refine V_aload_n 68 B dX11_cheapest_68 1 rfl ?_
              refine V_lload 69 B dX11_cheapest_69 0 rfl ?_
              refine V_put 71 B gp_RX11_68 0 rfl (Nat.le_of_ble_eq_true rfl) rfl rfl dX11_cheapest_71 [(h0, oC 12 [.ref h1, .ref g0, .ref g1, .ref g2, .ref h7, .ref g3, .ref g4, .ref g5, .ref g6, .long 134479872]), (h1, oC 2 [.ref h2, .ref g7, .ref g8, .ref g9, .ref h4, .ref h6, .ref g10, .ref g11, .ref g12, .ref g13, .ref g14, .int 0]), (h2, oC 3 [.ref h3, .int 1]), (h3, aI Y 6 (upd (fun _ => 0) 0 (-1))), (h4, oC 7 [.ref h5, .int 0]), (h5, aJ Y 6 (fun _ => 0)), (h6, oC 3 [.ref g15, .int 0]), (h7, oC 11 [.ref h1, .ref g16, .ref g17, .ref h8, .ref g18]), (h8, oC 7 [.ref h9, .int 0]), (h9, aJ Y 86 (fun _ => 0))] rfl ?_
              refine V_lload 74 B dX11_cheapest_74 0 rfl ?_
              refine V_ksi 76 B EB (st := []) (As := [.long 134479872]) (fun sz => mX6_costOf_2 l D Y  sz) glS_RX11_177 ⟨rfl, rfl⟩ ⟨(Nat.le_of_ble_eq_true rfl), (Nat.le_of_ble_eq_true rfl)⟩ ⟨(Nat.le_of_ble_eq_true rfl), (Nat.le_of_ble_eq_true rfl)⟩ [] rfl rfl (Nat.le_of_ble_eq_true rfl) rfl (fun _ _ _ => rfl) dX11_cheapest_76 (fun r17 u17 w17 => ?_)
              obtain rfl := w17
              refine V_ws [(h0, oC 12 [.ref h1, .ref g0, .ref g1, .ref g2, .ref h7, .ref g3, .ref g4, .ref g5, .ref g6, .long 134479872]), (h1, oC 2 [.ref h2, .ref g7, .ref g8, .ref g9, .ref h4, .ref h6, .ref g10, .ref g11, .ref g12, .ref g13, .ref g14, .int 0]), (h2, oC 3 [.ref h3, .int 1]), (h3, aI Y 6 (upd (fun _ => 0) 0 (-1))), (h4, oC 7 [.ref h5, .int 0]), (h5, aJ Y 6 (fun _ => 0)), (h6, oC 3 [.ref g15, .int 0]), (h7, oC 11 [.ref h1, .ref g16, .ref g17, .ref h8, .ref g18]), (h8, oC 7 [.ref h9, .int 0]), (h9, aJ Y 86 (fun _ => 0))] rfl ?_
              refine V_xret ?_
              refine V_widen (k := 2) (n := 12) (Nat.le_of_ble_eq_true rfl) (Nat.le_of_ble_eq_true rfl) ?_
              exact V_iret 79 B dX11_cheapest_79 2 (Or.inr (Or.inr (Or.inl ⟨rfl, rfl, k5, k6, rfl, k15, rfl⟩))) rfl
            ·
              obtain rfl : p1 = 1 := k15
              refine V_aload_n 40 B dX11_cheapest_40 0 rfl ?_
              refine V_get 41 B gf_RX11_30 0 rfl rfl dX11_cheapest_41 ?_
              refine V_kvl 44 B EB (st := []) (As := []) (fun sz => mX10_cheapestStroke_1 l D Y (h7) (h1) (g16) (g17) (h8) (g18) (h9) sz) glV_RX11_310 ⟨rfl, rfl⟩ ⟨(Nat.le_of_ble_eq_true rfl), (Nat.le_of_ble_eq_true rfl)⟩ ⟨(Nat.le_of_ble_eq_true rfl), (Nat.le_of_ble_eq_true rfl)⟩ [7, 0] rfl 11 0 rfl rfl rfl rfl (Nat.le_of_ble_eq_true rfl) rfl (fun _ _ _ => rfl) dX11_cheapest_44 (fun r18 u18 w18 => ?_)
              obtain rfl := w18
              refine V_ws [(h0, oC 12 [.ref h1, .ref g0, .ref g1, .ref g2, .ref h7, .ref g3, .ref g4, .ref g5, .ref g6, .long 0]), (h1, oC 2 [.ref h2, .ref g7, .ref g8, .ref g9, .ref h4, .ref h6, .ref g10, .ref g11, .ref g12, .ref g13, .ref g14, .int 0]), (h2, oC 3 [.ref h3, .int 1]), (h3, aI Y 6 (upd (fun _ => 0) 0 (-1))), (h4, oC 7 [.ref h5, .int 0]), (h5, aJ Y 6 (fun _ => 0)), (h6, oC 3 [.ref g15, .int 0]), (h7, oC 11 [.ref h1, .ref g16, .ref g17, .ref h8, .ref g18]), (h8, oC 7 [.ref h9, .int 0]), (h9, aJ Y 86 (fun _ => 0))] rfl ?_
              refine V_goto 47 B 57 dX11_cheapest_47 (by decide) ?_
              refine V_lstore 57 B (lv2 := [(4, .long 134217728), (0, .ref h0), (1, .int 0), (2, .int 1), (3, .int 0)]) dX11_cheapest_57 (by decide) rfl ?_
              refine V_lload 59 B dX11_cheapest_59 0 rfl ?_
              refine V_lconst 61 B (v := 0) dX11_cheapest_61 (by decide +kernel) ?_
              refine V_lcmp 62 B (v := 1) dX11_cheapest_62 (by decide +kernel) ?_
              refine V_if_ne_t 63 B 68 dX11_cheapest_63 (by decide) (by decide +kernel) ?_
              refine V_aload_n 68 B dX11_cheapest_68 1 rfl ?_
              refine V_lload 69 B dX11_cheapest_69 0 rfl ?_
              refine V_put 71 B gp_RX11_68 0 rfl (Nat.le_of_ble_eq_true rfl) rfl rfl dX11_cheapest_71 [(h0, oC 12 [.ref h1, .ref g0, .ref g1, .ref g2, .ref h7, .ref g3, .ref g4, .ref g5, .ref g6, .long 134217728]), (h1, oC 2 [.ref h2, .ref g7, .ref g8, .ref g9, .ref h4, .ref h6, .ref g10, .ref g11, .ref g12, .ref g13, .ref g14, .int 0]), (h2, oC 3 [.ref h3, .int 1]), (h3, aI Y 6 (upd (fun _ => 0) 0 (-1))), (h4, oC 7 [.ref h5, .int 0]), (h5, aJ Y 6 (fun _ => 0)), (h6, oC 3 [.ref g15, .int 0]), (h7, oC 11 [.ref h1, .ref g16, .ref g17, .ref h8, .ref g18]), (h8, oC 7 [.ref h9, .int 0]), (h9, aJ Y 86 (fun _ => 0))] rfl ?_
              refine V_lload 74 B dX11_cheapest_74 0 rfl ?_
              refine V_ksi 76 B EB (st := []) (As := [.long 134217728]) (fun sz => mX6_costOf_3 l D Y  sz) glS_RX11_177 ⟨rfl, rfl⟩ ⟨(Nat.le_of_ble_eq_true rfl), (Nat.le_of_ble_eq_true rfl)⟩ ⟨(Nat.le_of_ble_eq_true rfl), (Nat.le_of_ble_eq_true rfl)⟩ [] rfl rfl (Nat.le_of_ble_eq_true rfl) rfl (fun _ _ _ => rfl) dX11_cheapest_76 (fun r19 u19 w19 => ?_)
              obtain rfl := w19
              refine V_ws [(h0, oC 12 [.ref h1, .ref g0, .ref g1, .ref g2, .ref h7, .ref g3, .ref g4, .ref g5, .ref g6, .long 134217728]), (h1, oC 2 [.ref h2, .ref g7, .ref g8, .ref g9, .ref h4, .ref h6, .ref g10, .ref g11, .ref g12, .ref g13, .ref g14, .int 0]), (h2, oC 3 [.ref h3, .int 1]), (h3, aI Y 6 (upd (fun _ => 0) 0 (-1))), (h4, oC 7 [.ref h5, .int 0]), (h5, aJ Y 6 (fun _ => 0)), (h6, oC 3 [.ref g15, .int 0]), (h7, oC 11 [.ref h1, .ref g16, .ref g17, .ref h8, .ref g18]), (h8, oC 7 [.ref h9, .int 0]), (h9, aJ Y 86 (fun _ => 0))] rfl ?_
              refine V_xret ?_
              refine V_widen (k := 2) (n := 12) (Nat.le_of_ble_eq_true rfl) (Nat.le_of_ble_eq_true rfl) ?_
              exact V_iret 79 B dX11_cheapest_79 3 (Or.inr (Or.inr (Or.inr ⟨rfl, rfl, rfl, rfl, rfl⟩))) rfl
        ·
          exact V_throwSW 15 B EB hl9 gt_RX11_190_308_194 hout dX11_cheapest_15 dX11_cheapest_18 dX11_cheapest_19 dX11_cheapest_22 dX11_cheapest_25 (Nat.le_of_ble_eq_true rfl) (Nat.le_of_ble_eq_true rfl) (Nat.le_of_ble_eq_true rfl) (Nat.le_of_ble_eq_true rfl) (Nat.le_of_ble_eq_true rfl) (Nat.le_of_ble_eq_true rfl) () (Or.inr (Or.inr (Or.inr ⟨rfl, rfl, k5, k6⟩))) rfl)
def simF (p0 : Int32) : Int32 := (if (p0 / 26) = 0 then (p0 - p0 / 26 * 26) else ((32 * ((1 : Int32) <<< (((p0 / 26) - 1) &&& 31))) + (p0 - p0 / 26 * 26)))
set_option maxRecDepth 100000 in
set_option maxHeartbeats 4000000 in
theorem mX12_simpleStroke_simF (l : Launch) (D : va_G) (Y : Nat → ClassId) (p0 : Int32)  (sz : Nat) : Met l yX12_simpleStroke (WSm yX12_simpleStroke cX12_simpleStroke 2 (some .int)) (mkR 0 0 0 0) (PreC D Y [.int p0] [] sz) (QI D (fun (r : Int32) (u : Unit) => simF p0 = r) (fun (_ : Unit) => []) (va_A [] sz)) 0 0 (va_A [] sz) :=
  met_of (by decide +kernel) (Nat.le_of_ble_eq_true rfl) (fun p e s m args below meth c B hin hsz => by
    have B : VB p s m args meth c D Y (va_A [] sz) cX12_simpleStroke 2 RX12 (some .int) := B
    refine V_iload_n 0 B dX12_simpleStroke_0 0 rfl ?_
    refine V_bipush 1 B (v := 26) dX12_simpleStroke_1 (by decide +kernel) ?_
    refine V_idiv 3 B dX12_simpleStroke_3 (by decide +kernel) rfl ?_
    refine V_istore_n 4 B (lv2 := [(1, .int (p0 / 26)), (0, .int p0)]) dX12_simpleStroke_4 (by decide) rfl ?_
    refine V_bipush 5 B (v := 32) dX12_simpleStroke_5 (by decide +kernel) ?_
    refine V_iload_n 7 B dX12_simpleStroke_7 0 rfl ?_
    refine V_if_ne 8 B 15 dX12_simpleStroke_8 (by decide) (fun k0 => ?_) (fun k0 => ?_)
    ·
      refine V_iconst 15 B (v := 1) dX12_simpleStroke_15 (by decide +kernel) ?_
      refine V_iload_n 16 B dX12_simpleStroke_16 0 rfl ?_
      refine V_iconst 17 B (v := 1) dX12_simpleStroke_17 (by decide +kernel) ?_
      refine V_isub 18 B dX12_simpleStroke_18 rfl ?_
      refine V_ishl 19 B dX12_simpleStroke_19 rfl ?_
      refine V_imul 20 B dX12_simpleStroke_20 rfl ?_
      refine V_iload_n 21 B dX12_simpleStroke_21 1 rfl ?_
      refine V_bipush 22 B (v := 26) dX12_simpleStroke_22 (by decide +kernel) ?_
      refine V_irem 24 B dX12_simpleStroke_24 (by decide +kernel) rfl ?_
      refine V_iadd 25 B dX12_simpleStroke_25 rfl ?_
      exact V_iret 26 B dX12_simpleStroke_26 () (by
      unfold simF
      rw [if_neg k0]) rfl
    ·
      refine V_iconst 11 B (v := 0) dX12_simpleStroke_11 (by decide +kernel) ?_
      refine V_goto 12 B 20 dX12_simpleStroke_12 (by decide) ?_
      refine V_imul 20 B (v := 0) dX12_simpleStroke_20 (by decide +kernel) ?_
      refine V_iload_n 21 B dX12_simpleStroke_21 1 rfl ?_
      refine V_bipush 22 B (v := 26) dX12_simpleStroke_22 (by decide +kernel) ?_
      refine V_irem 24 B dX12_simpleStroke_24 (by decide +kernel) rfl ?_
      refine V_iadd 25 B dX12_simpleStroke_25 (Int32.zero_add _) ?_
      exact V_iret 26 B dX12_simpleStroke_26 () (by
      unfold simF
      rw [if_pos k0]) rfl)
def kcF (p0 : Int32) : Int32 := (if (97 + p0) = 97 then 1 else (if (97 + p0) = 98 then 3 else (if (97 + p0) = 99 then 3 else (if (97 + p0) = 100 then 1 else (if (97 + p0) = 101 then 2 else (if (97 + p0) = 102 then 1 else (if (97 + p0) = 103 then 1 else (if (97 + p0) = 104 then 1 else (if (97 + p0) = 105 then 2 else (if (97 + p0) = 106 then 1 else (if (97 + p0) = 107 then 1 else (if (97 + p0) = 108 then 1 else (if (97 + p0) = 109 then 3 else (if (97 + p0) = 110 then 3 else (if (97 + p0) = 111 then 2 else (if (97 + p0) = 112 then 2 else (if (97 + p0) = 113 then 2 else (if (97 + p0) = 114 then 2 else (if (97 + p0) = 115 then 1 else (if (97 + p0) = 116 then 2 else (if (97 + p0) = 117 then 2 else (if (97 + p0) = 118 then 3 else (if (97 + p0) = 119 then 2 else (if (97 + p0) = 120 then 3 else (if (97 + p0) = 121 then 2 else 3)))))))))))))))))))))))))
theorem dX12_keyCost_0 : decode cX12_keyCost 0 = .ok (.bipush 97, 2) := by decide +kernel
theorem dX12_keyCost_2 : decode cX12_keyCost 2 = .ok (.iload_n 0, 1) := by decide +kernel
theorem dX12_keyCost_3 : decode cX12_keyCost 3 = .ok (.iadd, 1) := by decide +kernel
theorem dX12_keyCost_4 : decode cX12_keyCost 4 = .ok (.tableswitch 120 97 121 #[116, 120, 120, 116, 118, 116, 116, 116, 118, 116, 116, 116, 120, 120, 118, 118, 118, 118, 116, 118, 118, 120, 118, 120, 118], 116) := by decide +kernel
theorem dX12_keyCost_120 : decode cX12_keyCost 120 = .ok (.iconst 1, 1) := by decide +kernel
theorem dX12_keyCost_121 : decode cX12_keyCost 121 = .ok (.ireturn, 1) := by decide +kernel
theorem dX12_keyCost_124 : decode cX12_keyCost 124 = .ok (.iconst 3, 1) := by decide +kernel
theorem dX12_keyCost_125 : decode cX12_keyCost 125 = .ok (.ireturn, 1) := by decide +kernel
theorem dX12_keyCost_122 : decode cX12_keyCost 122 = .ok (.iconst 2, 1) := by decide +kernel
theorem dX12_keyCost_123 : decode cX12_keyCost 123 = .ok (.ireturn, 1) := by decide +kernel
theorem sw_out_97_121 {x : Int32} (h97 : ¬ x = 97) (h98 : ¬ x = 98) (h99 : ¬ x = 99) (h100 : ¬ x = 100) (h101 : ¬ x = 101) (h102 : ¬ x = 102) (h103 : ¬ x = 103) (h104 : ¬ x = 104) (h105 : ¬ x = 105) (h106 : ¬ x = 106) (h107 : ¬ x = 107) (h108 : ¬ x = 108) (h109 : ¬ x = 109) (h110 : ¬ x = 110) (h111 : ¬ x = 111) (h112 : ¬ x = 112) (h113 : ¬ x = 113) (h114 : ¬ x = 114) (h115 : ¬ x = 115) (h116 : ¬ x = 116) (h117 : ¬ x = 117) (h118 : ¬ x = 118) (h119 : ¬ x = 119) (h120 : ¬ x = 120) (h121 : ¬ x = 121) : x.toInt < 97 ∨ 121 < x.toInt := by
  have e97 := neT (n := 97) h97 (by decide +kernel)
  have e98 := neT (n := 98) h98 (by decide +kernel)
  have e99 := neT (n := 99) h99 (by decide +kernel)
  have e100 := neT (n := 100) h100 (by decide +kernel)
  have e101 := neT (n := 101) h101 (by decide +kernel)
  have e102 := neT (n := 102) h102 (by decide +kernel)
  have e103 := neT (n := 103) h103 (by decide +kernel)
  have e104 := neT (n := 104) h104 (by decide +kernel)
  have e105 := neT (n := 105) h105 (by decide +kernel)
  have e106 := neT (n := 106) h106 (by decide +kernel)
  have e107 := neT (n := 107) h107 (by decide +kernel)
  have e108 := neT (n := 108) h108 (by decide +kernel)
  have e109 := neT (n := 109) h109 (by decide +kernel)
  have e110 := neT (n := 110) h110 (by decide +kernel)
  have e111 := neT (n := 111) h111 (by decide +kernel)
  have e112 := neT (n := 112) h112 (by decide +kernel)
  have e113 := neT (n := 113) h113 (by decide +kernel)
  have e114 := neT (n := 114) h114 (by decide +kernel)
  have e115 := neT (n := 115) h115 (by decide +kernel)
  have e116 := neT (n := 116) h116 (by decide +kernel)
  have e117 := neT (n := 117) h117 (by decide +kernel)
  have e118 := neT (n := 118) h118 (by decide +kernel)
  have e119 := neT (n := 119) h119 (by decide +kernel)
  have e120 := neT (n := 120) h120 (by decide +kernel)
  have e121 := neT (n := 121) h121 (by decide +kernel)
  omega
set_option maxRecDepth 100000 in
set_option maxHeartbeats 4000000 in
theorem mX12_keyCost_kcF (l : Launch) (D : va_G) (Y : Nat → ClassId) (p0 : Int32)  (sz : Nat) : Met l yX12_keyCost (WSm yX12_keyCost cX12_keyCost 1 (some .int)) (mkR 0 0 0 0) (PreC D Y [.int p0] [] sz) (QI D (fun (r : Int32) (u : Unit) => kcF p0 = r) (fun (_ : Unit) => []) (va_A [] sz)) 0 0 (va_A [] sz) :=
  met_of (by decide +kernel) (Nat.le_of_ble_eq_true rfl) (fun p e s m args below meth c B hin hsz => by
    have B : VB p s m args meth c D Y (va_A [] sz) cX12_keyCost 1 RX12 (some .int) := B
    refine V_bipush 0 B (v := 97) dX12_keyCost_0 (by decide +kernel) ?_
    refine V_iload_n 2 B dX12_keyCost_2 0 rfl ?_
    refine V_iadd 3 B dX12_keyCost_3 rfl ?_
    by_cases k0 : (97 + p0) = 97
    ·
      refine V_eqi _ 97 k0 ?_
      refine V_tableIn 4 B 120 dX12_keyCost_4 (by decide +kernel) (by decide +kernel) (off := 116) (by decide +kernel) (by decide) ?_
      refine V_iconst 120 B (v := 1) dX12_keyCost_120 (by decide +kernel) ?_
      exact V_iret 121 B dX12_keyCost_121 () (by
      unfold kcF
      rw [if_pos k0]) rfl
    ·
      by_cases k1 : (97 + p0) = 98
      ·
        refine V_eqi _ 98 k1 ?_
        refine V_tableIn 4 B 124 dX12_keyCost_4 (by decide +kernel) (by decide +kernel) (off := 120) (by decide +kernel) (by decide) ?_
        refine V_iconst 124 B (v := 3) dX12_keyCost_124 (by decide +kernel) ?_
        exact V_iret 125 B dX12_keyCost_125 () (by
      unfold kcF
      rw [if_neg k0, if_pos k1]) rfl
      ·
        by_cases k2 : (97 + p0) = 99
        ·
          refine V_eqi _ 99 k2 ?_
          refine V_tableIn 4 B 124 dX12_keyCost_4 (by decide +kernel) (by decide +kernel) (off := 120) (by decide +kernel) (by decide) ?_
          refine V_iconst 124 B (v := 3) dX12_keyCost_124 (by decide +kernel) ?_
          exact V_iret 125 B dX12_keyCost_125 () (by
      unfold kcF
      rw [if_neg k0, if_neg k1, if_pos k2]) rfl
        ·
          by_cases k3 : (97 + p0) = 100
          ·
            refine V_eqi _ 100 k3 ?_
            refine V_tableIn 4 B 120 dX12_keyCost_4 (by decide +kernel) (by decide +kernel) (off := 116) (by decide +kernel) (by decide) ?_
            refine V_iconst 120 B (v := 1) dX12_keyCost_120 (by decide +kernel) ?_
            exact V_iret 121 B dX12_keyCost_121 () (by
      unfold kcF
      rw [if_neg k0, if_neg k1, if_neg k2, if_pos k3]) rfl
          ·
            by_cases k4 : (97 + p0) = 101
            ·
              refine V_eqi _ 101 k4 ?_
              refine V_tableIn 4 B 122 dX12_keyCost_4 (by decide +kernel) (by decide +kernel) (off := 118) (by decide +kernel) (by decide) ?_
              refine V_iconst 122 B (v := 2) dX12_keyCost_122 (by decide +kernel) ?_
              exact V_iret 123 B dX12_keyCost_123 () (by
      unfold kcF
      rw [if_neg k0, if_neg k1, if_neg k2, if_neg k3, if_pos k4]) rfl
            ·
              by_cases k5 : (97 + p0) = 102
              ·
                refine V_eqi _ 102 k5 ?_
                refine V_tableIn 4 B 120 dX12_keyCost_4 (by decide +kernel) (by decide +kernel) (off := 116) (by decide +kernel) (by decide) ?_
                refine V_iconst 120 B (v := 1) dX12_keyCost_120 (by decide +kernel) ?_
                exact V_iret 121 B dX12_keyCost_121 () (by
      unfold kcF
      rw [if_neg k0, if_neg k1, if_neg k2, if_neg k3, if_neg k4, if_pos k5]) rfl
              ·
                by_cases k6 : (97 + p0) = 103
                ·
                  refine V_eqi _ 103 k6 ?_
                  refine V_tableIn 4 B 120 dX12_keyCost_4 (by decide +kernel) (by decide +kernel) (off := 116) (by decide +kernel) (by decide) ?_
                  refine V_iconst 120 B (v := 1) dX12_keyCost_120 (by decide +kernel) ?_
                  exact V_iret 121 B dX12_keyCost_121 () (by
      unfold kcF
      rw [if_neg k0, if_neg k1, if_neg k2, if_neg k3, if_neg k4, if_neg k5, if_pos k6]) rfl
                ·
                  by_cases k7 : (97 + p0) = 104
                  ·
                    refine V_eqi _ 104 k7 ?_
                    refine V_tableIn 4 B 120 dX12_keyCost_4 (by decide +kernel) (by decide +kernel) (off := 116) (by decide +kernel) (by decide) ?_
                    refine V_iconst 120 B (v := 1) dX12_keyCost_120 (by decide +kernel) ?_
                    exact V_iret 121 B dX12_keyCost_121 () (by
      unfold kcF
      rw [if_neg k0, if_neg k1, if_neg k2, if_neg k3, if_neg k4, if_neg k5, if_neg k6, if_pos k7]) rfl
                  ·
                    by_cases k8 : (97 + p0) = 105
                    ·
                      refine V_eqi _ 105 k8 ?_
                      refine V_tableIn 4 B 122 dX12_keyCost_4 (by decide +kernel) (by decide +kernel) (off := 118) (by decide +kernel) (by decide) ?_
                      refine V_iconst 122 B (v := 2) dX12_keyCost_122 (by decide +kernel) ?_
                      exact V_iret 123 B dX12_keyCost_123 () (by
      unfold kcF
      rw [if_neg k0, if_neg k1, if_neg k2, if_neg k3, if_neg k4, if_neg k5, if_neg k6, if_neg k7, if_pos k8]) rfl
                    ·
                      by_cases k9 : (97 + p0) = 106
                      ·
                        refine V_eqi _ 106 k9 ?_
                        refine V_tableIn 4 B 120 dX12_keyCost_4 (by decide +kernel) (by decide +kernel) (off := 116) (by decide +kernel) (by decide) ?_
                        refine V_iconst 120 B (v := 1) dX12_keyCost_120 (by decide +kernel) ?_
                        exact V_iret 121 B dX12_keyCost_121 () (by
      unfold kcF
      rw [if_neg k0, if_neg k1, if_neg k2, if_neg k3, if_neg k4, if_neg k5, if_neg k6, if_neg k7, if_neg k8, if_pos k9]) rfl
                      ·
                        by_cases k10 : (97 + p0) = 107
                        ·
                          refine V_eqi _ 107 k10 ?_
                          refine V_tableIn 4 B 120 dX12_keyCost_4 (by decide +kernel) (by decide +kernel) (off := 116) (by decide +kernel) (by decide) ?_
                          refine V_iconst 120 B (v := 1) dX12_keyCost_120 (by decide +kernel) ?_
                          exact V_iret 121 B dX12_keyCost_121 () (by
      unfold kcF
      rw [if_neg k0, if_neg k1, if_neg k2, if_neg k3, if_neg k4, if_neg k5, if_neg k6, if_neg k7, if_neg k8, if_neg k9, if_pos k10]) rfl
                        ·
                          by_cases k11 : (97 + p0) = 108
                          ·
                            refine V_eqi _ 108 k11 ?_
                            refine V_tableIn 4 B 120 dX12_keyCost_4 (by decide +kernel) (by decide +kernel) (off := 116) (by decide +kernel) (by decide) ?_
                            refine V_iconst 120 B (v := 1) dX12_keyCost_120 (by decide +kernel) ?_
                            exact V_iret 121 B dX12_keyCost_121 () (by
      unfold kcF
      rw [if_neg k0, if_neg k1, if_neg k2, if_neg k3, if_neg k4, if_neg k5, if_neg k6, if_neg k7, if_neg k8, if_neg k9, if_neg k10, if_pos k11]) rfl
                          ·
                            by_cases k12 : (97 + p0) = 109
                            ·
                              refine V_eqi _ 109 k12 ?_
                              refine V_tableIn 4 B 124 dX12_keyCost_4 (by decide +kernel) (by decide +kernel) (off := 120) (by decide +kernel) (by decide) ?_
                              refine V_iconst 124 B (v := 3) dX12_keyCost_124 (by decide +kernel) ?_
                              exact V_iret 125 B dX12_keyCost_125 () (by
      unfold kcF
      rw [if_neg k0, if_neg k1, if_neg k2, if_neg k3, if_neg k4, if_neg k5, if_neg k6, if_neg k7, if_neg k8, if_neg k9, if_neg k10, if_neg k11, if_pos k12]) rfl
                            ·
                              by_cases k13 : (97 + p0) = 110
                              ·
                                refine V_eqi _ 110 k13 ?_
                                refine V_tableIn 4 B 124 dX12_keyCost_4 (by decide +kernel) (by decide +kernel) (off := 120) (by decide +kernel) (by decide) ?_
                                refine V_iconst 124 B (v := 3) dX12_keyCost_124 (by decide +kernel) ?_
                                exact V_iret 125 B dX12_keyCost_125 () (by
      unfold kcF
      rw [if_neg k0, if_neg k1, if_neg k2, if_neg k3, if_neg k4, if_neg k5, if_neg k6, if_neg k7, if_neg k8, if_neg k9, if_neg k10, if_neg k11, if_neg k12, if_pos k13]) rfl
                              ·
                                by_cases k14 : (97 + p0) = 111
                                ·
                                  refine V_eqi _ 111 k14 ?_
                                  refine V_tableIn 4 B 122 dX12_keyCost_4 (by decide +kernel) (by decide +kernel) (off := 118) (by decide +kernel) (by decide) ?_
                                  refine V_iconst 122 B (v := 2) dX12_keyCost_122 (by decide +kernel) ?_
                                  exact V_iret 123 B dX12_keyCost_123 () (by
      unfold kcF
      rw [if_neg k0, if_neg k1, if_neg k2, if_neg k3, if_neg k4, if_neg k5, if_neg k6, if_neg k7, if_neg k8, if_neg k9, if_neg k10, if_neg k11, if_neg k12, if_neg k13, if_pos k14]) rfl
                                ·
                                  by_cases k15 : (97 + p0) = 112
                                  ·
                                    refine V_eqi _ 112 k15 ?_
                                    refine V_tableIn 4 B 122 dX12_keyCost_4 (by decide +kernel) (by decide +kernel) (off := 118) (by decide +kernel) (by decide) ?_
                                    refine V_iconst 122 B (v := 2) dX12_keyCost_122 (by decide +kernel) ?_
                                    exact V_iret 123 B dX12_keyCost_123 () (by
      unfold kcF
      rw [if_neg k0, if_neg k1, if_neg k2, if_neg k3, if_neg k4, if_neg k5, if_neg k6, if_neg k7, if_neg k8, if_neg k9, if_neg k10, if_neg k11, if_neg k12, if_neg k13, if_neg k14, if_pos k15]) rfl
                                  ·
                                    by_cases k16 : (97 + p0) = 113
                                    ·
                                      refine V_eqi _ 113 k16 ?_
                                      refine V_tableIn 4 B 122 dX12_keyCost_4 (by decide +kernel) (by decide +kernel) (off := 118) (by decide +kernel) (by decide) ?_
                                      refine V_iconst 122 B (v := 2) dX12_keyCost_122 (by decide +kernel) ?_
                                      exact V_iret 123 B dX12_keyCost_123 () (by
      unfold kcF
      rw [if_neg k0, if_neg k1, if_neg k2, if_neg k3, if_neg k4, if_neg k5, if_neg k6, if_neg k7, if_neg k8, if_neg k9, if_neg k10, if_neg k11, if_neg k12, if_neg k13, if_neg k14, if_neg k15, if_pos k16]) rfl
                                    ·
                                      by_cases k17 : (97 + p0) = 114
                                      ·
                                        refine V_eqi _ 114 k17 ?_
                                        refine V_tableIn 4 B 122 dX12_keyCost_4 (by decide +kernel) (by decide +kernel) (off := 118) (by decide +kernel) (by decide) ?_
                                        refine V_iconst 122 B (v := 2) dX12_keyCost_122 (by decide +kernel) ?_
                                        exact V_iret 123 B dX12_keyCost_123 () (by
      unfold kcF
      rw [if_neg k0, if_neg k1, if_neg k2, if_neg k3, if_neg k4, if_neg k5, if_neg k6, if_neg k7, if_neg k8, if_neg k9, if_neg k10, if_neg k11, if_neg k12, if_neg k13, if_neg k14, if_neg k15, if_neg k16, if_pos k17]) rfl
                                      ·
                                        by_cases k18 : (97 + p0) = 115
                                        ·
                                          refine V_eqi _ 115 k18 ?_
                                          refine V_tableIn 4 B 120 dX12_keyCost_4 (by decide +kernel) (by decide +kernel) (off := 116) (by decide +kernel) (by decide) ?_
                                          refine V_iconst 120 B (v := 1) dX12_keyCost_120 (by decide +kernel) ?_
                                          exact V_iret 121 B dX12_keyCost_121 () (by
      unfold kcF
      rw [if_neg k0, if_neg k1, if_neg k2, if_neg k3, if_neg k4, if_neg k5, if_neg k6, if_neg k7, if_neg k8, if_neg k9, if_neg k10, if_neg k11, if_neg k12, if_neg k13, if_neg k14, if_neg k15, if_neg k16, if_neg k17, if_pos k18]) rfl
                                        ·
                                          by_cases k19 : (97 + p0) = 116
                                          ·
                                            refine V_eqi _ 116 k19 ?_
                                            refine V_tableIn 4 B 122 dX12_keyCost_4 (by decide +kernel) (by decide +kernel) (off := 118) (by decide +kernel) (by decide) ?_
                                            refine V_iconst 122 B (v := 2) dX12_keyCost_122 (by decide +kernel) ?_
                                            exact V_iret 123 B dX12_keyCost_123 () (by
      unfold kcF
      rw [if_neg k0, if_neg k1, if_neg k2, if_neg k3, if_neg k4, if_neg k5, if_neg k6, if_neg k7, if_neg k8, if_neg k9, if_neg k10, if_neg k11, if_neg k12, if_neg k13, if_neg k14, if_neg k15, if_neg k16, if_neg k17, if_neg k18, if_pos k19]) rfl
                                          ·
                                            by_cases k20 : (97 + p0) = 117
                                            ·
                                              refine V_eqi _ 117 k20 ?_
                                              refine V_tableIn 4 B 122 dX12_keyCost_4 (by decide +kernel) (by decide +kernel) (off := 118) (by decide +kernel) (by decide) ?_
                                              refine V_iconst 122 B (v := 2) dX12_keyCost_122 (by decide +kernel) ?_
                                              exact V_iret 123 B dX12_keyCost_123 () (by
      unfold kcF
      rw [if_neg k0, if_neg k1, if_neg k2, if_neg k3, if_neg k4, if_neg k5, if_neg k6, if_neg k7, if_neg k8, if_neg k9, if_neg k10, if_neg k11, if_neg k12, if_neg k13, if_neg k14, if_neg k15, if_neg k16, if_neg k17, if_neg k18, if_neg k19, if_pos k20]) rfl
                                            ·
                                              by_cases k21 : (97 + p0) = 118
                                              ·
                                                refine V_eqi _ 118 k21 ?_
                                                refine V_tableIn 4 B 124 dX12_keyCost_4 (by decide +kernel) (by decide +kernel) (off := 120) (by decide +kernel) (by decide) ?_
                                                refine V_iconst 124 B (v := 3) dX12_keyCost_124 (by decide +kernel) ?_
                                                exact V_iret 125 B dX12_keyCost_125 () (by
      unfold kcF
      rw [if_neg k0, if_neg k1, if_neg k2, if_neg k3, if_neg k4, if_neg k5, if_neg k6, if_neg k7, if_neg k8, if_neg k9, if_neg k10, if_neg k11, if_neg k12, if_neg k13, if_neg k14, if_neg k15, if_neg k16, if_neg k17, if_neg k18, if_neg k19, if_neg k20, if_pos k21]) rfl
                                              ·
                                                by_cases k22 : (97 + p0) = 119
                                                ·
                                                  refine V_eqi _ 119 k22 ?_
                                                  refine V_tableIn 4 B 122 dX12_keyCost_4 (by decide +kernel) (by decide +kernel) (off := 118) (by decide +kernel) (by decide) ?_
                                                  refine V_iconst 122 B (v := 2) dX12_keyCost_122 (by decide +kernel) ?_
                                                  exact V_iret 123 B dX12_keyCost_123 () (by
      unfold kcF
      rw [if_neg k0, if_neg k1, if_neg k2, if_neg k3, if_neg k4, if_neg k5, if_neg k6, if_neg k7, if_neg k8, if_neg k9, if_neg k10, if_neg k11, if_neg k12, if_neg k13, if_neg k14, if_neg k15, if_neg k16, if_neg k17, if_neg k18, if_neg k19, if_neg k20, if_neg k21, if_pos k22]) rfl
                                                ·
                                                  by_cases k23 : (97 + p0) = 120
                                                  ·
                                                    refine V_eqi _ 120 k23 ?_
                                                    refine V_tableIn 4 B 124 dX12_keyCost_4 (by decide +kernel) (by decide +kernel) (off := 120) (by decide +kernel) (by decide) ?_
                                                    refine V_iconst 124 B (v := 3) dX12_keyCost_124 (by decide +kernel) ?_
                                                    exact V_iret 125 B dX12_keyCost_125 () (by
      unfold kcF
      rw [if_neg k0, if_neg k1, if_neg k2, if_neg k3, if_neg k4, if_neg k5, if_neg k6, if_neg k7, if_neg k8, if_neg k9, if_neg k10, if_neg k11, if_neg k12, if_neg k13, if_neg k14, if_neg k15, if_neg k16, if_neg k17, if_neg k18, if_neg k19, if_neg k20, if_neg k21, if_neg k22, if_pos k23]) rfl
                                                  ·
                                                    by_cases k24 : (97 + p0) = 121
                                                    ·
                                                      refine V_eqi _ 121 k24 ?_
                                                      refine V_tableIn 4 B 122 dX12_keyCost_4 (by decide +kernel) (by decide +kernel) (off := 118) (by decide +kernel) (by decide) ?_
                                                      refine V_iconst 122 B (v := 2) dX12_keyCost_122 (by decide +kernel) ?_
                                                      exact V_iret 123 B dX12_keyCost_123 () (by
      unfold kcF
      rw [if_neg k0, if_neg k1, if_neg k2, if_neg k3, if_neg k4, if_neg k5, if_neg k6, if_neg k7, if_neg k8, if_neg k9, if_neg k10, if_neg k11, if_neg k12, if_neg k13, if_neg k14, if_neg k15, if_neg k16, if_neg k17, if_neg k18, if_neg k19, if_neg k20, if_neg k21, if_neg k22, if_neg k23, if_pos k24]) rfl
                                                    ·
                                                      refine V_tableOut 4 B 124 dX12_keyCost_4 (sw_out_97_121 k0 k1 k2 k3 k4 k5 k6 k7 k8 k9 k10 k11 k12 k13 k14 k15 k16 k17 k18 k19 k20 k21 k22 k23 k24) (by decide) ?_
                                                      refine V_iconst 124 B (v := 3) dX12_keyCost_124 (by decide +kernel) ?_
                                                      exact V_iret 125 B dX12_keyCost_125 () (by
      unfold kcF
      rw [if_neg k0, if_neg k1, if_neg k2, if_neg k3, if_neg k4, if_neg k5, if_neg k6, if_neg k7, if_neg k8, if_neg k9, if_neg k10, if_neg k11, if_neg k12, if_neg k13, if_neg k14, if_neg k15, if_neg k16, if_neg k17, if_neg k18, if_neg k19, if_neg k20, if_neg k21, if_neg k22, if_neg k23, if_neg k24]) rfl)
def scoF (p0 : Int32) : Int32 := (if (p0 / 32) ≤ 0 then (kcF (p0 - p0 / 32 * 32)) else (if ((p0 / 32) / 2) ≤ 0 then ((kcF (p0 - p0 / 32 * 32)) + (2 * ((p0 / 32) - (p0 / 32) / 2 * 2))) else (if (((p0 / 32) / 2) / 2) ≤ 0 then (((kcF (p0 - p0 / 32 * 32)) + (2 * ((p0 / 32) - (p0 / 32) / 2 * 2))) + (2 * (((p0 / 32) / 2) - ((p0 / 32) / 2) / 2 * 2))) else (if ((((p0 / 32) / 2) / 2) / 2) ≤ 0 then ((((kcF (p0 - p0 / 32 * 32)) + (2 * ((p0 / 32) - (p0 / 32) / 2 * 2))) + (2 * (((p0 / 32) / 2) - ((p0 / 32) / 2) / 2 * 2))) + (2 * ((((p0 / 32) / 2) / 2) - (((p0 / 32) / 2) / 2) / 2 * 2))) else (((((kcF (p0 - p0 / 32 * 32)) + (2 * ((p0 / 32) - (p0 / 32) / 2 * 2))) + (2 * (((p0 / 32) / 2) - ((p0 / 32) / 2) / 2 * 2))) + (2 * ((((p0 / 32) / 2) / 2) - (((p0 / 32) / 2) / 2) / 2 * 2))) + (2 * (((((p0 / 32) / 2) / 2) / 2) - ((((p0 / 32) / 2) / 2) / 2) / 2 * 2)))))))
theorem dX12_strokeCost_0 : decode cX12_strokeCost 0 = .ok (.iload_n 0, 1) := by decide +kernel
theorem dX12_strokeCost_1 : decode cX12_strokeCost 1 = .ok (.bipush 32, 2) := by decide +kernel
theorem dX12_strokeCost_3 : decode cX12_strokeCost 3 = .ok (.irem, 1) := by decide +kernel
theorem dX12_strokeCost_4 : decode cX12_strokeCost 4 = .ok (.invokestatic 51, 3) := by decide +kernel
theorem glS_RX12_51 : GLS RX12 51 yX12_keyCost cX12_keyCost 1 (some .int) 1 := ⟨⟨(mT8 4 rfl rfl), (mT8 5 rfl rfl), (mT1 13 rfl rfl), (mT8 6 rfl rfl)⟩, by decide +kernel⟩
theorem dX12_strokeCost_7 : decode cX12_strokeCost 7 = .ok (.istore_n 1, 1) := by decide +kernel
theorem dX12_strokeCost_8 : decode cX12_strokeCost 8 = .ok (.iload_n 0, 1) := by decide +kernel
theorem dX12_strokeCost_9 : decode cX12_strokeCost 9 = .ok (.bipush 32, 2) := by decide +kernel
theorem dX12_strokeCost_11 : decode cX12_strokeCost 11 = .ok (.idiv, 1) := by decide +kernel
theorem dX12_strokeCost_12 : decode cX12_strokeCost 12 = .ok (.istore_n 2, 1) := by decide +kernel
theorem dX12_strokeCost_13 : decode cX12_strokeCost 13 = .ok (.iload_n 2, 1) := by decide +kernel
theorem dX12_strokeCost_14 : decode cX12_strokeCost 14 = .ok (.ifCond .le 18, 3) := by decide +kernel
theorem dX12_strokeCost_32 : decode cX12_strokeCost 32 = .ok (.iload_n 1, 1) := by decide +kernel
theorem dX12_strokeCost_33 : decode cX12_strokeCost 33 = .ok (.ireturn, 1) := by decide +kernel
theorem dX12_strokeCost_17 : decode cX12_strokeCost 17 = .ok (.iload_n 1, 1) := by decide +kernel
theorem dX12_strokeCost_18 : decode cX12_strokeCost 18 = .ok (.iconst 2, 1) := by decide +kernel
theorem dX12_strokeCost_19 : decode cX12_strokeCost 19 = .ok (.iload_n 2, 1) := by decide +kernel
theorem dX12_strokeCost_20 : decode cX12_strokeCost 20 = .ok (.iconst 2, 1) := by decide +kernel
theorem dX12_strokeCost_21 : decode cX12_strokeCost 21 = .ok (.irem, 1) := by decide +kernel
theorem dX12_strokeCost_22 : decode cX12_strokeCost 22 = .ok (.imul, 1) := by decide +kernel
theorem dX12_strokeCost_23 : decode cX12_strokeCost 23 = .ok (.iadd, 1) := by decide +kernel
theorem dX12_strokeCost_24 : decode cX12_strokeCost 24 = .ok (.istore_n 1, 1) := by decide +kernel
theorem dX12_strokeCost_25 : decode cX12_strokeCost 25 = .ok (.iload_n 2, 1) := by decide +kernel
theorem dX12_strokeCost_26 : decode cX12_strokeCost 26 = .ok (.iconst 2, 1) := by decide +kernel
theorem dX12_strokeCost_27 : decode cX12_strokeCost 27 = .ok (.idiv, 1) := by decide +kernel
theorem dX12_strokeCost_28 : decode cX12_strokeCost 28 = .ok (.istore_n 2, 1) := by decide +kernel
theorem dX12_strokeCost_29 : decode cX12_strokeCost 29 = .ok (.goto (-16), 3) := by decide +kernel
set_option maxRecDepth 100000 in
set_option maxHeartbeats 4000000 in
theorem mX12_strokeCost_scoF (l : Launch) (D : va_G) (Y : Nat → ClassId) (p0 : Int32) (h5 : (((((p0 / 32) / 2) / 2) / 2) / 2) = 0) (sz : Nat) : Met l yX12_strokeCost (WSm yX12_strokeCost cX12_strokeCost 3 (some .int)) (mkR 1 0 0 20) (PreC D Y [.int p0] [] sz) (QI D (fun (r : Int32) (u : Unit) => scoF p0 = r) (fun (_ : Unit) => []) (va_A [] sz)) 0 0 (va_A [] sz) :=
  met_of (by decide +kernel) (Nat.le_of_ble_eq_true rfl) (fun p e s m args below meth c B hin hsz => by
    have B : VB p s m args meth c D Y (va_A [] sz) cX12_strokeCost 3 RX12 (some .int) := B
    refine V_iload_n 0 B dX12_strokeCost_0 0 rfl ?_
    refine V_bipush 1 B (v := 32) dX12_strokeCost_1 (by decide +kernel) ?_
    refine V_irem 3 B dX12_strokeCost_3 (by decide +kernel) rfl ?_
    refine V_csi 4 B (st := []) (As := [.int (p0 - p0 / 32 * 32)]) (fun sz => mX12_keyCost_kcF l D Y ((p0 - p0 / 32 * 32)) sz) glS_RX12_51 ⟨rfl, rfl⟩ ⟨(Nat.le_of_ble_eq_true rfl), (Nat.le_of_ble_eq_true rfl)⟩ ⟨(Nat.le_of_ble_eq_true rfl), (Nat.le_of_ble_eq_true rfl)⟩ [] rfl rfl (Nat.le_of_ble_eq_true rfl) rfl (fun _ _ _ => rfl) dX12_strokeCost_4 (fun r0 u0 w0 => ?_)
    obtain rfl := w0
    refine V_ws [] rfl ?_
    refine V_istore_n 7 B (lv2 := [(1, .int (kcF (p0 - p0 / 32 * 32))), (0, .int p0)]) dX12_strokeCost_7 (by decide) rfl ?_
    refine V_iload_n 8 B dX12_strokeCost_8 1 rfl ?_
    refine V_bipush 9 B (v := 32) dX12_strokeCost_9 (by decide +kernel) ?_
    refine V_idiv 11 B dX12_strokeCost_11 (by decide +kernel) rfl ?_
    refine V_istore_n 12 B (lv2 := [(2, .int (p0 / 32)), (1, .int (kcF (p0 - p0 / 32 * 32))), (0, .int p0)]) dX12_strokeCost_12 (by decide) rfl ?_
    refine V_iload_n 13 B dX12_strokeCost_13 0 rfl ?_
    refine V_if_le 14 B 32 dX12_strokeCost_14 (by decide) (fun k1 => ?_) (fun k1 => ?_)
    ·
      refine V_iload_n 32 B dX12_strokeCost_32 1 rfl ?_
      exact V_iret 33 B dX12_strokeCost_33 () (by
      unfold scoF
      rw [if_pos k1]) rfl
    ·
      refine V_iload_n 17 B dX12_strokeCost_17 1 rfl ?_
      refine V_iconst 18 B (v := 2) dX12_strokeCost_18 (by decide +kernel) ?_
      refine V_iload_n 19 B dX12_strokeCost_19 0 rfl ?_
      refine V_iconst 20 B (v := 2) dX12_strokeCost_20 (by decide +kernel) ?_
      refine V_irem 21 B dX12_strokeCost_21 (by decide +kernel) rfl ?_
      refine V_imul 22 B dX12_strokeCost_22 rfl ?_
      refine V_iadd 23 B dX12_strokeCost_23 rfl ?_
      refine V_istore_n 24 B (lv2 := [(1, .int ((kcF (p0 - p0 / 32 * 32)) + (2 * ((p0 / 32) - (p0 / 32) / 2 * 2)))), (2, .int (p0 / 32)), (0, .int p0)]) dX12_strokeCost_24 (by decide) rfl ?_
      refine V_iload_n 25 B dX12_strokeCost_25 1 rfl ?_
      refine V_iconst 26 B (v := 2) dX12_strokeCost_26 (by decide +kernel) ?_
      refine V_idiv 27 B dX12_strokeCost_27 (by decide +kernel) rfl ?_
      refine V_istore_n 28 B (lv2 := [(2, .int ((p0 / 32) / 2)), (1, .int ((kcF (p0 - p0 / 32 * 32)) + (2 * ((p0 / 32) - (p0 / 32) / 2 * 2)))), (0, .int p0)]) dX12_strokeCost_28 (by decide) rfl ?_
      refine V_goto 29 B 13 dX12_strokeCost_29 (by decide) ?_
      refine V_iload_n 13 B dX12_strokeCost_13 0 rfl ?_
      refine V_if_le 14 B 32 dX12_strokeCost_14 (by decide) (fun k2 => ?_) (fun k2 => ?_)
      ·
        refine V_iload_n 32 B dX12_strokeCost_32 1 rfl ?_
        exact V_iret 33 B dX12_strokeCost_33 () (by
      unfold scoF
      rw [if_neg k1, if_pos k2]) rfl
      ·
        refine V_iload_n 17 B dX12_strokeCost_17 1 rfl ?_
        refine V_iconst 18 B (v := 2) dX12_strokeCost_18 (by decide +kernel) ?_
        refine V_iload_n 19 B dX12_strokeCost_19 0 rfl ?_
        refine V_iconst 20 B (v := 2) dX12_strokeCost_20 (by decide +kernel) ?_
        refine V_irem 21 B dX12_strokeCost_21 (by decide +kernel) rfl ?_
        refine V_imul 22 B dX12_strokeCost_22 rfl ?_
        refine V_iadd 23 B dX12_strokeCost_23 rfl ?_
        refine V_istore_n 24 B (lv2 := [(1, .int (((kcF (p0 - p0 / 32 * 32)) + (2 * ((p0 / 32) - (p0 / 32) / 2 * 2))) + (2 * (((p0 / 32) / 2) - ((p0 / 32) / 2) / 2 * 2)))), (2, .int ((p0 / 32) / 2)), (0, .int p0)]) dX12_strokeCost_24 (by decide) rfl ?_
        refine V_iload_n 25 B dX12_strokeCost_25 1 rfl ?_
        refine V_iconst 26 B (v := 2) dX12_strokeCost_26 (by decide +kernel) ?_
        refine V_idiv 27 B dX12_strokeCost_27 (by decide +kernel) rfl ?_
        refine V_istore_n 28 B (lv2 := [(2, .int (((p0 / 32) / 2) / 2)), (1, .int (((kcF (p0 - p0 / 32 * 32)) + (2 * ((p0 / 32) - (p0 / 32) / 2 * 2))) + (2 * (((p0 / 32) / 2) - ((p0 / 32) / 2) / 2 * 2)))), (0, .int p0)]) dX12_strokeCost_28 (by decide) rfl ?_
        refine V_goto 29 B 13 dX12_strokeCost_29 (by decide) ?_
        refine V_iload_n 13 B dX12_strokeCost_13 0 rfl ?_
        refine V_if_le 14 B 32 dX12_strokeCost_14 (by decide) (fun k3 => ?_) (fun k3 => ?_)
        ·
          refine V_iload_n 32 B dX12_strokeCost_32 1 rfl ?_
          exact V_iret 33 B dX12_strokeCost_33 () (by
      unfold scoF
      rw [if_neg k1, if_neg k2, if_pos k3]) rfl
        ·
          refine V_iload_n 17 B dX12_strokeCost_17 1 rfl ?_
          refine V_iconst 18 B (v := 2) dX12_strokeCost_18 (by decide +kernel) ?_
          refine V_iload_n 19 B dX12_strokeCost_19 0 rfl ?_
          refine V_iconst 20 B (v := 2) dX12_strokeCost_20 (by decide +kernel) ?_
          refine V_irem 21 B dX12_strokeCost_21 (by decide +kernel) rfl ?_
          refine V_imul 22 B dX12_strokeCost_22 rfl ?_
          refine V_iadd 23 B dX12_strokeCost_23 rfl ?_
          refine V_istore_n 24 B (lv2 := [(1, .int ((((kcF (p0 - p0 / 32 * 32)) + (2 * ((p0 / 32) - (p0 / 32) / 2 * 2))) + (2 * (((p0 / 32) / 2) - ((p0 / 32) / 2) / 2 * 2))) + (2 * ((((p0 / 32) / 2) / 2) - (((p0 / 32) / 2) / 2) / 2 * 2)))), (2, .int (((p0 / 32) / 2) / 2)), (0, .int p0)]) dX12_strokeCost_24 (by decide) rfl ?_
          refine V_iload_n 25 B dX12_strokeCost_25 1 rfl ?_
          refine V_iconst 26 B (v := 2) dX12_strokeCost_26 (by decide +kernel) ?_
          refine V_idiv 27 B dX12_strokeCost_27 (by decide +kernel) rfl ?_
          refine V_istore_n 28 B (lv2 := [(2, .int ((((p0 / 32) / 2) / 2) / 2)), (1, .int ((((kcF (p0 - p0 / 32 * 32)) + (2 * ((p0 / 32) - (p0 / 32) / 2 * 2))) + (2 * (((p0 / 32) / 2) - ((p0 / 32) / 2) / 2 * 2))) + (2 * ((((p0 / 32) / 2) / 2) - (((p0 / 32) / 2) / 2) / 2 * 2)))), (0, .int p0)]) dX12_strokeCost_28 (by decide) rfl ?_
          refine V_goto 29 B 13 dX12_strokeCost_29 (by decide) ?_
          refine V_iload_n 13 B dX12_strokeCost_13 0 rfl ?_
          refine V_if_le 14 B 32 dX12_strokeCost_14 (by decide) (fun k4 => ?_) (fun k4 => ?_)
          ·
            refine V_iload_n 32 B dX12_strokeCost_32 1 rfl ?_
            exact V_iret 33 B dX12_strokeCost_33 () (by
      unfold scoF
      rw [if_neg k1, if_neg k2, if_neg k3, if_pos k4]) rfl
          ·
            refine V_iload_n 17 B dX12_strokeCost_17 1 rfl ?_
            refine V_iconst 18 B (v := 2) dX12_strokeCost_18 (by decide +kernel) ?_
            refine V_iload_n 19 B dX12_strokeCost_19 0 rfl ?_
            refine V_iconst 20 B (v := 2) dX12_strokeCost_20 (by decide +kernel) ?_
            refine V_irem 21 B dX12_strokeCost_21 (by decide +kernel) rfl ?_
            refine V_imul 22 B dX12_strokeCost_22 rfl ?_
            refine V_iadd 23 B dX12_strokeCost_23 rfl ?_
            refine V_istore_n 24 B (lv2 := [(1, .int (((((kcF (p0 - p0 / 32 * 32)) + (2 * ((p0 / 32) - (p0 / 32) / 2 * 2))) + (2 * (((p0 / 32) / 2) - ((p0 / 32) / 2) / 2 * 2))) + (2 * ((((p0 / 32) / 2) / 2) - (((p0 / 32) / 2) / 2) / 2 * 2))) + (2 * (((((p0 / 32) / 2) / 2) / 2) - ((((p0 / 32) / 2) / 2) / 2) / 2 * 2)))), (2, .int ((((p0 / 32) / 2) / 2) / 2)), (0, .int p0)]) dX12_strokeCost_24 (by decide) rfl ?_
            refine V_iload_n 25 B dX12_strokeCost_25 1 rfl ?_
            refine V_iconst 26 B (v := 2) dX12_strokeCost_26 (by decide +kernel) ?_
            refine V_idiv 27 B dX12_strokeCost_27 (by decide +kernel) rfl ?_
            refine V_istore_n 28 B (lv2 := [(2, .int (((((p0 / 32) / 2) / 2) / 2) / 2)), (1, .int (((((kcF (p0 - p0 / 32 * 32)) + (2 * ((p0 / 32) - (p0 / 32) / 2 * 2))) + (2 * (((p0 / 32) / 2) - ((p0 / 32) / 2) / 2 * 2))) + (2 * ((((p0 / 32) / 2) / 2) - (((p0 / 32) / 2) / 2) / 2 * 2))) + (2 * (((((p0 / 32) / 2) / 2) / 2) - ((((p0 / 32) / 2) / 2) / 2) / 2 * 2)))), (0, .int p0)]) dX12_strokeCost_28 (by decide) rfl ?_
            refine V_goto 29 B 13 dX12_strokeCost_29 (by decide) ?_
            refine V_iload_n 13 B dX12_strokeCost_13 0 rfl ?_
            refine V_if_le_t 14 B 32 dX12_strokeCost_14 (by decide) (q_le (eq_hi h5 (n := 0) (by decide +kernel)) (by decide +kernel)) ?_
            refine V_iload_n 32 B dX12_strokeCost_32 1 rfl ?_
            exact V_iret 33 B dX12_strokeCost_33 () (by
      unfold scoF
      rw [if_neg k1, if_neg k2, if_neg k3, if_neg k4]) rfl)
def pick (a b : Int32) : Nat → Int32
  | 0 => a
  | _ + 1 => b
def pickf (a : Int32) (g : Nat → Int32) : Nat → Int32
  | 0 => a
  | j + 1 => g j
theorem pick_pos {a b : Int32} : ∀ {n : Nat}, ¬ n = 0 → pick a b n = b
  | 0, h => absurd rfl h
  | _ + 1, _ => rfl
theorem upd4 {f : Nat → Int32} {k j : Nat} {a b x y : Int32} (h : k ≠ j) : upd (upd (upd (upd f k a) j b) k x) j y = upd (upd f k x) j y := by
  funext i
  unfold upd
  by_cases h1 : i = j
  · simp [h1]
  · by_cases h2 : i = k
    · simp [h1, h2]
    · simp [h1, h2]
theorem h5_a : ∀ i, i < 130 → (((((simF (nI i) / 32) / 2) / 2) / 2) / 2) = 0 := by decide +kernel
theorem h5_sim {i : Nat} (h : i < 130) : (((((simF (nI i) / 32) / 2) / 2) / 2) / 2) = 0 := h5_a i h
theorem sco_a : ∀ i, i < 130 → ¬ scoF (simF (nI i)) < 0 ∧ (1 : Int) ≤ (scoF (simF (nI i))).toInt ∧ (scoF (simF (nI i))).toInt ≤ 100 := by decide +kernel
theorem sco1 {i : Nat} (h : i < 130) : (1 : Int) ≤ (scoF (simF (nI i))).toInt := (sco_a i h).2.1
theorem sco2 {i j : Nat} (h : i < 130) (g : j < 130) : (2 : Int) ≤ ((scoF (simF (nI i))) + (scoF (simF (nI j)))).toInt := by
  obtain ⟨a0, a1, a2⟩ := sco_a i h
  obtain ⟨b0, b1, b2⟩ := sco_a j g
  obtain ⟨x, hx, ex⟩ := nI_of a0
  obtain ⟨y, hy, ey⟩ := nI_of b0
  rw [ex, nI_toInt hx] at a1 a2
  rw [ey, nI_toInt hy] at b1 b2
  rw [ex, ey, nI_add, nI_toInt (by omega)]
  omega
theorem sim129 : simF (nI 129) = 281 := by decide +kernel
theorem sim0 : simF (nI 0) = 0 := by decide +kernel

set_option maxRecDepth 100000 in
set_option maxHeartbeats 4000000 in
theorem mX12_simpleStroke_2 (l : Launch) (D : va_G) (Y : Nat → ClassId)  (sz : Nat) : Met l yX12_simpleStroke (WSm yX12_simpleStroke cX12_simpleStroke 2 (some .int)) (mkR 0 0 0 0) (PreC D Y [.int 0] [] sz) (QI D (fun (r : Int32) (u : Unit) => 0 = r) (fun (_ : Unit) => []) (va_A [] sz)) 0 0 (va_A [] sz) :=
  met_of (by decide +kernel) (Nat.le_of_ble_eq_true rfl) (fun p e s m args below meth c B hin hsz => by
    have B : VB p s m args meth c D Y (va_A [] sz) cX12_simpleStroke 2 RX12 (some .int) := B
    refine V_iload_n 0 B dX12_simpleStroke_0 0 rfl ?_
    refine V_bipush 1 B (v := 26) dX12_simpleStroke_1 (by decide +kernel) ?_
    refine V_idiv 3 B (v := 0) dX12_simpleStroke_3 (by decide +kernel) (by decide +kernel) ?_
    refine V_istore_n 4 B (lv2 := [(1, .int 0), (0, .int 0)]) dX12_simpleStroke_4 (by decide) rfl ?_
    refine V_bipush 5 B (v := 32) dX12_simpleStroke_5 (by decide +kernel) ?_
    refine V_iload_n 7 B dX12_simpleStroke_7 0 rfl ?_
    refine V_if_ne_f 8 B 15 dX12_simpleStroke_8 (by decide) (by decide +kernel) ?_
    refine V_iconst 11 B (v := 0) dX12_simpleStroke_11 (by decide +kernel) ?_
    refine V_goto 12 B 20 dX12_simpleStroke_12 (by decide) ?_
    refine V_imul 20 B (v := 0) dX12_simpleStroke_20 (by decide +kernel) ?_
    refine V_iload_n 21 B dX12_simpleStroke_21 1 rfl ?_
    refine V_bipush 22 B (v := 26) dX12_simpleStroke_22 (by decide +kernel) ?_
    refine V_irem 24 B (v := 0) dX12_simpleStroke_24 (by decide +kernel) (by decide +kernel) ?_
    refine V_iadd 25 B (v := 0) dX12_simpleStroke_25 (by decide +kernel) ?_
    exact V_iret 26 B dX12_simpleStroke_26 () rfl rfl)
set_option maxRecDepth 100000 in
set_option maxHeartbeats 4000000 in
theorem mX12_keyCost_1 (l : Launch) (D : va_G) (Y : Nat → ClassId)  (sz : Nat) : Met l yX12_keyCost (WSm yX12_keyCost cX12_keyCost 1 (some .int)) (mkR 0 0 0 0) (PreC D Y [.int 0] [] sz) (QI D (fun (r : Int32) (u : Unit) => 1 = r) (fun (_ : Unit) => []) (va_A [] sz)) 0 0 (va_A [] sz) :=
  met_of (by decide +kernel) (Nat.le_of_ble_eq_true rfl) (fun p e s m args below meth c B hin hsz => by
    have B : VB p s m args meth c D Y (va_A [] sz) cX12_keyCost 1 RX12 (some .int) := B
    refine V_bipush 0 B (v := 97) dX12_keyCost_0 (by decide +kernel) ?_
    refine V_iload_n 2 B dX12_keyCost_2 0 rfl ?_
    refine V_iadd 3 B (v := 97) dX12_keyCost_3 (by decide +kernel) ?_
    refine V_tableIn 4 B 120 dX12_keyCost_4 (by decide +kernel) (by decide +kernel) (off := 116) (by decide +kernel) (by decide) ?_
    refine V_iconst 120 B (v := 1) dX12_keyCost_120 (by decide +kernel) ?_
    exact V_iret 121 B dX12_keyCost_121 () rfl rfl)
set_option maxRecDepth 100000 in
set_option maxHeartbeats 4000000 in
theorem mX12_strokeCost_1 (l : Launch) (D : va_G) (Y : Nat → ClassId)  (sz : Nat) : Met l yX12_strokeCost (WSm yX12_strokeCost cX12_strokeCost 3 (some .int)) (mkR 1 0 0 20) (PreC D Y [.int 0] [] sz) (QI D (fun (r : Int32) (u : Unit) => 1 = r) (fun (_ : Unit) => []) (va_A [] sz)) 0 0 (va_A [] sz) :=
  met_of (by decide +kernel) (Nat.le_of_ble_eq_true rfl) (fun p e s m args below meth c B hin hsz => by
    have B : VB p s m args meth c D Y (va_A [] sz) cX12_strokeCost 3 RX12 (some .int) := B
    refine V_iload_n 0 B dX12_strokeCost_0 0 rfl ?_
    refine V_bipush 1 B (v := 32) dX12_strokeCost_1 (by decide +kernel) ?_
    refine V_irem 3 B (v := 0) dX12_strokeCost_3 (by decide +kernel) (by decide +kernel) ?_
    refine V_csi 4 B (st := []) (As := [.int 0]) (fun sz => mX12_keyCost_1 l D Y  sz) glS_RX12_51 ⟨rfl, rfl⟩ ⟨(Nat.le_of_ble_eq_true rfl), (Nat.le_of_ble_eq_true rfl)⟩ ⟨(Nat.le_of_ble_eq_true rfl), (Nat.le_of_ble_eq_true rfl)⟩ [] rfl rfl (Nat.le_of_ble_eq_true rfl) rfl (fun _ _ _ => rfl) dX12_strokeCost_4 (fun r0 u0 w0 => ?_)
    obtain rfl := w0
    refine V_ws [] rfl ?_
    refine V_istore_n 7 B (lv2 := [(1, .int 1), (0, .int 0)]) dX12_strokeCost_7 (by decide) rfl ?_
    refine V_iload_n 8 B dX12_strokeCost_8 1 rfl ?_
    refine V_bipush 9 B (v := 32) dX12_strokeCost_9 (by decide +kernel) ?_
    refine V_idiv 11 B (v := 0) dX12_strokeCost_11 (by decide +kernel) (by decide +kernel) ?_
    refine V_istore_n 12 B (lv2 := [(2, .int 0), (1, .int 1), (0, .int 0)]) dX12_strokeCost_12 (by decide) rfl ?_
    refine V_iload_n 13 B dX12_strokeCost_13 0 rfl ?_
    refine V_if_le_t 14 B 32 dX12_strokeCost_14 (by decide) (by decide +kernel) ?_
    refine V_iload_n 32 B dX12_strokeCost_32 1 rfl ?_
    exact V_iret 33 B dX12_strokeCost_33 () rfl rfl)
theorem dX12_costOf_14 : decode cX12_costOf 14 = .ok (.iload_n 2, 1) := by decide +kernel
theorem dX12_costOf_15 : decode cX12_costOf 15 = .ok (.aload_n 0, 1) := by decide +kernel
theorem dX12_costOf_16 : decode cX12_costOf 16 = .ok (.getfield 9, 3) := by decide +kernel
theorem dX12_costOf_19 : decode cX12_costOf 19 = .ok (.iload_n 1, 1) := by decide +kernel
theorem dX12_costOf_20 : decode cX12_costOf 20 = .ok (.iload_n 3, 1) := by decide +kernel
theorem dX12_costOf_21 : decode cX12_costOf 21 = .ok (.iadd, 1) := by decide +kernel
theorem dX12_costOf_22 : decode cX12_costOf 22 = .ok (.iaload, 1) := by decide +kernel
theorem dX12_costOf_23 : decode cX12_costOf 23 = .ok (.invokestatic 55, 3) := by decide +kernel
theorem glS_RX12_55 : GLS RX12 55 yX12_strokeCost cX12_strokeCost 3 (some .int) 1 := ⟨⟨(mT8 1 rfl rfl), (mT8 2 rfl rfl), (mT1 13 rfl rfl), (mT8 3 rfl rfl)⟩, by decide +kernel⟩
theorem dX12_costOf_26 : decode cX12_costOf 26 = .ok (.iadd, 1) := by decide +kernel
theorem dX12_costOf_27 : decode cX12_costOf 27 = .ok (.istore_n 2, 1) := by decide +kernel
theorem dX12_costOf_28 : decode cX12_costOf 28 = .ok (.iinc 3 1, 3) := by decide +kernel
theorem dX12_costOf_31 : decode cX12_costOf 31 = .ok (.goto (-27), 3) := by decide +kernel
set_option maxRecDepth 100000 in
set_option maxHeartbeats 4000000 in
theorem mX12_costOf_2 (l : Launch) (D : va_G) (Y : Nat → ClassId) (h0 : Nat) (h1 : Nat) (g0 : Nat) (g1 : Nat) (g2 : Nat) (g3 : Nat) (g4 : Nat) (sz : Nat) : Met l yX12_costOf (WSm yX12_costOf cX12_costOf 4 (some .int)) (mkR 2 0 0 42) (PreC D Y [.ref h0, .int 3629] [(h0, oC 13 [.ref h1, .ref g0, .int 0, .ref g1, .ref g2, .int 0, .int 0, .int 0, .int (-1), .int 0, .int 0, .int 0, .long 0, .ref g3, .ref g4, .int 0, .int 0]), (h1, aI Y 3640 (upd (upd (upd (upd (upd (clB 0 (fun _ => 0)) 3629 1) 3630 0) 3631 0) 3630 0) 3631 0))] sz) (QI D (fun (r : Int32) (u : Unit) => 1 = r) (fun (_ : Unit) => [(h0, oC 13 [.ref h1, .ref g0, .int 0, .ref g1, .ref g2, .int 0, .int 0, .int 0, .int (-1), .int 0, .int 0, .int 0, .long 0, .ref g3, .ref g4, .int 0, .int 0]), (h1, aI Y 3640 (upd (upd (upd (upd (upd (clB 0 (fun _ => 0)) 3629 1) 3630 0) 3631 0) 3630 0) 3631 0))]) (va_A [(h0, oC 13 [.ref h1, .ref g0, .int 0, .ref g1, .ref g2, .int 0, .int 0, .int 0, .int (-1), .int 0, .int 0, .int 0, .long 0, .ref g3, .ref g4, .int 0, .int 0]), (h1, aI Y 3640 (upd (upd (upd (upd (upd (clB 0 (fun _ => 0)) 3629 1) 3630 0) 3631 0) 3630 0) 3631 0))] sz)) 0 0 (va_A [(h0, oC 13 [.ref h1, .ref g0, .int 0, .ref g1, .ref g2, .int 0, .int 0, .int 0, .int (-1), .int 0, .int 0, .int 0, .long 0, .ref g3, .ref g4, .int 0, .int 0]), (h1, aI Y 3640 (upd (upd (upd (upd (upd (clB 0 (fun _ => 0)) 3629 1) 3630 0) 3631 0) 3630 0) 3631 0))] sz) :=
  met_of (by decide +kernel) (Nat.le_of_ble_eq_true rfl) (fun p e s m args below meth c B hin hsz => by
    have B : VB p s m args meth c D Y (va_A [(h0, oC 13 [.ref h1, .ref g0, .int 0, .ref g1, .ref g2, .int 0, .int 0, .int 0, .int (-1), .int 0, .int 0, .int 0, .long 0, .ref g3, .ref g4, .int 0, .int 0]), (h1, aI Y 3640 (upd (upd (upd (upd (upd (clB 0 (fun _ => 0)) 3629 1) 3630 0) 3631 0) 3630 0) 3631 0))] sz) cX12_costOf 4 RX12 (some .int) := B
    refine V_iconst 0 B (v := 0) dX12_costOf_0 (by decide +kernel) ?_
    refine V_istore_n 1 B (lv2 := [(2, .int 0), (0, .ref h0), (1, .int 3629)]) dX12_costOf_1 (by decide) rfl ?_
    refine V_iconst 2 B (v := 1) dX12_costOf_2 (by decide +kernel) ?_
    refine V_istore_n 3 B (lv2 := [(3, .int 1), (2, .int 0), (0, .ref h0), (1, .int 3629)]) dX12_costOf_3 (by decide) rfl ?_
    refine V_iload_n 4 B dX12_costOf_4 0 rfl ?_
    refine V_aload_n 5 B dX12_costOf_5 2 rfl ?_
    refine V_get 6 B gf_RX12_9 0 rfl rfl dX12_costOf_6 ?_
    refine V_iload_n 9 B dX12_costOf_9 3 rfl ?_
    refine V_iald 10 B (v := 1) 1 rfl (vpin _ _ (by decide +kernel)) dX12_costOf_10 rfl ?_
    refine V_icmp_gt_f 11 B 34 dX12_costOf_11 (by decide) (by decide +kernel) ?_
    refine V_iload_n 14 B dX12_costOf_14 1 rfl ?_
    refine V_aload_n 15 B dX12_costOf_15 2 rfl ?_
    refine V_get 16 B gf_RX12_9 0 rfl rfl dX12_costOf_16 ?_
    refine V_iload_n 19 B dX12_costOf_19 3 rfl ?_
    refine V_iload_n 20 B dX12_costOf_20 0 rfl ?_
    refine V_iadd 21 B (v := 3630) dX12_costOf_21 (by decide +kernel) ?_
    refine V_iald 22 B (v := 0) 1 rfl (vpin _ _ (by decide +kernel)) dX12_costOf_22 rfl ?_
    refine V_csi 23 B (st := [.int 0]) (As := [.int 0]) (fun sz => mX12_strokeCost_1 l D Y  sz) glS_RX12_55 ⟨rfl, rfl⟩ ⟨(Nat.le_of_ble_eq_true rfl), (Nat.le_of_ble_eq_true rfl)⟩ ⟨(Nat.le_of_ble_eq_true rfl), (Nat.le_of_ble_eq_true rfl)⟩ [] rfl rfl (Nat.le_of_ble_eq_true rfl) rfl (fun _ _ _ => rfl) dX12_costOf_23 (fun r0 u0 w0 => ?_)
    obtain rfl := w0
    refine V_ws [(h0, oC 13 [.ref h1, .ref g0, .int 0, .ref g1, .ref g2, .int 0, .int 0, .int 0, .int (-1), .int 0, .int 0, .int 0, .long 0, .ref g3, .ref g4, .int 0, .int 0]), (h1, aI Y 3640 (upd (upd (upd (upd (upd (clB 0 (fun _ => 0)) 3629 1) 3630 0) 3631 0) 3630 0) 3631 0))] rfl ?_
    refine V_iadd 26 B (v := 1) dX12_costOf_26 (by decide +kernel) ?_
    refine V_istore_n 27 B (lv2 := [(2, .int 1), (3, .int 1), (0, .ref h0), (1, .int 3629)]) dX12_costOf_27 (by decide) rfl ?_
    refine V_iinc 28 B (v := 2) (lv2 := [(3, .int 2), (2, .int 1), (0, .ref h0), (1, .int 3629)]) dX12_costOf_28 1 rfl (by decide +kernel) (by decide) rfl ?_
    refine V_goto 31 B 4 dX12_costOf_31 (by decide) ?_
    refine V_iload_n 4 B dX12_costOf_4 0 rfl ?_
    refine V_aload_n 5 B dX12_costOf_5 2 rfl ?_
    refine V_get 6 B gf_RX12_9 0 rfl rfl dX12_costOf_6 ?_
    refine V_iload_n 9 B dX12_costOf_9 3 rfl ?_
    refine V_iald 10 B (v := 1) 1 rfl (vpin _ _ (by decide +kernel)) dX12_costOf_10 rfl ?_
    refine V_icmp_gt_t 11 B 34 dX12_costOf_11 (by decide) (by decide +kernel) ?_
    refine V_iload_n 34 B dX12_costOf_34 1 rfl ?_
    exact V_iret 35 B dX12_costOf_35 () rfl rfl)
set_option maxRecDepth 100000 in
set_option maxHeartbeats 4000000 in
theorem mX12_clashesReserved_2 (l : Launch) (D : va_G) (Y : Nat → ClassId) (h0 : Nat) (h1 : Nat) (g0 : Nat) (g1 : Nat) (g2 : Nat) (g3 : Nat) (g4 : Nat) (sz : Nat) : Met l yX12_clashesReserved (WSm yX12_clashesReserved cX12_clashesReserved 4 (some .boolean)) (mkR 0 0 0 0) (PreC D Y [.ref h0, .int 3629] [(h0, oC 13 [.ref h1, .ref g0, .int 0, .ref g1, .ref g2, .int 0, .int 0, .int 0, .int (-1), .int 0, .int 0, .int 0, .long 0, .ref g3, .ref g4, .int 0, .int 0]), (h1, aI Y 3640 (upd (upd (upd (upd (upd (clB 0 (fun _ => 0)) 3629 1) 3630 0) 3631 0) 3630 0) 3631 0))] sz) (QI D (fun (r : Int32) (u : Unit) => 0 = r) (fun (_ : Unit) => [(h0, oC 13 [.ref h1, .ref g0, .int 0, .ref g1, .ref g2, .int 0, .int 0, .int 0, .int (-1), .int 0, .int 0, .int 0, .long 0, .ref g3, .ref g4, .int 0, .int 0]), (h1, aI Y 3640 (upd (upd (upd (upd (upd (clB 0 (fun _ => 0)) 3629 1) 3630 0) 3631 0) 3630 0) 3631 0))]) (va_A [(h0, oC 13 [.ref h1, .ref g0, .int 0, .ref g1, .ref g2, .int 0, .int 0, .int 0, .int (-1), .int 0, .int 0, .int 0, .long 0, .ref g3, .ref g4, .int 0, .int 0]), (h1, aI Y 3640 (upd (upd (upd (upd (upd (clB 0 (fun _ => 0)) 3629 1) 3630 0) 3631 0) 3630 0) 3631 0))] sz)) 0 0 (va_A [(h0, oC 13 [.ref h1, .ref g0, .int 0, .ref g1, .ref g2, .int 0, .int 0, .int 0, .int (-1), .int 0, .int 0, .int 0, .long 0, .ref g3, .ref g4, .int 0, .int 0]), (h1, aI Y 3640 (upd (upd (upd (upd (upd (clB 0 (fun _ => 0)) 3629 1) 3630 0) 3631 0) 3630 0) 3631 0))] sz) :=
  met_of (by decide +kernel) (Nat.le_of_ble_eq_true rfl) (fun p e s m args below meth c B hin hsz => by
    have B : VB p s m args meth c D Y (va_A [(h0, oC 13 [.ref h1, .ref g0, .int 0, .ref g1, .ref g2, .int 0, .int 0, .int 0, .int (-1), .int 0, .int 0, .int 0, .long 0, .ref g3, .ref g4, .int 0, .int 0]), (h1, aI Y 3640 (upd (upd (upd (upd (upd (clB 0 (fun _ => 0)) 3629 1) 3630 0) 3631 0) 3630 0) 3631 0))] sz) cX12_clashesReserved 4 RX12 (some .boolean) := B
    refine V_iconst 0 B (v := 0) dX12_clashesReserved_0 (by decide +kernel) ?_
    refine V_istore_n 1 B (lv2 := [(2, .int 0), (0, .ref h0), (1, .int 3629)]) dX12_clashesReserved_1 (by decide) rfl ?_
    refine V_iconst 2 B (v := 0) dX12_clashesReserved_2 (by decide +kernel) ?_
    refine V_istore_n 3 B (lv2 := [(3, .int 0), (2, .int 0), (0, .ref h0), (1, .int 3629)]) dX12_clashesReserved_3 (by decide) rfl ?_
    refine V_iload_n 4 B dX12_clashesReserved_4 0 rfl ?_
    refine V_aload_n 5 B dX12_clashesReserved_5 2 rfl ?_
    refine V_get 6 B gf_RX12_9 0 rfl rfl dX12_clashesReserved_6 ?_
    refine V_iconst 9 B (v := 2) dX12_clashesReserved_9 (by decide +kernel) ?_
    refine V_iald 10 B (v := 0) 1 rfl (vpin _ _ (by decide +kernel)) dX12_clashesReserved_10 rfl ?_
    refine V_icmp_ge_t 11 B 32 dX12_clashesReserved_11 (by decide) (by decide +kernel) ?_
    refine V_iload_n 32 B dX12_clashesReserved_32 1 rfl ?_
    exact V_zret 33 B rfl dX12_clashesReserved_33 () rfl rfl)
