theorem glV_RX0_119 : GLV RX0 119 yX5_hasClash RX5 cX5_hasClash 4 (some .boolean) 1 := ⟨⟨(mT3 123 rfl rfl), (mT3 104 rfl rfl), (mT3 105 rfl rfl), (mT1 5 rfl rfl), (mT3 106 rfl rfl)⟩, by decide +kernel⟩
theorem dX0_isBarred_8 : decode cX0_isBarred 8 = .ok (.ifCond .ne 14, 3) := by decide +kernel
theorem dX0_isBarred_11 : decode cX0_isBarred 11 = .ok (.aload_n 0, 1) := by decide +kernel
theorem dX0_isBarred_12 : decode cX0_isBarred 12 = .ok (.iload_n 1, 1) := by decide +kernel
theorem dX0_isBarred_13 : decode cX0_isBarred 13 = .ok (.lload_n 2, 1) := by decide +kernel
theorem dX0_isBarred_14 : decode cX0_isBarred 14 = .ok (.iconst (-1), 1) := by decide +kernel
theorem dX0_isBarred_15 : decode cX0_isBarred 15 = .ok (.invokevirtual 122, 3) := by decide +kernel
theorem dX0_lowestClash_0 : decode cX0_lowestClash 0 = .ok (.iconst 0, 1) := by decide +kernel
theorem dX0_lowestClash_1 : decode cX0_lowestClash 1 = .ok (.istore 5, 2) := by decide +kernel
theorem dX0_lowestClash_3 : decode cX0_lowestClash 3 = .ok (.iload 5, 2) := by decide +kernel
theorem dX0_lowestClash_5 : decode cX0_lowestClash 5 = .ok (.aload_n 0, 1) := by decide +kernel
theorem dX0_lowestClash_6 : decode cX0_lowestClash 6 = .ok (.getfield 36, 3) := by decide +kernel
theorem dX0_lowestClash_9 : decode cX0_lowestClash 9 = .ok (.invokevirtual 91, 3) := by decide +kernel
theorem glV_RX0_91 : GLV RX0 91 yX1_size RX1 cX1_size 1 (some .int) 0 := ⟨⟨(mT3 128 rfl rfl), (mT3 47 rfl rfl), (mT3 48 rfl rfl), (mT1 3 rfl rfl), (mT3 49 rfl rfl)⟩, by decide +kernel⟩
theorem dX0_lowestClash_12 : decode cX0_lowestClash 12 = .ok (.if_icmp .ge 30, 3) := by decide +kernel
theorem dX0_lowestClash_42 : decode cX0_lowestClash 42 = .ok (.iconst (-1), 1) := by decide +kernel
theorem dX0_lowestClash_43 : decode cX0_lowestClash 43 = .ok (.ireturn, 1) := by decide +kernel
theorem dX0_lowestClash_15 : decode cX0_lowestClash 15 = .ok (.iload 5, 2) := by decide +kernel
theorem dX0_lowestClash_17 : decode cX0_lowestClash 17 = .ok (.iload 4, 2) := by decide +kernel
theorem dX0_lowestClash_19 : decode cX0_lowestClash 19 = .ok (.if_icmp .eq 17, 3) := by decide +kernel
theorem dX0_lowestClash_36 : decode cX0_lowestClash 36 = .ok (.iinc 5 1, 3) := by decide +kernel
theorem dX0_lowestClash_39 : decode cX0_lowestClash 39 = .ok (.goto (-36), 3) := by decide +kernel
theorem dX0_lowestClash_22 : decode cX0_lowestClash 22 = .ok (.aload_n 0, 1) := by decide +kernel
theorem dX0_lowestClash_23 : decode cX0_lowestClash 23 = .ok (.iload 5, 2) := by decide +kernel
theorem dX0_lowestClash_25 : decode cX0_lowestClash 25 = .ok (.iload_n 1, 1) := by decide +kernel
theorem dX0_lowestClash_26 : decode cX0_lowestClash 26 = .ok (.lload_n 2, 1) := by decide +kernel
theorem dX0_lowestClash_27 : decode cX0_lowestClash 27 = .ok (.invokevirtual 115, 3) := by decide +kernel
theorem dX0_isOwnClash_0 : decode cX0_isOwnClash 0 = .ok (.aload_n 0, 1) := by decide +kernel
theorem dX0_isOwnClash_1 : decode cX0_isOwnClash 1 = .ok (.getfield 36, 3) := by decide +kernel
theorem dX0_isOwnClash_4 : decode cX0_isOwnClash 4 = .ok (.iload_n 1, 1) := by decide +kernel
theorem dX0_isOwnClash_5 : decode cX0_isOwnClash 5 = .ok (.invokevirtual 102, 3) := by decide +kernel
set_option maxRecDepth 100000 in
set_option maxHeartbeats 4000000 in
theorem sX1_at_3 (l : Launch) (D : va_G) (Y : Nat → ClassId) (h0 : Nat) (h1 : Nat) (p0 : Int32) (f0 : Nat → Int32) (p1 : Int32) (sz : Nat) : Met l yX1_at (WSm yX1_at cX1_at 2 (some .int)) (mkR 0 0 0 0) (PreG EX D Y [.ref h0, .int p1] [(h0, oC 3 [.ref h1, .int p0]), (h1, aI Y 80 f0)] sz) (QI D (fun (_ : Int32) (_ : UU) => True) (fun (u : UU) => [(h0, oC 3 [.ref h1, .int p0]), (h1, aI Y 80 f0)]) (va_A [(h0, oC 3 [.ref h1, .int p0]), (h1, aI Y 80 f0)] sz)) 0 0 (va_A [(h0, oC 3 [.ref h1, .int p0]), (h1, aI Y 80 f0)] sz) :=
  gmet_of (by decide +kernel) (Nat.le_of_ble_eq_true rfl) (fun p e s m args below meth c B EB hsz => by
    have B : VB p s m args meth c D Y (va_A [(h0, oC 3 [.ref h1, .int p0]), (h1, aI Y 80 f0)] sz) cX1_at 2 RX1 (some .int) := B
    refine V_iload_n 0 B dX1_at_0 1 rfl ?_
    refine V_if_lt 1 B 30 dX1_at_1 (by decide) (fun k0 => ?_) (fun k0 => ?_)
    ·
      refine V_iconst 30 B (v := (-1)) dX1_at_30 (by decide +kernel) ?_
      exact V_iret 31 B dX1_at_31 (mkU [] [] [] [] []) trivial rfl
    ·
      refine V_iload_n 4 B dX1_at_4 1 rfl ?_
      refine V_aload_n 5 B dX1_at_5 0 rfl ?_
      refine V_get 6 B gf_RX1_21 0 rfl rfl dX1_at_6 ?_
      refine V_icmp_ge 9 B 30 dX1_at_9 (by decide) (fun k1 => ?_) (fun k1 => ?_)
      ·
        refine V_iconst 30 B (v := (-1)) dX1_at_30 (by decide +kernel) ?_
        exact V_iret 31 B dX1_at_31 (mkU [] [] [] [] []) trivial rfl
      ·
        refine V_iload_n 12 B dX1_at_12 1 rfl ?_
        refine V_aload_n 13 B dX1_at_13 0 rfl ?_
        refine V_get 14 B gf_RX1_15 0 rfl rfl dX1_at_14 ?_
        refine V_alenI 17 B (v := 80) 1 rfl (by decide +kernel) dX1_at_17 ?_
        refine V_icmp_ge 18 B 30 dX1_at_18 (by decide) (fun k2 => ?_) (fun k2 => ?_)
        ·
          refine V_iconst 30 B (v := (-1)) dX1_at_30 (by decide +kernel) ?_
          exact V_iret 31 B dX1_at_31 (mkU [] [] [] [] []) trivial rfl
        ·
          refine V_aload_n 21 B dX1_at_21 0 rfl ?_
          refine V_get 22 B gf_RX1_15 0 rfl rfl dX1_at_22 ?_
          refine V_iload_n 25 B dX1_at_25 1 rfl ?_
          refine V_iald 26 B 1 rfl (vpin_b (b_nlt k0 (n := 0) (by decide +kernel)) (b_nge k2 (n := 79) (by decide +kernel)) (by decide)) dX1_at_26 rfl ?_
          refine V_nmi (fun j3 _ => ?_)
          refine V_goto 27 B 31 dX1_at_27 (by decide) ?_
          exact V_iret 31 B dX1_at_31 (mkU [] [] [] [] []) trivial rfl)
theorem glV_RX0_102 : GLV RX0 102 yX1_at RX1 cX1_at 2 (some .int) 1 := ⟨⟨(mT3 133 rfl rfl), (mT3 134 rfl rfl), (mT3 135 rfl rfl), (mT1 3 rfl rfl), (mT3 136 rfl rfl)⟩, by decide +kernel⟩
theorem dX0_isOwnClash_8 : decode cX0_isOwnClash 8 = .ok (.iload_n 2, 1) := by decide +kernel
theorem dX0_isOwnClash_9 : decode cX0_isOwnClash 9 = .ok (.if_icmp .ne 22, 3) := by decide +kernel
theorem dX0_isOwnClash_31 : decode cX0_isOwnClash 31 = .ok (.iconst 0, 1) := by decide +kernel
theorem dX0_isOwnClash_32 : decode cX0_isOwnClash 32 = .ok (.ireturn, 1) := by decide +kernel
theorem dX0_isOwnClash_12 : decode cX0_isOwnClash 12 = .ok (.aload_n 0, 1) := by decide +kernel
theorem dX0_isOwnClash_13 : decode cX0_isOwnClash 13 = .ok (.getfield 42, 3) := by decide +kernel
theorem dX0_isOwnClash_16 : decode cX0_isOwnClash 16 = .ok (.iload_n 1, 1) := by decide +kernel
theorem dX0_isOwnClash_17 : decode cX0_isOwnClash 17 = .ok (.invokevirtual 106, 3) := by decide +kernel
theorem dX5_at_0 : decode cX5_at 0 = .ok (.iload_n 1, 1) := by decide +kernel
theorem dX5_at_1 : decode cX5_at 1 = .ok (.ifCond .lt 29, 3) := by decide +kernel
theorem dX5_at_30 : decode cX5_at 30 = .ok (.lconst 0, 1) := by decide +kernel
theorem dX5_at_31 : decode cX5_at 31 = .ok (.lreturn, 1) := by decide +kernel
theorem dX5_at_4 : decode cX5_at 4 = .ok (.iload_n 1, 1) := by decide +kernel
theorem dX5_at_5 : decode cX5_at 5 = .ok (.aload_n 0, 1) := by decide +kernel
theorem dX5_at_6 : decode cX5_at 6 = .ok (.getfield 19, 3) := by decide +kernel
theorem dX5_at_9 : decode cX5_at 9 = .ok (.if_icmp .ge 21, 3) := by decide +kernel
theorem dX5_at_12 : decode cX5_at 12 = .ok (.iload_n 1, 1) := by decide +kernel
theorem dX5_at_13 : decode cX5_at 13 = .ok (.aload_n 0, 1) := by decide +kernel
theorem dX5_at_14 : decode cX5_at 14 = .ok (.getfield 13, 3) := by decide +kernel
theorem dX5_at_17 : decode cX5_at 17 = .ok (.arraylength, 1) := by decide +kernel
theorem dX5_at_18 : decode cX5_at 18 = .ok (.if_icmp .ge 12, 3) := by decide +kernel
theorem dX5_at_21 : decode cX5_at 21 = .ok (.aload_n 0, 1) := by decide +kernel
theorem dX5_at_22 : decode cX5_at 22 = .ok (.getfield 13, 3) := by decide +kernel
theorem dX5_at_25 : decode cX5_at 25 = .ok (.iload_n 1, 1) := by decide +kernel
theorem dX5_at_26 : decode cX5_at 26 = .ok (.laload, 1) := by decide +kernel
theorem dX5_at_27 : decode cX5_at 27 = .ok (.goto 4, 3) := by decide +kernel
set_option maxRecDepth 100000 in
set_option maxHeartbeats 4000000 in
theorem sX5_at_1 (l : Launch) (D : va_G) (Y : Nat → ClassId) (h0 : Nat) (h1 : Nat) (p0 : Int32) (f0 : Nat → Int64) (p1 : Int32) (sz : Nat) : Met l yX5_at (WSm yX5_at cX5_at 2 (some .long)) (mkR 0 0 0 0) (PreG EX D Y [.ref h0, .int p1] [(h0, oC 7 [.ref h1, .int p0]), (h1, aJ Y 80 f0)] sz) (QJ D (fun (_ : Int64) (_ : UU) => True) (fun (u : UU) => [(h0, oC 7 [.ref h1, .int p0]), (h1, aJ Y 80 f0)]) (va_A [(h0, oC 7 [.ref h1, .int p0]), (h1, aJ Y 80 f0)] sz)) 0 0 (va_A [(h0, oC 7 [.ref h1, .int p0]), (h1, aJ Y 80 f0)] sz) :=
  gmet_of (by decide +kernel) (Nat.le_of_ble_eq_true rfl) (fun p e s m args below meth c B EB hsz => by
    have B : VB p s m args meth c D Y (va_A [(h0, oC 7 [.ref h1, .int p0]), (h1, aJ Y 80 f0)] sz) cX5_at 2 RX5 (some .long) := B
    refine V_iload_n 0 B dX5_at_0 1 rfl ?_
    refine V_if_lt 1 B 30 dX5_at_1 (by decide) (fun k0 => ?_) (fun k0 => ?_)
    ·
      refine V_lconst 30 B (v := 0) dX5_at_30 (by decide +kernel) ?_
      exact V_lret 31 B dX5_at_31 (mkU [] [] [] [] []) trivial rfl
    ·
      refine V_iload_n 4 B dX5_at_4 1 rfl ?_
      refine V_aload_n 5 B dX5_at_5 0 rfl ?_
      refine V_get 6 B gf_RX5_19 0 rfl rfl dX5_at_6 ?_
      refine V_icmp_ge 9 B 30 dX5_at_9 (by decide) (fun k1 => ?_) (fun k1 => ?_)
      ·
        refine V_lconst 30 B (v := 0) dX5_at_30 (by decide +kernel) ?_
        exact V_lret 31 B dX5_at_31 (mkU [] [] [] [] []) trivial rfl
      ·
        refine V_iload_n 12 B dX5_at_12 1 rfl ?_
        refine V_aload_n 13 B dX5_at_13 0 rfl ?_
        refine V_get 14 B gf_RX5_13 0 rfl rfl dX5_at_14 ?_
        refine V_alenJ 17 B (v := 80) 1 rfl (by decide +kernel) dX5_at_17 ?_
        refine V_icmp_ge 18 B 30 dX5_at_18 (by decide) (fun k2 => ?_) (fun k2 => ?_)
        ·
          refine V_lconst 30 B (v := 0) dX5_at_30 (by decide +kernel) ?_
          exact V_lret 31 B dX5_at_31 (mkU [] [] [] [] []) trivial rfl
        ·
          refine V_aload_n 21 B dX5_at_21 0 rfl ?_
          refine V_get 22 B gf_RX5_13 0 rfl rfl dX5_at_22 ?_
          refine V_iload_n 25 B dX5_at_25 1 rfl ?_
          refine V_lald 26 B 1 rfl (vpin_b (b_nlt k0 (n := 0) (by decide +kernel)) (b_nge k2 (n := 79) (by decide +kernel)) (by decide)) dX5_at_26 rfl ?_
          refine V_nml (fun o3 _ => ?_)
          refine V_goto 27 B 31 dX5_at_27 (by decide) ?_
          exact V_lret 31 B dX5_at_31 (mkU [] [] [] [] []) trivial rfl)
theorem glV_RX0_106 : GLV RX0 106 yX5_at RX5 cX5_at 2 (some .long) 1 := ⟨⟨(mT3 137 rfl rfl), (mT3 138 rfl rfl), (mT3 139 rfl rfl), (mT1 5 rfl rfl), (mT3 140 rfl rfl)⟩, by decide +kernel⟩
theorem dX0_isOwnClash_20 : decode cX0_isOwnClash 20 = .ok (.lload_n 3, 1) := by decide +kernel
theorem dX0_isOwnClash_21 : decode cX0_isOwnClash 21 = .ok (.invokestatic 109, 3) := by decide +kernel
theorem glS_RX0_109 : GLS RX0 109 yX6_clashBetween cX6_clashBetween 9 (some .boolean) 2 := ⟨⟨(mT3 141 rfl rfl), (mT3 108 rfl rfl), (mT1 18 rfl rfl), (mT3 109 rfl rfl)⟩, by decide +kernel⟩
theorem dX0_isOwnClash_24 : decode cX0_isOwnClash 24 = .ok (.ifCond .eq 7, 3) := by decide +kernel
theorem dX0_isOwnClash_27 : decode cX0_isOwnClash 27 = .ok (.iconst 1, 1) := by decide +kernel
theorem dX0_isOwnClash_28 : decode cX0_isOwnClash 28 = .ok (.goto 4, 3) := by decide +kernel
set_option maxRecDepth 100000 in
set_option maxHeartbeats 4000000 in
theorem sX0_isOwnClash_1 (l : Launch) (D : va_G) (Y : Nat → ClassId) (h0 : Nat) (h1 : Nat) (h2 : Nat) (h3 : Nat) (h4 : Nat) (g0 : Nat) (g1 : Nat) (g2 : Nat) (g3 : Nat) (g4 : Nat) (g5 : Nat) (g6 : Nat) (g7 : Nat) (g8 : Nat) (p0 : Int32) (p1 : Int32) (f0 : Nat → Int32) (p2 : Int32) (f1 : Nat → Int64) (p3 : Int32) (p4 : Int32) (p5 : Int64) (sz : Nat) : Met l yX0_isOwnClash (WSm yX0_isOwnClash cX0_isOwnClash 5 (some .boolean)) (mkR 1 0 0 28) (PreG EX D Y [.ref h0, .int p3, .int p4, .long p5] [(h0, oC 2 [.ref g0, .ref g1, .ref g2, .ref g3, .ref g4, .ref h1, .ref g5, .ref h3, .ref g6, .ref g7, .ref g8, .int p0]), (h1, oC 3 [.ref h2, .int p1]), (h2, aI Y 80 f0), (h3, oC 7 [.ref h4, .int p2]), (h4, aJ Y 80 f1)] sz) (QI D (fun (r : Int32) (_ : UU) => r = 0 ∨ r = 1) (fun (u : UU) => [(h0, oC 2 [.ref g0, .ref g1, .ref g2, .ref g3, .ref g4, .ref h1, .ref g5, .ref h3, .ref g6, .ref g7, .ref g8, .int p0]), (h1, oC 3 [.ref h2, .int p1]), (h2, aI Y 80 f0), (h3, oC 7 [.ref h4, .int p2]), (h4, aJ Y 80 f1)]) (va_A [(h0, oC 2 [.ref g0, .ref g1, .ref g2, .ref g3, .ref g4, .ref h1, .ref g5, .ref h3, .ref g6, .ref g7, .ref g8, .int p0]), (h1, oC 3 [.ref h2, .int p1]), (h2, aI Y 80 f0), (h3, oC 7 [.ref h4, .int p2]), (h4, aJ Y 80 f1)] sz)) 0 0 (va_A [(h0, oC 2 [.ref g0, .ref g1, .ref g2, .ref g3, .ref g4, .ref h1, .ref g5, .ref h3, .ref g6, .ref g7, .ref g8, .int p0]), (h1, oC 3 [.ref h2, .int p1]), (h2, aI Y 80 f0), (h3, oC 7 [.ref h4, .int p2]), (h4, aJ Y 80 f1)] sz) :=
  gmet_of (by decide +kernel) (Nat.le_of_ble_eq_true rfl) (fun p e s m args below meth c B EB hsz => by
    have B : VB p s m args meth c D Y (va_A [(h0, oC 2 [.ref g0, .ref g1, .ref g2, .ref g3, .ref g4, .ref h1, .ref g5, .ref h3, .ref g6, .ref g7, .ref g8, .int p0]), (h1, oC 3 [.ref h2, .int p1]), (h2, aI Y 80 f0), (h3, oC 7 [.ref h4, .int p2]), (h4, aJ Y 80 f1)] sz) cX0_isOwnClash 5 RX0 (some .boolean) := B
    refine V_aload_n 0 B dX0_isOwnClash_0 0 rfl ?_
    refine V_get 1 B gf_RX0_36 0 rfl rfl dX0_isOwnClash_1 ?_
    refine V_iload_n 4 B dX0_isOwnClash_4 1 rfl ?_
    refine V_gvi 5 B envX EB (st := []) (As := [.int p3]) (fun sz => sX1_at_3 l D Y h1 h2 p1 f0 p3 sz) glV_RX0_102 ⟨rfl, rfl⟩ ⟨(Nat.le_of_ble_eq_true rfl), (Nat.le_of_ble_eq_true rfl)⟩ ⟨(Nat.le_of_ble_eq_true rfl), (Nat.le_of_ble_eq_true rfl)⟩ [1, 0] rfl 3 0 rfl rfl rfl rfl (Nat.le_of_ble_eq_true rfl) rfl (fun _ _ _ => rfl) dX0_isOwnClash_5 (fun j0 u1 w2 => ?_)
    refine V_ws [(h0, oC 2 [.ref g0, .ref g1, .ref g2, .ref g3, .ref g4, .ref h1, .ref g5, .ref h3, .ref g6, .ref g7, .ref g8, .int p0]), (h1, oC 3 [.ref h2, .int p1]), (h2, aI Y 80 f0), (h3, oC 7 [.ref h4, .int p2]), (h4, aJ Y 80 f1)] rfl ?_
    refine V_iload_n 8 B dX0_isOwnClash_8 2 rfl ?_
    refine V_icmp_ne 9 B 31 dX0_isOwnClash_9 (by decide) (fun k3 => ?_) (fun k3 => ?_)
    ·
      refine V_iconst 31 B (v := 0) dX0_isOwnClash_31 (by decide +kernel) ?_
      exact V_zret 32 B rfl dX0_isOwnClash_32 (mkU [] [] [] [] []) (Or.inl rfl) rfl
    ·
      refine V_aload_n 12 B dX0_isOwnClash_12 0 rfl ?_
      refine V_get 13 B gf_RX0_42 0 rfl rfl dX0_isOwnClash_13 ?_
      refine V_iload_n 16 B dX0_isOwnClash_16 1 rfl ?_
      refine V_gvl 17 B envX EB (st := []) (As := [.int p3]) (fun sz => sX5_at_1 l D Y h3 h4 p2 f1 p3 sz) glV_RX0_106 ⟨rfl, rfl⟩ ⟨(Nat.le_of_ble_eq_true rfl), (Nat.le_of_ble_eq_true rfl)⟩ ⟨(Nat.le_of_ble_eq_true rfl), (Nat.le_of_ble_eq_true rfl)⟩ [3, 0] rfl 7 0 rfl rfl rfl rfl (Nat.le_of_ble_eq_true rfl) rfl (fun _ _ _ => rfl) dX0_isOwnClash_17 (fun o4 u5 w6 => ?_)
      refine V_ws [(h0, oC 2 [.ref g0, .ref g1, .ref g2, .ref g3, .ref g4, .ref h1, .ref g5, .ref h3, .ref g6, .ref g7, .ref g8, .int p0]), (h1, oC 3 [.ref h2, .int p1]), (h2, aI Y 80 f0), (h3, oC 7 [.ref h4, .int p2]), (h4, aJ Y 80 f1)] rfl ?_
      refine V_lload_n 20 B dX0_isOwnClash_20 3 rfl ?_
      refine V_gsi 21 B envX EB (st := []) (As := [.long o4, .long p5]) (fun sz => sX6_clashBetween_1 l D Y  o4 p5 sz) glS_RX0_109 ⟨rfl, rfl⟩ ⟨(Nat.le_of_ble_eq_true rfl), (Nat.le_of_ble_eq_true rfl)⟩ ⟨(Nat.le_of_ble_eq_true rfl), (Nat.le_of_ble_eq_true rfl)⟩ [] rfl rfl (Nat.le_of_ble_eq_true rfl) rfl (fun _ _ _ => rfl) dX0_isOwnClash_21 (fun j7 u8 w9 => ?_)
      refine V_ws [(h0, oC 2 [.ref g0, .ref g1, .ref g2, .ref g3, .ref g4, .ref h1, .ref g5, .ref h3, .ref g6, .ref g7, .ref g8, .int p0]), (h1, oC 3 [.ref h2, .int p1]), (h2, aI Y 80 f0), (h3, oC 7 [.ref h4, .int p2]), (h4, aJ Y 80 f1)] rfl ?_
      rcases w9 with rfl | rfl
      ·
        refine V_if_eq_t 24 B 31 dX0_isOwnClash_24 (by decide) (by decide +kernel) ?_
        refine V_iconst 31 B (v := 0) dX0_isOwnClash_31 (by decide +kernel) ?_
        exact V_zret 32 B rfl dX0_isOwnClash_32 (mkU [] [] [] [] []) (Or.inl rfl) rfl
      ·
        refine V_if_eq_f 24 B 31 dX0_isOwnClash_24 (by decide) (by decide +kernel) ?_
        refine V_iconst 27 B (v := 1) dX0_isOwnClash_27 (by decide +kernel) ?_
        refine V_goto 28 B 32 dX0_isOwnClash_28 (by decide) ?_
        exact V_zret 32 B rfl dX0_isOwnClash_32 (mkU [] [] [] [] []) (Or.inr rfl) rfl)
theorem glV_RX0_115 : GLV RX0 115 yX0_isOwnClash RX0 cX0_isOwnClash 5 (some .boolean) 3 := ⟨⟨(mT3 129 rfl rfl), (mT3 131 rfl rfl), (mTs 8 rfl rfl), (mT1 2 rfl rfl), (mT3 132 rfl rfl)⟩, by decide +kernel⟩
theorem dX0_lowestClash_30 : decode cX0_lowestClash 30 = .ok (.ifCond .eq 6, 3) := by decide +kernel
theorem dX0_lowestClash_33 : decode cX0_lowestClash 33 = .ok (.iload 5, 2) := by decide +kernel
theorem dX0_lowestClash_35 : decode cX0_lowestClash 35 = .ok (.ireturn, 1) := by decide +kernel
set_option maxRecDepth 100000 in
set_option maxHeartbeats 4000000 in
theorem sX0_lowestClash_1 (l : Launch) (D : va_G) (Y : Nat → ClassId) (h0 : Nat) (h1 : Nat) (h2 : Nat) (h3 : Nat) (h4 : Nat) (g0 : Nat) (g1 : Nat) (g2 : Nat) (g3 : Nat) (g4 : Nat) (g5 : Nat) (g6 : Nat) (g7 : Nat) (g8 : Nat) (p0 : Int32) (p1 : Int32) (f0 : Nat → Int32) (p2 : Int32) (f1 : Nat → Int64) (p3 : Int32) (p4 : Int64) (p5 : Int32) (sz : Nat) : Met l yX0_lowestClash (WSm yX0_lowestClash cX0_lowestClash 6 (some .int)) (mkR 2 0 0 52) (PreG EX D Y [.ref h0, .int p3, .long p4, .int p5] [(h0, oC 2 [.ref g0, .ref g1, .ref g2, .ref g3, .ref g4, .ref h1, .ref g5, .ref h3, .ref g6, .ref g7, .ref g8, .int p0]), (h1, oC 3 [.ref h2, .int p1]), (h2, aI Y 80 f0), (h3, oC 7 [.ref h4, .int p2]), (h4, aJ Y 80 f1)] sz) (QI D (fun (_ : Int32) (_ : UU) => True) (fun (u : UU) => [(h0, oC 2 [.ref g0, .ref g1, .ref g2, .ref g3, .ref g4, .ref h1, .ref g5, .ref h3, .ref g6, .ref g7, .ref g8, .int p0]), (h1, oC 3 [.ref h2, .int p1]), (h2, aI Y 80 f0), (h3, oC 7 [.ref h4, .int p2]), (h4, aJ Y 80 f1)]) (va_A [(h0, oC 2 [.ref g0, .ref g1, .ref g2, .ref g3, .ref g4, .ref h1, .ref g5, .ref h3, .ref g6, .ref g7, .ref g8, .int p0]), (h1, oC 3 [.ref h2, .int p1]), (h2, aI Y 80 f0), (h3, oC 7 [.ref h4, .int p2]), (h4, aJ Y 80 f1)] sz)) 0 0 (va_A [(h0, oC 2 [.ref g0, .ref g1, .ref g2, .ref g3, .ref g4, .ref h1, .ref g5, .ref h3, .ref g6, .ref g7, .ref g8, .int p0]), (h1, oC 3 [.ref h2, .int p1]), (h2, aI Y 80 f0), (h3, oC 7 [.ref h4, .int p2]), (h4, aJ Y 80 f1)] sz) :=
  gmet_of (by decide +kernel) (Nat.le_of_ble_eq_true rfl) (fun p e s m args below meth c B EB hsz => by
    have B : VB p s m args meth c D Y (va_A [(h0, oC 2 [.ref g0, .ref g1, .ref g2, .ref g3, .ref g4, .ref h1, .ref g5, .ref h3, .ref g6, .ref g7, .ref g8, .int p0]), (h1, oC 3 [.ref h2, .int p1]), (h2, aI Y 80 f0), (h3, oC 7 [.ref h4, .int p2]), (h4, aJ Y 80 f1)] sz) cX0_lowestClash 6 RX0 (some .int) := B
    refine V_iconst 0 B (v := 0) dX0_lowestClash_0 (by decide +kernel) ?_
    refine V_istore 1 B (lv2 := [(5, .int 0), (0, .ref h0), (1, .int p3), (2, .long p4), (4, .int p5)]) dX0_lowestClash_1 (by decide) rfl ?_
    refine V_wloop (α := UU) (fun a => (2147483647 - ((a.1 0)).toInt).toNat) (fun a => 0 ≤ ((a.1 0)).toInt) (fun a => [(5, .int (a.1 0)), (0, .ref h0), (1, .int p3), (2, .long p4), (4, .int p5)]) (fun a => [(h0, oC 2 [.ref g0, .ref g1, .ref g2, .ref g3, .ref g4, .ref h1, .ref g5, .ref h3, .ref g6, .ref g7, .ref g8, .int p0]), (h1, oC 3 [.ref h2, .int p1]), (h2, aI Y 80 f0), (h3, oC 7 [.ref h4, .int p2]), (h4, aJ Y 80 f1)]) (mkU [0] [] [] [] []) (show (0 : Int) ≤ (0 : Int32).toInt by decide +kernel) rfl rfl (fun a0 hI2 IH1 => ?_)
    refine V_lv [(5, .int (a0.1 0)), (0, .ref h0), (1, .int p3), (2, .long p4), (4, .int p5)] [0, 1, 2, 3, 4] rfl ?_
    refine V_ws [(h0, oC 2 [.ref g0, .ref g1, .ref g2, .ref g3, .ref g4, .ref h1, .ref g5, .ref h3, .ref g6, .ref g7, .ref g8, .int p0]), (h1, oC 3 [.ref h2, .int p1]), (h2, aI Y 80 f0), (h3, oC 7 [.ref h4, .int p2]), (h4, aJ Y 80 f1)] rfl ?_
    refine V_iload 3 B dX0_lowestClash_3 0 rfl ?_
    refine V_aload_n 5 B dX0_lowestClash_5 1 rfl ?_
    refine V_get 6 B gf_RX0_36 0 rfl rfl dX0_lowestClash_6 ?_
    refine V_gvi 9 B envX EB (st := [.int (a0.1 0)]) (As := []) (fun sz => sX1_size_1 l D Y h1 h2 p1 sz) glV_RX0_91 ⟨rfl, rfl⟩ ⟨(Nat.le_of_ble_eq_true rfl), (Nat.le_of_ble_eq_true rfl)⟩ ⟨(Nat.le_of_ble_eq_true rfl), (Nat.le_of_ble_eq_true rfl)⟩ [1] rfl 3 0 rfl rfl rfl rfl (Nat.le_of_ble_eq_true rfl) rfl (fun _ _ _ => rfl) dX0_lowestClash_9 (fun j3 u4 w5 => ?_)
    refine V_ws [(h0, oC 2 [.ref g0, .ref g1, .ref g2, .ref g3, .ref g4, .ref h1, .ref g5, .ref h3, .ref g6, .ref g7, .ref g8, .int p0]), (h1, oC 3 [.ref h2, .int p1]), (h2, aI Y 80 f0), (h3, oC 7 [.ref h4, .int p2]), (h4, aJ Y 80 f1)] rfl ?_
    refine V_icmp_ge 12 B 42 dX0_lowestClash_12 (by decide) (fun k6 => ?_) (fun k6 => ?_)
    ·
      refine V_iconst 42 B (v := (-1)) dX0_lowestClash_42 (by decide +kernel) ?_
      exact V_iret 43 B dX0_lowestClash_43 (mkU [] [] [] [] []) trivial rfl
    ·
      refine V_iload 15 B dX0_lowestClash_15 0 rfl ?_
      refine V_iload 17 B dX0_lowestClash_17 4 rfl ?_
      refine V_icmp_eq 19 B 36 dX0_lowestClash_19 (by decide) (fun k7 => ?_) (fun k7 => ?_)
      ·
        refine V_iinc 36 B (v := ((a0.1 0) + Int32.ofInt 1)) (lv2 := [(5, .int ((a0.1 0) + Int32.ofInt 1)), (0, .ref h0), (1, .int p3), (2, .long p4), (4, .int p5)]) dX0_lowestClash_36 0 rfl rfl (by decide) rfl ?_
        refine V_goto 39 B 3 dX0_lowestClash_39 (by decide) ?_
        refine V_lv [(5, .int ((a0.1 0) + Int32.ofInt 1)), (0, .ref h0), (1, .int p3), (2, .long p4), (4, .int p5)] [0, 1, 2, 3, 4] rfl ?_
        exact IH1 (mkU [((a0.1 0) + Int32.ofInt 1)] [] [] [] []) (Int.le_trans (by decide) (o_add_lo (c := Int32.ofInt 1) hI2 (o_lt_hi (o_nle k6) (i_hi j3) (k := 2147483646) (by decide +kernel)) (by decide +kernel) (by decide +kernel) (k := 1) (by decide +kernel))) (up_dec (x := (a0.1 0)) (c := Int32.ofInt 1) (by decide +kernel) hI2 (o_lt_hi (o_nle k6) (i_hi j3) (k := 2147483646) (by decide +kernel)) (by decide))
      ·
        refine V_aload_n 22 B dX0_lowestClash_22 1 rfl ?_
        refine V_iload 23 B dX0_lowestClash_23 0 rfl ?_
        refine V_iload_n 25 B dX0_lowestClash_25 2 rfl ?_
        refine V_lload_n 26 B dX0_lowestClash_26 3 rfl ?_
        refine V_gvi 27 B envX EB (st := []) (As := [.int (a0.1 0), .int p3, .long p4]) (fun sz => sX0_isOwnClash_1 l D Y h0 h1 h2 h3 h4 g0 g1 g2 g3 g4 g5 g6 g7 g8 p0 p1 f0 p2 f1 (a0.1 0) p3 p4 sz) glV_RX0_115 ⟨rfl, rfl⟩ ⟨(Nat.le_of_ble_eq_true rfl), (Nat.le_of_ble_eq_true rfl)⟩ ⟨(Nat.le_of_ble_eq_true rfl), (Nat.le_of_ble_eq_true rfl)⟩ [0, 0, 0, 0, 0] rfl 2 0 rfl rfl rfl rfl (Nat.le_of_ble_eq_true rfl) rfl (fun _ _ _ => rfl) dX0_lowestClash_27 (fun j8 u9 w10 => ?_)
        refine V_ws [(h0, oC 2 [.ref g0, .ref g1, .ref g2, .ref g3, .ref g4, .ref h1, .ref g5, .ref h3, .ref g6, .ref g7, .ref g8, .int p0]), (h1, oC 3 [.ref h2, .int p1]), (h2, aI Y 80 f0), (h3, oC 7 [.ref h4, .int p2]), (h4, aJ Y 80 f1)] rfl ?_
        rcases w10 with rfl | rfl
        ·
          refine V_if_eq_t 30 B 36 dX0_lowestClash_30 (by decide) (by decide +kernel) ?_
          refine V_iinc 36 B (v := ((a0.1 0) + Int32.ofInt 1)) (lv2 := [(5, .int ((a0.1 0) + Int32.ofInt 1)), (0, .ref h0), (1, .int p3), (2, .long p4), (4, .int p5)]) dX0_lowestClash_36 0 rfl rfl (by decide) rfl ?_
          refine V_goto 39 B 3 dX0_lowestClash_39 (by decide) ?_
          refine V_lv [(5, .int ((a0.1 0) + Int32.ofInt 1)), (0, .ref h0), (1, .int p3), (2, .long p4), (4, .int p5)] [0, 1, 2, 3, 4] rfl ?_
          exact IH1 (mkU [((a0.1 0) + Int32.ofInt 1)] [] [] [] []) (Int.le_trans (by decide) (o_add_lo (c := Int32.ofInt 1) hI2 (o_lt_hi (o_nle k6) (i_hi j3) (k := 2147483646) (by decide +kernel)) (by decide +kernel) (by decide +kernel) (k := 1) (by decide +kernel))) (up_dec (x := (a0.1 0)) (c := Int32.ofInt 1) (by decide +kernel) hI2 (o_lt_hi (o_nle k6) (i_hi j3) (k := 2147483646) (by decide +kernel)) (by decide))
        ·
          refine V_if_eq_f 30 B 36 dX0_lowestClash_30 (by decide) (by decide +kernel) ?_
          refine V_iload 33 B dX0_lowestClash_33 0 rfl ?_
          exact V_iret 35 B dX0_lowestClash_35 (mkU [] [] [] [] []) trivial rfl)
theorem glV_RX0_122 : GLV RX0 122 yX0_lowestClash RX0 cX0_lowestClash 6 (some .int) 3 := ⟨⟨(mT3 124 rfl rfl), (mT3 125 rfl rfl), (mT3 126 rfl rfl), (mT1 2 rfl rfl), (mT3 127 rfl rfl)⟩, by decide +kernel⟩
theorem dX0_isBarred_18 : decode cX0_isBarred 18 = .ok (.iconst (-1), 1) := by decide +kernel
theorem dX0_isBarred_19 : decode cX0_isBarred 19 = .ok (.if_icmp .eq 7, 3) := by decide +kernel
theorem dX0_isBarred_26 : decode cX0_isBarred 26 = .ok (.iconst 0, 1) := by decide +kernel
theorem dX0_isBarred_27 : decode cX0_isBarred 27 = .ok (.ireturn, 1) := by decide +kernel
theorem dX0_isBarred_22 : decode cX0_isBarred 22 = .ok (.iconst 1, 1) := by decide +kernel
theorem dX0_isBarred_23 : decode cX0_isBarred 23 = .ok (.goto 4, 3) := by decide +kernel
set_option maxRecDepth 100000 in
set_option maxHeartbeats 4000000 in
theorem sX0_isBarred_1 (l : Launch) (D : va_G) (Y : Nat → ClassId) (h0 : Nat) (h1 : Nat) (h2 : Nat) (h3 : Nat) (h4 : Nat) (h5 : Nat) (h6 : Nat) (g0 : Nat) (g1 : Nat) (g2 : Nat) (g3 : Nat) (g4 : Nat) (g5 : Nat) (g6 : Nat) (g7 : Nat) (p0 : Int32) (p1 : Int32) (f0 : Nat → Int64) (p2 : Int32) (f1 : Nat → Int32) (p3 : Int32) (f2 : Nat → Int64) (p4 : Int32) (p5 : Int64) (sz : Nat) : Met l yX0_isBarred (WSm yX0_isBarred cX0_isBarred 4 (some .boolean)) (mkR 3 0 0 77) (PreG EX D Y [.ref h0, .int p4, .long p5] [(h0, oC 2 [.ref g0, .ref g1, .ref g2, .ref g3, .ref h1, .ref h3, .ref g4, .ref h5, .ref g5, .ref g6, .ref g7, .int p0]), (h1, oC 7 [.ref h2, .int p1]), (h2, aJ Y 6 f0), (h3, oC 3 [.ref h4, .int p2]), (h4, aI Y 80 f1), (h5, oC 7 [.ref h6, .int p3]), (h6, aJ Y 80 f2)] sz) (QI D (fun (r : Int32) (_ : UU) => r = 0 ∨ r = 1) (fun (u : UU) => [(h0, oC 2 [.ref g0, .ref g1, .ref g2, .ref g3, .ref h1, .ref h3, .ref g4, .ref h5, .ref g5, .ref g6, .ref g7, .int p0]), (h1, oC 7 [.ref h2, .int p1]), (h2, aJ Y 6 f0), (h3, oC 3 [.ref h4, .int p2]), (h4, aI Y 80 f1), (h5, oC 7 [.ref h6, .int p3]), (h6, aJ Y 80 f2)]) (va_A [(h0, oC 2 [.ref g0, .ref g1, .ref g2, .ref g3, .ref h1, .ref h3, .ref g4, .ref h5, .ref g5, .ref g6, .ref g7, .int p0]), (h1, oC 7 [.ref h2, .int p1]), (h2, aJ Y 6 f0), (h3, oC 3 [.ref h4, .int p2]), (h4, aI Y 80 f1), (h5, oC 7 [.ref h6, .int p3]), (h6, aJ Y 80 f2)] sz)) 0 0 (va_A [(h0, oC 2 [.ref g0, .ref g1, .ref g2, .ref g3, .ref h1, .ref h3, .ref g4, .ref h5, .ref g5, .ref g6, .ref g7, .int p0]), (h1, oC 7 [.ref h2, .int p1]), (h2, aJ Y 6 f0), (h3, oC 3 [.ref h4, .int p2]), (h4, aI Y 80 f1), (h5, oC 7 [.ref h6, .int p3]), (h6, aJ Y 80 f2)] sz) :=
  gmet_of (by decide +kernel) (Nat.le_of_ble_eq_true rfl) (fun p e s m args below meth c B EB hsz => by
    have B : VB p s m args meth c D Y (va_A [(h0, oC 2 [.ref g0, .ref g1, .ref g2, .ref g3, .ref h1, .ref h3, .ref g4, .ref h5, .ref g5, .ref g6, .ref g7, .int p0]), (h1, oC 7 [.ref h2, .int p1]), (h2, aJ Y 6 f0), (h3, oC 3 [.ref h4, .int p2]), (h4, aI Y 80 f1), (h5, oC 7 [.ref h6, .int p3]), (h6, aJ Y 80 f2)] sz) cX0_isBarred 4 RX0 (some .boolean) := B
    refine V_aload_n 0 B dX0_isBarred_0 0 rfl ?_
    refine V_get 1 B gf_RX0_32 0 rfl rfl dX0_isBarred_1 ?_
    refine V_lload_n 4 B dX0_isBarred_4 2 rfl ?_
    refine V_gvi 5 B envX EB (st := []) (As := [.long p5]) (fun sz => sX5_hasClash_1 l D Y h1 h2 p1 f0 p5 sz) glV_RX0_119 ⟨rfl, rfl⟩ ⟨(Nat.le_of_ble_eq_true rfl), (Nat.le_of_ble_eq_true rfl)⟩ ⟨(Nat.le_of_ble_eq_true rfl), (Nat.le_of_ble_eq_true rfl)⟩ [1, 0] rfl 7 0 rfl rfl rfl rfl (Nat.le_of_ble_eq_true rfl) rfl (fun _ _ _ => rfl) dX0_isBarred_5 (fun j0 u1 w2 => ?_)
    refine V_ws [(h0, oC 2 [.ref g0, .ref g1, .ref g2, .ref g3, .ref h1, .ref h3, .ref g4, .ref h5, .ref g5, .ref g6, .ref g7, .int p0]), (h1, oC 7 [.ref h2, .int p1]), (h2, aJ Y 6 f0), (h3, oC 3 [.ref h4, .int p2]), (h4, aI Y 80 f1), (h5, oC 7 [.ref h6, .int p3]), (h6, aJ Y 80 f2)] rfl ?_
    rcases w2 with rfl | rfl
    ·
      refine V_if_ne_f 8 B 22 dX0_isBarred_8 (by decide) (by decide +kernel) ?_
      refine V_aload_n 11 B dX0_isBarred_11 0 rfl ?_
      refine V_iload_n 12 B dX0_isBarred_12 1 rfl ?_
      refine V_lload_n 13 B dX0_isBarred_13 2 rfl ?_
      refine V_iconst 14 B (v := (-1)) dX0_isBarred_14 (by decide +kernel) ?_
      refine V_gvi 15 B envX EB (st := []) (As := [.int p4, .long p5, .int (-1)]) (fun sz => sX0_lowestClash_1 l D Y h0 h3 h4 h5 h6 g0 g1 g2 g3 h1 g4 g5 g6 g7 p0 p2 f1 p3 f2 p4 p5 (-1) sz) glV_RX0_122 ⟨rfl, rfl⟩ ⟨(Nat.le_of_ble_eq_true rfl), (Nat.le_of_ble_eq_true rfl)⟩ ⟨(Nat.le_of_ble_eq_true rfl), (Nat.le_of_ble_eq_true rfl)⟩ [0, 2, 0, 0, 0] rfl 2 0 rfl rfl rfl rfl (Nat.le_of_ble_eq_true rfl) rfl (fun _ _ _ => rfl) dX0_isBarred_15 (fun j3 u4 w5 => ?_)
      refine V_ws [(h0, oC 2 [.ref g0, .ref g1, .ref g2, .ref g3, .ref h1, .ref h3, .ref g4, .ref h5, .ref g5, .ref g6, .ref g7, .int p0]), (h1, oC 7 [.ref h2, .int p1]), (h2, aJ Y 6 f0), (h3, oC 3 [.ref h4, .int p2]), (h4, aI Y 80 f1), (h5, oC 7 [.ref h6, .int p3]), (h6, aJ Y 80 f2)] rfl ?_
      refine V_iconst 18 B (v := (-1)) dX0_isBarred_18 (by decide +kernel) ?_
      refine V_icmp_eq 19 B 26 dX0_isBarred_19 (by decide) (fun k6 => ?_) (fun k6 => ?_)
      ·
        obtain rfl : j3 = (-1) := k6
        refine V_iconst 26 B (v := 0) dX0_isBarred_26 (by decide +kernel) ?_
        exact V_zret 27 B rfl dX0_isBarred_27 (mkU [] [] [] [] []) (Or.inl rfl) rfl
      ·
        refine V_iconst 22 B (v := 1) dX0_isBarred_22 (by decide +kernel) ?_
        refine V_goto 23 B 27 dX0_isBarred_23 (by decide) ?_
        exact V_zret 27 B rfl dX0_isBarred_27 (mkU [] [] [] [] []) (Or.inr rfl) rfl
    ·
      refine V_if_ne_t 8 B 22 dX0_isBarred_8 (by decide) (by decide +kernel) ?_
      refine V_iconst 22 B (v := 1) dX0_isBarred_22 (by decide +kernel) ?_
      refine V_goto 23 B 27 dX0_isBarred_23 (by decide) ?_
      exact V_zret 27 B rfl dX0_isBarred_27 (mkU [] [] [] [] []) (Or.inr rfl) rfl)
theorem glV_RX3_160 : GLV RX3 160 yX0_isBarred RX0 cX0_isBarred 4 (some .boolean) 2 := ⟨⟨(mT3 119 rfl rfl), (mT3 120 rfl rfl), (mT3 121 rfl rfl), (mT1 2 rfl rfl), (mT3 122 rfl rfl)⟩, by decide +kernel⟩
theorem dX3_readBinding_125 : decode cX3_readBinding 125 = .ok (.ifCond .eq 13, 3) := by decide +kernel
theorem dX3_readBinding_138 : decode cX3_readBinding 138 = .ok (.aload_n 0, 1) := by decide +kernel
theorem dX3_readBinding_139 : decode cX3_readBinding 139 = .ok (.getfield 15, 3) := by decide +kernel
theorem dX3_readBinding_142 : decode cX3_readBinding 142 = .ok (.iload_n 2, 1) := by decide +kernel
theorem dX3_readBinding_143 : decode cX3_readBinding 143 = .ok (.iload_n 3, 1) := by decide +kernel
theorem dX3_readBinding_144 : decode cX3_readBinding 144 = .ok (.aload_n 0, 1) := by decide +kernel
theorem dX3_readBinding_145 : decode cX3_readBinding 145 = .ok (.getfield 9, 3) := by decide +kernel
theorem dX3_readBinding_148 : decode cX3_readBinding 148 = .ok (.getfield 147, 3) := by decide +kernel
theorem dX3_readBinding_151 : decode cX3_readBinding 151 = .ok (.invokevirtual 164, 3) := by decide +kernel
theorem dX0_appendBinding_0 : decode cX0_appendBinding 0 = .ok (.aload_n 0, 1) := by decide +kernel
theorem dX0_appendBinding_1 : decode cX0_appendBinding 1 = .ok (.getfield 36, 3) := by decide +kernel
theorem dX0_appendBinding_4 : decode cX0_appendBinding 4 = .ok (.iload_n 1, 1) := by decide +kernel
theorem dX0_appendBinding_5 : decode cX0_appendBinding 5 = .ok (.invokevirtual 66, 3) := by decide +kernel
set_option maxRecDepth 100000 in
set_option maxHeartbeats 4000000 in
theorem sX1_push_4 (l : Launch) (D : va_G) (Y : Nat → ClassId) (h0 : Nat) (h1 : Nat) (p0 : Int32) (f0 : Nat → Int32) (p1 : Int32) (sz : Nat) : Met l yX1_push (WSm yX1_push cX1_push 2 (some .boolean)) (mkR 0 0 0 0) (PreG EX D Y [.ref h0, .int p1] [(h0, oC 3 [.ref h1, .int p0]), (h1, aI Y 80 f0)] sz) (QI D (fun (r : Int32) (_ : UU) => r = 0 ∨ r = 1) (fun (u : UU) => [(h0, oC 3 [.ref h1, .int (u.1 0)]), (h1, aI Y 80 (u.2.2.1 0))]) (va_A [(h0, oC 3 [.ref h1, .int p0]), (h1, aI Y 80 f0)] sz)) 0 0 (va_A [(h0, oC 3 [.ref h1, .int p0]), (h1, aI Y 80 f0)] sz) :=
  gmet_of (by decide +kernel) (Nat.le_of_ble_eq_true rfl) (fun p e s m args below meth c B EB hsz => by
    have B : VB p s m args meth c D Y (va_A [(h0, oC 3 [.ref h1, .int p0]), (h1, aI Y 80 f0)] sz) cX1_push 2 RX1 (some .boolean) := B
    refine V_aload_n 0 B dX1_push_0 0 rfl ?_
    refine V_get 1 B gf_RX1_21 0 rfl rfl dX1_push_1 ?_
    refine V_if_lt 4 B 19 dX1_push_4 (by decide) (fun k0 => ?_) (fun k0 => ?_)
    ·
      refine V_iconst 19 B (v := 0) dX1_push_19 (by decide +kernel) ?_
      exact V_zret 20 B rfl dX1_push_20 (mkU [p0] [] [f0] [] []) (Or.inl rfl) rfl
    ·
      refine V_aload_n 7 B dX1_push_7 0 rfl ?_
      refine V_get 8 B gf_RX1_21 0 rfl rfl dX1_push_8 ?_
      refine V_aload_n 11 B dX1_push_11 0 rfl ?_
      refine V_get 12 B gf_RX1_15 0 rfl rfl dX1_push_12 ?_
      refine V_alenI 15 B (v := 80) 1 rfl (by decide +kernel) dX1_push_15 ?_
      refine V_icmp_lt 16 B 21 dX1_push_16 (by decide) (fun k1 => ?_) (fun k1 => ?_)
      ·
        refine V_aload_n 21 B dX1_push_21 0 rfl ?_
        refine V_get 22 B gf_RX1_15 0 rfl rfl dX1_push_22 ?_
        refine V_aload_n 25 B dX1_push_25 0 rfl ?_
        refine V_get 26 B gf_RX1_21 0 rfl rfl dX1_push_26 ?_
        refine V_iload_n 29 B dX1_push_29 1 rfl ?_
        refine V_iast 30 B 1 rfl (vpin_b (b_nlt k0 (n := 0) (by decide +kernel)) (b_lt k1 (n := 79) (by decide +kernel)) (by decide)) dX1_push_30 [(h0, oC 3 [.ref h1, .int p0]), (h1, aI Y 80 (upd f0 (p0 : Int32).toNatClampNeg p1))] rfl ?_
        refine V_aload_n 31 B dX1_push_31 0 rfl ?_
        refine V_dup 32 B dX1_push_32 rfl ?_
        refine V_get 33 B gf_RX1_21 0 rfl rfl dX1_push_33 ?_
        refine V_iconst 36 B (v := 1) dX1_push_36 (by decide +kernel) ?_
        refine V_iadd 37 B dX1_push_37 rfl ?_
        refine V_put 38 B gp_RX1_21 0 rfl (Nat.le_of_ble_eq_true rfl) rfl rfl dX1_push_38 [(h0, oC 3 [.ref h1, .int (p0 + 1)]), (h1, aI Y 80 (upd f0 (p0 : Int32).toNatClampNeg p1))] rfl ?_
        refine V_iconst 41 B (v := 1) dX1_push_41 (by decide +kernel) ?_
        exact V_zret 42 B rfl dX1_push_42 (mkU [(p0 + 1)] [] [(upd f0 (p0 : Int32).toNatClampNeg p1)] [] []) (Or.inr rfl) rfl
      ·
        refine V_iconst 19 B (v := 0) dX1_push_19 (by decide +kernel) ?_
        exact V_zret 20 B rfl dX1_push_20 (mkU [p0] [] [f0] [] []) (Or.inl rfl) rfl)
theorem dX0_appendBinding_8 : decode cX0_appendBinding 8 = .ok (.pop, 1) := by decide +kernel
theorem dX0_appendBinding_9 : decode cX0_appendBinding 9 = .ok (.aload_n 0, 1) := by decide +kernel
theorem dX0_appendBinding_10 : decode cX0_appendBinding 10 = .ok (.getfield 39, 3) := by decide +kernel
theorem dX0_appendBinding_13 : decode cX0_appendBinding 13 = .ok (.iload_n 2, 1) := by decide +kernel
theorem dX0_appendBinding_14 : decode cX0_appendBinding 14 = .ok (.invokevirtual 66, 3) := by decide +kernel
theorem dX0_appendBinding_17 : decode cX0_appendBinding 17 = .ok (.pop, 1) := by decide +kernel
theorem dX0_appendBinding_18 : decode cX0_appendBinding 18 = .ok (.aload_n 0, 1) := by decide +kernel
theorem dX0_appendBinding_19 : decode cX0_appendBinding 19 = .ok (.getfield 42, 3) := by decide +kernel
theorem dX0_appendBinding_22 : decode cX0_appendBinding 22 = .ok (.lload_n 3, 1) := by decide +kernel
theorem dX0_appendBinding_23 : decode cX0_appendBinding 23 = .ok (.invokevirtual 95, 3) := by decide +kernel
theorem dX5_push_0 : decode cX5_push 0 = .ok (.aload_n 0, 1) := by decide +kernel
theorem dX5_push_1 : decode cX5_push 1 = .ok (.getfield 19, 3) := by decide +kernel
theorem dX5_push_4 : decode cX5_push 4 = .ok (.ifCond .lt 15, 3) := by decide +kernel
theorem dX5_push_19 : decode cX5_push 19 = .ok (.iconst 0, 1) := by decide +kernel
theorem dX5_push_20 : decode cX5_push 20 = .ok (.ireturn, 1) := by decide +kernel
theorem dX5_push_7 : decode cX5_push 7 = .ok (.aload_n 0, 1) := by decide +kernel
theorem dX5_push_8 : decode cX5_push 8 = .ok (.getfield 19, 3) := by decide +kernel
theorem dX5_push_11 : decode cX5_push 11 = .ok (.aload_n 0, 1) := by decide +kernel
theorem dX5_push_12 : decode cX5_push 12 = .ok (.getfield 13, 3) := by decide +kernel
theorem dX5_push_15 : decode cX5_push 15 = .ok (.arraylength, 1) := by decide +kernel
theorem dX5_push_16 : decode cX5_push 16 = .ok (.if_icmp .lt 5, 3) := by decide +kernel
theorem dX5_push_21 : decode cX5_push 21 = .ok (.aload_n 0, 1) := by decide +kernel
theorem dX5_push_22 : decode cX5_push 22 = .ok (.getfield 13, 3) := by decide +kernel
theorem dX5_push_25 : decode cX5_push 25 = .ok (.aload_n 0, 1) := by decide +kernel
theorem dX5_push_26 : decode cX5_push 26 = .ok (.getfield 19, 3) := by decide +kernel
theorem dX5_push_29 : decode cX5_push 29 = .ok (.lload_n 1, 1) := by decide +kernel
theorem dX5_push_30 : decode cX5_push 30 = .ok (.lastore, 1) := by decide +kernel
theorem dX5_push_31 : decode cX5_push 31 = .ok (.aload_n 0, 1) := by decide +kernel
theorem dX5_push_32 : decode cX5_push 32 = .ok (.dup, 1) := by decide +kernel
theorem dX5_push_33 : decode cX5_push 33 = .ok (.getfield 19, 3) := by decide +kernel
theorem dX5_push_36 : decode cX5_push 36 = .ok (.iconst 1, 1) := by decide +kernel
theorem dX5_push_37 : decode cX5_push 37 = .ok (.iadd, 1) := by decide +kernel
theorem dX5_push_38 : decode cX5_push 38 = .ok (.putfield 19, 3) := by decide +kernel
theorem dX5_push_41 : decode cX5_push 41 = .ok (.iconst 1, 1) := by decide +kernel
theorem dX5_push_42 : decode cX5_push 42 = .ok (.ireturn, 1) := by decide +kernel
set_option maxRecDepth 100000 in
set_option maxHeartbeats 4000000 in
theorem sX5_push_1 (l : Launch) (D : va_G) (Y : Nat → ClassId) (h0 : Nat) (h1 : Nat) (p0 : Int32) (f0 : Nat → Int64) (p1 : Int64) (sz : Nat) : Met l yX5_push (WSm yX5_push cX5_push 3 (some .boolean)) (mkR 0 0 0 0) (PreG EX D Y [.ref h0, .long p1] [(h0, oC 7 [.ref h1, .int p0]), (h1, aJ Y 80 f0)] sz) (QI D (fun (r : Int32) (_ : UU) => r = 0 ∨ r = 1) (fun (u : UU) => [(h0, oC 7 [.ref h1, .int (u.1 0)]), (h1, aJ Y 80 (u.2.2.2.1 0))]) (va_A [(h0, oC 7 [.ref h1, .int p0]), (h1, aJ Y 80 f0)] sz)) 0 0 (va_A [(h0, oC 7 [.ref h1, .int p0]), (h1, aJ Y 80 f0)] sz) :=
  gmet_of (by decide +kernel) (Nat.le_of_ble_eq_true rfl) (fun p e s m args below meth c B EB hsz => by
    have B : VB p s m args meth c D Y (va_A [(h0, oC 7 [.ref h1, .int p0]), (h1, aJ Y 80 f0)] sz) cX5_push 3 RX5 (some .boolean) := B
    refine V_aload_n 0 B dX5_push_0 0 rfl ?_
    refine V_get 1 B gf_RX5_19 0 rfl rfl dX5_push_1 ?_
    refine V_if_lt 4 B 19 dX5_push_4 (by decide) (fun k0 => ?_) (fun k0 => ?_)
    ·
      refine V_iconst 19 B (v := 0) dX5_push_19 (by decide +kernel) ?_
      exact V_zret 20 B rfl dX5_push_20 (mkU [p0] [] [] [f0] []) (Or.inl rfl) rfl
    ·
      refine V_aload_n 7 B dX5_push_7 0 rfl ?_
      refine V_get 8 B gf_RX5_19 0 rfl rfl dX5_push_8 ?_
      refine V_aload_n 11 B dX5_push_11 0 rfl ?_
      refine V_get 12 B gf_RX5_13 0 rfl rfl dX5_push_12 ?_
      refine V_alenJ 15 B (v := 80) 1 rfl (by decide +kernel) dX5_push_15 ?_
      refine V_icmp_lt 16 B 21 dX5_push_16 (by decide) (fun k1 => ?_) (fun k1 => ?_)
      ·
        refine V_aload_n 21 B dX5_push_21 0 rfl ?_
        refine V_get 22 B gf_RX5_13 0 rfl rfl dX5_push_22 ?_
        refine V_aload_n 25 B dX5_push_25 0 rfl ?_
        refine V_get 26 B gf_RX5_19 0 rfl rfl dX5_push_26 ?_
        refine V_lload_n 29 B dX5_push_29 1 rfl ?_
        refine V_last 30 B 1 rfl (vpin_b (b_nlt k0 (n := 0) (by decide +kernel)) (b_lt k1 (n := 79) (by decide +kernel)) (by decide)) dX5_push_30 [(h0, oC 7 [.ref h1, .int p0]), (h1, aJ Y 80 (vp_updL f0 (p0 : Int32).toNatClampNeg p1))] rfl ?_
        refine V_aload_n 31 B dX5_push_31 0 rfl ?_
        refine V_dup 32 B dX5_push_32 rfl ?_
        refine V_get 33 B gf_RX5_19 0 rfl rfl dX5_push_33 ?_
        refine V_iconst 36 B (v := 1) dX5_push_36 (by decide +kernel) ?_
        refine V_iadd 37 B dX5_push_37 rfl ?_
        refine V_put 38 B gp_RX5_19 0 rfl (Nat.le_of_ble_eq_true rfl) rfl rfl dX5_push_38 [(h0, oC 7 [.ref h1, .int (p0 + 1)]), (h1, aJ Y 80 (vp_updL f0 (p0 : Int32).toNatClampNeg p1))] rfl ?_
        refine V_iconst 41 B (v := 1) dX5_push_41 (by decide +kernel) ?_
        exact V_zret 42 B rfl dX5_push_42 (mkU [(p0 + 1)] [] [] [(vp_updL f0 (p0 : Int32).toNatClampNeg p1)] []) (Or.inr rfl) rfl
      ·
        refine V_iconst 19 B (v := 0) dX5_push_19 (by decide +kernel) ?_
        exact V_zret 20 B rfl dX5_push_20 (mkU [p0] [] [] [f0] []) (Or.inl rfl) rfl)
theorem glV_RX0_95 : GLV RX0 95 yX5_push RX5 cX5_push 3 (some .boolean) 1 := ⟨⟨(mT3 146 rfl rfl), (mT3 111 rfl rfl), (mT3 112 rfl rfl), (mT1 5 rfl rfl), (mT3 113 rfl rfl)⟩, by decide +kernel⟩
theorem dX0_appendBinding_26 : decode cX0_appendBinding 26 = .ok (.pop, 1) := by decide +kernel
theorem dX0_appendBinding_27 : decode cX0_appendBinding 27 = .ok (.return_, 1) := by decide +kernel
set_option maxRecDepth 100000 in
set_option maxHeartbeats 4000000 in
theorem sX0_appendBinding_1 (l : Launch) (D : va_G) (Y : Nat → ClassId) (h0 : Nat) (h1 : Nat) (h2 : Nat) (h3 : Nat) (h4 : Nat) (h5 : Nat) (h6 : Nat) (g0 : Nat) (g1 : Nat) (g2 : Nat) (g3 : Nat) (g4 : Nat) (g5 : Nat) (g6 : Nat) (g7 : Nat) (p0 : Int32) (p1 : Int32) (f0 : Nat → Int32) (p2 : Int32) (f1 : Nat → Int32) (p3 : Int32) (f2 : Nat → Int64) (p4 : Int32) (p5 : Int32) (p6 : Int64) (sz : Nat) : Met l yX0_appendBinding (WSm yX0_appendBinding cX0_appendBinding 5 none) (mkR 1 0 0 22) (PreG EX D Y [.ref h0, .int p4, .int p5, .long p6] [(h0, oC 2 [.ref g0, .ref g1, .ref g2, .ref g3, .ref g4, .ref h1, .ref h3, .ref h5, .ref g5, .ref g6, .ref g7, .int p0]), (h1, oC 3 [.ref h2, .int p1]), (h2, aI Y 80 f0), (h3, oC 3 [.ref h4, .int p2]), (h4, aI Y 80 f1), (h5, oC 7 [.ref h6, .int p3]), (h6, aJ Y 80 f2)] sz) (QV D (fun (_ : UU) => True) (fun (u : UU) => [(h0, oC 2 [.ref g0, .ref g1, .ref g2, .ref g3, .ref g4, .ref h1, .ref h3, .ref h5, .ref g5, .ref g6, .ref g7, .int p0]), (h1, oC 3 [.ref h2, .int (u.1 0)]), (h2, aI Y 80 (u.2.2.1 0)), (h3, oC 3 [.ref h4, .int (u.1 1)]), (h4, aI Y 80 (u.2.2.1 1)), (h5, oC 7 [.ref h6, .int (u.1 2)]), (h6, aJ Y 80 (u.2.2.2.1 0))]) (va_A [(h0, oC 2 [.ref g0, .ref g1, .ref g2, .ref g3, .ref g4, .ref h1, .ref h3, .ref h5, .ref g5, .ref g6, .ref g7, .int p0]), (h1, oC 3 [.ref h2, .int p1]), (h2, aI Y 80 f0), (h3, oC 3 [.ref h4, .int p2]), (h4, aI Y 80 f1), (h5, oC 7 [.ref h6, .int p3]), (h6, aJ Y 80 f2)] sz)) 0 0 (va_A [(h0, oC 2 [.ref g0, .ref g1, .ref g2, .ref g3, .ref g4, .ref h1, .ref h3, .ref h5, .ref g5, .ref g6, .ref g7, .int p0]), (h1, oC 3 [.ref h2, .int p1]), (h2, aI Y 80 f0), (h3, oC 3 [.ref h4, .int p2]), (h4, aI Y 80 f1), (h5, oC 7 [.ref h6, .int p3]), (h6, aJ Y 80 f2)] sz) :=
  gmet_of (by decide +kernel) (Nat.le_of_ble_eq_true rfl) (fun p e s m args below meth c B EB hsz => by
    have B : VB p s m args meth c D Y (va_A [(h0, oC 2 [.ref g0, .ref g1, .ref g2, .ref g3, .ref g4, .ref h1, .ref h3, .ref h5, .ref g5, .ref g6, .ref g7, .int p0]), (h1, oC 3 [.ref h2, .int p1]), (h2, aI Y 80 f0), (h3, oC 3 [.ref h4, .int p2]), (h4, aI Y 80 f1), (h5, oC 7 [.ref h6, .int p3]), (h6, aJ Y 80 f2)] sz) cX0_appendBinding 5 RX0 none := B
    refine V_aload_n 0 B dX0_appendBinding_0 0 rfl ?_
    refine V_get 1 B gf_RX0_36 0 rfl rfl dX0_appendBinding_1 ?_
    refine V_iload_n 4 B dX0_appendBinding_4 1 rfl ?_
    refine V_gvi 5 B envX EB (st := []) (As := [.int p4]) (fun sz => sX1_push_4 l D Y h1 h2 p1 f0 p4 sz) glV_RX0_66 ⟨rfl, rfl⟩ ⟨(Nat.le_of_ble_eq_true rfl), (Nat.le_of_ble_eq_true rfl)⟩ ⟨(Nat.le_of_ble_eq_true rfl), (Nat.le_of_ble_eq_true rfl)⟩ [1, 0] rfl 3 0 rfl rfl rfl rfl (Nat.le_of_ble_eq_true rfl) rfl (fun _ _ _ => rfl) dX0_appendBinding_5 (fun j0 u1 w2 => ?_)
    refine V_ws [(h0, oC 2 [.ref g0, .ref g1, .ref g2, .ref g3, .ref g4, .ref h1, .ref h3, .ref h5, .ref g5, .ref g6, .ref g7, .int p0]), (h1, oC 3 [.ref h2, .int (u1.1 0)]), (h2, aI Y 80 (u1.2.2.1 0)), (h3, oC 3 [.ref h4, .int p2]), (h4, aI Y 80 f1), (h5, oC 7 [.ref h6, .int p3]), (h6, aJ Y 80 f2)] rfl ?_
    rcases w2 with rfl | rfl
    ·
      refine V_pop 8 B dX0_appendBinding_8 rfl ?_
      refine V_aload_n 9 B dX0_appendBinding_9 0 rfl ?_
      refine V_get 10 B gf_RX0_39 0 rfl rfl dX0_appendBinding_10 ?_
      refine V_iload_n 13 B dX0_appendBinding_13 2 rfl ?_
      refine V_gvi 14 B envX EB (st := []) (As := [.int p5]) (fun sz => sX1_push_4 l D Y h3 h4 p2 f1 p5 sz) glV_RX0_66 ⟨rfl, rfl⟩ ⟨(Nat.le_of_ble_eq_true rfl), (Nat.le_of_ble_eq_true rfl)⟩ ⟨(Nat.le_of_ble_eq_true rfl), (Nat.le_of_ble_eq_true rfl)⟩ [3, 0] rfl 3 0 rfl rfl rfl rfl (Nat.le_of_ble_eq_true rfl) rfl (fun _ _ _ => rfl) dX0_appendBinding_14 (fun j3 u4 w5 => ?_)
      refine V_ws [(h0, oC 2 [.ref g0, .ref g1, .ref g2, .ref g3, .ref g4, .ref h1, .ref h3, .ref h5, .ref g5, .ref g6, .ref g7, .int p0]), (h1, oC 3 [.ref h2, .int (u1.1 0)]), (h2, aI Y 80 (u1.2.2.1 0)), (h3, oC 3 [.ref h4, .int (u4.1 0)]), (h4, aI Y 80 (u4.2.2.1 0)), (h5, oC 7 [.ref h6, .int p3]), (h6, aJ Y 80 f2)] rfl ?_
      rcases w5 with rfl | rfl
      ·
        refine V_pop 17 B dX0_appendBinding_17 rfl ?_
        refine V_aload_n 18 B dX0_appendBinding_18 0 rfl ?_
        refine V_get 19 B gf_RX0_42 0 rfl rfl dX0_appendBinding_19 ?_
        refine V_lload_n 22 B dX0_appendBinding_22 3 rfl ?_
        refine V_gvi 23 B envX EB (st := []) (As := [.long p6]) (fun sz => sX5_push_1 l D Y h5 h6 p3 f2 p6 sz) glV_RX0_95 ⟨rfl, rfl⟩ ⟨(Nat.le_of_ble_eq_true rfl), (Nat.le_of_ble_eq_true rfl)⟩ ⟨(Nat.le_of_ble_eq_true rfl), (Nat.le_of_ble_eq_true rfl)⟩ [5, 0] rfl 7 0 rfl rfl rfl rfl (Nat.le_of_ble_eq_true rfl) rfl (fun _ _ _ => rfl) dX0_appendBinding_23 (fun j6 u7 w8 => ?_)
        refine V_ws [(h0, oC 2 [.ref g0, .ref g1, .ref g2, .ref g3, .ref g4, .ref h1, .ref h3, .ref h5, .ref g5, .ref g6, .ref g7, .int p0]), (h1, oC 3 [.ref h2, .int (u1.1 0)]), (h2, aI Y 80 (u1.2.2.1 0)), (h3, oC 3 [.ref h4, .int (u4.1 0)]), (h4, aI Y 80 (u4.2.2.1 0)), (h5, oC 7 [.ref h6, .int (u7.1 0)]), (h6, aJ Y 80 (u7.2.2.2.1 0))] rfl ?_
        rcases w8 with rfl | rfl
        ·
          refine V_pop 26 B dX0_appendBinding_26 rfl ?_
          exact V_vret 27 B dX0_appendBinding_27 (mkU [(u1.1 0), (u4.1 0), (u7.1 0)] [] [(u1.2.2.1 0), (u4.2.2.1 0)] [(u7.2.2.2.1 0)] []) trivial rfl
        ·
          refine V_pop 26 B dX0_appendBinding_26 rfl ?_
          exact V_vret 27 B dX0_appendBinding_27 (mkU [(u1.1 0), (u4.1 0), (u7.1 0)] [] [(u1.2.2.1 0), (u4.2.2.1 0)] [(u7.2.2.2.1 0)] []) trivial rfl
      ·
        refine V_pop 17 B dX0_appendBinding_17 rfl ?_
        refine V_aload_n 18 B dX0_appendBinding_18 0 rfl ?_
        refine V_get 19 B gf_RX0_42 0 rfl rfl dX0_appendBinding_19 ?_
        refine V_lload_n 22 B dX0_appendBinding_22 3 rfl ?_
        refine V_gvi 23 B envX EB (st := []) (As := [.long p6]) (fun sz => sX5_push_1 l D Y h5 h6 p3 f2 p6 sz) glV_RX0_95 ⟨rfl, rfl⟩ ⟨(Nat.le_of_ble_eq_true rfl), (Nat.le_of_ble_eq_true rfl)⟩ ⟨(Nat.le_of_ble_eq_true rfl), (Nat.le_of_ble_eq_true rfl)⟩ [5, 0] rfl 7 0 rfl rfl rfl rfl (Nat.le_of_ble_eq_true rfl) rfl (fun _ _ _ => rfl) dX0_appendBinding_23 (fun j9 u10 w11 => ?_)
        refine V_ws [(h0, oC 2 [.ref g0, .ref g1, .ref g2, .ref g3, .ref g4, .ref h1, .ref h3, .ref h5, .ref g5, .ref g6, .ref g7, .int p0]), (h1, oC 3 [.ref h2, .int (u1.1 0)]), (h2, aI Y 80 (u1.2.2.1 0)), (h3, oC 3 [.ref h4, .int (u4.1 0)]), (h4, aI Y 80 (u4.2.2.1 0)), (h5, oC 7 [.ref h6, .int (u10.1 0)]), (h6, aJ Y 80 (u10.2.2.2.1 0))] rfl ?_
        rcases w11 with rfl | rfl
        ·
          refine V_pop 26 B dX0_appendBinding_26 rfl ?_
          exact V_vret 27 B dX0_appendBinding_27 (mkU [(u1.1 0), (u4.1 0), (u10.1 0)] [] [(u1.2.2.1 0), (u4.2.2.1 0)] [(u10.2.2.2.1 0)] []) trivial rfl
        ·
          refine V_pop 26 B dX0_appendBinding_26 rfl ?_
          exact V_vret 27 B dX0_appendBinding_27 (mkU [(u1.1 0), (u4.1 0), (u10.1 0)] [] [(u1.2.2.1 0), (u4.2.2.1 0)] [(u10.2.2.2.1 0)] []) trivial rfl
    ·
      refine V_pop 8 B dX0_appendBinding_8 rfl ?_
      refine V_aload_n 9 B dX0_appendBinding_9 0 rfl ?_
      refine V_get 10 B gf_RX0_39 0 rfl rfl dX0_appendBinding_10 ?_
      refine V_iload_n 13 B dX0_appendBinding_13 2 rfl ?_
      refine V_gvi 14 B envX EB (st := []) (As := [.int p5]) (fun sz => sX1_push_4 l D Y h3 h4 p2 f1 p5 sz) glV_RX0_66 ⟨rfl, rfl⟩ ⟨(Nat.le_of_ble_eq_true rfl), (Nat.le_of_ble_eq_true rfl)⟩ ⟨(Nat.le_of_ble_eq_true rfl), (Nat.le_of_ble_eq_true rfl)⟩ [3, 0] rfl 3 0 rfl rfl rfl rfl (Nat.le_of_ble_eq_true rfl) rfl (fun _ _ _ => rfl) dX0_appendBinding_14 (fun j12 u13 w14 => ?_)
      refine V_ws [(h0, oC 2 [.ref g0, .ref g1, .ref g2, .ref g3, .ref g4, .ref h1, .ref h3, .ref h5, .ref g5, .ref g6, .ref g7, .int p0]), (h1, oC 3 [.ref h2, .int (u1.1 0)]), (h2, aI Y 80 (u1.2.2.1 0)), (h3, oC 3 [.ref h4, .int (u13.1 0)]), (h4, aI Y 80 (u13.2.2.1 0)), (h5, oC 7 [.ref h6, .int p3]), (h6, aJ Y 80 f2)] rfl ?_
      rcases w14 with rfl | rfl
      ·
        refine V_pop 17 B dX0_appendBinding_17 rfl ?_
        refine V_aload_n 18 B dX0_appendBinding_18 0 rfl ?_
        refine V_get 19 B gf_RX0_42 0 rfl rfl dX0_appendBinding_19 ?_
        refine V_lload_n 22 B dX0_appendBinding_22 3 rfl ?_
        refine V_gvi 23 B envX EB (st := []) (As := [.long p6]) (fun sz => sX5_push_1 l D Y h5 h6 p3 f2 p6 sz) glV_RX0_95 ⟨rfl, rfl⟩ ⟨(Nat.le_of_ble_eq_true rfl), (Nat.le_of_ble_eq_true rfl)⟩ ⟨(Nat.le_of_ble_eq_true rfl), (Nat.le_of_ble_eq_true rfl)⟩ [5, 0] rfl 7 0 rfl rfl rfl rfl (Nat.le_of_ble_eq_true rfl) rfl (fun _ _ _ => rfl) dX0_appendBinding_23 (fun j15 u16 w17 => ?_)
        refine V_ws [(h0, oC 2 [.ref g0, .ref g1, .ref g2, .ref g3, .ref g4, .ref h1, .ref h3, .ref h5, .ref g5, .ref g6, .ref g7, .int p0]), (h1, oC 3 [.ref h2, .int (u1.1 0)]), (h2, aI Y 80 (u1.2.2.1 0)), (h3, oC 3 [.ref h4, .int (u13.1 0)]), (h4, aI Y 80 (u13.2.2.1 0)), (h5, oC 7 [.ref h6, .int (u16.1 0)]), (h6, aJ Y 80 (u16.2.2.2.1 0))] rfl ?_
        rcases w17 with rfl | rfl
        ·
          refine V_pop 26 B dX0_appendBinding_26 rfl ?_
          exact V_vret 27 B dX0_appendBinding_27 (mkU [(u1.1 0), (u13.1 0), (u16.1 0)] [] [(u1.2.2.1 0), (u13.2.2.1 0)] [(u16.2.2.2.1 0)] []) trivial rfl
        ·
          refine V_pop 26 B dX0_appendBinding_26 rfl ?_
          exact V_vret 27 B dX0_appendBinding_27 (mkU [(u1.1 0), (u13.1 0), (u16.1 0)] [] [(u1.2.2.1 0), (u13.2.2.1 0)] [(u16.2.2.2.1 0)] []) trivial rfl
      ·
        refine V_pop 17 B dX0_appendBinding_17 rfl ?_
        refine V_aload_n 18 B dX0_appendBinding_18 0 rfl ?_
        refine V_get 19 B gf_RX0_42 0 rfl rfl dX0_appendBinding_19 ?_
        refine V_lload_n 22 B dX0_appendBinding_22 3 rfl ?_
        refine V_gvi 23 B envX EB (st := []) (As := [.long p6]) (fun sz => sX5_push_1 l D Y h5 h6 p3 f2 p6 sz) glV_RX0_95 ⟨rfl, rfl⟩ ⟨(Nat.le_of_ble_eq_true rfl), (Nat.le_of_ble_eq_true rfl)⟩ ⟨(Nat.le_of_ble_eq_true rfl), (Nat.le_of_ble_eq_true rfl)⟩ [5, 0] rfl 7 0 rfl rfl rfl rfl (Nat.le_of_ble_eq_true rfl) rfl (fun _ _ _ => rfl) dX0_appendBinding_23 (fun j18 u19 w20 => ?_)
        refine V_ws [(h0, oC 2 [.ref g0, .ref g1, .ref g2, .ref g3, .ref g4, .ref h1, .ref h3, .ref h5, .ref g5, .ref g6, .ref g7, .int p0]), (h1, oC 3 [.ref h2, .int (u1.1 0)]), (h2, aI Y 80 (u1.2.2.1 0)), (h3, oC 3 [.ref h4, .int (u13.1 0)]), (h4, aI Y 80 (u13.2.2.1 0)), (h5, oC 7 [.ref h6, .int (u19.1 0)]), (h6, aJ Y 80 (u19.2.2.2.1 0))] rfl ?_
        rcases w20 with rfl | rfl
        ·
          refine V_pop 26 B dX0_appendBinding_26 rfl ?_
          exact V_vret 27 B dX0_appendBinding_27 (mkU [(u1.1 0), (u13.1 0), (u19.1 0)] [] [(u1.2.2.1 0), (u13.2.2.1 0)] [(u19.2.2.2.1 0)] []) trivial rfl
        ·
          refine V_pop 26 B dX0_appendBinding_26 rfl ?_
          exact V_vret 27 B dX0_appendBinding_27 (mkU [(u1.1 0), (u13.1 0), (u19.1 0)] [] [(u1.2.2.1 0), (u13.2.2.1 0)] [(u19.2.2.2.1 0)] []) trivial rfl)
theorem glV_RX3_164 : GLV RX3 164 yX0_appendBinding RX0 cX0_appendBinding 5 none 3 := ⟨⟨(mT3 142 rfl rfl), (mT3 143 rfl rfl), (mT3 144 rfl rfl), (mT1 2 rfl rfl), (mT3 145 rfl rfl)⟩, by decide +kernel⟩
theorem dX3_readBinding_154 : decode cX3_readBinding 154 = .ok (.iconst 1, 1) := by decide +kernel
theorem dX3_readBinding_155 : decode cX3_readBinding 155 = .ok (.ireturn, 1) := by decide +kernel
theorem dX3_readBinding_128 : decode cX3_readBinding 128 = .ok (.aload_n 0, 1) := by decide +kernel
theorem dX3_readBinding_129 : decode cX3_readBinding 129 = .ok (.getfield 9, 3) := by decide +kernel
theorem dX3_readBinding_132 : decode cX3_readBinding 132 = .ok (.iconst 4, 1) := by decide +kernel
theorem dX3_readBinding_133 : decode cX3_readBinding 133 = .ok (.iload_n 1, 1) := by decide +kernel
theorem dX3_readBinding_134 : decode cX3_readBinding 134 = .ok (.invokevirtual 63, 3) := by decide +kernel
theorem dX3_readBinding_137 : decode cX3_readBinding 137 = .ok (.ireturn, 1) := by decide +kernel
theorem dX3_readBinding_21 : decode cX3_readBinding 21 = .ok (.aload_n 0, 1) := by decide +kernel
theorem dX3_readBinding_22 : decode cX3_readBinding 22 = .ok (.getfield 9, 3) := by decide +kernel
theorem dX3_readBinding_25 : decode cX3_readBinding 25 = .ok (.iconst 3, 1) := by decide +kernel
theorem dX3_readBinding_26 : decode cX3_readBinding 26 = .ok (.iload_n 1, 1) := by decide +kernel
theorem dX3_readBinding_27 : decode cX3_readBinding 27 = .ok (.invokevirtual 63, 3) := by decide +kernel
theorem dX3_readBinding_30 : decode cX3_readBinding 30 = .ok (.ireturn, 1) := by decide +kernel
set_option maxRecDepth 100000 in
set_option maxHeartbeats 4000000 in
theorem sX3_readBinding_1 (l : Launch) (D : va_G) (Y : Nat → ClassId) (h0 : Nat) (h1 : Nat) (h2 : Nat) (h3 : Nat) (h4 : Nat) (h5 : Nat) (h6 : Nat) (h7 : Nat) (h8 : Nat) (h9 : Nat) (h10 : Nat) (h11 : Nat) (h12 : Nat) (h13 : Nat) (g0 : Nat) (g1 : Nat) (g2 : Nat) (g3 : Nat) (g4 : Nat) (g5 : Nat) (g6 : Nat) (g7 : Nat) (p0 : Int32) (p1 : Int32) (p2 : Int32) (p3 : Int32) (f0 : Nat → Int64) (p4 : Int32) (f1 : Nat → Int32) (p5 : Int32) (f2 : Nat → Int32) (p6 : Int32) (f3 : Nat → Int64) (p7 : Int32) (p8 : Int32) (p9 : Int32) (p10 : Int32) (p11 : Int32) (p12 : Int64) (p13 : Int32) (p14 : Int32) (f4 : Nat → Int32) (sz : Nat) : Met l yX3_readBinding (WSm yX3_readBinding cX3_readBinding 4 (some .boolean)) (mkR 4 0 0 100) (PreG EX D Y [.ref h13] [(h0, oC 2 [.ref h1, .ref h2, .ref g0, .ref g1, .ref h3, .ref h5, .ref h7, .ref h9, .ref g2, .ref g3, .ref g4, .int p0]), (h1, oC 3 [.ref g5, .int p1]), (h2, oC 3 [.ref g6, .int p2]), (h3, oC 7 [.ref h4, .int p3]), (h4, aJ Y 6 f0), (h5, oC 3 [.ref h6, .int p4]), (h6, aI Y 80 f1), (h7, oC 3 [.ref h8, .int p5]), (h8, aI Y 80 f2), (h9, oC 7 [.ref h10, .int p6]), (h10, aJ Y 80 f3), (h11, oC 8 [.ref h12, .int p7, .int p8, .int p9, .int p10, .int p11, .long p12, .int p13, .int p14]), (h12, aB Y 1600 f4), (h13, oC 5 [.ref h11, .ref h0, .ref g7])] sz) (QI D (fun (r : Int32) (_ : UU) => r = 0 ∨ r = 1) (fun (u : UU) => [(h0, oC 2 [.ref h1, .ref h2, .ref g0, .ref g1, .ref h3, .ref h5, .ref h7, .ref h9, .ref g2, .ref g3, .ref g4, .int p0]), (h1, oC 3 [.ref g5, .int p1]), (h2, oC 3 [.ref g6, .int p2]), (h3, oC 7 [.ref h4, .int p3]), (h4, aJ Y 6 f0), (h5, oC 3 [.ref h6, .int (u.1 0)]), (h6, aI Y 80 (u.2.2.1 0)), (h7, oC 3 [.ref h8, .int (u.1 1)]), (h8, aI Y 80 (u.2.2.1 1)), (h9, oC 7 [.ref h10, .int (u.1 2)]), (h10, aJ Y 80 (u.2.2.2.1 0)), (h11, oC 8 [.ref h12, .int p7, .int (u.1 3), .int (u.1 4), .int (u.1 5), .int (u.1 6), .long (u.2.1 0), .int (u.1 7), .int (u.1 8)]), (h12, aB Y 1600 f4), (h13, oC 5 [.ref h11, .ref h0, .ref g7])]) (va_A [(h0, oC 2 [.ref h1, .ref h2, .ref g0, .ref g1, .ref h3, .ref h5, .ref h7, .ref h9, .ref g2, .ref g3, .ref g4, .int p0]), (h1, oC 3 [.ref g5, .int p1]), (h2, oC 3 [.ref g6, .int p2]), (h3, oC 7 [.ref h4, .int p3]), (h4, aJ Y 6 f0), (h5, oC 3 [.ref h6, .int p4]), (h6, aI Y 80 f1), (h7, oC 3 [.ref h8, .int p5]), (h8, aI Y 80 f2), (h9, oC 7 [.ref h10, .int p6]), (h10, aJ Y 80 f3), (h11, oC 8 [.ref h12, .int p7, .int p8, .int p9, .int p10, .int p11, .long p12, .int p13, .int p14]), (h12, aB Y 1600 f4), (h13, oC 5 [.ref h11, .ref h0, .ref g7])] sz)) 0 0 (va_A [(h0, oC 2 [.ref h1, .ref h2, .ref g0, .ref g1, .ref h3, .ref h5, .ref h7, .ref h9, .ref g2, .ref g3, .ref g4, .int p0]), (h1, oC 3 [.ref g5, .int p1]), (h2, oC 3 [.ref g6, .int p2]), (h3, oC 7 [.ref h4, .int p3]), (h4, aJ Y 6 f0), (h5, oC 3 [.ref h6, .int p4]), (h6, aI Y 80 f1), (h7, oC 3 [.ref h8, .int p5]), (h8, aI Y 80 f2), (h9, oC 7 [.ref h10, .int p6]), (h10, aJ Y 80 f3), (h11, oC 8 [.ref h12, .int p7, .int p8, .int p9, .int p10, .int p11, .long p12, .int p13, .int p14]), (h12, aB Y 1600 f4), (h13, oC 5 [.ref h11, .ref h0, .ref g7])] sz) :=
  gmet_of (by decide +kernel) (Nat.le_of_ble_eq_true rfl) (fun p e s m args below meth c B EB hsz => by
    have B : VB p s m args meth c D Y (va_A [(h0, oC 2 [.ref h1, .ref h2, .ref g0, .ref g1, .ref h3, .ref h5, .ref h7, .ref h9, .ref g2, .ref g3, .ref g4, .int p0]), (h1, oC 3 [.ref g5, .int p1]), (h2, oC 3 [.ref g6, .int p2]), (h3, oC 7 [.ref h4, .int p3]), (h4, aJ Y 6 f0), (h5, oC 3 [.ref h6, .int p4]), (h6, aI Y 80 f1), (h7, oC 3 [.ref h8, .int p5]), (h8, aI Y 80 f2), (h9, oC 7 [.ref h10, .int p6]), (h10, aJ Y 80 f3), (h11, oC 8 [.ref h12, .int p7, .int p8, .int p9, .int p10, .int p11, .long p12, .int p13, .int p14]), (h12, aB Y 1600 f4), (h13, oC 5 [.ref h11, .ref h0, .ref g7])] sz) cX3_readBinding 4 RX3 (some .boolean) := B
    refine V_aload_n 0 B dX3_readBinding_0 0 rfl ?_
    refine V_get 1 B gf_RX3_9 13 rfl rfl dX3_readBinding_1 ?_
    refine V_get 4 B gf_RX3_106 11 rfl rfl dX3_readBinding_4 ?_
    refine V_istore_n 7 B (lv2 := [(1, .int p9), (0, .ref h13)]) dX3_readBinding_7 (by decide) rfl ?_
    refine V_aload_n 8 B dX3_readBinding_8 1 rfl ?_
    refine V_get 9 B gf_RX3_15 13 rfl rfl dX3_readBinding_9 ?_
    refine V_get 12 B gf_RX3_157 0 rfl rfl dX3_readBinding_12 ?_
    refine V_gvi 15 B envX EB (st := []) (As := []) (fun sz => sX1_isFull_2 l D Y h5 h6 p4 f1 sz) glV_RX3_109 ⟨rfl, rfl⟩ ⟨(Nat.le_of_ble_eq_true rfl), (Nat.le_of_ble_eq_true rfl)⟩ ⟨(Nat.le_of_ble_eq_true rfl), (Nat.le_of_ble_eq_true rfl)⟩ [5, 0] rfl 3 0 rfl rfl rfl rfl (Nat.le_of_ble_eq_true rfl) rfl (fun _ _ _ => rfl) dX3_readBinding_15 (fun j0 u1 w2 => ?_)
    refine V_ws [(h0, oC 2 [.ref h1, .ref h2, .ref g0, .ref g1, .ref h3, .ref h5, .ref h7, .ref h9, .ref g2, .ref g3, .ref g4, .int p0]), (h1, oC 3 [.ref g5, .int p1]), (h2, oC 3 [.ref g6, .int p2]), (h3, oC 7 [.ref h4, .int p3]), (h4, aJ Y 6 f0), (h5, oC 3 [.ref h6, .int p4]), (h6, aI Y 80 f1), (h7, oC 3 [.ref h8, .int p5]), (h8, aI Y 80 f2), (h9, oC 7 [.ref h10, .int p6]), (h10, aJ Y 80 f3), (h11, oC 8 [.ref h12, .int p7, .int p8, .int p9, .int p10, .int p11, .long p12, .int p13, .int p14]), (h12, aB Y 1600 f4), (h13, oC 5 [.ref h11, .ref h0, .ref g7])] rfl ?_
    rcases w2 with rfl | rfl
    ·
      refine V_if_eq_t 18 B 31 dX3_readBinding_18 (by decide) (by decide +kernel) ?_
      refine V_aload_n 31 B dX3_readBinding_31 1 rfl ?_
      refine V_get 32 B gf_RX3_9 13 rfl rfl dX3_readBinding_32 ?_
      refine V_gvv 35 B envX EB (st := []) (As := []) (fun sz => sX7_advance_1 l D Y h11 h12 p7 p8 p9 p10 p11 p12 p13 p14 f4 sz) glV_RX3_112 ⟨rfl, rfl⟩ ⟨(Nat.le_of_ble_eq_true rfl), (Nat.le_of_ble_eq_true rfl)⟩ ⟨(Nat.le_of_ble_eq_true rfl), (Nat.le_of_ble_eq_true rfl)⟩ [11, 0] rfl 8 0 rfl rfl rfl rfl (Nat.le_of_ble_eq_true rfl) rfl (fun _ _ => rfl) dX3_readBinding_35 (fun u4 w5 => ?_)
      refine V_ws [(h0, oC 2 [.ref h1, .ref h2, .ref g0, .ref g1, .ref h3, .ref h5, .ref h7, .ref h9, .ref g2, .ref g3, .ref g4, .int p0]), (h1, oC 3 [.ref g5, .int p1]), (h2, oC 3 [.ref g6, .int p2]), (h3, oC 7 [.ref h4, .int p3]), (h4, aJ Y 6 f0), (h5, oC 3 [.ref h6, .int p4]), (h6, aI Y 80 f1), (h7, oC 3 [.ref h8, .int p5]), (h8, aI Y 80 f2), (h9, oC 7 [.ref h10, .int p6]), (h10, aJ Y 80 f3), (h11, oC 8 [.ref h12, .int p7, .int (u4.1 0), .int (u4.1 1), .int (u4.1 2), .int p11, .long p12, .int p13, .int p14]), (h12, aB Y 1600 f4), (h13, oC 5 [.ref h11, .ref h0, .ref g7])] rfl ?_
      refine V_aload_n 38 B dX3_readBinding_38 1 rfl ?_
      refine V_get 39 B gf_RX3_9 13 rfl rfl dX3_readBinding_39 ?_
      refine V_aload_n 42 B dX3_readBinding_42 1 rfl ?_
      refine V_get 43 B gf_RX3_15 13 rfl rfl dX3_readBinding_43 ?_
      refine V_get 46 B gf_RX3_57 0 rfl rfl dX3_readBinding_46 ?_
      refine V_gvi 49 B envX EB (st := [.ref h11]) (As := []) (fun sz => sX1_size_1 l D Y h1 g5 p1 sz) glV_RX3_49 ⟨rfl, rfl⟩ ⟨(Nat.le_of_ble_eq_true rfl), (Nat.le_of_ble_eq_true rfl)⟩ ⟨(Nat.le_of_ble_eq_true rfl), (Nat.le_of_ble_eq_true rfl)⟩ [1] rfl 3 0 rfl rfl rfl rfl (Nat.le_of_ble_eq_true rfl) rfl (fun _ _ _ => rfl) dX3_readBinding_49 (fun j6 u7 w8 => ?_)
      refine V_ws [(h0, oC 2 [.ref h1, .ref h2, .ref g0, .ref g1, .ref h3, .ref h5, .ref h7, .ref h9, .ref g2, .ref g3, .ref g4, .int p0]), (h1, oC 3 [.ref g5, .int p1]), (h2, oC 3 [.ref g6, .int p2]), (h3, oC 7 [.ref h4, .int p3]), (h4, aJ Y 6 f0), (h5, oC 3 [.ref h6, .int p4]), (h6, aI Y 80 f1), (h7, oC 3 [.ref h8, .int p5]), (h8, aI Y 80 f2), (h9, oC 7 [.ref h10, .int p6]), (h10, aJ Y 80 f3), (h11, oC 8 [.ref h12, .int p7, .int (u4.1 0), .int (u4.1 1), .int (u4.1 2), .int p11, .long p12, .int p13, .int p14]), (h12, aB Y 1600 f4), (h13, oC 5 [.ref h11, .ref h0, .ref g7])] rfl ?_
      refine V_gvi 52 B envX EB (st := []) (As := [.int j6]) (fun sz => sX7_takeNumber_1 l D Y h11 h12 p7 (u4.1 0) (u4.1 1) (u4.1 2) p11 p12 p13 p14 f4 j6 sz) glV_RX3_115 ⟨rfl, rfl⟩ ⟨(Nat.le_of_ble_eq_true rfl), (Nat.le_of_ble_eq_true rfl)⟩ ⟨(Nat.le_of_ble_eq_true rfl), (Nat.le_of_ble_eq_true rfl)⟩ [11, 0] rfl 8 0 rfl rfl rfl rfl (Nat.le_of_ble_eq_true rfl) rfl (fun _ _ _ => rfl) dX3_readBinding_52 (fun j9 u10 w11 => ?_)
      refine V_ws [(h0, oC 2 [.ref h1, .ref h2, .ref g0, .ref g1, .ref h3, .ref h5, .ref h7, .ref h9, .ref g2, .ref g3, .ref g4, .int p0]), (h1, oC 3 [.ref g5, .int p1]), (h2, oC 3 [.ref g6, .int p2]), (h3, oC 7 [.ref h4, .int p3]), (h4, aJ Y 6 f0), (h5, oC 3 [.ref h6, .int p4]), (h6, aI Y 80 f1), (h7, oC 3 [.ref h8, .int p5]), (h8, aI Y 80 f2), (h9, oC 7 [.ref h10, .int p6]), (h10, aJ Y 80 f3), (h11, oC 8 [.ref h12, .int p7, .int (u10.1 0), .int (u10.1 1), .int (u10.1 2), .int (u10.1 3), .long p12, .int (u10.1 4), .int (u10.1 5)]), (h12, aB Y 1600 f4), (h13, oC 5 [.ref h11, .ref h0, .ref g7])] rfl ?_
      rcases w11 with rfl | rfl
      ·
        refine V_if_ne_f 55 B 60 dX3_readBinding_55 (by decide) (by decide +kernel) ?_
        refine V_iconst 58 B (v := 0) dX3_readBinding_58 (by decide +kernel) ?_
        exact V_zret 59 B rfl dX3_readBinding_59 (mkU [p4, p5, p6, (u10.1 0), (u10.1 1), (u10.1 2), (u10.1 3), (u10.1 4), (u10.1 5)] [p12] [f1, f2] [f3] []) (Or.inl rfl) rfl
      ·
        refine V_if_ne_t 55 B 60 dX3_readBinding_55 (by decide) (by decide +kernel) ?_
        refine V_aload_n 60 B dX3_readBinding_60 1 rfl ?_
        refine V_get 61 B gf_RX3_9 13 rfl rfl dX3_readBinding_61 ?_
        refine V_get 64 B gf_RX3_121 11 rfl rfl dX3_readBinding_64 ?_
        refine V_istore_n 67 B (lv2 := [(2, .int (u10.1 3)), (1, .int p9), (0, .ref h13)]) dX3_readBinding_67 (by decide) rfl ?_
        refine V_aload_n 68 B dX3_readBinding_68 2 rfl ?_
        refine V_get 69 B gf_RX3_9 13 rfl rfl dX3_readBinding_69 ?_
        refine V_aload_n 72 B dX3_readBinding_72 2 rfl ?_
        refine V_get 73 B gf_RX3_15 13 rfl rfl dX3_readBinding_73 ?_
        refine V_get 76 B gf_RX3_127 0 rfl rfl dX3_readBinding_76 ?_
        refine V_gvi 79 B envX EB (st := [.ref h11]) (As := []) (fun sz => sX1_size_1 l D Y h2 g6 p2 sz) glV_RX3_49 ⟨rfl, rfl⟩ ⟨(Nat.le_of_ble_eq_true rfl), (Nat.le_of_ble_eq_true rfl)⟩ ⟨(Nat.le_of_ble_eq_true rfl), (Nat.le_of_ble_eq_true rfl)⟩ [2] rfl 3 0 rfl rfl rfl rfl (Nat.le_of_ble_eq_true rfl) rfl (fun _ _ _ => rfl) dX3_readBinding_79 (fun j12 u13 w14 => ?_)
        refine V_ws [(h0, oC 2 [.ref h1, .ref h2, .ref g0, .ref g1, .ref h3, .ref h5, .ref h7, .ref h9, .ref g2, .ref g3, .ref g4, .int p0]), (h1, oC 3 [.ref g5, .int p1]), (h2, oC 3 [.ref g6, .int p2]), (h3, oC 7 [.ref h4, .int p3]), (h4, aJ Y 6 f0), (h5, oC 3 [.ref h6, .int p4]), (h6, aI Y 80 f1), (h7, oC 3 [.ref h8, .int p5]), (h8, aI Y 80 f2), (h9, oC 7 [.ref h10, .int p6]), (h10, aJ Y 80 f3), (h11, oC 8 [.ref h12, .int p7, .int (u10.1 0), .int (u10.1 1), .int (u10.1 2), .int (u10.1 3), .long p12, .int (u10.1 4), .int (u10.1 5)]), (h12, aB Y 1600 f4), (h13, oC 5 [.ref h11, .ref h0, .ref g7])] rfl ?_
        refine V_gvi 82 B envX EB (st := []) (As := [.int j12]) (fun sz => sX7_takeNumber_1 l D Y h11 h12 p7 (u10.1 0) (u10.1 1) (u10.1 2) (u10.1 3) p12 (u10.1 4) (u10.1 5) f4 j12 sz) glV_RX3_115 ⟨rfl, rfl⟩ ⟨(Nat.le_of_ble_eq_true rfl), (Nat.le_of_ble_eq_true rfl)⟩ ⟨(Nat.le_of_ble_eq_true rfl), (Nat.le_of_ble_eq_true rfl)⟩ [11, 0] rfl 8 0 rfl rfl rfl rfl (Nat.le_of_ble_eq_true rfl) rfl (fun _ _ _ => rfl) dX3_readBinding_82 (fun j15 u16 w17 => ?_)
        refine V_ws [(h0, oC 2 [.ref h1, .ref h2, .ref g0, .ref g1, .ref h3, .ref h5, .ref h7, .ref h9, .ref g2, .ref g3, .ref g4, .int p0]), (h1, oC 3 [.ref g5, .int p1]), (h2, oC 3 [.ref g6, .int p2]), (h3, oC 7 [.ref h4, .int p3]), (h4, aJ Y 6 f0), (h5, oC 3 [.ref h6, .int p4]), (h6, aI Y 80 f1), (h7, oC 3 [.ref h8, .int p5]), (h8, aI Y 80 f2), (h9, oC 7 [.ref h10, .int p6]), (h10, aJ Y 80 f3), (h11, oC 8 [.ref h12, .int p7, .int (u16.1 0), .int (u16.1 1), .int (u16.1 2), .int (u16.1 3), .long p12, .int (u16.1 4), .int (u16.1 5)]), (h12, aB Y 1600 f4), (h13, oC 5 [.ref h11, .ref h0, .ref g7])] rfl ?_
        rcases w17 with rfl | rfl
        ·
          refine V_if_ne_f 85 B 90 dX3_readBinding_85 (by decide) (by decide +kernel) ?_
          refine V_iconst 88 B (v := 0) dX3_readBinding_88 (by decide +kernel) ?_
          exact V_zret 89 B rfl dX3_readBinding_89 (mkU [p4, p5, p6, (u16.1 0), (u16.1 1), (u16.1 2), (u16.1 3), (u16.1 4), (u16.1 5)] [p12] [f1, f2] [f3] []) (Or.inl rfl) rfl
        ·
          refine V_if_ne_t 85 B 90 dX3_readBinding_85 (by decide) (by decide +kernel) ?_
          refine V_aload_n 90 B dX3_readBinding_90 2 rfl ?_
          refine V_get 91 B gf_RX3_9 13 rfl rfl dX3_readBinding_91 ?_
          refine V_get 94 B gf_RX3_121 11 rfl rfl dX3_readBinding_94 ?_
          refine V_istore_n 97 B (lv2 := [(3, .int (u16.1 3)), (2, .int (u10.1 3)), (1, .int p9), (0, .ref h13)]) dX3_readBinding_97 (by decide) rfl ?_
          refine V_aload_n 98 B dX3_readBinding_98 3 rfl ?_
          refine V_get 99 B gf_RX3_9 13 rfl rfl dX3_readBinding_99 ?_
          refine V_gvi 102 B envX EB (st := []) (As := []) (fun sz => sX7_takeSequence_1 l D Y h11 h12 p7 (u16.1 0) (u16.1 1) (u16.1 2) (u16.1 3) p12 (u16.1 4) (u16.1 5) f4 sz) glV_RX3_141 ⟨rfl, rfl⟩ ⟨(Nat.le_of_ble_eq_true rfl), (Nat.le_of_ble_eq_true rfl)⟩ ⟨(Nat.le_of_ble_eq_true rfl), (Nat.le_of_ble_eq_true rfl)⟩ [11, 0] rfl 8 0 rfl rfl rfl rfl (Nat.le_of_ble_eq_true rfl) rfl (fun _ _ _ => rfl) dX3_readBinding_102 (fun j18 u19 w20 => ?_)
          refine V_ws [(h0, oC 2 [.ref h1, .ref h2, .ref g0, .ref g1, .ref h3, .ref h5, .ref h7, .ref h9, .ref g2, .ref g3, .ref g4, .int p0]), (h1, oC 3 [.ref g5, .int p1]), (h2, oC 3 [.ref g6, .int p2]), (h3, oC 7 [.ref h4, .int p3]), (h4, aJ Y 6 f0), (h5, oC 3 [.ref h6, .int p4]), (h6, aI Y 80 f1), (h7, oC 3 [.ref h8, .int p5]), (h8, aI Y 80 f2), (h9, oC 7 [.ref h10, .int p6]), (h10, aJ Y 80 f3), (h11, oC 8 [.ref h12, .int p7, .int (u19.1 0), .int (u19.1 1), .int (u19.1 2), .int (u16.1 3), .long (u19.2.1 0), .int (u19.1 3), .int (u19.1 4)]), (h12, aB Y 1600 f4), (h13, oC 5 [.ref h11, .ref h0, .ref g7])] rfl ?_
          rcases w20 with rfl | rfl
          ·
            refine V_if_ne_f 105 B 110 dX3_readBinding_105 (by decide) (by decide +kernel) ?_
            refine V_iconst 108 B (v := 0) dX3_readBinding_108 (by decide +kernel) ?_
            exact V_zret 109 B rfl dX3_readBinding_109 (mkU [p4, p5, p6, (u19.1 0), (u19.1 1), (u19.1 2), (u16.1 3), (u19.1 3), (u19.1 4)] [(u19.2.1 0)] [f1, f2] [f3] []) (Or.inl rfl) rfl
          ·
            refine V_if_ne_t 105 B 110 dX3_readBinding_105 (by decide) (by decide +kernel) ?_
            refine V_aload_n 110 B dX3_readBinding_110 3 rfl ?_
            refine V_get 111 B gf_RX3_15 13 rfl rfl dX3_readBinding_111 ?_
            refine V_iload_n 114 B dX3_readBinding_114 1 rfl ?_
            refine V_aload_n 115 B dX3_readBinding_115 3 rfl ?_
            refine V_get 116 B gf_RX3_9 13 rfl rfl dX3_readBinding_116 ?_
            refine V_get 119 B gf_RX3_147 11 rfl rfl dX3_readBinding_119 ?_
            refine V_gvi 122 B envX EB (st := []) (As := [.int (u10.1 3), .long (u19.2.1 0)]) (fun sz => sX0_isBarred_1 l D Y h0 h3 h4 h5 h6 h9 h10 h1 h2 g0 g1 h7 g2 g3 g4 p0 p3 f0 p4 f1 p6 f3 (u10.1 3) (u19.2.1 0) sz) glV_RX3_160 ⟨rfl, rfl⟩ ⟨(Nat.le_of_ble_eq_true rfl), (Nat.le_of_ble_eq_true rfl)⟩ ⟨(Nat.le_of_ble_eq_true rfl), (Nat.le_of_ble_eq_true rfl)⟩ [0, 2, 0, 0, 0, 2, 0] rfl 2 0 rfl rfl rfl rfl (Nat.le_of_ble_eq_true rfl) rfl (fun _ _ _ => rfl) dX3_readBinding_122 (fun j21 u22 w23 => ?_)
            refine V_ws [(h0, oC 2 [.ref h1, .ref h2, .ref g0, .ref g1, .ref h3, .ref h5, .ref h7, .ref h9, .ref g2, .ref g3, .ref g4, .int p0]), (h1, oC 3 [.ref g5, .int p1]), (h2, oC 3 [.ref g6, .int p2]), (h3, oC 7 [.ref h4, .int p3]), (h4, aJ Y 6 f0), (h5, oC 3 [.ref h6, .int p4]), (h6, aI Y 80 f1), (h7, oC 3 [.ref h8, .int p5]), (h8, aI Y 80 f2), (h9, oC 7 [.ref h10, .int p6]), (h10, aJ Y 80 f3), (h11, oC 8 [.ref h12, .int p7, .int (u19.1 0), .int (u19.1 1), .int (u19.1 2), .int (u16.1 3), .long (u19.2.1 0), .int (u19.1 3), .int (u19.1 4)]), (h12, aB Y 1600 f4), (h13, oC 5 [.ref h11, .ref h0, .ref g7])] rfl ?_
            rcases w23 with rfl | rfl
            ·
              refine V_if_eq_t 125 B 138 dX3_readBinding_125 (by decide) (by decide +kernel) ?_
              refine V_aload_n 138 B dX3_readBinding_138 3 rfl ?_
              refine V_get 139 B gf_RX3_15 13 rfl rfl dX3_readBinding_139 ?_
              refine V_iload_n 142 B dX3_readBinding_142 1 rfl ?_
              refine V_iload_n 143 B dX3_readBinding_143 0 rfl ?_
              refine V_aload_n 144 B dX3_readBinding_144 3 rfl ?_
              refine V_get 145 B gf_RX3_9 13 rfl rfl dX3_readBinding_145 ?_
              refine V_get 148 B gf_RX3_147 11 rfl rfl dX3_readBinding_148 ?_
              refine V_gvv 151 B envX EB (st := []) (As := [.int (u10.1 3), .int (u16.1 3), .long (u19.2.1 0)]) (fun sz => sX0_appendBinding_1 l D Y h0 h5 h6 h7 h8 h9 h10 h1 h2 g0 g1 h3 g2 g3 g4 p0 p4 f1 p5 f2 p6 f3 (u10.1 3) (u16.1 3) (u19.2.1 0) sz) glV_RX3_164 ⟨rfl, rfl⟩ ⟨(Nat.le_of_ble_eq_true rfl), (Nat.le_of_ble_eq_true rfl)⟩ ⟨(Nat.le_of_ble_eq_true rfl), (Nat.le_of_ble_eq_true rfl)⟩ [0, 4, 0, 0, 0, 0, 0] rfl 2 0 rfl rfl rfl rfl (Nat.le_of_ble_eq_true rfl) rfl (fun _ _ => rfl) dX3_readBinding_151 (fun u25 w26 => ?_)
              refine V_ws [(h0, oC 2 [.ref h1, .ref h2, .ref g0, .ref g1, .ref h3, .ref h5, .ref h7, .ref h9, .ref g2, .ref g3, .ref g4, .int p0]), (h1, oC 3 [.ref g5, .int p1]), (h2, oC 3 [.ref g6, .int p2]), (h3, oC 7 [.ref h4, .int p3]), (h4, aJ Y 6 f0), (h5, oC 3 [.ref h6, .int (u25.1 0)]), (h6, aI Y 80 (u25.2.2.1 0)), (h7, oC 3 [.ref h8, .int (u25.1 1)]), (h8, aI Y 80 (u25.2.2.1 1)), (h9, oC 7 [.ref h10, .int (u25.1 2)]), (h10, aJ Y 80 (u25.2.2.2.1 0)), (h11, oC 8 [.ref h12, .int p7, .int (u19.1 0), .int (u19.1 1), .int (u19.1 2), .int (u16.1 3), .long (u19.2.1 0), .int (u19.1 3), .int (u19.1 4)]), (h12, aB Y 1600 f4), (h13, oC 5 [.ref h11, .ref h0, .ref g7])] rfl ?_
              refine V_iconst 154 B (v := 1) dX3_readBinding_154 (by decide +kernel) ?_
              exact V_zret 155 B rfl dX3_readBinding_155 (mkU [(u25.1 0), (u25.1 1), (u25.1 2), (u19.1 0), (u19.1 1), (u19.1 2), (u16.1 3), (u19.1 3), (u19.1 4)] [(u19.2.1 0)] [(u25.2.2.1 0), (u25.2.2.1 1)] [(u25.2.2.2.1 0)] []) (Or.inr rfl) rfl
            ·
              refine V_if_eq_f 125 B 138 dX3_readBinding_125 (by decide) (by decide +kernel) ?_
              refine V_aload_n 128 B dX3_readBinding_128 3 rfl ?_
              refine V_get 129 B gf_RX3_9 13 rfl rfl dX3_readBinding_129 ?_
              refine V_iconst 132 B (v := 4) dX3_readBinding_132 (by decide +kernel) ?_
              refine V_iload_n 133 B dX3_readBinding_133 2 rfl ?_
              refine V_gvi 134 B envX EB (st := []) (As := [.int 4, .int p9]) (fun sz => sX7_fail_1 l D Y h11 h12 p7 (u19.1 0) (u19.1 1) (u19.1 2) (u16.1 3) (u19.2.1 0) (u19.1 3) (u19.1 4) 4 p9 sz) glV_RX3_63 ⟨rfl, rfl⟩ ⟨(Nat.le_of_ble_eq_true rfl), (Nat.le_of_ble_eq_true rfl)⟩ ⟨(Nat.le_of_ble_eq_true rfl), (Nat.le_of_ble_eq_true rfl)⟩ [11] rfl 8 0 rfl rfl rfl rfl (Nat.le_of_ble_eq_true rfl) rfl (fun _ _ _ => rfl) dX3_readBinding_134 (fun j27 u28 w29 => ?_)
              refine V_ws [(h0, oC 2 [.ref h1, .ref h2, .ref g0, .ref g1, .ref h3, .ref h5, .ref h7, .ref h9, .ref g2, .ref g3, .ref g4, .int p0]), (h1, oC 3 [.ref g5, .int p1]), (h2, oC 3 [.ref g6, .int p2]), (h3, oC 7 [.ref h4, .int p3]), (h4, aJ Y 6 f0), (h5, oC 3 [.ref h6, .int p4]), (h6, aI Y 80 f1), (h7, oC 3 [.ref h8, .int p5]), (h8, aI Y 80 f2), (h9, oC 7 [.ref h10, .int p6]), (h10, aJ Y 80 f3), (h11, oC 8 [.ref h12, .int p7, .int (u19.1 0), .int (u19.1 1), .int (u19.1 2), .int (u16.1 3), .long (u19.2.1 0), .int (u28.1 0), .int (u28.1 1)]), (h12, aB Y 1600 f4), (h13, oC 5 [.ref h11, .ref h0, .ref g7])] rfl ?_
              rcases w29 with rfl | rfl
              ·
                exact V_zret 137 B rfl dX3_readBinding_137 (mkU [p4, p5, p6, (u19.1 0), (u19.1 1), (u19.1 2), (u16.1 3), (u28.1 0), (u28.1 1)] [(u19.2.1 0)] [f1, f2] [f3] []) (Or.inl rfl) rfl
              ·
                exact V_zret 137 B rfl dX3_readBinding_137 (mkU [p4, p5, p6, (u19.1 0), (u19.1 1), (u19.1 2), (u16.1 3), (u28.1 0), (u28.1 1)] [(u19.2.1 0)] [f1, f2] [f3] []) (Or.inr rfl) rfl
    ·
      refine V_if_eq_f 18 B 31 dX3_readBinding_18 (by decide) (by decide +kernel) ?_
      refine V_aload_n 21 B dX3_readBinding_21 1 rfl ?_
      refine V_get 22 B gf_RX3_9 13 rfl rfl dX3_readBinding_22 ?_
      refine V_iconst 25 B (v := 3) dX3_readBinding_25 (by decide +kernel) ?_
      refine V_iload_n 26 B dX3_readBinding_26 0 rfl ?_
      refine V_gvi 27 B envX EB (st := []) (As := [.int 3, .int p9]) (fun sz => sX7_fail_1 l D Y h11 h12 p7 p8 p9 p10 p11 p12 p13 p14 3 p9 sz) glV_RX3_63 ⟨rfl, rfl⟩ ⟨(Nat.le_of_ble_eq_true rfl), (Nat.le_of_ble_eq_true rfl)⟩ ⟨(Nat.le_of_ble_eq_true rfl), (Nat.le_of_ble_eq_true rfl)⟩ [11] rfl 8 0 rfl rfl rfl rfl (Nat.le_of_ble_eq_true rfl) rfl (fun _ _ _ => rfl) dX3_readBinding_27 (fun j30 u31 w32 => ?_)
      refine V_ws [(h0, oC 2 [.ref h1, .ref h2, .ref g0, .ref g1, .ref h3, .ref h5, .ref h7, .ref h9, .ref g2, .ref g3, .ref g4, .int p0]), (h1, oC 3 [.ref g5, .int p1]), (h2, oC 3 [.ref g6, .int p2]), (h3, oC 7 [.ref h4, .int p3]), (h4, aJ Y 6 f0), (h5, oC 3 [.ref h6, .int p4]), (h6, aI Y 80 f1), (h7, oC 3 [.ref h8, .int p5]), (h8, aI Y 80 f2), (h9, oC 7 [.ref h10, .int p6]), (h10, aJ Y 80 f3), (h11, oC 8 [.ref h12, .int p7, .int p8, .int p9, .int p10, .int p11, .long p12, .int (u31.1 0), .int (u31.1 1)]), (h12, aB Y 1600 f4), (h13, oC 5 [.ref h11, .ref h0, .ref g7])] rfl ?_
      rcases w32 with rfl | rfl
      ·
        exact V_zret 30 B rfl dX3_readBinding_30 (mkU [p4, p5, p6, p8, p9, p10, p11, (u31.1 0), (u31.1 1)] [p12] [f1, f2] [f3] []) (Or.inl rfl) rfl
      ·
        exact V_zret 30 B rfl dX3_readBinding_30 (mkU [p4, p5, p6, p8, p9, p10, p11, (u31.1 0), (u31.1 1)] [p12] [f1, f2] [f3] []) (Or.inr rfl) rfl)
theorem glV_RX3_93 : GLV RX3 93 yX3_readBinding RX3 cX3_readBinding 4 (some .boolean) 0 := ⟨⟨(mT3 115 rfl rfl), (mT3 117 rfl rfl), (mTs 7 rfl rfl), (mT1 11 rfl rfl), (mT3 118 rfl rfl)⟩, by decide +kernel⟩
theorem dX3_readStatement_104 : decode cX3_readStatement 104 = .ok (.ireturn, 1) := by decide +kernel
theorem dX3_readStatement_83 : decode cX3_readStatement 83 = .ok (.aload_n 0, 1) := by decide +kernel
theorem dX3_readStatement_84 : decode cX3_readStatement 84 = .ok (.invokevirtual 88, 3) := by decide +kernel
theorem dX3_readReserved_0 : decode cX3_readReserved 0 = .ok (.aload_n 0, 1) := by decide +kernel
theorem dX3_readReserved_1 : decode cX3_readReserved 1 = .ok (.getfield 9, 3) := by decide +kernel
theorem dX3_readReserved_4 : decode cX3_readReserved 4 = .ok (.getfield 106, 3) := by decide +kernel
theorem dX3_readReserved_7 : decode cX3_readReserved 7 = .ok (.istore_n 1, 1) := by decide +kernel
theorem dX3_readReserved_8 : decode cX3_readReserved 8 = .ok (.aload_n 0, 1) := by decide +kernel
theorem dX3_readReserved_9 : decode cX3_readReserved 9 = .ok (.getfield 15, 3) := by decide +kernel
theorem dX3_readReserved_12 : decode cX3_readReserved 12 = .ok (.getfield 134, 3) := by decide +kernel
theorem gf_RX3_134 : GF RX3 134 2 4 := ⟨RX0, TX0, 12, rfl, inw_X0, Nat.le_of_ble_eq_true rfl, (mT1 175 rfl rfl)⟩
theorem dX3_readReserved_15 : decode cX3_readReserved 15 = .ok (.invokevirtual 138, 3) := by decide +kernel
theorem dX5_size_0 : decode cX5_size 0 = .ok (.aload_n 0, 1) := by decide +kernel
theorem dX5_size_1 : decode cX5_size 1 = .ok (.getfield 19, 3) := by decide +kernel
theorem dX5_size_4 : decode cX5_size 4 = .ok (.ireturn, 1) := by decide +kernel
set_option maxRecDepth 100000 in
set_option maxHeartbeats 4000000 in
theorem sX5_size_1 (l : Launch) (D : va_G) (Y : Nat → ClassId) (h0 : Nat) (g0 : Nat) (p0 : Int32) (sz : Nat) : Met l yX5_size (WSm yX5_size cX5_size 1 (some .int)) (mkR 0 0 0 0) (PreG EX D Y [.ref h0] [(h0, oC 7 [.ref g0, .int p0])] sz) (QI D (fun (_ : Int32) (_ : UU) => True) (fun (u : UU) => [(h0, oC 7 [.ref g0, .int p0])]) (va_A [(h0, oC 7 [.ref g0, .int p0])] sz)) 0 0 (va_A [(h0, oC 7 [.ref g0, .int p0])] sz) :=
  gmet_of (by decide +kernel) (Nat.le_of_ble_eq_true rfl) (fun p e s m args below meth c B EB hsz => by
    have B : VB p s m args meth c D Y (va_A [(h0, oC 7 [.ref g0, .int p0])] sz) cX5_size 1 RX5 (some .int) := B
    refine V_aload_n 0 B dX5_size_0 0 rfl ?_
    refine V_get 1 B gf_RX5_19 0 rfl rfl dX5_size_1 ?_
    exact V_iret 4 B dX5_size_4 (mkU [] [] [] [] []) trivial rfl)
theorem glV_RX3_138 : GLV RX3 138 yX5_size RX5 cX5_size 1 (some .int) 0 := ⟨⟨(mT3 76 rfl rfl), (mT3 77 rfl rfl), (mT3 78 rfl rfl), (mT1 5 rfl rfl), (mT3 79 rfl rfl)⟩, by decide +kernel⟩
theorem dX3_readReserved_18 : decode cX3_readReserved 18 = .ok (.bipush 6, 2) := by decide +kernel
theorem dX3_readReserved_20 : decode cX3_readReserved 20 = .ok (.if_icmp .lt 13, 3) := by decide +kernel
theorem dX3_readReserved_33 : decode cX3_readReserved 33 = .ok (.aload_n 0, 1) := by decide +kernel
theorem dX3_readReserved_34 : decode cX3_readReserved 34 = .ok (.getfield 9, 3) := by decide +kernel
theorem dX3_readReserved_37 : decode cX3_readReserved 37 = .ok (.invokevirtual 112, 3) := by decide +kernel
theorem dX3_readReserved_40 : decode cX3_readReserved 40 = .ok (.aload_n 0, 1) := by decide +kernel
theorem dX3_readReserved_41 : decode cX3_readReserved 41 = .ok (.getfield 9, 3) := by decide +kernel
theorem dX3_readReserved_44 : decode cX3_readReserved 44 = .ok (.invokevirtual 141, 3) := by decide +kernel
theorem dX3_readReserved_47 : decode cX3_readReserved 47 = .ok (.ifCond .ne 5, 3) := by decide +kernel
theorem dX3_readReserved_50 : decode cX3_readReserved 50 = .ok (.iconst 0, 1) := by decide +kernel
theorem dX3_readReserved_51 : decode cX3_readReserved 51 = .ok (.ireturn, 1) := by decide +kernel
theorem dX3_readReserved_52 : decode cX3_readReserved 52 = .ok (.aload_n 0, 1) := by decide +kernel
theorem dX3_readReserved_53 : decode cX3_readReserved 53 = .ok (.getfield 15, 3) := by decide +kernel
theorem dX3_readReserved_56 : decode cX3_readReserved 56 = .ok (.getfield 144, 3) := by decide +kernel
theorem gf_RX3_144 : GF RX3 144 2 7 := ⟨RX0, TX0, 12, rfl, inw_X0, Nat.le_of_ble_eq_true rfl, (mT1 188 rfl rfl)⟩
theorem dX3_readReserved_59 : decode cX3_readReserved 59 = .ok (.aload_n 0, 1) := by decide +kernel
theorem dX3_readReserved_60 : decode cX3_readReserved 60 = .ok (.getfield 9, 3) := by decide +kernel
theorem dX3_readReserved_63 : decode cX3_readReserved 63 = .ok (.getfield 147, 3) := by decide +kernel
theorem dX3_readReserved_66 : decode cX3_readReserved 66 = .ok (.invokevirtual 151, 3) := by decide +kernel
set_option maxRecDepth 100000 in
set_option maxHeartbeats 4000000 in
theorem sX5_hasClash_2 (l : Launch) (D : va_G) (Y : Nat → ClassId) (h0 : Nat) (h1 : Nat) (p0 : Int32) (f0 : Nat → Int64) (p1 : Int64) (sz : Nat) : Met l yX5_hasClash (WSm yX5_hasClash cX5_hasClash 4 (some .boolean)) (mkR 1 0 0 28) (PreG EX D Y [.ref h0, .long p1] [(h0, oC 7 [.ref h1, .int p0]), (h1, aJ Y 80 f0)] sz) (QI D (fun (r : Int32) (_ : UU) => r = 0 ∨ r = 1) (fun (u : UU) => [(h0, oC 7 [.ref h1, .int p0]), (h1, aJ Y 80 f0)]) (va_A [(h0, oC 7 [.ref h1, .int p0]), (h1, aJ Y 80 f0)] sz)) 0 0 (va_A [(h0, oC 7 [.ref h1, .int p0]), (h1, aJ Y 80 f0)] sz) :=
  gmet_of (by decide +kernel) (Nat.le_of_ble_eq_true rfl) (fun p e s m args below meth c B EB hsz => by
    have B : VB p s m args meth c D Y (va_A [(h0, oC 7 [.ref h1, .int p0]), (h1, aJ Y 80 f0)] sz) cX5_hasClash 4 RX5 (some .boolean) := B
    refine V_iconst 0 B (v := 0) dX5_hasClash_0 (by decide +kernel) ?_
    refine V_istore_n 1 B (lv2 := [(3, .int 0), (0, .ref h0), (1, .long p1)]) dX5_hasClash_1 (by decide) rfl ?_
    refine V_wloop (α := UU) (fun a => (2147483647 - ((a.1 0)).toInt).toNat) (fun a => 0 ≤ ((a.1 0)).toInt) (fun a => [(3, .int (a.1 0)), (0, .ref h0), (1, .long p1)]) (fun a => [(h0, oC 7 [.ref h1, .int p0]), (h1, aJ Y 80 f0)]) (mkU [0] [] [] [] []) (show (0 : Int) ≤ (0 : Int32).toInt by decide +kernel) rfl rfl (fun a0 hI2 IH1 => ?_)
    refine V_lv [(3, .int (a0.1 0)), (0, .ref h0), (1, .long p1)] [0, 1, 2] rfl ?_
    refine V_ws [(h0, oC 7 [.ref h1, .int p0]), (h1, aJ Y 80 f0)] rfl ?_
    refine V_iload_n 2 B dX5_hasClash_2 0 rfl ?_
    refine V_aload_n 3 B dX5_hasClash_3 1 rfl ?_
    refine V_get 4 B gf_RX5_19 0 rfl rfl dX5_hasClash_4 ?_
    refine V_icmp_ge 7 B 40 dX5_hasClash_7 (by decide) (fun k3 => ?_) (fun k3 => ?_)
    ·
      refine V_iconst 40 B (v := 0) dX5_hasClash_40 (by decide +kernel) ?_
      exact V_zret 41 B rfl dX5_hasClash_41 (mkU [] [] [] [] []) (Or.inl rfl) rfl
    ·
      refine V_iload_n 10 B dX5_hasClash_10 0 rfl ?_
      refine V_aload_n 11 B dX5_hasClash_11 1 rfl ?_
      refine V_get 12 B gf_RX5_13 0 rfl rfl dX5_hasClash_12 ?_
      refine V_alenJ 15 B (v := 80) 1 rfl (by decide +kernel) dX5_hasClash_15 ?_
      refine V_icmp_ge 16 B 40 dX5_hasClash_16 (by decide) (fun k4 => ?_) (fun k4 => ?_)
      ·
        refine V_iconst 40 B (v := 0) dX5_hasClash_40 (by decide +kernel) ?_
        exact V_zret 41 B rfl dX5_hasClash_41 (mkU [] [] [] [] []) (Or.inl rfl) rfl
      ·
        refine V_aload_n 19 B dX5_hasClash_19 1 rfl ?_
        refine V_get 20 B gf_RX5_13 0 rfl rfl dX5_hasClash_20 ?_
        refine V_iload_n 23 B dX5_hasClash_23 0 rfl ?_
        refine V_lald 24 B 1 rfl (vpin_b hI2 (b_nge k4 (n := 79) (by decide +kernel)) (by decide)) dX5_hasClash_24 rfl ?_
        refine V_nml (fun o5 _ => ?_)
        refine V_lload_n 25 B dX5_hasClash_25 2 rfl ?_
        refine V_gsi 26 B envX EB (st := []) (As := [.long o5, .long p1]) (fun sz => sX6_clashBetween_1 l D Y  o5 p1 sz) glS_RX5_23 ⟨rfl, rfl⟩ ⟨(Nat.le_of_ble_eq_true rfl), (Nat.le_of_ble_eq_true rfl)⟩ ⟨(Nat.le_of_ble_eq_true rfl), (Nat.le_of_ble_eq_true rfl)⟩ [] rfl rfl (Nat.le_of_ble_eq_true rfl) rfl (fun _ _ _ => rfl) dX5_hasClash_26 (fun j6 u7 w8 => ?_)
        refine V_ws [(h0, oC 7 [.ref h1, .int p0]), (h1, aJ Y 80 f0)] rfl ?_
        rcases w8 with rfl | rfl
        ·
          refine V_if_eq_t 29 B 34 dX5_hasClash_29 (by decide) (by decide +kernel) ?_
          refine V_iinc 34 B (v := ((a0.1 0) + Int32.ofInt 1)) (lv2 := [(3, .int ((a0.1 0) + Int32.ofInt 1)), (0, .ref h0), (1, .long p1)]) dX5_hasClash_34 0 rfl rfl (by decide) rfl ?_
          refine V_goto 37 B 2 dX5_hasClash_37 (by decide) ?_
          refine V_lv [(3, .int ((a0.1 0) + Int32.ofInt 1)), (0, .ref h0), (1, .long p1)] [0, 1, 2] rfl ?_
          exact IH1 (mkU [((a0.1 0) + Int32.ofInt 1)] [] [] [] []) (Int.le_trans (by decide) (o_add_lo (c := Int32.ofInt 1) hI2 (b_nge k4 (n := 79) (by decide +kernel)) (by decide +kernel) (by decide +kernel) (k := 1) (by decide +kernel))) (up_dec (x := (a0.1 0)) (c := Int32.ofInt 1) (by decide +kernel) hI2 (Int.le_trans (b_nge k4 (n := 79) (by decide +kernel)) (by decide)) (by decide))
        ·
          refine V_if_eq_f 29 B 34 dX5_hasClash_29 (by decide) (by decide +kernel) ?_
          refine V_iconst 32 B (v := 1) dX5_hasClash_32 (by decide +kernel) ?_
          exact V_zret 33 B rfl dX5_hasClash_33 (mkU [] [] [] [] []) (Or.inr rfl) rfl)
theorem glV_RX3_151 : GLV RX3 151 yX5_hasClash RX5 cX5_hasClash 4 (some .boolean) 1 := ⟨⟨(mT3 103 rfl rfl), (mT3 104 rfl rfl), (mT3 105 rfl rfl), (mT1 5 rfl rfl), (mT3 106 rfl rfl)⟩, by decide +kernel⟩
theorem dX3_readReserved_69 : decode cX3_readReserved 69 = .ok (.ifCond .eq 13, 3) := by decide +kernel
theorem dX3_readReserved_82 : decode cX3_readReserved 82 = .ok (.aload_n 0, 1) := by decide +kernel
theorem dX3_readReserved_83 : decode cX3_readReserved 83 = .ok (.getfield 15, 3) := by decide +kernel
theorem dX3_readReserved_86 : decode cX3_readReserved 86 = .ok (.getfield 134, 3) := by decide +kernel
theorem dX3_readReserved_89 : decode cX3_readReserved 89 = .ok (.aload_n 0, 1) := by decide +kernel
theorem dX3_readReserved_90 : decode cX3_readReserved 90 = .ok (.getfield 9, 3) := by decide +kernel
theorem dX3_readReserved_93 : decode cX3_readReserved 93 = .ok (.getfield 147, 3) := by decide +kernel
theorem dX3_readReserved_96 : decode cX3_readReserved 96 = .ok (.invokevirtual 155, 3) := by decide +kernel
set_option maxRecDepth 100000 in
set_option maxHeartbeats 4000000 in
theorem sX5_push_2 (l : Launch) (D : va_G) (Y : Nat → ClassId) (h0 : Nat) (h1 : Nat) (p0 : Int32) (f0 : Nat → Int64) (p1 : Int64) (sz : Nat) : Met l yX5_push (WSm yX5_push cX5_push 3 (some .boolean)) (mkR 0 0 0 0) (PreG EX D Y [.ref h0, .long p1] [(h0, oC 7 [.ref h1, .int p0]), (h1, aJ Y 6 f0)] sz) (QI D (fun (r : Int32) (_ : UU) => r = 0 ∨ r = 1) (fun (u : UU) => [(h0, oC 7 [.ref h1, .int (u.1 0)]), (h1, aJ Y 6 (u.2.2.2.1 0))]) (va_A [(h0, oC 7 [.ref h1, .int p0]), (h1, aJ Y 6 f0)] sz)) 0 0 (va_A [(h0, oC 7 [.ref h1, .int p0]), (h1, aJ Y 6 f0)] sz) :=
  gmet_of (by decide +kernel) (Nat.le_of_ble_eq_true rfl) (fun p e s m args below meth c B EB hsz => by
    have B : VB p s m args meth c D Y (va_A [(h0, oC 7 [.ref h1, .int p0]), (h1, aJ Y 6 f0)] sz) cX5_push 3 RX5 (some .boolean) := B
    refine V_aload_n 0 B dX5_push_0 0 rfl ?_
    refine V_get 1 B gf_RX5_19 0 rfl rfl dX5_push_1 ?_
    refine V_if_lt 4 B 19 dX5_push_4 (by decide) (fun k0 => ?_) (fun k0 => ?_)
    ·
      refine V_iconst 19 B (v := 0) dX5_push_19 (by decide +kernel) ?_
      exact V_zret 20 B rfl dX5_push_20 (mkU [p0] [] [] [f0] []) (Or.inl rfl) rfl
    ·
      refine V_aload_n 7 B dX5_push_7 0 rfl ?_
      refine V_get 8 B gf_RX5_19 0 rfl rfl dX5_push_8 ?_
      refine V_aload_n 11 B dX5_push_11 0 rfl ?_
      refine V_get 12 B gf_RX5_13 0 rfl rfl dX5_push_12 ?_
      refine V_alenJ 15 B (v := 6) 1 rfl (by decide +kernel) dX5_push_15 ?_
      refine V_icmp_lt 16 B 21 dX5_push_16 (by decide) (fun k1 => ?_) (fun k1 => ?_)
      ·
        refine V_aload_n 21 B dX5_push_21 0 rfl ?_
        refine V_get 22 B gf_RX5_13 0 rfl rfl dX5_push_22 ?_
        refine V_aload_n 25 B dX5_push_25 0 rfl ?_
        refine V_get 26 B gf_RX5_19 0 rfl rfl dX5_push_26 ?_
        refine V_lload_n 29 B dX5_push_29 1 rfl ?_
        refine V_last 30 B 1 rfl (vpin_b (b_nlt k0 (n := 0) (by decide +kernel)) (b_lt k1 (n := 5) (by decide +kernel)) (by decide)) dX5_push_30 [(h0, oC 7 [.ref h1, .int p0]), (h1, aJ Y 6 (vp_updL f0 (p0 : Int32).toNatClampNeg p1))] rfl ?_
        refine V_aload_n 31 B dX5_push_31 0 rfl ?_
        refine V_dup 32 B dX5_push_32 rfl ?_
        refine V_get 33 B gf_RX5_19 0 rfl rfl dX5_push_33 ?_
        refine V_iconst 36 B (v := 1) dX5_push_36 (by decide +kernel) ?_
        refine V_iadd 37 B dX5_push_37 rfl ?_
        refine V_put 38 B gp_RX5_19 0 rfl (Nat.le_of_ble_eq_true rfl) rfl rfl dX5_push_38 [(h0, oC 7 [.ref h1, .int (p0 + 1)]), (h1, aJ Y 6 (vp_updL f0 (p0 : Int32).toNatClampNeg p1))] rfl ?_
        refine V_iconst 41 B (v := 1) dX5_push_41 (by decide +kernel) ?_
        exact V_zret 42 B rfl dX5_push_42 (mkU [(p0 + 1)] [] [] [(vp_updL f0 (p0 : Int32).toNatClampNeg p1)] []) (Or.inr rfl) rfl
      ·
        refine V_iconst 19 B (v := 0) dX5_push_19 (by decide +kernel) ?_
        exact V_zret 20 B rfl dX5_push_20 (mkU [p0] [] [] [f0] []) (Or.inl rfl) rfl)
theorem glV_RX3_155 : GLV RX3 155 yX5_push RX5 cX5_push 3 (some .boolean) 1 := ⟨⟨(mT3 110 rfl rfl), (mT3 111 rfl rfl), (mT3 112 rfl rfl), (mT1 5 rfl rfl), (mT3 113 rfl rfl)⟩, by decide +kernel⟩
theorem dX3_readReserved_99 : decode cX3_readReserved 99 = .ok (.ireturn, 1) := by decide +kernel
theorem dX3_readReserved_72 : decode cX3_readReserved 72 = .ok (.aload_n 0, 1) := by decide +kernel
theorem dX3_readReserved_73 : decode cX3_readReserved 73 = .ok (.getfield 9, 3) := by decide +kernel
theorem dX3_readReserved_76 : decode cX3_readReserved 76 = .ok (.iconst 4, 1) := by decide +kernel
theorem dX3_readReserved_77 : decode cX3_readReserved 77 = .ok (.iload_n 1, 1) := by decide +kernel
theorem dX3_readReserved_78 : decode cX3_readReserved 78 = .ok (.invokevirtual 63, 3) := by decide +kernel
theorem dX3_readReserved_81 : decode cX3_readReserved 81 = .ok (.ireturn, 1) := by decide +kernel
theorem dX3_readReserved_23 : decode cX3_readReserved 23 = .ok (.aload_n 0, 1) := by decide +kernel
theorem dX3_readReserved_24 : decode cX3_readReserved 24 = .ok (.getfield 9, 3) := by decide +kernel
theorem dX3_readReserved_27 : decode cX3_readReserved 27 = .ok (.iconst 3, 1) := by decide +kernel
theorem dX3_readReserved_28 : decode cX3_readReserved 28 = .ok (.iload_n 1, 1) := by decide +kernel
theorem dX3_readReserved_29 : decode cX3_readReserved 29 = .ok (.invokevirtual 63, 3) := by decide +kernel
theorem dX3_readReserved_32 : decode cX3_readReserved 32 = .ok (.ireturn, 1) := by decide +kernel
set_option maxRecDepth 100000 in
set_option maxHeartbeats 4000000 in
theorem sX3_readReserved_1 (l : Launch) (D : va_G) (Y : Nat → ClassId) (h0 : Nat) (h1 : Nat) (h2 : Nat) (h3 : Nat) (h4 : Nat) (h5 : Nat) (h6 : Nat) (h7 : Nat) (g0 : Nat) (g1 : Nat) (g2 : Nat) (g3 : Nat) (g4 : Nat) (g5 : Nat) (g6 : Nat) (g7 : Nat) (g8 : Nat) (g9 : Nat) (p0 : Int32) (p1 : Int32) (f0 : Nat → Int64) (p2 : Int32) (f1 : Nat → Int64) (p3 : Int32) (p4 : Int32) (p5 : Int32) (p6 : Int32) (p7 : Int32) (p8 : Int64) (p9 : Int32) (p10 : Int32) (f2 : Nat → Int32) (sz : Nat) : Met l yX3_readReserved (WSm yX3_readReserved cX3_readReserved 2 (some .boolean)) (mkR 4 0 0 91) (PreG EX D Y [.ref h7] [(h0, oC 2 [.ref g0, .ref g1, .ref g2, .ref g3, .ref h1, .ref g4, .ref g5, .ref h3, .ref g6, .ref g7, .ref g8, .int p0]), (h1, oC 7 [.ref h2, .int p1]), (h2, aJ Y 6 f0), (h3, oC 7 [.ref h4, .int p2]), (h4, aJ Y 80 f1), (h5, oC 8 [.ref h6, .int p3, .int p4, .int p5, .int p6, .int p7, .long p8, .int p9, .int p10]), (h6, aB Y 1600 f2), (h7, oC 5 [.ref h5, .ref h0, .ref g9])] sz) (QI D (fun (r : Int32) (_ : UU) => r = 0 ∨ r = 1) (fun (u : UU) => [(h0, oC 2 [.ref g0, .ref g1, .ref g2, .ref g3, .ref h1, .ref g4, .ref g5, .ref h3, .ref g6, .ref g7, .ref g8, .int p0]), (h1, oC 7 [.ref h2, .int (u.1 0)]), (h2, aJ Y 6 (u.2.2.2.1 0)), (h3, oC 7 [.ref h4, .int p2]), (h4, aJ Y 80 f1), (h5, oC 8 [.ref h6, .int p3, .int (u.1 1), .int (u.1 2), .int (u.1 3), .int p7, .long (u.2.1 0), .int (u.1 4), .int (u.1 5)]), (h6, aB Y 1600 f2), (h7, oC 5 [.ref h5, .ref h0, .ref g9])]) (va_A [(h0, oC 2 [.ref g0, .ref g1, .ref g2, .ref g3, .ref h1, .ref g4, .ref g5, .ref h3, .ref g6, .ref g7, .ref g8, .int p0]), (h1, oC 7 [.ref h2, .int p1]), (h2, aJ Y 6 f0), (h3, oC 7 [.ref h4, .int p2]), (h4, aJ Y 80 f1), (h5, oC 8 [.ref h6, .int p3, .int p4, .int p5, .int p6, .int p7, .long p8, .int p9, .int p10]), (h6, aB Y 1600 f2), (h7, oC 5 [.ref h5, .ref h0, .ref g9])] sz)) 0 0 (va_A [(h0, oC 2 [.ref g0, .ref g1, .ref g2, .ref g3, .ref h1, .ref g4, .ref g5, .ref h3, .ref g6, .ref g7, .ref g8, .int p0]), (h1, oC 7 [.ref h2, .int p1]), (h2, aJ Y 6 f0), (h3, oC 7 [.ref h4, .int p2]), (h4, aJ Y 80 f1), (h5, oC 8 [.ref h6, .int p3, .int p4, .int p5, .int p6, .int p7, .long p8, .int p9, .int p10]), (h6, aB Y 1600 f2), (h7, oC 5 [.ref h5, .ref h0, .ref g9])] sz) :=
  gmet_of (by decide +kernel) (Nat.le_of_ble_eq_true rfl) (fun p e s m args below meth c B EB hsz => by
    have B : VB p s m args meth c D Y (va_A [(h0, oC 2 [.ref g0, .ref g1, .ref g2, .ref g3, .ref h1, .ref g4, .ref g5, .ref h3, .ref g6, .ref g7, .ref g8, .int p0]), (h1, oC 7 [.ref h2, .int p1]), (h2, aJ Y 6 f0), (h3, oC 7 [.ref h4, .int p2]), (h4, aJ Y 80 f1), (h5, oC 8 [.ref h6, .int p3, .int p4, .int p5, .int p6, .int p7, .long p8, .int p9, .int p10]), (h6, aB Y 1600 f2), (h7, oC 5 [.ref h5, .ref h0, .ref g9])] sz) cX3_readReserved 2 RX3 (some .boolean) := B
    refine V_aload_n 0 B dX3_readReserved_0 0 rfl ?_
    refine V_get 1 B gf_RX3_9 7 rfl rfl dX3_readReserved_1 ?_
    refine V_get 4 B gf_RX3_106 5 rfl rfl dX3_readReserved_4 ?_
    refine V_istore_n 7 B (lv2 := [(1, .int p5), (0, .ref h7)]) dX3_readReserved_7 (by decide) rfl ?_
    refine V_aload_n 8 B dX3_readReserved_8 1 rfl ?_
    refine V_get 9 B gf_RX3_15 7 rfl rfl dX3_readReserved_9 ?_
    refine V_get 12 B gf_RX3_134 0 rfl rfl dX3_readReserved_12 ?_
    refine V_gvi 15 B envX EB (st := []) (As := []) (fun sz => sX5_size_1 l D Y h1 h2 p1 sz) glV_RX3_138 ⟨rfl, rfl⟩ ⟨(Nat.le_of_ble_eq_true rfl), (Nat.le_of_ble_eq_true rfl)⟩ ⟨(Nat.le_of_ble_eq_true rfl), (Nat.le_of_ble_eq_true rfl)⟩ [1] rfl 7 0 rfl rfl rfl rfl (Nat.le_of_ble_eq_true rfl) rfl (fun _ _ _ => rfl) dX3_readReserved_15 (fun j0 u1 w2 => ?_)
    refine V_ws [(h0, oC 2 [.ref g0, .ref g1, .ref g2, .ref g3, .ref h1, .ref g4, .ref g5, .ref h3, .ref g6, .ref g7, .ref g8, .int p0]), (h1, oC 7 [.ref h2, .int p1]), (h2, aJ Y 6 f0), (h3, oC 7 [.ref h4, .int p2]), (h4, aJ Y 80 f1), (h5, oC 8 [.ref h6, .int p3, .int p4, .int p5, .int p6, .int p7, .long p8, .int p9, .int p10]), (h6, aB Y 1600 f2), (h7, oC 5 [.ref h5, .ref h0, .ref g9])] rfl ?_
    refine V_bipush 18 B (v := 6) dX3_readReserved_18 (by decide +kernel) ?_
    refine V_icmp_lt 20 B 33 dX3_readReserved_20 (by decide) (fun k3 => ?_) (fun k3 => ?_)
    ·
      refine V_aload_n 33 B dX3_readReserved_33 1 rfl ?_
      refine V_get 34 B gf_RX3_9 7 rfl rfl dX3_readReserved_34 ?_
      refine V_gvv 37 B envX EB (st := []) (As := []) (fun sz => sX7_advance_1 l D Y h5 h6 p3 p4 p5 p6 p7 p8 p9 p10 f2 sz) glV_RX3_112 ⟨rfl, rfl⟩ ⟨(Nat.le_of_ble_eq_true rfl), (Nat.le_of_ble_eq_true rfl)⟩ ⟨(Nat.le_of_ble_eq_true rfl), (Nat.le_of_ble_eq_true rfl)⟩ [5, 0] rfl 8 0 rfl rfl rfl rfl (Nat.le_of_ble_eq_true rfl) rfl (fun _ _ => rfl) dX3_readReserved_37 (fun u5 w6 => ?_)
      refine V_ws [(h0, oC 2 [.ref g0, .ref g1, .ref g2, .ref g3, .ref h1, .ref g4, .ref g5, .ref h3, .ref g6, .ref g7, .ref g8, .int p0]), (h1, oC 7 [.ref h2, .int p1]), (h2, aJ Y 6 f0), (h3, oC 7 [.ref h4, .int p2]), (h4, aJ Y 80 f1), (h5, oC 8 [.ref h6, .int p3, .int (u5.1 0), .int (u5.1 1), .int (u5.1 2), .int p7, .long p8, .int p9, .int p10]), (h6, aB Y 1600 f2), (h7, oC 5 [.ref h5, .ref h0, .ref g9])] rfl ?_
      refine V_aload_n 40 B dX3_readReserved_40 1 rfl ?_
      refine V_get 41 B gf_RX3_9 7 rfl rfl dX3_readReserved_41 ?_
      refine V_gvi 44 B envX EB (st := []) (As := []) (fun sz => sX7_takeSequence_1 l D Y h5 h6 p3 (u5.1 0) (u5.1 1) (u5.1 2) p7 p8 p9 p10 f2 sz) glV_RX3_141 ⟨rfl, rfl⟩ ⟨(Nat.le_of_ble_eq_true rfl), (Nat.le_of_ble_eq_true rfl)⟩ ⟨(Nat.le_of_ble_eq_true rfl), (Nat.le_of_ble_eq_true rfl)⟩ [5, 0] rfl 8 0 rfl rfl rfl rfl (Nat.le_of_ble_eq_true rfl) rfl (fun _ _ _ => rfl) dX3_readReserved_44 (fun j7 u8 w9 => ?_)
      refine V_ws [(h0, oC 2 [.ref g0, .ref g1, .ref g2, .ref g3, .ref h1, .ref g4, .ref g5, .ref h3, .ref g6, .ref g7, .ref g8, .int p0]), (h1, oC 7 [.ref h2, .int p1]), (h2, aJ Y 6 f0), (h3, oC 7 [.ref h4, .int p2]), (h4, aJ Y 80 f1), (h5, oC 8 [.ref h6, .int p3, .int (u8.1 0), .int (u8.1 1), .int (u8.1 2), .int p7, .long (u8.2.1 0), .int (u8.1 3), .int (u8.1 4)]), (h6, aB Y 1600 f2), (h7, oC 5 [.ref h5, .ref h0, .ref g9])] rfl ?_
      rcases w9 with rfl | rfl
      ·
        refine V_if_ne_f 47 B 52 dX3_readReserved_47 (by decide) (by decide +kernel) ?_
        refine V_iconst 50 B (v := 0) dX3_readReserved_50 (by decide +kernel) ?_
        exact V_zret 51 B rfl dX3_readReserved_51 (mkU [p1, (u8.1 0), (u8.1 1), (u8.1 2), (u8.1 3), (u8.1 4)] [(u8.2.1 0)] [] [f0] []) (Or.inl rfl) rfl
      ·
        refine V_if_ne_t 47 B 52 dX3_readReserved_47 (by decide) (by decide +kernel) ?_
        refine V_aload_n 52 B dX3_readReserved_52 1 rfl ?_
        refine V_get 53 B gf_RX3_15 7 rfl rfl dX3_readReserved_53 ?_
        refine V_get 56 B gf_RX3_144 0 rfl rfl dX3_readReserved_56 ?_
        refine V_aload_n 59 B dX3_readReserved_59 1 rfl ?_
        refine V_get 60 B gf_RX3_9 7 rfl rfl dX3_readReserved_60 ?_
        refine V_get 63 B gf_RX3_147 5 rfl rfl dX3_readReserved_63 ?_
        refine V_gvi 66 B envX EB (st := []) (As := [.long (u8.2.1 0)]) (fun sz => sX5_hasClash_2 l D Y h3 h4 p2 f1 (u8.2.1 0) sz) glV_RX3_151 ⟨rfl, rfl⟩ ⟨(Nat.le_of_ble_eq_true rfl), (Nat.le_of_ble_eq_true rfl)⟩ ⟨(Nat.le_of_ble_eq_true rfl), (Nat.le_of_ble_eq_true rfl)⟩ [3, 0] rfl 7 0 rfl rfl rfl rfl (Nat.le_of_ble_eq_true rfl) rfl (fun _ _ _ => rfl) dX3_readReserved_66 (fun j10 u11 w12 => ?_)
        refine V_ws [(h0, oC 2 [.ref g0, .ref g1, .ref g2, .ref g3, .ref h1, .ref g4, .ref g5, .ref h3, .ref g6, .ref g7, .ref g8, .int p0]), (h1, oC 7 [.ref h2, .int p1]), (h2, aJ Y 6 f0), (h3, oC 7 [.ref h4, .int p2]), (h4, aJ Y 80 f1), (h5, oC 8 [.ref h6, .int p3, .int (u8.1 0), .int (u8.1 1), .int (u8.1 2), .int p7, .long (u8.2.1 0), .int (u8.1 3), .int (u8.1 4)]), (h6, aB Y 1600 f2), (h7, oC 5 [.ref h5, .ref h0, .ref g9])] rfl ?_
        rcases w12 with rfl | rfl
        ·
          refine V_if_eq_t 69 B 82 dX3_readReserved_69 (by decide) (by decide +kernel) ?_
          refine V_aload_n 82 B dX3_readReserved_82 1 rfl ?_
          refine V_get 83 B gf_RX3_15 7 rfl rfl dX3_readReserved_83 ?_
          refine V_get 86 B gf_RX3_134 0 rfl rfl dX3_readReserved_86 ?_
          refine V_aload_n 89 B dX3_readReserved_89 1 rfl ?_
          refine V_get 90 B gf_RX3_9 7 rfl rfl dX3_readReserved_90 ?_
          refine V_get 93 B gf_RX3_147 5 rfl rfl dX3_readReserved_93 ?_
          refine V_gvi 96 B envX EB (st := []) (As := [.long (u8.2.1 0)]) (fun sz => sX5_push_2 l D Y h1 h2 p1 f0 (u8.2.1 0) sz) glV_RX3_155 ⟨rfl, rfl⟩ ⟨(Nat.le_of_ble_eq_true rfl), (Nat.le_of_ble_eq_true rfl)⟩ ⟨(Nat.le_of_ble_eq_true rfl), (Nat.le_of_ble_eq_true rfl)⟩ [1, 0] rfl 7 0 rfl rfl rfl rfl (Nat.le_of_ble_eq_true rfl) rfl (fun _ _ _ => rfl) dX3_readReserved_96 (fun j13 u14 w15 => ?_)
          refine V_ws [(h0, oC 2 [.ref g0, .ref g1, .ref g2, .ref g3, .ref h1, .ref g4, .ref g5, .ref h3, .ref g6, .ref g7, .ref g8, .int p0]), (h1, oC 7 [.ref h2, .int (u14.1 0)]), (h2, aJ Y 6 (u14.2.2.2.1 0)), (h3, oC 7 [.ref h4, .int p2]), (h4, aJ Y 80 f1), (h5, oC 8 [.ref h6, .int p3, .int (u8.1 0), .int (u8.1 1), .int (u8.1 2), .int p7, .long (u8.2.1 0), .int (u8.1 3), .int (u8.1 4)]), (h6, aB Y 1600 f2), (h7, oC 5 [.ref h5, .ref h0, .ref g9])] rfl ?_
          rcases w15 with rfl | rfl
          ·
            exact V_zret 99 B rfl dX3_readReserved_99 (mkU [(u14.1 0), (u8.1 0), (u8.1 1), (u8.1 2), (u8.1 3), (u8.1 4)] [(u8.2.1 0)] [] [(u14.2.2.2.1 0)] []) (Or.inl rfl) rfl
          ·
            exact V_zret 99 B rfl dX3_readReserved_99 (mkU [(u14.1 0), (u8.1 0), (u8.1 1), (u8.1 2), (u8.1 3), (u8.1 4)] [(u8.2.1 0)] [] [(u14.2.2.2.1 0)] []) (Or.inr rfl) rfl
        ·
          refine V_if_eq_f 69 B 82 dX3_readReserved_69 (by decide) (by decide +kernel) ?_
          refine V_aload_n 72 B dX3_readReserved_72 1 rfl ?_
          refine V_get 73 B gf_RX3_9 7 rfl rfl dX3_readReserved_73 ?_
          refine V_iconst 76 B (v := 4) dX3_readReserved_76 (by decide +kernel) ?_
          refine V_iload_n 77 B dX3_readReserved_77 0 rfl ?_
          refine V_gvi 78 B envX EB (st := []) (As := [.int 4, .int p5]) (fun sz => sX7_fail_1 l D Y h5 h6 p3 (u8.1 0) (u8.1 1) (u8.1 2) p7 (u8.2.1 0) (u8.1 3) (u8.1 4) 4 p5 sz) glV_RX3_63 ⟨rfl, rfl⟩ ⟨(Nat.le_of_ble_eq_true rfl), (Nat.le_of_ble_eq_true rfl)⟩ ⟨(Nat.le_of_ble_eq_true rfl), (Nat.le_of_ble_eq_true rfl)⟩ [5] rfl 8 0 rfl rfl rfl rfl (Nat.le_of_ble_eq_true rfl) rfl (fun _ _ _ => rfl) dX3_readReserved_78 (fun j16 u17 w18 => ?_)
          refine V_ws [(h0, oC 2 [.ref g0, .ref g1, .ref g2, .ref g3, .ref h1, .ref g4, .ref g5, .ref h3, .ref g6, .ref g7, .ref g8, .int p0]), (h1, oC 7 [.ref h2, .int p1]), (h2, aJ Y 6 f0), (h3, oC 7 [.ref h4, .int p2]), (h4, aJ Y 80 f1), (h5, oC 8 [.ref h6, .int p3, .int (u8.1 0), .int (u8.1 1), .int (u8.1 2), .int p7, .long (u8.2.1 0), .int (u17.1 0), .int (u17.1 1)]), (h6, aB Y 1600 f2), (h7, oC 5 [.ref h5, .ref h0, .ref g9])] rfl ?_
          rcases w18 with rfl | rfl
          ·
            exact V_zret 81 B rfl dX3_readReserved_81 (mkU [p1, (u8.1 0), (u8.1 1), (u8.1 2), (u17.1 0), (u17.1 1)] [(u8.2.1 0)] [] [f0] []) (Or.inl rfl) rfl
          ·
            exact V_zret 81 B rfl dX3_readReserved_81 (mkU [p1, (u8.1 0), (u8.1 1), (u8.1 2), (u17.1 0), (u17.1 1)] [(u8.2.1 0)] [] [f0] []) (Or.inr rfl) rfl
    ·
      refine V_aload_n 23 B dX3_readReserved_23 1 rfl ?_
      refine V_get 24 B gf_RX3_9 7 rfl rfl dX3_readReserved_24 ?_
      refine V_iconst 27 B (v := 3) dX3_readReserved_27 (by decide +kernel) ?_
      refine V_iload_n 28 B dX3_readReserved_28 0 rfl ?_
      refine V_gvi 29 B envX EB (st := []) (As := [.int 3, .int p5]) (fun sz => sX7_fail_1 l D Y h5 h6 p3 p4 p5 p6 p7 p8 p9 p10 3 p5 sz) glV_RX3_63 ⟨rfl, rfl⟩ ⟨(Nat.le_of_ble_eq_true rfl), (Nat.le_of_ble_eq_true rfl)⟩ ⟨(Nat.le_of_ble_eq_true rfl), (Nat.le_of_ble_eq_true rfl)⟩ [5] rfl 8 0 rfl rfl rfl rfl (Nat.le_of_ble_eq_true rfl) rfl (fun _ _ _ => rfl) dX3_readReserved_29 (fun j19 u20 w21 => ?_)
      refine V_ws [(h0, oC 2 [.ref g0, .ref g1, .ref g2, .ref g3, .ref h1, .ref g4, .ref g5, .ref h3, .ref g6, .ref g7, .ref g8, .int p0]), (h1, oC 7 [.ref h2, .int p1]), (h2, aJ Y 6 f0), (h3, oC 7 [.ref h4, .int p2]), (h4, aJ Y 80 f1), (h5, oC 8 [.ref h6, .int p3, .int p4, .int p5, .int p6, .int p7, .long p8, .int (u20.1 0), .int (u20.1 1)]), (h6, aB Y 1600 f2), (h7, oC 5 [.ref h5, .ref h0, .ref g9])] rfl ?_
      rcases w21 with rfl | rfl
      ·
        exact V_zret 32 B rfl dX3_readReserved_32 (mkU [p1, p4, p5, p6, (u20.1 0), (u20.1 1)] [p8] [] [f0] []) (Or.inl rfl) rfl
      ·
        exact V_zret 32 B rfl dX3_readReserved_32 (mkU [p1, p4, p5, p6, (u20.1 0), (u20.1 1)] [p8] [] [f0] []) (Or.inr rfl) rfl)
theorem glV_RX3_88 : GLV RX3 88 yX3_readReserved RX3 cX3_readReserved 2 (some .boolean) 0 := ⟨⟨(mT3 72 rfl rfl), (mT3 74 rfl rfl), (mTs 4 rfl rfl), (mT1 11 rfl rfl), (mT3 75 rfl rfl)⟩, by decide +kernel⟩
theorem dX3_readStatement_87 : decode cX3_readStatement 87 = .ok (.ireturn, 1) := by decide +kernel
theorem dX3_readStatement_65 : decode cX3_readStatement 65 = .ok (.aload_n 0, 1) := by decide +kernel
theorem dX3_readStatement_66 : decode cX3_readStatement 66 = .ok (.iconst 2, 1) := by decide +kernel
theorem dX3_readStatement_67 : decode cX3_readStatement 67 = .ok (.invokevirtual 78, 3) := by decide +kernel
theorem dX3_readCommand_0 : decode cX3_readCommand 0 = .ok (.aload_n 0, 1) := by decide +kernel
theorem dX3_readCommand_1 : decode cX3_readCommand 1 = .ok (.getfield 15, 3) := by decide +kernel
theorem dX3_readCommand_4 : decode cX3_readCommand 4 = .ok (.getfield 127, 3) := by decide +kernel
theorem dX3_readCommand_7 : decode cX3_readCommand 7 = .ok (.invokevirtual 109, 3) := by decide +kernel
set_option maxRecDepth 100000 in
set_option maxHeartbeats 4000000 in
theorem sX1_isFull_3 (l : Launch) (D : va_G) (Y : Nat → ClassId) (h0 : Nat) (h1 : Nat) (p0 : Int32) (f0 : Nat → Int32) (sz : Nat) : Met l yX1_isFull (WSm yX1_isFull cX1_isFull 1 (some .boolean)) (mkR 0 0 0 0) (PreG EX D Y [.ref h0] [(h0, oC 3 [.ref h1, .int p0]), (h1, aI Y 40 f0)] sz) (QI D (fun (r : Int32) (_ : UU) => r = 0 ∨ r = 1) (fun (u : UU) => [(h0, oC 3 [.ref h1, .int p0]), (h1, aI Y 40 f0)]) (va_A [(h0, oC 3 [.ref h1, .int p0]), (h1, aI Y 40 f0)] sz)) 0 0 (va_A [(h0, oC 3 [.ref h1, .int p0]), (h1, aI Y 40 f0)] sz) :=
  gmet_of (by decide +kernel) (Nat.le_of_ble_eq_true rfl) (fun p e s m args below meth c B EB hsz => by
    have B : VB p s m args meth c D Y (va_A [(h0, oC 3 [.ref h1, .int p0]), (h1, aI Y 40 f0)] sz) cX1_isFull 1 RX1 (some .boolean) := B
    refine V_aload_n 0 B dX1_isFull_0 0 rfl ?_
    refine V_get 1 B gf_RX1_21 0 rfl rfl dX1_isFull_1 ?_
    refine V_aload_n 4 B dX1_isFull_4 0 rfl ?_
    refine V_get 5 B gf_RX1_15 0 rfl rfl dX1_isFull_5 ?_
    refine V_alenI 8 B (v := 40) 1 rfl (by decide +kernel) dX1_isFull_8 ?_
    refine V_icmp_lt 9 B 16 dX1_isFull_9 (by decide) (fun k0 => ?_) (fun k0 => ?_)
    ·
      refine V_iconst 16 B (v := 0) dX1_isFull_16 (by decide +kernel) ?_
      exact V_zret 17 B rfl dX1_isFull_17 (mkU [] [] [] [] []) (Or.inl rfl) rfl
    ·
      refine V_iconst 12 B (v := 1) dX1_isFull_12 (by decide +kernel) ?_
      refine V_goto 13 B 17 dX1_isFull_13 (by decide) ?_
      exact V_zret 17 B rfl dX1_isFull_17 (mkU [] [] [] [] []) (Or.inr rfl) rfl)
theorem dX3_readCommand_10 : decode cX3_readCommand 10 = .ok (.ifCond .eq 19, 3) := by decide +kernel
theorem dX3_readCommand_29 : decode cX3_readCommand 29 = .ok (.aload_n 0, 1) := by decide +kernel
theorem dX3_readCommand_30 : decode cX3_readCommand 30 = .ok (.getfield 9, 3) := by decide +kernel
theorem dX3_readCommand_33 : decode cX3_readCommand 33 = .ok (.invokevirtual 112, 3) := by decide +kernel
theorem dX3_readCommand_36 : decode cX3_readCommand 36 = .ok (.iload_n 1, 1) := by decide +kernel
theorem dX3_readCommand_37 : decode cX3_readCommand 37 = .ok (.iconst 1, 1) := by decide +kernel
theorem dX3_readCommand_38 : decode cX3_readCommand 38 = .ok (.if_icmp .ne 17, 3) := by decide +kernel
theorem dX3_readCommand_55 : decode cX3_readCommand 55 = .ok (.aload_n 0, 1) := by decide +kernel
theorem dX3_readCommand_56 : decode cX3_readCommand 56 = .ok (.getfield 9, 3) := by decide +kernel
theorem dX3_readCommand_59 : decode cX3_readCommand 59 = .ok (.invokevirtual 118, 3) := by decide +kernel
theorem dX3_readCommand_62 : decode cX3_readCommand 62 = .ok (.ifCond .ne 5, 3) := by decide +kernel
theorem dX3_readCommand_65 : decode cX3_readCommand 65 = .ok (.iconst 0, 1) := by decide +kernel
theorem dX3_readCommand_66 : decode cX3_readCommand 66 = .ok (.ireturn, 1) := by decide +kernel
theorem dX3_readCommand_67 : decode cX3_readCommand 67 = .ok (.aload_n 0, 1) := by decide +kernel
theorem dX3_readCommand_68 : decode cX3_readCommand 68 = .ok (.getfield 15, 3) := by decide +kernel
theorem dX3_readCommand_71 : decode cX3_readCommand 71 = .ok (.iload_n 1, 1) := by decide +kernel
theorem dX3_readCommand_72 : decode cX3_readCommand 72 = .ok (.aload_n 0, 1) := by decide +kernel
theorem dX3_readCommand_73 : decode cX3_readCommand 73 = .ok (.getfield 9, 3) := by decide +kernel
theorem dX3_readCommand_76 : decode cX3_readCommand 76 = .ok (.getfield 121, 3) := by decide +kernel
theorem dX3_readCommand_79 : decode cX3_readCommand 79 = .ok (.invokevirtual 130, 3) := by decide +kernel
theorem dX0_appendCommand_0 : decode cX0_appendCommand 0 = .ok (.aload_n 0, 1) := by decide +kernel
theorem dX0_appendCommand_1 : decode cX0_appendCommand 1 = .ok (.getfield 20, 3) := by decide +kernel
theorem dX0_appendCommand_4 : decode cX0_appendCommand 4 = .ok (.iload_n 1, 1) := by decide +kernel
theorem dX0_appendCommand_5 : decode cX0_appendCommand 5 = .ok (.invokevirtual 66, 3) := by decide +kernel
set_option maxRecDepth 100000 in
set_option maxHeartbeats 4000000 in
theorem sX1_push_5 (l : Launch) (D : va_G) (Y : Nat → ClassId) (h0 : Nat) (h1 : Nat) (p0 : Int32) (f0 : Nat → Int32) (p1 : Int32) (sz : Nat) : Met l yX1_push (WSm yX1_push cX1_push 2 (some .boolean)) (mkR 0 0 0 0) (PreG EX D Y [.ref h0, .int p1] [(h0, oC 3 [.ref h1, .int p0]), (h1, aI Y 40 f0)] sz) (QI D (fun (r : Int32) (_ : UU) => r = 0 ∨ r = 1) (fun (u : UU) => [(h0, oC 3 [.ref h1, .int (u.1 0)]), (h1, aI Y 40 (u.2.2.1 0))]) (va_A [(h0, oC 3 [.ref h1, .int p0]), (h1, aI Y 40 f0)] sz)) 0 0 (va_A [(h0, oC 3 [.ref h1, .int p0]), (h1, aI Y 40 f0)] sz) :=
  gmet_of (by decide +kernel) (Nat.le_of_ble_eq_true rfl) (fun p e s m args below meth c B EB hsz => by
    have B : VB p s m args meth c D Y (va_A [(h0, oC 3 [.ref h1, .int p0]), (h1, aI Y 40 f0)] sz) cX1_push 2 RX1 (some .boolean) := B
    refine V_aload_n 0 B dX1_push_0 0 rfl ?_
    refine V_get 1 B gf_RX1_21 0 rfl rfl dX1_push_1 ?_
    refine V_if_lt 4 B 19 dX1_push_4 (by decide) (fun k0 => ?_) (fun k0 => ?_)
    ·
      refine V_iconst 19 B (v := 0) dX1_push_19 (by decide +kernel) ?_
      exact V_zret 20 B rfl dX1_push_20 (mkU [p0] [] [f0] [] []) (Or.inl rfl) rfl
    ·
      refine V_aload_n 7 B dX1_push_7 0 rfl ?_
      refine V_get 8 B gf_RX1_21 0 rfl rfl dX1_push_8 ?_
      refine V_aload_n 11 B dX1_push_11 0 rfl ?_
      refine V_get 12 B gf_RX1_15 0 rfl rfl dX1_push_12 ?_
      refine V_alenI 15 B (v := 40) 1 rfl (by decide +kernel) dX1_push_15 ?_
      refine V_icmp_lt 16 B 21 dX1_push_16 (by decide) (fun k1 => ?_) (fun k1 => ?_)
      ·
        refine V_aload_n 21 B dX1_push_21 0 rfl ?_
        refine V_get 22 B gf_RX1_15 0 rfl rfl dX1_push_22 ?_
        refine V_aload_n 25 B dX1_push_25 0 rfl ?_
        refine V_get 26 B gf_RX1_21 0 rfl rfl dX1_push_26 ?_
        refine V_iload_n 29 B dX1_push_29 1 rfl ?_
        refine V_iast 30 B 1 rfl (vpin_b (b_nlt k0 (n := 0) (by decide +kernel)) (b_lt k1 (n := 39) (by decide +kernel)) (by decide)) dX1_push_30 [(h0, oC 3 [.ref h1, .int p0]), (h1, aI Y 40 (upd f0 (p0 : Int32).toNatClampNeg p1))] rfl ?_
        refine V_aload_n 31 B dX1_push_31 0 rfl ?_
        refine V_dup 32 B dX1_push_32 rfl ?_
        refine V_get 33 B gf_RX1_21 0 rfl rfl dX1_push_33 ?_
        refine V_iconst 36 B (v := 1) dX1_push_36 (by decide +kernel) ?_
        refine V_iadd 37 B dX1_push_37 rfl ?_
        refine V_put 38 B gp_RX1_21 0 rfl (Nat.le_of_ble_eq_true rfl) rfl rfl dX1_push_38 [(h0, oC 3 [.ref h1, .int (p0 + 1)]), (h1, aI Y 40 (upd f0 (p0 : Int32).toNatClampNeg p1))] rfl ?_
        refine V_iconst 41 B (v := 1) dX1_push_41 (by decide +kernel) ?_
        exact V_zret 42 B rfl dX1_push_42 (mkU [(p0 + 1)] [] [(upd f0 (p0 : Int32).toNatClampNeg p1)] [] []) (Or.inr rfl) rfl
      ·
        refine V_iconst 19 B (v := 0) dX1_push_19 (by decide +kernel) ?_
        exact V_zret 20 B rfl dX1_push_20 (mkU [p0] [] [f0] [] []) (Or.inl rfl) rfl)
theorem dX0_appendCommand_8 : decode cX0_appendCommand 8 = .ok (.pop, 1) := by decide +kernel
theorem dX0_appendCommand_9 : decode cX0_appendCommand 9 = .ok (.aload_n 0, 1) := by decide +kernel
theorem dX0_appendCommand_10 : decode cX0_appendCommand 10 = .ok (.getfield 23, 3) := by decide +kernel
theorem dX0_appendCommand_13 : decode cX0_appendCommand 13 = .ok (.iload_n 1, 1) := by decide +kernel
theorem dX0_appendCommand_14 : decode cX0_appendCommand 14 = .ok (.iconst 1, 1) := by decide +kernel
theorem dX0_appendCommand_15 : decode cX0_appendCommand 15 = .ok (.if_icmp .ne 7, 3) := by decide +kernel
theorem dX0_appendCommand_22 : decode cX0_appendCommand 22 = .ok (.iconst (-1), 1) := by decide +kernel
theorem dX0_appendCommand_23 : decode cX0_appendCommand 23 = .ok (.invokevirtual 66, 3) := by decide +kernel
theorem dX0_appendCommand_26 : decode cX0_appendCommand 26 = .ok (.pop, 1) := by decide +kernel
theorem dX0_appendCommand_27 : decode cX0_appendCommand 27 = .ok (.aload_n 0, 1) := by decide +kernel
theorem dX0_appendCommand_28 : decode cX0_appendCommand 28 = .ok (.getfield 26, 3) := by decide +kernel
theorem dX0_appendCommand_31 : decode cX0_appendCommand 31 = .ok (.iconst 0, 1) := by decide +kernel
theorem dX0_appendCommand_32 : decode cX0_appendCommand 32 = .ok (.invokevirtual 66, 3) := by decide +kernel
theorem dX0_appendCommand_35 : decode cX0_appendCommand 35 = .ok (.pop, 1) := by decide +kernel
theorem dX0_appendCommand_36 : decode cX0_appendCommand 36 = .ok (.return_, 1) := by decide +kernel
theorem dX0_appendCommand_18 : decode cX0_appendCommand 18 = .ok (.iload_n 2, 1) := by decide +kernel
theorem dX0_appendCommand_19 : decode cX0_appendCommand 19 = .ok (.goto 4, 3) := by decide +kernel
set_option maxRecDepth 100000 in
set_option maxHeartbeats 4000000 in
theorem sX0_appendCommand_1 (l : Launch) (D : va_G) (Y : Nat → ClassId) (h0 : Nat) (h1 : Nat) (h2 : Nat) (h3 : Nat) (h4 : Nat) (h5 : Nat) (h6 : Nat) (g0 : Nat) (g1 : Nat) (g2 : Nat) (g3 : Nat) (g4 : Nat) (g5 : Nat) (g6 : Nat) (g7 : Nat) (p0 : Int32) (p1 : Int32) (f0 : Nat → Int32) (p2 : Int32) (f1 : Nat → Int32) (p3 : Int32) (f2 : Nat → Int32) (p4 : Int32) (p5 : Int32) (sz : Nat) : Met l yX0_appendCommand (WSm yX0_appendCommand cX0_appendCommand 3 none) (mkR 1 0 0 21) (PreG EX D Y [.ref h0, .int p4, .int p5] [(h0, oC 2 [.ref g0, .ref h1, .ref h3, .ref h5, .ref g1, .ref g2, .ref g3, .ref g4, .ref g5, .ref g6, .ref g7, .int p0]), (h1, oC 3 [.ref h2, .int p1]), (h2, aI Y 40 f0), (h3, oC 3 [.ref h4, .int p2]), (h4, aI Y 40 f1), (h5, oC 3 [.ref h6, .int p3]), (h6, aI Y 40 f2)] sz) (QV D (fun (_ : UU) => True) (fun (u : UU) => [(h0, oC 2 [.ref g0, .ref h1, .ref h3, .ref h5, .ref g1, .ref g2, .ref g3, .ref g4, .ref g5, .ref g6, .ref g7, .int p0]), (h1, oC 3 [.ref h2, .int (u.1 0)]), (h2, aI Y 40 (u.2.2.1 0)), (h3, oC 3 [.ref h4, .int (u.1 1)]), (h4, aI Y 40 (u.2.2.1 1)), (h5, oC 3 [.ref h6, .int (u.1 2)]), (h6, aI Y 40 (u.2.2.1 2))]) (va_A [(h0, oC 2 [.ref g0, .ref h1, .ref h3, .ref h5, .ref g1, .ref g2, .ref g3, .ref g4, .ref g5, .ref g6, .ref g7, .int p0]), (h1, oC 3 [.ref h2, .int p1]), (h2, aI Y 40 f0), (h3, oC 3 [.ref h4, .int p2]), (h4, aI Y 40 f1), (h5, oC 3 [.ref h6, .int p3]), (h6, aI Y 40 f2)] sz)) 0 0 (va_A [(h0, oC 2 [.ref g0, .ref h1, .ref h3, .ref h5, .ref g1, .ref g2, .ref g3, .ref g4, .ref g5, .ref g6, .ref g7, .int p0]), (h1, oC 3 [.ref h2, .int p1]), (h2, aI Y 40 f0), (h3, oC 3 [.ref h4, .int p2]), (h4, aI Y 40 f1), (h5, oC 3 [.ref h6, .int p3]), (h6, aI Y 40 f2)] sz) :=
  gmet_of (by decide +kernel) (Nat.le_of_ble_eq_true rfl) (fun p e s m args below meth c B EB hsz => by
    have B : VB p s m args meth c D Y (va_A [(h0, oC 2 [.ref g0, .ref h1, .ref h3, .ref h5, .ref g1, .ref g2, .ref g3, .ref g4, .ref g5, .ref g6, .ref g7, .int p0]), (h1, oC 3 [.ref h2, .int p1]), (h2, aI Y 40 f0), (h3, oC 3 [.ref h4, .int p2]), (h4, aI Y 40 f1), (h5, oC 3 [.ref h6, .int p3]), (h6, aI Y 40 f2)] sz) cX0_appendCommand 3 RX0 none := B
    refine V_aload_n 0 B dX0_appendCommand_0 0 rfl ?_
    refine V_get 1 B gf_RX0_20 0 rfl rfl dX0_appendCommand_1 ?_
    refine V_iload_n 4 B dX0_appendCommand_4 1 rfl ?_
    refine V_gvi 5 B envX EB (st := []) (As := [.int p4]) (fun sz => sX1_push_5 l D Y h1 h2 p1 f0 p4 sz) glV_RX0_66 ⟨rfl, rfl⟩ ⟨(Nat.le_of_ble_eq_true rfl), (Nat.le_of_ble_eq_true rfl)⟩ ⟨(Nat.le_of_ble_eq_true rfl), (Nat.le_of_ble_eq_true rfl)⟩ [1, 0] rfl 3 0 rfl rfl rfl rfl (Nat.le_of_ble_eq_true rfl) rfl (fun _ _ _ => rfl) dX0_appendCommand_5 (fun j0 u1 w2 => ?_)
    refine V_ws [(h0, oC 2 [.ref g0, .ref h1, .ref h3, .ref h5, .ref g1, .ref g2, .ref g3, .ref g4, .ref g5, .ref g6, .ref g7, .int p0]), (h1, oC 3 [.ref h2, .int (u1.1 0)]), (h2, aI Y 40 (u1.2.2.1 0)), (h3, oC 3 [.ref h4, .int p2]), (h4, aI Y 40 f1), (h5, oC 3 [.ref h6, .int p3]), (h6, aI Y 40 f2)] rfl ?_
    rcases w2 with rfl | rfl
    ·
      refine V_pop 8 B dX0_appendCommand_8 rfl ?_
      refine V_aload_n 9 B dX0_appendCommand_9 0 rfl ?_
      refine V_get 10 B gf_RX0_23 0 rfl rfl dX0_appendCommand_10 ?_
      refine V_iload_n 13 B dX0_appendCommand_13 1 rfl ?_
      refine V_iconst 14 B (v := 1) dX0_appendCommand_14 (by decide +kernel) ?_
      refine V_icmp_ne 15 B 22 dX0_appendCommand_15 (by decide) (fun k3 => ?_) (fun k3 => ?_)
      ·
        refine V_iconst 22 B (v := (-1)) dX0_appendCommand_22 (by decide +kernel) ?_
        refine V_gvi 23 B envX EB (st := []) (As := [.int (-1)]) (fun sz => sX1_push_5 l D Y h3 h4 p2 f1 (-1) sz) glV_RX0_66 ⟨rfl, rfl⟩ ⟨(Nat.le_of_ble_eq_true rfl), (Nat.le_of_ble_eq_true rfl)⟩ ⟨(Nat.le_of_ble_eq_true rfl), (Nat.le_of_ble_eq_true rfl)⟩ [3, 0] rfl 3 0 rfl rfl rfl rfl (Nat.le_of_ble_eq_true rfl) rfl (fun _ _ _ => rfl) dX0_appendCommand_23 (fun j4 u5 w6 => ?_)
        refine V_ws [(h0, oC 2 [.ref g0, .ref h1, .ref h3, .ref h5, .ref g1, .ref g2, .ref g3, .ref g4, .ref g5, .ref g6, .ref g7, .int p0]), (h1, oC 3 [.ref h2, .int (u1.1 0)]), (h2, aI Y 40 (u1.2.2.1 0)), (h3, oC 3 [.ref h4, .int (u5.1 0)]), (h4, aI Y 40 (u5.2.2.1 0)), (h5, oC 3 [.ref h6, .int p3]), (h6, aI Y 40 f2)] rfl ?_
        rcases w6 with rfl | rfl
        ·
          refine V_pop 26 B dX0_appendCommand_26 rfl ?_
          refine V_aload_n 27 B dX0_appendCommand_27 0 rfl ?_
          refine V_get 28 B gf_RX0_26 0 rfl rfl dX0_appendCommand_28 ?_
          refine V_iconst 31 B (v := 0) dX0_appendCommand_31 (by decide +kernel) ?_
          refine V_gvi 32 B envX EB (st := []) (As := [.int 0]) (fun sz => sX1_push_5 l D Y h5 h6 p3 f2 0 sz) glV_RX0_66 ⟨rfl, rfl⟩ ⟨(Nat.le_of_ble_eq_true rfl), (Nat.le_of_ble_eq_true rfl)⟩ ⟨(Nat.le_of_ble_eq_true rfl), (Nat.le_of_ble_eq_true rfl)⟩ [5, 0] rfl 3 0 rfl rfl rfl rfl (Nat.le_of_ble_eq_true rfl) rfl (fun _ _ _ => rfl) dX0_appendCommand_32 (fun j7 u8 w9 => ?_)
          refine V_ws [(h0, oC 2 [.ref g0, .ref h1, .ref h3, .ref h5, .ref g1, .ref g2, .ref g3, .ref g4, .ref g5, .ref g6, .ref g7, .int p0]), (h1, oC 3 [.ref h2, .int (u1.1 0)]), (h2, aI Y 40 (u1.2.2.1 0)), (h3, oC 3 [.ref h4, .int (u5.1 0)]), (h4, aI Y 40 (u5.2.2.1 0)), (h5, oC 3 [.ref h6, .int (u8.1 0)]), (h6, aI Y 40 (u8.2.2.1 0))] rfl ?_
          rcases w9 with rfl | rfl
          ·
            refine V_pop 35 B dX0_appendCommand_35 rfl ?_
            exact V_vret 36 B dX0_appendCommand_36 (mkU [(u1.1 0), (u5.1 0), (u8.1 0)] [] [(u1.2.2.1 0), (u5.2.2.1 0), (u8.2.2.1 0)] [] []) trivial rfl
          ·
            refine V_pop 35 B dX0_appendCommand_35 rfl ?_
            exact V_vret 36 B dX0_appendCommand_36 (mkU [(u1.1 0), (u5.1 0), (u8.1 0)] [] [(u1.2.2.1 0), (u5.2.2.1 0), (u8.2.2.1 0)] [] []) trivial rfl
        ·
          refine V_pop 26 B dX0_appendCommand_26 rfl ?_
          refine V_aload_n 27 B dX0_appendCommand_27 0 rfl ?_
          refine V_get 28 B gf_RX0_26 0 rfl rfl dX0_appendCommand_28 ?_
          refine V_iconst 31 B (v := 0) dX0_appendCommand_31 (by decide +kernel) ?_
          refine V_gvi 32 B envX EB (st := []) (As := [.int 0]) (fun sz => sX1_push_5 l D Y h5 h6 p3 f2 0 sz) glV_RX0_66 ⟨rfl, rfl⟩ ⟨(Nat.le_of_ble_eq_true rfl), (Nat.le_of_ble_eq_true rfl)⟩ ⟨(Nat.le_of_ble_eq_true rfl), (Nat.le_of_ble_eq_true rfl)⟩ [5, 0] rfl 3 0 rfl rfl rfl rfl (Nat.le_of_ble_eq_true rfl) rfl (fun _ _ _ => rfl) dX0_appendCommand_32 (fun j10 u11 w12 => ?_)
          refine V_ws [(h0, oC 2 [.ref g0, .ref h1, .ref h3, .ref h5, .ref g1, .ref g2, .ref g3, .ref g4, .ref g5, .ref g6, .ref g7, .int p0]), (h1, oC 3 [.ref h2, .int (u1.1 0)]), (h2, aI Y 40 (u1.2.2.1 0)), (h3, oC 3 [.ref h4, .int (u5.1 0)]), (h4, aI Y 40 (u5.2.2.1 0)), (h5, oC 3 [.ref h6, .int (u11.1 0)]), (h6, aI Y 40 (u11.2.2.1 0))] rfl ?_
          rcases w12 with rfl | rfl
          ·
            refine V_pop 35 B dX0_appendCommand_35 rfl ?_
            exact V_vret 36 B dX0_appendCommand_36 (mkU [(u1.1 0), (u5.1 0), (u11.1 0)] [] [(u1.2.2.1 0), (u5.2.2.1 0), (u11.2.2.1 0)] [] []) trivial rfl
          ·
            refine V_pop 35 B dX0_appendCommand_35 rfl ?_
            exact V_vret 36 B dX0_appendCommand_36 (mkU [(u1.1 0), (u5.1 0), (u11.1 0)] [] [(u1.2.2.1 0), (u5.2.2.1 0), (u11.2.2.1 0)] [] []) trivial rfl
      ·
        obtain rfl : p4 = 1 := k3
        refine V_iload_n 18 B dX0_appendCommand_18 2 rfl ?_
        refine V_goto 19 B 23 dX0_appendCommand_19 (by decide) ?_
        refine V_gvi 23 B envX EB (st := []) (As := [.int p5]) (fun sz => sX1_push_5 l D Y h3 h4 p2 f1 p5 sz) glV_RX0_66 ⟨rfl, rfl⟩ ⟨(Nat.le_of_ble_eq_true rfl), (Nat.le_of_ble_eq_true rfl)⟩ ⟨(Nat.le_of_ble_eq_true rfl), (Nat.le_of_ble_eq_true rfl)⟩ [3, 0] rfl 3 0 rfl rfl rfl rfl (Nat.le_of_ble_eq_true rfl) rfl (fun _ _ _ => rfl) dX0_appendCommand_23 (fun j13 u14 w15 => ?_)
        refine V_ws [(h0, oC 2 [.ref g0, .ref h1, .ref h3, .ref h5, .ref g1, .ref g2, .ref g3, .ref g4, .ref g5, .ref g6, .ref g7, .int p0]), (h1, oC 3 [.ref h2, .int (u1.1 0)]), (h2, aI Y 40 (u1.2.2.1 0)), (h3, oC 3 [.ref h4, .int (u14.1 0)]), (h4, aI Y 40 (u14.2.2.1 0)), (h5, oC 3 [.ref h6, .int p3]), (h6, aI Y 40 f2)] rfl ?_
        rcases w15 with rfl | rfl
        ·
          refine V_pop 26 B dX0_appendCommand_26 rfl ?_
          refine V_aload_n 27 B dX0_appendCommand_27 0 rfl ?_
          refine V_get 28 B gf_RX0_26 0 rfl rfl dX0_appendCommand_28 ?_
          refine V_iconst 31 B (v := 0) dX0_appendCommand_31 (by decide +kernel) ?_
          refine V_gvi 32 B envX EB (st := []) (As := [.int 0]) (fun sz => sX1_push_5 l D Y h5 h6 p3 f2 0 sz) glV_RX0_66 ⟨rfl, rfl⟩ ⟨(Nat.le_of_ble_eq_true rfl), (Nat.le_of_ble_eq_true rfl)⟩ ⟨(Nat.le_of_ble_eq_true rfl), (Nat.le_of_ble_eq_true rfl)⟩ [5, 0] rfl 3 0 rfl rfl rfl rfl (Nat.le_of_ble_eq_true rfl) rfl (fun _ _ _ => rfl) dX0_appendCommand_32 (fun j16 u17 w18 => ?_)
          refine V_ws [(h0, oC 2 [.ref g0, .ref h1, .ref h3, .ref h5, .ref g1, .ref g2, .ref g3, .ref g4, .ref g5, .ref g6, .ref g7, .int p0]), (h1, oC 3 [.ref h2, .int (u1.1 0)]), (h2, aI Y 40 (u1.2.2.1 0)), (h3, oC 3 [.ref h4, .int (u14.1 0)]), (h4, aI Y 40 (u14.2.2.1 0)), (h5, oC 3 [.ref h6, .int (u17.1 0)]), (h6, aI Y 40 (u17.2.2.1 0))] rfl ?_
          rcases w18 with rfl | rfl
          ·
            refine V_pop 35 B dX0_appendCommand_35 rfl ?_
            exact V_vret 36 B dX0_appendCommand_36 (mkU [(u1.1 0), (u14.1 0), (u17.1 0)] [] [(u1.2.2.1 0), (u14.2.2.1 0), (u17.2.2.1 0)] [] []) trivial rfl
          ·
            refine V_pop 35 B dX0_appendCommand_35 rfl ?_
            exact V_vret 36 B dX0_appendCommand_36 (mkU [(u1.1 0), (u14.1 0), (u17.1 0)] [] [(u1.2.2.1 0), (u14.2.2.1 0), (u17.2.2.1 0)] [] []) trivial rfl
        ·
          refine V_pop 26 B dX0_appendCommand_26 rfl ?_
          refine V_aload_n 27 B dX0_appendCommand_27 0 rfl ?_
          refine V_get 28 B gf_RX0_26 0 rfl rfl dX0_appendCommand_28 ?_
          refine V_iconst 31 B (v := 0) dX0_appendCommand_31 (by decide +kernel) ?_
          refine V_gvi 32 B envX EB (st := []) (As := [.int 0]) (fun sz => sX1_push_5 l D Y h5 h6 p3 f2 0 sz) glV_RX0_66 ⟨rfl, rfl⟩ ⟨(Nat.le_of_ble_eq_true rfl), (Nat.le_of_ble_eq_true rfl)⟩ ⟨(Nat.le_of_ble_eq_true rfl), (Nat.le_of_ble_eq_true rfl)⟩ [5, 0] rfl 3 0 rfl rfl rfl rfl (Nat.le_of_ble_eq_true rfl) rfl (fun _ _ _ => rfl) dX0_appendCommand_32 (fun j19 u20 w21 => ?_)
          refine V_ws [(h0, oC 2 [.ref g0, .ref h1, .ref h3, .ref h5, .ref g1, .ref g2, .ref g3, .ref g4, .ref g5, .ref g6, .ref g7, .int p0]), (h1, oC 3 [.ref h2, .int (u1.1 0)]), (h2, aI Y 40 (u1.2.2.1 0)), (h3, oC 3 [.ref h4, .int (u14.1 0)]), (h4, aI Y 40 (u14.2.2.1 0)), (h5, oC 3 [.ref h6, .int (u20.1 0)]), (h6, aI Y 40 (u20.2.2.1 0))] rfl ?_
          rcases w21 with rfl | rfl
          ·
            refine V_pop 35 B dX0_appendCommand_35 rfl ?_
            exact V_vret 36 B dX0_appendCommand_36 (mkU [(u1.1 0), (u14.1 0), (u20.1 0)] [] [(u1.2.2.1 0), (u14.2.2.1 0), (u20.2.2.1 0)] [] []) trivial rfl
          ·
            refine V_pop 35 B dX0_appendCommand_35 rfl ?_
            exact V_vret 36 B dX0_appendCommand_36 (mkU [(u1.1 0), (u14.1 0), (u20.1 0)] [] [(u1.2.2.1 0), (u14.2.2.1 0), (u20.2.2.1 0)] [] []) trivial rfl
    ·
      refine V_pop 8 B dX0_appendCommand_8 rfl ?_
      refine V_aload_n 9 B dX0_appendCommand_9 0 rfl ?_
      refine V_get 10 B gf_RX0_23 0 rfl rfl dX0_appendCommand_10 ?_
      refine V_iload_n 13 B dX0_appendCommand_13 1 rfl ?_
      refine V_iconst 14 B (v := 1) dX0_appendCommand_14 (by decide +kernel) ?_
      refine V_icmp_ne 15 B 22 dX0_appendCommand_15 (by decide) (fun k22 => ?_) (fun k22 => ?_)
      ·
        refine V_iconst 22 B (v := (-1)) dX0_appendCommand_22 (by decide +kernel) ?_
        refine V_gvi 23 B envX EB (st := []) (As := [.int (-1)]) (fun sz => sX1_push_5 l D Y h3 h4 p2 f1 (-1) sz) glV_RX0_66 ⟨rfl, rfl⟩ ⟨(Nat.le_of_ble_eq_true rfl), (Nat.le_of_ble_eq_true rfl)⟩ ⟨(Nat.le_of_ble_eq_true rfl), (Nat.le_of_ble_eq_true rfl)⟩ [3, 0] rfl 3 0 rfl rfl rfl rfl (Nat.le_of_ble_eq_true rfl) rfl (fun _ _ _ => rfl) dX0_appendCommand_23 (fun j23 u24 w25 => ?_)
        refine V_ws [(h0, oC 2 [.ref g0, .ref h1, .ref h3, .ref h5, .ref g1, .ref g2, .ref g3, .ref g4, .ref g5, .ref g6, .ref g7, .int p0]), (h1, oC 3 [.ref h2, .int (u1.1 0)]), (h2, aI Y 40 (u1.2.2.1 0)), (h3, oC 3 [.ref h4, .int (u24.1 0)]), (h4, aI Y 40 (u24.2.2.1 0)), (h5, oC 3 [.ref h6, .int p3]), (h6, aI Y 40 f2)] rfl ?_
        rcases w25 with rfl | rfl
        ·
          refine V_pop 26 B dX0_appendCommand_26 rfl ?_
          refine V_aload_n 27 B dX0_appendCommand_27 0 rfl ?_
          refine V_get 28 B gf_RX0_26 0 rfl rfl dX0_appendCommand_28 ?_
          refine V_iconst 31 B (v := 0) dX0_appendCommand_31 (by decide +kernel) ?_
          refine V_gvi 32 B envX EB (st := []) (As := [.int 0]) (fun sz => sX1_push_5 l D Y h5 h6 p3 f2 0 sz) glV_RX0_66 ⟨rfl, rfl⟩ ⟨(Nat.le_of_ble_eq_true rfl), (Nat.le_of_ble_eq_true rfl)⟩ ⟨(Nat.le_of_ble_eq_true rfl), (Nat.le_of_ble_eq_true rfl)⟩ [5, 0] rfl 3 0 rfl rfl rfl rfl (Nat.le_of_ble_eq_true rfl) rfl (fun _ _ _ => rfl) dX0_appendCommand_32 (fun j26 u27 w28 => ?_)
          refine V_ws [(h0, oC 2 [.ref g0, .ref h1, .ref h3, .ref h5, .ref g1, .ref g2, .ref g3, .ref g4, .ref g5, .ref g6, .ref g7, .int p0]), (h1, oC 3 [.ref h2, .int (u1.1 0)]), (h2, aI Y 40 (u1.2.2.1 0)), (h3, oC 3 [.ref h4, .int (u24.1 0)]), (h4, aI Y 40 (u24.2.2.1 0)), (h5, oC 3 [.ref h6, .int (u27.1 0)]), (h6, aI Y 40 (u27.2.2.1 0))] rfl ?_
          rcases w28 with rfl | rfl
          ·
            refine V_pop 35 B dX0_appendCommand_35 rfl ?_
            exact V_vret 36 B dX0_appendCommand_36 (mkU [(u1.1 0), (u24.1 0), (u27.1 0)] [] [(u1.2.2.1 0), (u24.2.2.1 0), (u27.2.2.1 0)] [] []) trivial rfl
          ·
            refine V_pop 35 B dX0_appendCommand_35 rfl ?_
            exact V_vret 36 B dX0_appendCommand_36 (mkU [(u1.1 0), (u24.1 0), (u27.1 0)] [] [(u1.2.2.1 0), (u24.2.2.1 0), (u27.2.2.1 0)] [] []) trivial rfl
        ·
          refine V_pop 26 B dX0_appendCommand_26 rfl ?_
          refine V_aload_n 27 B dX0_appendCommand_27 0 rfl ?_
          refine V_get 28 B gf_RX0_26 0 rfl rfl dX0_appendCommand_28 ?_
          refine V_iconst 31 B (v := 0) dX0_appendCommand_31 (by decide +kernel) ?_
          refine V_gvi 32 B envX EB (st := []) (As := [.int 0]) (fun sz => sX1_push_5 l D Y h5 h6 p3 f2 0 sz) glV_RX0_66 ⟨rfl, rfl⟩ ⟨(Nat.le_of_ble_eq_true rfl), (Nat.le_of_ble_eq_true rfl)⟩ ⟨(Nat.le_of_ble_eq_true rfl), (Nat.le_of_ble_eq_true rfl)⟩ [5, 0] rfl 3 0 rfl rfl rfl rfl (Nat.le_of_ble_eq_true rfl) rfl (fun _ _ _ => rfl) dX0_appendCommand_32 (fun j29 u30 w31 => ?_)
          refine V_ws [(h0, oC 2 [.ref g0, .ref h1, .ref h3, .ref h5, .ref g1, .ref g2, .ref g3, .ref g4, .ref g5, .ref g6, .ref g7, .int p0]), (h1, oC 3 [.ref h2, .int (u1.1 0)]), (h2, aI Y 40 (u1.2.2.1 0)), (h3, oC 3 [.ref h4, .int (u24.1 0)]), (h4, aI Y 40 (u24.2.2.1 0)), (h5, oC 3 [.ref h6, .int (u30.1 0)]), (h6, aI Y 40 (u30.2.2.1 0))] rfl ?_
          rcases w31 with rfl | rfl
          ·
            refine V_pop 35 B dX0_appendCommand_35 rfl ?_
            exact V_vret 36 B dX0_appendCommand_36 (mkU [(u1.1 0), (u24.1 0), (u30.1 0)] [] [(u1.2.2.1 0), (u24.2.2.1 0), (u30.2.2.1 0)] [] []) trivial rfl
          ·
            refine V_pop 35 B dX0_appendCommand_35 rfl ?_
            exact V_vret 36 B dX0_appendCommand_36 (mkU [(u1.1 0), (u24.1 0), (u30.1 0)] [] [(u1.2.2.1 0), (u24.2.2.1 0), (u30.2.2.1 0)] [] []) trivial rfl
      ·
        obtain rfl : p4 = 1 := k22
        refine V_iload_n 18 B dX0_appendCommand_18 2 rfl ?_
        refine V_goto 19 B 23 dX0_appendCommand_19 (by decide) ?_
        refine V_gvi 23 B envX EB (st := []) (As := [.int p5]) (fun sz => sX1_push_5 l D Y h3 h4 p2 f1 p5 sz) glV_RX0_66 ⟨rfl, rfl⟩ ⟨(Nat.le_of_ble_eq_true rfl), (Nat.le_of_ble_eq_true rfl)⟩ ⟨(Nat.le_of_ble_eq_true rfl), (Nat.le_of_ble_eq_true rfl)⟩ [3, 0] rfl 3 0 rfl rfl rfl rfl (Nat.le_of_ble_eq_true rfl) rfl (fun _ _ _ => rfl) dX0_appendCommand_23 (fun j32 u33 w34 => ?_)
        refine V_ws [(h0, oC 2 [.ref g0, .ref h1, .ref h3, .ref h5, .ref g1, .ref g2, .ref g3, .ref g4, .ref g5, .ref g6, .ref g7, .int p0]), (h1, oC 3 [.ref h2, .int (u1.1 0)]), (h2, aI Y 40 (u1.2.2.1 0)), (h3, oC 3 [.ref h4, .int (u33.1 0)]), (h4, aI Y 40 (u33.2.2.1 0)), (h5, oC 3 [.ref h6, .int p3]), (h6, aI Y 40 f2)] rfl ?_
        rcases w34 with rfl | rfl
        ·
          refine V_pop 26 B dX0_appendCommand_26 rfl ?_
          refine V_aload_n 27 B dX0_appendCommand_27 0 rfl ?_
          refine V_get 28 B gf_RX0_26 0 rfl rfl dX0_appendCommand_28 ?_
          refine V_iconst 31 B (v := 0) dX0_appendCommand_31 (by decide +kernel) ?_
          refine V_gvi 32 B envX EB (st := []) (As := [.int 0]) (fun sz => sX1_push_5 l D Y h5 h6 p3 f2 0 sz) glV_RX0_66 ⟨rfl, rfl⟩ ⟨(Nat.le_of_ble_eq_true rfl), (Nat.le_of_ble_eq_true rfl)⟩ ⟨(Nat.le_of_ble_eq_true rfl), (Nat.le_of_ble_eq_true rfl)⟩ [5, 0] rfl 3 0 rfl rfl rfl rfl (Nat.le_of_ble_eq_true rfl) rfl (fun _ _ _ => rfl) dX0_appendCommand_32 (fun j35 u36 w37 => ?_)
          refine V_ws [(h0, oC 2 [.ref g0, .ref h1, .ref h3, .ref h5, .ref g1, .ref g2, .ref g3, .ref g4, .ref g5, .ref g6, .ref g7, .int p0]), (h1, oC 3 [.ref h2, .int (u1.1 0)]), (h2, aI Y 40 (u1.2.2.1 0)), (h3, oC 3 [.ref h4, .int (u33.1 0)]), (h4, aI Y 40 (u33.2.2.1 0)), (h5, oC 3 [.ref h6, .int (u36.1 0)]), (h6, aI Y 40 (u36.2.2.1 0))] rfl ?_
          rcases w37 with rfl | rfl
          ·
            refine V_pop 35 B dX0_appendCommand_35 rfl ?_
            exact V_vret 36 B dX0_appendCommand_36 (mkU [(u1.1 0), (u33.1 0), (u36.1 0)] [] [(u1.2.2.1 0), (u33.2.2.1 0), (u36.2.2.1 0)] [] []) trivial rfl
          ·
            refine V_pop 35 B dX0_appendCommand_35 rfl ?_
            exact V_vret 36 B dX0_appendCommand_36 (mkU [(u1.1 0), (u33.1 0), (u36.1 0)] [] [(u1.2.2.1 0), (u33.2.2.1 0), (u36.2.2.1 0)] [] []) trivial rfl
        ·
          refine V_pop 26 B dX0_appendCommand_26 rfl ?_
          refine V_aload_n 27 B dX0_appendCommand_27 0 rfl ?_
          refine V_get 28 B gf_RX0_26 0 rfl rfl dX0_appendCommand_28 ?_
          refine V_iconst 31 B (v := 0) dX0_appendCommand_31 (by decide +kernel) ?_
          refine V_gvi 32 B envX EB (st := []) (As := [.int 0]) (fun sz => sX1_push_5 l D Y h5 h6 p3 f2 0 sz) glV_RX0_66 ⟨rfl, rfl⟩ ⟨(Nat.le_of_ble_eq_true rfl), (Nat.le_of_ble_eq_true rfl)⟩ ⟨(Nat.le_of_ble_eq_true rfl), (Nat.le_of_ble_eq_true rfl)⟩ [5, 0] rfl 3 0 rfl rfl rfl rfl (Nat.le_of_ble_eq_true rfl) rfl (fun _ _ _ => rfl) dX0_appendCommand_32 (fun j38 u39 w40 => ?_)
          refine V_ws [(h0, oC 2 [.ref g0, .ref h1, .ref h3, .ref h5, .ref g1, .ref g2, .ref g3, .ref g4, .ref g5, .ref g6, .ref g7, .int p0]), (h1, oC 3 [.ref h2, .int (u1.1 0)]), (h2, aI Y 40 (u1.2.2.1 0)), (h3, oC 3 [.ref h4, .int (u33.1 0)]), (h4, aI Y 40 (u33.2.2.1 0)), (h5, oC 3 [.ref h6, .int (u39.1 0)]), (h6, aI Y 40 (u39.2.2.1 0))] rfl ?_
          rcases w40 with rfl | rfl
          ·
            refine V_pop 35 B dX0_appendCommand_35 rfl ?_
            exact V_vret 36 B dX0_appendCommand_36 (mkU [(u1.1 0), (u33.1 0), (u39.1 0)] [] [(u1.2.2.1 0), (u33.2.2.1 0), (u39.2.2.1 0)] [] []) trivial rfl
          ·
            refine V_pop 35 B dX0_appendCommand_35 rfl ?_
            exact V_vret 36 B dX0_appendCommand_36 (mkU [(u1.1 0), (u33.1 0), (u39.1 0)] [] [(u1.2.2.1 0), (u33.2.2.1 0), (u39.2.2.1 0)] [] []) trivial rfl)
