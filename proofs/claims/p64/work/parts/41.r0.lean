theorem dX12_inRange_0 : decode cX12_inRange 0 = .ok (.lload_n 0, 1) := by decide +kernel
theorem dX12_inRange_1 : decode cX12_inRange 1 = .ok (.lload_n 2, 1) := by decide +kernel
theorem dX12_inRange_2 : decode cX12_inRange 2 = .ok (.lcmp, 1) := by decide +kernel
theorem dX12_inRange_3 : decode cX12_inRange 3 = .ok (.ifCond .lt 14, 3) := by decide +kernel
theorem dX12_inRange_6 : decode cX12_inRange 6 = .ok (.lload_n 0, 1) := by decide +kernel
theorem dX12_inRange_7 : decode cX12_inRange 7 = .ok (.lload 4, 2) := by decide +kernel
theorem dX12_inRange_9 : decode cX12_inRange 9 = .ok (.lcmp, 1) := by decide +kernel
theorem dX12_inRange_10 : decode cX12_inRange 10 = .ok (.ifCond .gt 7, 3) := by decide +kernel
theorem dX12_inRange_13 : decode cX12_inRange 13 = .ok (.iconst 1, 1) := by decide +kernel
theorem dX12_inRange_14 : decode cX12_inRange 14 = .ok (.goto 4, 3) := by decide +kernel
theorem dX12_inRange_17 : decode cX12_inRange 17 = .ok (.iconst 0, 1) := by decide +kernel
theorem dX12_inRange_18 : decode cX12_inRange 18 = .ok (.ireturn, 1) := by decide +kernel
set_option maxHeartbeats 4000000 in
theorem rX12_inRange (l : Launch) (D : va_G) (Y : Nat → ClassId) (v lo hi : Int64) (sz : Nat) : Met l yX12_inRange (WSm yX12_inRange cX12_inRange 6 (some .boolean)) (mkR 0 0 0 0) (PreC D Y [.long v, .long lo, .long hi] [] sz) (QI D (fun (r : Int32) (_ : WU) => (r = 0 ∧ (v.toInt < lo.toInt ∨ hi.toInt < v.toInt)) ∨ (r = 1 ∧ lo.toInt ≤ v.toInt ∧ v.toInt ≤ hi.toInt)) (fun (_ : WU) => []) (va_A [] sz)) 0 0 (va_A [] sz) :=
  met_of (by decide +kernel) (Nat.le_of_ble_eq_true rfl) (fun p e s m args below meth c B hin hsz => by
    have B : VB p s m args meth c D Y (va_A [] sz) cX12_inRange 6 RX12 (some .boolean) := B
    refine V_lload_n 0 B dX12_inRange_0 0 rfl ?_
    refine V_lload_n 1 B dX12_inRange_1 1 rfl ?_
    refine V_lcmp 2 B dX12_inRange_2 rfl ?_
    refine V_if_lt 3 B 17 dX12_inRange_3 (by decide) (fun k1 => ?_) (fun k1 => ?_)
    · refine V_iconst 17 B (v := 0) dX12_inRange_17 (by decide +kernel) ?_
      exact V_zret 18 B rfl dX12_inRange_18 (mkW [] [] [] [] [] []) (Or.inl ⟨rfl, Or.inl (lc_ltL k1)⟩) rfl
    · refine V_lload_n 6 B dX12_inRange_6 0 rfl ?_
      refine V_lload 7 B dX12_inRange_7 2 rfl ?_
      refine V_lcmp 9 B dX12_inRange_9 rfl ?_
      refine V_if_gt 10 B 17 dX12_inRange_10 (by decide) (fun k2 => ?_) (fun k2 => ?_)
      · refine V_iconst 17 B (v := 0) dX12_inRange_17 (by decide +kernel) ?_
        exact V_zret 18 B rfl dX12_inRange_18 (mkW [] [] [] [] [] []) (Or.inl ⟨rfl, Or.inr (lc_gtL k2)⟩) rfl
      · refine V_iconst 13 B (v := 1) dX12_inRange_13 (by decide +kernel) ?_
        refine V_goto 14 B 18 dX12_inRange_14 (by decide) ?_
        exact V_zret 18 B rfl dX12_inRange_18 (mkW [] [] [] [] [] []) (Or.inr ⟨rfl, lc_nltL k1, lc_ngtL k2⟩) rfl)
theorem dX12_clearBlock_0 : decode cX12_clearBlock 0 = .ok (.iconst 0, 1) := by decide +kernel
theorem dX12_clearBlock_1 : decode cX12_clearBlock 1 = .ok (.istore_n 2, 1) := by decide +kernel
theorem dX12_clearBlock_2 : decode cX12_clearBlock 2 = .ok (.iload_n 2, 1) := by decide +kernel
theorem dX12_clearBlock_3 : decode cX12_clearBlock 3 = .ok (.sipush 906, 3) := by decide +kernel
theorem dX12_clearBlock_6 : decode cX12_clearBlock 6 = .ok (.if_icmp .ge 22, 3) := by decide +kernel
theorem dX12_clearBlock_9 : decode cX12_clearBlock 9 = .ok (.aload_n 0, 1) := by decide +kernel
theorem dX12_clearBlock_10 : decode cX12_clearBlock 10 = .ok (.getfield 9, 3) := by decide +kernel
theorem dX12_clearBlock_13 : decode cX12_clearBlock 13 = .ok (.sipush 906, 3) := by decide +kernel
theorem dX12_clearBlock_16 : decode cX12_clearBlock 16 = .ok (.iload_n 1, 1) := by decide +kernel
theorem dX12_clearBlock_17 : decode cX12_clearBlock 17 = .ok (.imul, 1) := by decide +kernel
theorem dX12_clearBlock_18 : decode cX12_clearBlock 18 = .ok (.iload_n 2, 1) := by decide +kernel
theorem dX12_clearBlock_19 : decode cX12_clearBlock 19 = .ok (.iadd, 1) := by decide +kernel
theorem dX12_clearBlock_20 : decode cX12_clearBlock 20 = .ok (.iconst 0, 1) := by decide +kernel
theorem dX12_clearBlock_21 : decode cX12_clearBlock 21 = .ok (.iastore, 1) := by decide +kernel
theorem dX12_clearBlock_22 : decode cX12_clearBlock 22 = .ok (.iinc 2 1, 3) := by decide +kernel
theorem dX12_clearBlock_25 : decode cX12_clearBlock 25 = .ok (.goto (-23), 3) := by decide +kernel
theorem dX12_clearBlock_28 : decode cX12_clearBlock 28 = .ok (.aload_n 0, 1) := by decide +kernel
theorem dX12_clearBlock_29 : decode cX12_clearBlock 29 = .ok (.getfield 9, 3) := by decide +kernel
theorem dX12_clearBlock_32 : decode cX12_clearBlock 32 = .ok (.sipush 906, 3) := by decide +kernel
theorem dX12_clearBlock_35 : decode cX12_clearBlock 35 = .ok (.iload_n 1, 1) := by decide +kernel
theorem dX12_clearBlock_36 : decode cX12_clearBlock 36 = .ok (.imul, 1) := by decide +kernel
theorem dX12_clearBlock_37 : decode cX12_clearBlock 37 = .ok (.iconst 0, 1) := by decide +kernel
theorem dX12_clearBlock_38 : decode cX12_clearBlock 38 = .ok (.iadd, 1) := by decide +kernel
theorem dX12_clearBlock_39 : decode cX12_clearBlock 39 = .ok (.iconst 1, 1) := by decide +kernel
theorem dX12_clearBlock_40 : decode cX12_clearBlock 40 = .ok (.iastore, 1) := by decide +kernel
theorem dX12_clearBlock_41 : decode cX12_clearBlock 41 = .ok (.aload_n 0, 1) := by decide +kernel
theorem dX12_clearBlock_42 : decode cX12_clearBlock 42 = .ok (.getfield 9, 3) := by decide +kernel
theorem dX12_clearBlock_45 : decode cX12_clearBlock 45 = .ok (.sipush 906, 3) := by decide +kernel
theorem dX12_clearBlock_48 : decode cX12_clearBlock 48 = .ok (.iload_n 1, 1) := by decide +kernel
theorem dX12_clearBlock_49 : decode cX12_clearBlock 49 = .ok (.imul, 1) := by decide +kernel
theorem dX12_clearBlock_50 : decode cX12_clearBlock 50 = .ok (.bipush 11, 2) := by decide +kernel
theorem dX12_clearBlock_52 : decode cX12_clearBlock 52 = .ok (.iadd, 1) := by decide +kernel
theorem dX12_clearBlock_53 : decode cX12_clearBlock 53 = .ok (.iconst (-1), 1) := by decide +kernel
theorem dX12_clearBlock_54 : decode cX12_clearBlock 54 = .ok (.iastore, 1) := by decide +kernel
theorem dX12_clearBlock_55 : decode cX12_clearBlock 55 = .ok (.aload_n 0, 1) := by decide +kernel
theorem dX12_clearBlock_56 : decode cX12_clearBlock 56 = .ok (.getfield 9, 3) := by decide +kernel
theorem dX12_clearBlock_59 : decode cX12_clearBlock 59 = .ok (.sipush 906, 3) := by decide +kernel
theorem dX12_clearBlock_62 : decode cX12_clearBlock 62 = .ok (.iload_n 1, 1) := by decide +kernel
theorem dX12_clearBlock_63 : decode cX12_clearBlock 63 = .ok (.imul, 1) := by decide +kernel
theorem dX12_clearBlock_64 : decode cX12_clearBlock 64 = .ok (.bipush 16, 2) := by decide +kernel
theorem dX12_clearBlock_66 : decode cX12_clearBlock 66 = .ok (.iadd, 1) := by decide +kernel
theorem dX12_clearBlock_67 : decode cX12_clearBlock 67 = .ok (.iconst (-1), 1) := by decide +kernel
theorem dX12_clearBlock_68 : decode cX12_clearBlock 68 = .ok (.iastore, 1) := by decide +kernel
theorem dX12_clearBlock_69 : decode cX12_clearBlock 69 = .ok (.return_, 1) := by decide +kernel
theorem inw_X12 : ∀ w ∈ u_ws RX12 TX12 17, w ∈ lw_good := by decide +kernel
theorem gf_RX12_9 : GF RX12 9 13 0 := ⟨RX12, TX12, 17, rfl, inw_X12, Nat.le_of_ble_eq_true rfl, (mT7 137 rfl rfl)⟩
theorem dX12_copyBlock_0 : decode cX12_copyBlock 0 = .ok (.iconst 0, 1) := by decide +kernel
theorem dX12_copyBlock_1 : decode cX12_copyBlock 1 = .ok (.istore_n 3, 1) := by decide +kernel
theorem dX12_copyBlock_2 : decode cX12_copyBlock 2 = .ok (.iload_n 3, 1) := by decide +kernel
theorem dX12_copyBlock_3 : decode cX12_copyBlock 3 = .ok (.sipush 906, 3) := by decide +kernel
theorem dX12_copyBlock_6 : decode cX12_copyBlock 6 = .ok (.if_icmp .ge 33, 3) := by decide +kernel
theorem dX12_copyBlock_9 : decode cX12_copyBlock 9 = .ok (.aload_n 0, 1) := by decide +kernel
theorem dX12_copyBlock_10 : decode cX12_copyBlock 10 = .ok (.getfield 9, 3) := by decide +kernel
theorem dX12_copyBlock_13 : decode cX12_copyBlock 13 = .ok (.sipush 906, 3) := by decide +kernel
theorem dX12_copyBlock_16 : decode cX12_copyBlock 16 = .ok (.iload_n 2, 1) := by decide +kernel
theorem dX12_copyBlock_17 : decode cX12_copyBlock 17 = .ok (.imul, 1) := by decide +kernel
theorem dX12_copyBlock_18 : decode cX12_copyBlock 18 = .ok (.iload_n 3, 1) := by decide +kernel
theorem dX12_copyBlock_19 : decode cX12_copyBlock 19 = .ok (.iadd, 1) := by decide +kernel
theorem dX12_copyBlock_20 : decode cX12_copyBlock 20 = .ok (.aload_n 0, 1) := by decide +kernel
theorem dX12_copyBlock_21 : decode cX12_copyBlock 21 = .ok (.getfield 9, 3) := by decide +kernel
theorem dX12_copyBlock_24 : decode cX12_copyBlock 24 = .ok (.sipush 906, 3) := by decide +kernel
theorem dX12_copyBlock_27 : decode cX12_copyBlock 27 = .ok (.iload_n 1, 1) := by decide +kernel
theorem dX12_copyBlock_28 : decode cX12_copyBlock 28 = .ok (.imul, 1) := by decide +kernel
theorem dX12_copyBlock_29 : decode cX12_copyBlock 29 = .ok (.iload_n 3, 1) := by decide +kernel
theorem dX12_copyBlock_30 : decode cX12_copyBlock 30 = .ok (.iadd, 1) := by decide +kernel
theorem dX12_copyBlock_31 : decode cX12_copyBlock 31 = .ok (.iaload, 1) := by decide +kernel
theorem dX12_copyBlock_32 : decode cX12_copyBlock 32 = .ok (.iastore, 1) := by decide +kernel
theorem dX12_copyBlock_33 : decode cX12_copyBlock 33 = .ok (.iinc 3 1, 3) := by decide +kernel
theorem dX12_copyBlock_36 : decode cX12_copyBlock 36 = .ok (.goto (-34), 3) := by decide +kernel
theorem dX12_copyBlock_39 : decode cX12_copyBlock 39 = .ok (.return_, 1) := by decide +kernel
def zrB (b i : Nat) (f : Nat → Int32) : Nat → Int32 := fun k => if 906 * b ≤ k ∧ k < 906 * b + i then 0 else f k
def clB (b : Nat) (f : Nat → Int32) : Nat → Int32 := upd (upd (upd (zrB b 906 f) (906 * b + 0) 1) (906 * b + 11) (-1)) (906 * b + 16) (-1)
def cpB (a b i : Nat) (f : Nat → Int32) : Nat → Int32 := fun k => if 906 * b ≤ k ∧ k < 906 * b + i then f (906 * a + (k - 906 * b)) else f k
theorem zrB_0 (b : Nat) (f : Nat → Int32) : zrB b 0 f = f := by
  funext k
  unfold zrB
  rw [if_neg (by omega)]
theorem zrB_s (b i : Nat) (f : Nat → Int32) (h : 906 * b + i < 2 ^ 31) : upd (zrB b i f) (nI (906 * b + i)).toNatClampNeg 0 = zrB b (i + 1) f := by
  rw [nI_clamp h]
  funext k
  unfold upd zrB
  by_cases h1 : k = 906 * b + i
  · rw [if_pos h1, if_pos (by omega)]
  · rw [if_neg h1]
    by_cases h2 : 906 * b ≤ k ∧ k < 906 * b + i
    · rw [if_pos h2, if_pos (by omega)]
    · rw [if_neg h2, if_neg (by omega)]
theorem cpB_0 (a b : Nat) (f : Nat → Int32) : cpB a b 0 f = f := by
  funext k
  unfold cpB
  rw [if_neg (by omega)]
theorem cpB_r (a b i : Nat) (f : Nat → Int32) (h : 906 * a + i < 2 ^ 31) (hi : i < 906) (hab : a ≠ b) : cpB a b i f (nI (906 * a + i)).toNatClampNeg = f (906 * a + i) := by
  rw [nI_clamp h]
  unfold cpB
  rw [if_neg (by omega)]
theorem cpB_s (a b i : Nat) (f : Nat → Int32) (h : 906 * b + i < 2 ^ 31) : upd (cpB a b i f) (nI (906 * b + i)).toNatClampNeg (f (906 * a + i)) = cpB a b (i + 1) f := by
  rw [nI_clamp h]
  funext k
  unfold upd cpB
  by_cases h1 : k = 906 * b + i
  · rw [if_pos h1, if_pos (by omega), show k - 906 * b = i by omega]
  · rw [if_neg h1]
    by_cases h2 : 906 * b ≤ k ∧ k < 906 * b + i
    · rw [if_pos h2, if_pos (by omega)]
    · rw [if_neg h2, if_neg (by omega)]
set_option maxRecDepth 100000 in
set_option maxHeartbeats 4000000 in
theorem mX12_clearBlock_m (l : Launch) (D : va_G) (Y : Nat → ClassId) (h0 h1 : Nat) (v1 v2 v3 v4 v5 v6 v7 v8 v9 v10 v11 v12 v13 v14 v15 v16 : Value) (f : Nat → Int32) (b : Nat) (hb4 : b ≤ 3) (sz : Nat) : Met l yX12_clearBlock (WSm yX12_clearBlock cX12_clearBlock 3 none) (mkR 0 0 0 0) (PreC D Y [.ref h0, .int (nI b)] [(h0, oC 13 [.ref h1, v1, v2, v3, v4, v5, v6, v7, v8, v9, v10, v11, v12, v13, v14, v15, v16]), (h1, aI Y 3640 (f))] sz) (QV D (fun (_ : Unit) => True) (fun (_ : Unit) => [(h0, oC 13 [.ref h1, v1, v2, v3, v4, v5, v6, v7, v8, v9, v10, v11, v12, v13, v14, v15, v16]), (h1, aI Y 3640 (clB b f))]) (va_A [(h0, oC 13 [.ref h1, v1, v2, v3, v4, v5, v6, v7, v8, v9, v10, v11, v12, v13, v14, v15, v16]), (h1, aI Y 3640 (f))] sz)) 0 0 (va_A [(h0, oC 13 [.ref h1, v1, v2, v3, v4, v5, v6, v7, v8, v9, v10, v11, v12, v13, v14, v15, v16]), (h1, aI Y 3640 (f))] sz) :=
  met_of (by decide +kernel) (Nat.le_of_ble_eq_true rfl) (fun p e s m args below meth c B hin hsz => by
    have B : VB p s m args meth c D Y (va_A [(h0, oC 13 [.ref h1, v1, v2, v3, v4, v5, v6, v7, v8, v9, v10, v11, v12, v13, v14, v15, v16]), (h1, aI Y 3640 (f))] sz) cX12_clearBlock 3 RX12 none := B
    refine V_iconst 0 B (v := 0) dX12_clearBlock_0 (by decide +kernel) ?_
    refine V_istore_n 1 B (lv2 := [(2, .int (0)), (0, .ref h0), (1, .int (nI b))]) dX12_clearBlock_1 (by decide) rfl ?_
    have K : ∀ n i : Nat, i + n = 906 → V p l e (mkR 0 0 0 0) s m args below meth c D (va_A [(h0, oC 13 [.ref h1, v1, v2, v3, v4, v5, v6, v7, v8, v9, v10, v11, v12, v13, v14, v15, v16]), (h1, aI Y 3640 (f))] sz) 3 0 0 (MQ below (QV D (fun (_ : Unit) => True) (fun (_ : Unit) => [(h0, oC 13 [.ref h1, v1, v2, v3, v4, v5, v6, v7, v8, v9, v10, v11, v12, v13, v14, v15, v16]), (h1, aI Y 3640 (clB b f))]) (va_A [(h0, oC 13 [.ref h1, v1, v2, v3, v4, v5, v6, v7, v8, v9, v10, v11, v12, v13, v14, v15, v16]), (h1, aI Y 3640 (f))] sz)) args s 0 0 (va_A [(h0, oC 13 [.ref h1, v1, v2, v3, v4, v5, v6, v7, v8, v9, v10, v11, v12, v13, v14, v15, v16]), (h1, aI Y 3640 (f))] sz)) 2 [(2, .int (nI i)), (0, .ref h0), (1, .int (nI b))] [] [(h0, oC 13 [.ref h1, v1, v2, v3, v4, v5, v6, v7, v8, v9, v10, v11, v12, v13, v14, v15, v16]), (h1, aI Y 3640 (zrB b i f))] := by
      intro n
      induction n with
      | zero =>
        intro i hi
        obtain rfl : i = 906 := by omega
        refine V_iload_n 2 B dX12_clearBlock_2 0 rfl ?_
        refine V_sipush 3 B (v := 906) dX12_clearBlock_3 (by decide +kernel) ?_
        refine V_icmp_ge_t 6 B 28 dX12_clearBlock_6 (by decide) (by decide +kernel) ?_
        refine V_aload_n 28 B dX12_clearBlock_28 1 rfl ?_
        refine V_get 29 B gf_RX12_9 0 rfl rfl dX12_clearBlock_29 ?_
        refine V_sipush 32 B (v := 906) dX12_clearBlock_32 (by decide +kernel) ?_
        refine V_iload_n 35 B dX12_clearBlock_35 2 rfl ?_
        refine V_imul 36 B (v := nI (906 * b)) dX12_clearBlock_36 (pk_mul 906 b) ?_
        refine V_iconst 37 B (v := 0) dX12_clearBlock_37 (by decide +kernel) ?_
        refine V_iadd 38 B (v := nI (906 * b + 0)) dX12_clearBlock_38 (nI_add _ 0) ?_
        refine V_iconst 39 B (v := 1) dX12_clearBlock_39 (by decide +kernel) ?_
        refine V_iast 40 B 1 rfl (vp_in_nI (by omega) (by decide)) dX12_clearBlock_40 [(h0, oC 13 [.ref h1, v1, v2, v3, v4, v5, v6, v7, v8, v9, v10, v11, v12, v13, v14, v15, v16]), (h1, aI Y 3640 (upd (zrB b 906 f) (906 * b + 0) 1))] (by rw [nI_clamp (by omega)]; rfl) ?_
        refine V_aload_n 41 B dX12_clearBlock_41 1 rfl ?_
        refine V_get 42 B gf_RX12_9 0 rfl rfl dX12_clearBlock_42 ?_
        refine V_sipush 45 B (v := 906) dX12_clearBlock_45 (by decide +kernel) ?_
        refine V_iload_n 48 B dX12_clearBlock_48 2 rfl ?_
        refine V_imul 49 B (v := nI (906 * b)) dX12_clearBlock_49 (pk_mul 906 b) ?_
        refine V_bipush 50 B (v := 11) dX12_clearBlock_50 (by decide +kernel) ?_
        refine V_iadd 52 B (v := nI (906 * b + 11)) dX12_clearBlock_52 (nI_add _ 11) ?_
        refine V_iconst 53 B (v := (-1)) dX12_clearBlock_53 (by decide +kernel) ?_
        refine V_iast 54 B 1 rfl (vp_in_nI (by omega) (by decide)) dX12_clearBlock_54 [(h0, oC 13 [.ref h1, v1, v2, v3, v4, v5, v6, v7, v8, v9, v10, v11, v12, v13, v14, v15, v16]), (h1, aI Y 3640 (upd (upd (zrB b 906 f) (906 * b + 0) 1) (906 * b + 11) (-1)))] (by rw [nI_clamp (by omega)]; rfl) ?_
        refine V_aload_n 55 B dX12_clearBlock_55 1 rfl ?_
        refine V_get 56 B gf_RX12_9 0 rfl rfl dX12_clearBlock_56 ?_
        refine V_sipush 59 B (v := 906) dX12_clearBlock_59 (by decide +kernel) ?_
        refine V_iload_n 62 B dX12_clearBlock_62 2 rfl ?_
        refine V_imul 63 B (v := nI (906 * b)) dX12_clearBlock_63 (pk_mul 906 b) ?_
        refine V_bipush 64 B (v := 16) dX12_clearBlock_64 (by decide +kernel) ?_
        refine V_iadd 66 B (v := nI (906 * b + 16)) dX12_clearBlock_66 (nI_add _ 16) ?_
        refine V_iconst 67 B (v := (-1)) dX12_clearBlock_67 (by decide +kernel) ?_
        refine V_iast 68 B 1 rfl (vp_in_nI (by omega) (by decide)) dX12_clearBlock_68 [(h0, oC 13 [.ref h1, v1, v2, v3, v4, v5, v6, v7, v8, v9, v10, v11, v12, v13, v14, v15, v16]), (h1, aI Y 3640 (upd (upd (upd (zrB b 906 f) (906 * b + 0) 1) (906 * b + 11) (-1)) (906 * b + 16) (-1)))] (by rw [nI_clamp (by omega)]; rfl) ?_
        exact V_vret 69 B dX12_clearBlock_69 () trivial rfl
      | succ n ih =>
        intro i hi
        refine V_iload_n 2 B dX12_clearBlock_2 0 rfl ?_
        refine V_sipush 3 B (v := 906) dX12_clearBlock_3 (by decide +kernel) ?_
        refine V_icmp_ge_f 6 B 28 dX12_clearBlock_6 (by decide) (nI_ge (a := i) (b := 906) (by omega) (by decide)) ?_
        refine V_aload_n 9 B dX12_clearBlock_9 1 rfl ?_
        refine V_get 10 B gf_RX12_9 0 rfl rfl dX12_clearBlock_10 ?_
        refine V_sipush 13 B (v := 906) dX12_clearBlock_13 (by decide +kernel) ?_
        refine V_iload_n 16 B dX12_clearBlock_16 2 rfl ?_
        refine V_imul 17 B (v := nI (906 * b)) dX12_clearBlock_17 (pk_mul 906 b) ?_
        refine V_iload_n 18 B dX12_clearBlock_18 0 rfl ?_
        refine V_iadd 19 B (v := nI (906 * b + i)) dX12_clearBlock_19 (nI_add _ _) ?_
        refine V_iconst 20 B (v := 0) dX12_clearBlock_20 (by decide +kernel) ?_
        refine V_iast 21 B 1 rfl (vp_in_nI (by omega) (by decide)) dX12_clearBlock_21 [(h0, oC 13 [.ref h1, v1, v2, v3, v4, v5, v6, v7, v8, v9, v10, v11, v12, v13, v14, v15, v16]), (h1, aI Y 3640 (zrB b (i + 1) f))] (by rw [← zrB_s b i f (by omega)]; rfl) ?_
        refine V_iinc 22 B (v := nI (i + 1)) (lv2 := [(2, .int (nI (i + 1))), (0, .ref h0), (1, .int (nI b))]) dX12_clearBlock_22 0 rfl (nI_1 i) (by decide) rfl ?_
        refine V_goto 25 B 2 dX12_clearBlock_25 (by decide) ?_
        exact ih (i + 1) (by omega)
    have K0 := K 906 0 (by omega)
    rw [zrB_0] at K0
    exact K0)
set_option maxRecDepth 100000 in
set_option maxHeartbeats 4000000 in
theorem mX12_copyBlock_m (l : Launch) (D : va_G) (Y : Nat → ClassId) (h0 h1 : Nat) (v1 v2 v3 v4 v5 v6 v7 v8 v9 v10 v11 v12 v13 v14 v15 v16 : Value) (f : Nat → Int32) (a b : Nat) (ha4 : a ≤ 3) (hb4 : b ≤ 3) (hab : a ≠ b) (sz : Nat) : Met l yX12_copyBlock (WSm yX12_copyBlock cX12_copyBlock 4 none) (mkR 0 0 0 0) (PreC D Y [.ref h0, .int (nI a), .int (nI b)] [(h0, oC 13 [.ref h1, v1, v2, v3, v4, v5, v6, v7, v8, v9, v10, v11, v12, v13, v14, v15, v16]), (h1, aI Y 3640 (f))] sz) (QV D (fun (_ : Unit) => True) (fun (_ : Unit) => [(h0, oC 13 [.ref h1, v1, v2, v3, v4, v5, v6, v7, v8, v9, v10, v11, v12, v13, v14, v15, v16]), (h1, aI Y 3640 (cpB a b 906 f))]) (va_A [(h0, oC 13 [.ref h1, v1, v2, v3, v4, v5, v6, v7, v8, v9, v10, v11, v12, v13, v14, v15, v16]), (h1, aI Y 3640 (f))] sz)) 0 0 (va_A [(h0, oC 13 [.ref h1, v1, v2, v3, v4, v5, v6, v7, v8, v9, v10, v11, v12, v13, v14, v15, v16]), (h1, aI Y 3640 (f))] sz) :=
  met_of (by decide +kernel) (Nat.le_of_ble_eq_true rfl) (fun p e s m args below meth c B hin hsz => by
    have B : VB p s m args meth c D Y (va_A [(h0, oC 13 [.ref h1, v1, v2, v3, v4, v5, v6, v7, v8, v9, v10, v11, v12, v13, v14, v15, v16]), (h1, aI Y 3640 (f))] sz) cX12_copyBlock 4 RX12 none := B
    refine V_iconst 0 B (v := 0) dX12_copyBlock_0 (by decide +kernel) ?_
    refine V_istore_n 1 B (lv2 := [(3, .int (0)), (0, .ref h0), (1, .int (nI a)), (2, .int (nI b))]) dX12_copyBlock_1 (by decide) rfl ?_
    have K : ∀ n i : Nat, i + n = 906 → V p l e (mkR 0 0 0 0) s m args below meth c D (va_A [(h0, oC 13 [.ref h1, v1, v2, v3, v4, v5, v6, v7, v8, v9, v10, v11, v12, v13, v14, v15, v16]), (h1, aI Y 3640 (f))] sz) 4 0 0 (MQ below (QV D (fun (_ : Unit) => True) (fun (_ : Unit) => [(h0, oC 13 [.ref h1, v1, v2, v3, v4, v5, v6, v7, v8, v9, v10, v11, v12, v13, v14, v15, v16]), (h1, aI Y 3640 (cpB a b 906 f))]) (va_A [(h0, oC 13 [.ref h1, v1, v2, v3, v4, v5, v6, v7, v8, v9, v10, v11, v12, v13, v14, v15, v16]), (h1, aI Y 3640 (f))] sz)) args s 0 0 (va_A [(h0, oC 13 [.ref h1, v1, v2, v3, v4, v5, v6, v7, v8, v9, v10, v11, v12, v13, v14, v15, v16]), (h1, aI Y 3640 (f))] sz)) 2 [(3, .int (nI i)), (0, .ref h0), (1, .int (nI a)), (2, .int (nI b))] [] [(h0, oC 13 [.ref h1, v1, v2, v3, v4, v5, v6, v7, v8, v9, v10, v11, v12, v13, v14, v15, v16]), (h1, aI Y 3640 (cpB a b i f))] := by
      intro n
      induction n with
      | zero =>
        intro i hi
        obtain rfl : i = 906 := by omega
        refine V_iload_n 2 B dX12_copyBlock_2 0 rfl ?_
        refine V_sipush 3 B (v := 906) dX12_copyBlock_3 (by decide +kernel) ?_
        refine V_icmp_ge_t 6 B 39 dX12_copyBlock_6 (by decide) (by decide +kernel) ?_
        exact V_vret 39 B dX12_copyBlock_39 () trivial rfl
      | succ n ih =>
        intro i hi
        refine V_iload_n 2 B dX12_copyBlock_2 0 rfl ?_
        refine V_sipush 3 B (v := 906) dX12_copyBlock_3 (by decide +kernel) ?_
        refine V_icmp_ge_f 6 B 39 dX12_copyBlock_6 (by decide) (nI_ge (a := i) (b := 906) (by omega) (by decide)) ?_
        refine V_aload_n 9 B dX12_copyBlock_9 1 rfl ?_
        refine V_get 10 B gf_RX12_9 0 rfl rfl dX12_copyBlock_10 ?_
        refine V_sipush 13 B (v := 906) dX12_copyBlock_13 (by decide +kernel) ?_
        refine V_iload_n 16 B dX12_copyBlock_16 3 rfl ?_
        refine V_imul 17 B (v := nI (906 * b)) dX12_copyBlock_17 (pk_mul 906 b) ?_
        refine V_iload_n 18 B dX12_copyBlock_18 0 rfl ?_
        refine V_iadd 19 B (v := nI (906 * b + i)) dX12_copyBlock_19 (nI_add _ _) ?_
        refine V_aload_n 20 B dX12_copyBlock_20 1 rfl ?_
        refine V_get 21 B gf_RX12_9 0 rfl rfl dX12_copyBlock_21 ?_
        refine V_sipush 24 B (v := 906) dX12_copyBlock_24 (by decide +kernel) ?_
        refine V_iload_n 27 B dX12_copyBlock_27 2 rfl ?_
        refine V_imul 28 B (v := nI (906 * a)) dX12_copyBlock_28 (pk_mul 906 a) ?_
        refine V_iload_n 29 B dX12_copyBlock_29 0 rfl ?_
        refine V_iadd 30 B (v := nI (906 * a + i)) dX12_copyBlock_30 (nI_add _ _) ?_
        refine V_iald 31 B (v := f (906 * a + i)) 1 rfl (vp_in_nI (by omega) (by decide)) dX12_copyBlock_31 (cpB_r a b i f (by omega) (by omega) hab) ?_
        refine V_iast 32 B 1 rfl (vp_in_nI (by omega) (by decide)) dX12_copyBlock_32 [(h0, oC 13 [.ref h1, v1, v2, v3, v4, v5, v6, v7, v8, v9, v10, v11, v12, v13, v14, v15, v16]), (h1, aI Y 3640 (cpB a b (i + 1) f))] (by rw [← cpB_s a b i f (by omega)]; rfl) ?_
        refine V_iinc 33 B (v := nI (i + 1)) (lv2 := [(3, .int (nI (i + 1))), (0, .ref h0), (1, .int (nI a)), (2, .int (nI b))]) dX12_copyBlock_33 0 rfl (nI_1 i) (by decide) rfl ?_
        refine V_goto 36 B 2 dX12_copyBlock_36 (by decide) ?_
        exact ih (i + 1) (by omega)
    have K0 := K 906 0 (by omega)
    rw [cpB_0] at K0
    exact K0)
theorem bdF_ne : ∀ j, j < 906 → ¬ bdF j = (1, 0) := by decide +kernel
def SN (ph f1 : Nat → Int32) : Prop := (¬ f1 0 = 0 → ph 922 = -1) ∧ (¬ f1 1 = 0 → ph 1828 = -1)
theorem INV_clB {ph f : Nat → Int32} (h : INV ph f) : INV (upd ph 2734 (-1)) (clB 3 f) := by
  intro k hk
  have z : ∀ j, j < 906 → j ≠ 16 → (bdF j).1 ≤ (0 : Int32).toInt ∧ (0 : Int32).toInt ≤ (bdF j).2 := by decide +kernel
  unfold clB
  by_cases q3 : k = 906 * 3 + 16
  · subst q3
    rw [upd_at]
    exact ⟨fun n => absurd (by decide +kernel) n, fun _ => upd_at.symm⟩
  · rw [upd_ne q3, upd_ne (f := ph) (show k ≠ 2734 from q3)]
    by_cases q2 : k = 906 * 3 + 11
    · subst q2
      rw [upd_at]
      exact ⟨fun _ => by decide +kernel, fun n => absurd n (by decide +kernel)⟩
    · rw [upd_ne q2]
      by_cases q1 : k = 906 * 3 + 0
      · subst q1
        rw [upd_at]
        exact ⟨fun _ => by decide +kernel, fun n => absurd n (by decide +kernel)⟩
      · rw [upd_ne q1]
        unfold zrB
        by_cases q : 906 * 3 ≤ k ∧ k < 906 * 3 + 906
        · rw [if_pos q]
          have e := bd_blk (j := k - 906 * 3) (by omega) 3 (by omega) (by omega)
          rw [show 906 * 3 + (k - 906 * 3) = k by omega] at e
          rw [e]
          exact ⟨fun _ => z _ (by omega) (by omega), fun n => absurd n (bdF_ne _ (by omega))⟩
        · rw [if_neg q]
          exact h k hk
/-- the present goes into block b -/
theorem INV_cpS {ph f : Nat → Int32} (h : INV ph f) {b : Nat} (h1 : 1 ≤ b) (h2 : b ≤ 2) : INV (upd ph (906 * b + 16) (-1)) (cpB 0 b 906 f) := by
  intro k hk
  unfold cpB
  by_cases q : 906 * b ≤ k ∧ k < 906 * b + 906
  · rw [if_pos q]
    have h0 := h (906 * 0 + (k - 906 * b)) (by omega)
    rw [bd_blk (j := k - 906 * b) (by omega) 0 (by omega) (fun _ => rfl)] at h0
    have h3 := h0.1 (bdF_ne _ (by omega))
    by_cases q2 : k = 906 * b + 16
    · subst q2
      rw [upd_at]
      rw [show 906 * b + 16 - 906 * b = 16 by omega] at h3 ⊢
      have e1 : bdF 16 = (-1, -1) := by decide +kernel
      rw [e1] at h3
      refine ⟨fun n => absurd ?_ n, fun _ => Int32.toInt_inj.mp ?_⟩
      · unfold bd
        rw [if_pos (by omega)]
      · have e2 : (-1 : Int32).toInt = -1 := by decide
        have := h3.1
        have := h3.2
        simp only at *
        omega
    · rw [upd_ne (f := ph) q2]
      have e := bd_blk (j := k - 906 * b) (by omega) b (by omega) (by omega)
      rw [show 906 * b + (k - 906 * b) = k by omega] at e
      rw [e]
      exact ⟨fun _ => h3, fun n => absurd n (bdF_ne _ (by omega))⟩
  · rw [if_neg q, upd_ne (f := ph) (show k ≠ 906 * b + 16 by omega)]
    exact h k hk
/-- block a becomes the present -/
theorem INV_cpR {ph f : Nat → Int32} (h : INV ph f) {a : Nat} (h1 : 1 ≤ a) (h2 : a ≤ 3) (hp : ph (906 * a + 16) = -1) : INV ph (cpB a 0 906 f) := by
  intro k hk
  unfold cpB
  by_cases q : 906 * 0 ≤ k ∧ k < 906 * 0 + 906
  · rw [if_pos q]
    have h0 := h (906 * a + (k - 906 * 0)) (by omega)
    have e := bd_blk (j := k - 906 * 0) (by omega) 0 (by omega) (fun _ => rfl)
    rw [show 906 * 0 + (k - 906 * 0) = k by omega] at e
    rw [e]
    refine ⟨fun _ => ?_, fun n => absurd n (bdF_ne _ (by omega))⟩
    by_cases q2 : k = 16
    · subst q2
      have e3 : bd (906 * a + (16 - 906 * 0)) = (1, 0) := by
        unfold bd
        rw [if_pos (by omega)]
      rw [h0.2 e3, show 906 * a + (16 - 906 * 0) = 906 * a + 16 by omega, hp]
      decide +kernel
    · rw [bd_blk (j := k - 906 * 0) (by omega) a (by omega) (by omega)] at h0
      exact h0.1 (bdF_ne _ (by omega))
  · rw [if_neg q]
    exact h k hk
theorem SN_cl {ph f1 : Nat → Int32} {v : Int32} (h : SN ph f1) : SN (upd ph 2734 v) f1 := ⟨fun z => (upd_ne (by decide)).trans (h.1 z), fun z => (upd_ne (by decide)).trans (h.2 z)⟩
theorem SN_no {ph f1 : Nat → Int32} : SN ph (upd (upd f1 0 (vp_nar .boolean 0)) 1 (vp_nar .boolean 0)) := ⟨fun z => absurd ((upd_ne (by decide)).trans upd_at) z, fun z => absurd upd_at z⟩
theorem SN_sv {ph f1 : Nat → Int32} {n : Nat} {x : Int32} (hn : n ≤ 1) (h : SN ph f1) : SN (upd ph (906 * (1 + n) + 16) (-1)) (upd f1 n x) := by
  rcases n with _ | n
  · exact ⟨fun _ => upd_at, fun z => (upd_ne (by decide)).trans (h.2 (fun y => z ((upd_ne (by decide)).trans y)))⟩
  · obtain rfl : n = 0 := by omega
    exact ⟨fun z => (upd_ne (by decide)).trans (h.1 (fun y => z ((upd_ne (by decide)).trans y))), fun _ => upd_at⟩
theorem SN_get {ph f1 : Nat → Int32} {n : Nat} (hn : n ≤ 1) (h : SN ph f1) (hf : ¬ f1 n = 0) : ph (906 * (1 + n) + 16) = -1 := by
  rcases n with _ | n
  · exact h.1 hf
  · obtain rfl : n = 0 := by omega
    exact h.2 hf
def ldM (a : Int32) (s : Nat) : Nat := if a = 0 then 0 else 1 + (4000 - s)
theorem ld0 {a : Int32} {s t : Nat} (h : a = 1) : ldM 0 t < ldM a s := by
  subst h
  unfold ldM
  rw [if_pos rfl, if_neg (by decide)]
  omega
theorem ld1 {a : Int32} {s t : Nat} (h : a = 1) (h1 : s < t) (h2 : t ≤ 4000) : ldM 1 t < ldM a s := by
  subst h
  unfold ldM
  rw [if_neg (by decide), if_neg (by decide)]
  omega
theorem PLV_fr {f : Nat → Int32} (h : PLV f) {k : Nat} {v : Int32} (hk : k % 5 < 3) : PLV (upd f k v) := by
  intro r hr
  rw [upd_ne (by omega), upd_ne (by omega)]
  exact h r hr
theorem PLV_3 {f : Nat → Int32} (h : PLV f) {k : Nat} {v : Int32} (hk : k % 5 = 3) (h0 : 0 ≤ v.toInt) (h1 : v.toInt ≤ 160) : PLV (upd f k v) := by
  intro r hr
  by_cases e : 5 * r + 3 = k
  · subst e
    rw [upd_at, upd_ne (by omega)]
    exact ⟨⟨h0, h1⟩, (h r hr).2⟩
  · rw [upd_ne e, upd_ne (by omega)]
    exact h r hr
theorem PLV_4 {f : Nat → Int32} (h : PLV f) {k : Nat} {v : Int32} (hk : k % 5 = 4) (h0 : 0 ≤ v.toInt) (h1 : v.toInt ≤ 4) : PLV (upd f k v) := by
  intro r hr
  by_cases e : 5 * r + 4 = k
  · subst e
    rw [upd_at, upd_ne (by omega)]
    exact ⟨(h r hr).1, h0, h1⟩
  · rw [upd_ne e, upd_ne (by omega)]
    exact h r hr

theorem dX12_min_0 : decode cX12_min 0 = .ok (.iload_n 0, 1) := by decide +kernel
theorem dX12_min_1 : decode cX12_min 1 = .ok (.iload_n 1, 1) := by decide +kernel
theorem dX12_min_2 : decode cX12_min 2 = .ok (.if_icmp .ge 7, 3) := by decide +kernel
theorem dX12_min_9 : decode cX12_min 9 = .ok (.iload_n 1, 1) := by decide +kernel
theorem dX12_min_10 : decode cX12_min 10 = .ok (.ireturn, 1) := by decide +kernel
theorem dX12_min_5 : decode cX12_min 5 = .ok (.iload_n 0, 1) := by decide +kernel
theorem dX12_min_6 : decode cX12_min 6 = .ok (.goto 4, 3) := by decide +kernel
set_option maxRecDepth 100000 in
set_option maxHeartbeats 4000000 in
theorem rX12_min (l : Launch) (D : va_G) (Y : Nat → ClassId)  (s0 : Nat) (s1 : Nat) (hn0 : s0 < 5000) (hn1 : s1 < 5000) (sz : Nat) : Met l yX12_min (WSm yX12_min cX12_min 2 (some .int)) (mkR 0 0 0 0) (PreC D Y [.int (nI s0), .int (nI s1)] [] sz) (QI D (fun (r : Int32) (u : WU) => r = nI (min s0 s1)) (fun (u : WU) => []) (va_A [] sz)) 0 0 (va_A [] sz) :=
  met_of  (by decide +kernel) (Nat.le_of_ble_eq_true rfl) (fun p e s m args below meth c B hin hsz => by
    have B : VB p s m args meth c D Y (va_A [] sz) cX12_min 2 RX12 (some .int) := B
    refine V_iload_n 0 B dX12_min_0 0 rfl ?_
    refine V_iload_n 1 B dX12_min_1 1 rfl ?_
    refine V_icmp_ge 2 B 9 dX12_min_2 (by decide) (fun kk0 => ?_) (fun kk0 => ?_)
    ·
      have x1 := n_le (a := s1) (b := s0) kk0 (by omega) (by omega)
      refine V_iload_n 9 B dX12_min_9 1 rfl ?_
      exact V_iret 10 B dX12_min_10 (mkW [] [] [] [] [] []) (congrArg nI (by omega)) rfl
    ·
      have x2 := n_nle (a := s1) (b := s0) kk0 (by omega) (by omega)
      refine V_iload_n 5 B dX12_min_5 0 rfl ?_
      refine V_goto 6 B 10 dX12_min_6 (by decide) ?_
      exact V_iret 10 B dX12_min_10 (mkW [] [] [] [] [] []) (congrArg nI (by omega)) rfl)
theorem dX12_saveSnapshot_0 : decode cX12_saveSnapshot 0 = .ok (.aload_n 0, 1) := by decide +kernel
theorem dX12_saveSnapshot_1 : decode cX12_saveSnapshot 1 = .ok (.iconst 0, 1) := by decide +kernel
theorem dX12_saveSnapshot_2 : decode cX12_saveSnapshot 2 = .ok (.putfield 38, 3) := by decide +kernel
theorem gp_RX12_38 : GP RX12 38 13 2 .int false := ⟨RX12, TX12, 17, ⟨rfl, inw_X12, Nat.le_of_ble_eq_true rfl, (mT7 139 rfl rfl)⟩, ⟨tyX12, tyX12_ok⟩, nmX12, rfl, by decide +kernel, fun h => nomatch h⟩
theorem dX12_saveSnapshot_5 : decode cX12_saveSnapshot 5 = .ok (.iload_n 1, 1) := by decide +kernel
theorem dX12_saveSnapshot_6 : decode cX12_saveSnapshot 6 = .ok (.i2l, 1) := by decide +kernel
theorem dX12_saveSnapshot_7 : decode cX12_saveSnapshot 7 = .ok (.lconst 0, 1) := by decide +kernel
theorem dX12_saveSnapshot_8 : decode cX12_saveSnapshot 8 = .ok (.lconst 1, 1) := by decide +kernel
theorem dX12_saveSnapshot_9 : decode cX12_saveSnapshot 9 = .ok (.invokestatic 41, 3) := by decide +kernel
theorem glS_RX12_41 : GLS RX12 41 yX12_inRange cX12_inRange 6 (some .boolean) 3 := ⟨⟨(mT7 194 rfl rfl), (mT7 195 rfl rfl), (mT1 13 rfl rfl), (mT7 196 rfl rfl)⟩, by decide +kernel⟩
theorem dX12_saveSnapshot_12 : decode cX12_saveSnapshot 12 = .ok (.ifCond .ne 5, 3) := by decide +kernel
theorem dX12_saveSnapshot_15 : decode cX12_saveSnapshot 15 = .ok (.iconst 0, 1) := by decide +kernel
theorem dX12_saveSnapshot_16 : decode cX12_saveSnapshot 16 = .ok (.ireturn, 1) := by decide +kernel
theorem dX12_saveSnapshot_17 : decode cX12_saveSnapshot 17 = .ok (.aload_n 0, 1) := by decide +kernel
theorem dX12_saveSnapshot_18 : decode cX12_saveSnapshot 18 = .ok (.iconst 0, 1) := by decide +kernel
theorem dX12_saveSnapshot_19 : decode cX12_saveSnapshot 19 = .ok (.iconst 1, 1) := by decide +kernel
theorem dX12_saveSnapshot_20 : decode cX12_saveSnapshot 20 = .ok (.iload_n 1, 1) := by decide +kernel
theorem dX12_saveSnapshot_21 : decode cX12_saveSnapshot 21 = .ok (.iadd, 1) := by decide +kernel
theorem dX12_saveSnapshot_22 : decode cX12_saveSnapshot 22 = .ok (.invokevirtual 45, 3) := by decide +kernel
theorem glV_RX12_45 : GLV RX12 45 yX12_copyBlock RX12 cX12_copyBlock 4 none 2 := ⟨⟨(mT7 197 rfl rfl), (mT7 199 rfl rfl), (mTs 28 rfl rfl), (mT1 13 rfl rfl), (mT7 200 rfl rfl)⟩, by decide +kernel⟩
theorem dX12_saveSnapshot_25 : decode cX12_saveSnapshot 25 = .ok (.aload_n 0, 1) := by decide +kernel
theorem dX12_saveSnapshot_26 : decode cX12_saveSnapshot 26 = .ok (.getfield 13, 3) := by decide +kernel
theorem gf_RX12_13 : GF RX12 13 13 1 := ⟨RX12, TX12, 17, rfl, inw_X12, Nat.le_of_ble_eq_true rfl, (mT7 138 rfl rfl)⟩
theorem dX12_saveSnapshot_29 : decode cX12_saveSnapshot 29 = .ok (.iload_n 1, 1) := by decide +kernel
theorem dX12_saveSnapshot_30 : decode cX12_saveSnapshot 30 = .ok (.iconst 1, 1) := by decide +kernel
theorem dX12_saveSnapshot_31 : decode cX12_saveSnapshot 31 = .ok (.bastore, 1) := by decide +kernel
theorem dX12_saveSnapshot_32 : decode cX12_saveSnapshot 32 = .ok (.iconst 1, 1) := by decide +kernel
theorem dX12_saveSnapshot_33 : decode cX12_saveSnapshot 33 = .ok (.ireturn, 1) := by decide +kernel
set_option maxRecDepth 100000 in
set_option maxHeartbeats 4000000 in
theorem rX12_saveSnapshot (l : Launch) (D : va_G) (Y : Nat → ClassId) (h0 : Nat) (h1 : Nat) (h2 : Nat) (h3 : Nat) (h4 : Nat) (h5 : Nat) (h6 : Nat) (p2 : Int32) (k5 : Nat) (k6 : Nat) (p7 : Int32) (p8 : Int32) (p9 : Int32) (k10 : Nat) (p11 : Int32) (q12 : Int64) (k15 : Nat) (k16 : Nat) (f0 : Nat → Int32) (f1 : Nat → Int32) (f3 : Nat → Int32) (f4 : Nat → Int32) (f13 : Nat → Int32) (f14 : Nat → Int32) (ph : Nat → Int32) (HI : INV ph f0) (HL : k5 ≤ 1600) (HP : PLV f13) (s0 : Int32) (hx0 : SN ph f1) (sz : Nat) : Met l yX12_saveSnapshot (WSm yX12_saveSnapshot cX12_saveSnapshot 2 (some .boolean)) (mkR 1 0 0 25) (PreC D Y [.ref h0, .int s0] [(h0, oC 13 [.ref h1, .ref h2, .int p2, .ref h3, .ref h4, .int (nI k5), .int (nI k6), .int p7, .int p8, .int p9, .int (nI k10), .int p11, .long q12, .ref h5, .ref h6, .int (nI k15), .int (nI k16)]), (h1, aI Y 3640 f0), (h2, aZ Y 2 f1), (h3, aZ Y 80 f3), (h4, aB Y 1600 f4), (h5, aI Y 200 f13), (h6, aI Y 800 f14)] sz) (QI D (fun (r : Int32) (u : WU) => ((r = 0 ∧ ¬ (0 ≤ s0.toInt ∧ s0.toInt ≤ 1)) ∨ (r = 1 ∧ (0 ≤ s0.toInt ∧ s0.toInt ≤ 1))) ∧ (∃ ph2 : Nat → Int32, INV ph2 (u.2.2.2.1 0) ∧ SN ph2 (u.2.2.2.1 1))) (fun (u : WU) => [(h0, oC 13 [.ref h1, .ref h2, .int (u.2.1 0), .ref h3, .ref h4, .int (nI k5), .int (nI k6), .int p7, .int p8, .int p9, .int (nI k10), .int p11, .long q12, .ref h5, .ref h6, .int (nI k15), .int (nI k16)]), (h1, aI Y 3640 (u.2.2.2.1 0)), (h2, aZ Y 2 (u.2.2.2.1 1)), (h3, aZ Y 80 f3), (h4, aB Y 1600 f4), (h5, aI Y 200 f13), (h6, aI Y 800 f14)]) (va_A [(h0, oC 13 [.ref h1, .ref h2, .int p2, .ref h3, .ref h4, .int (nI k5), .int (nI k6), .int p7, .int p8, .int p9, .int (nI k10), .int p11, .long q12, .ref h5, .ref h6, .int (nI k15), .int (nI k16)]), (h1, aI Y 3640 f0), (h2, aZ Y 2 f1), (h3, aZ Y 80 f3), (h4, aB Y 1600 f4), (h5, aI Y 200 f13), (h6, aI Y 800 f14)] sz)) 0 0 (va_A [(h0, oC 13 [.ref h1, .ref h2, .int p2, .ref h3, .ref h4, .int (nI k5), .int (nI k6), .int p7, .int p8, .int p9, .int (nI k10), .int p11, .long q12, .ref h5, .ref h6, .int (nI k15), .int (nI k16)]), (h1, aI Y 3640 f0), (h2, aZ Y 2 f1), (h3, aZ Y 80 f3), (h4, aB Y 1600 f4), (h5, aI Y 200 f13), (h6, aI Y 800 f14)] sz) :=
  met_of  (by decide +kernel) (Nat.le_of_ble_eq_true rfl) (fun p e s m args below meth c B hin hsz => by
    have B : VB p s m args meth c D Y (va_A [(h0, oC 13 [.ref h1, .ref h2, .int p2, .ref h3, .ref h4, .int (nI k5), .int (nI k6), .int p7, .int p8, .int p9, .int (nI k10), .int p11, .long q12, .ref h5, .ref h6, .int (nI k15), .int (nI k16)]), (h1, aI Y 3640 f0), (h2, aZ Y 2 f1), (h3, aZ Y 80 f3), (h4, aB Y 1600 f4), (h5, aI Y 200 f13), (h6, aI Y 800 f14)] sz) cX12_saveSnapshot 2 RX12 (some .boolean) := B
    refine V_aload_n 0 B dX12_saveSnapshot_0 0 rfl ?_
    refine V_iconst 1 B (v := 0) dX12_saveSnapshot_1 (by decide +kernel) ?_
    refine V_put 2 B gp_RX12_38 0 rfl (Nat.le_of_ble_eq_true rfl) rfl rfl dX12_saveSnapshot_2 [(h0, oC 13 [.ref h1, .ref h2, .int 0, .ref h3, .ref h4, .int (nI k5), .int (nI k6), .int p7, .int p8, .int p9, .int (nI k10), .int p11, .long q12, .ref h5, .ref h6, .int (nI k15), .int (nI k16)]), (h1, aI Y 3640 f0), (h2, aZ Y 2 f1), (h3, aZ Y 80 f3), (h4, aB Y 1600 f4), (h5, aI Y 200 f13), (h6, aI Y 800 f14)] rfl ?_
    refine V_iload_n 5 B dX12_saveSnapshot_5 1 rfl ?_
    refine V_i2l 6 B dX12_saveSnapshot_6 rfl ?_
    refine V_nml (fun o0 e1 => ?_)
    have x2 : o0.toInt = s0.toInt := by rw [e1, Int32.toInt_toInt64]
    refine V_lconst 7 B (v := 0) dX12_saveSnapshot_7 (by decide +kernel) ?_
    refine V_lconst 8 B (v := 1) dX12_saveSnapshot_8 (by decide +kernel) ?_
    refine V_csi 9 B (st := []) (As := [.long o0, .long 0, .long 1]) (fun sz => rX12_inRange l D Y o0 0 1 sz) glS_RX12_41 ⟨rfl, rfl⟩ ⟨(Nat.le_of_ble_eq_true rfl), (Nat.le_of_ble_eq_true rfl)⟩ ⟨(Nat.le_of_ble_eq_true rfl), (Nat.le_of_ble_eq_true rfl)⟩ [] rfl rfl (Nat.le_of_ble_eq_true rfl) rfl (fun _ _ _ => rfl) dX12_saveSnapshot_9 (fun j3 u4 w5 => ?_)
    refine V_ws [(h0, oC 13 [.ref h1, .ref h2, .int 0, .ref h3, .ref h4, .int (nI k5), .int (nI k6), .int p7, .int p8, .int p9, .int (nI k10), .int p11, .long q12, .ref h5, .ref h6, .int (nI k15), .int (nI k16)]), (h1, aI Y 3640 f0), (h2, aZ Y 2 f1), (h3, aZ Y 80 f3), (h4, aB Y 1600 f4), (h5, aI Y 200 f13), (h6, aI Y 800 f14)] rfl ?_
    rcases w5 with ⟨rfl, x8⟩ | ⟨rfl, x6, x7⟩
    ·
      rw [show (0 : Int64).toInt = 0 by decide +kernel] at x8
      rw [show (1 : Int64).toInt = 1 by decide +kernel] at x8
      refine V_if_ne_f 12 B 17 dX12_saveSnapshot_12 (by decide) (by decide +kernel) ?_
      refine V_iconst 15 B (v := 0) dX12_saveSnapshot_15 (by decide +kernel) ?_
      exact V_zret 16 B rfl dX12_saveSnapshot_16 (mkW [] [0] [] [f0, f1] [] []) ⟨(Or.inl ⟨rfl, by omega⟩), ⟨ph, HI, hx0⟩⟩ rfl
    ·
      rw [show (0 : Int64).toInt = 0 by decide +kernel] at x6
      rw [show (1 : Int64).toInt = 1 by decide +kernel] at x7
      refine V_if_ne_t 12 B 17 dX12_saveSnapshot_12 (by decide) (by decide +kernel) ?_
      refine V_aload_n 17 B dX12_saveSnapshot_17 0 rfl ?_
      refine V_iconst 18 B (v := 0) dX12_saveSnapshot_18 (by decide +kernel) ?_
      refine V_iconst 19 B (v := 1) dX12_saveSnapshot_19 (by decide +kernel) ?_
      refine V_iload_n 20 B dX12_saveSnapshot_20 1 rfl ?_
      obtain ⟨n9, x10, rfl⟩ := nat_of (x := s0) (n := 1) (by omega) (by omega)
      have e11 := nI_toInt (show n9 < 2 ^ 31 by omega)
      refine V_iadd 21 B (v := (nI (1 + n9))) dX12_saveSnapshot_21 (nI_addE (a := 1) (b := n9) (by omega)) ?_
      refine V_cvv 22 B (st := []) (As := [.int (nI 0), .int (nI (1 + n9))]) (fun sz => mX12_copyBlock_m l D Y h0 h1 (.ref h2) (.int 0) (.ref h3) (.ref h4) (.int (nI k5)) (.int (nI k6)) (.int p7) (.int p8) (.int p9) (.int (nI k10)) (.int p11) (.long q12) (.ref h5) (.ref h6) (.int (nI k15)) (.int (nI k16)) f0 0 (1 + n9) (by omega) (by omega) (by omega) sz) glV_RX12_45 ⟨rfl, rfl⟩ ⟨(Nat.le_of_ble_eq_true rfl), (Nat.le_of_ble_eq_true rfl)⟩ ⟨(Nat.le_of_ble_eq_true rfl), (Nat.le_of_ble_eq_true rfl)⟩ [0, 0] rfl 13 0 rfl rfl rfl rfl (Nat.le_of_ble_eq_true rfl) rfl (fun _ _ => rfl) dX12_saveSnapshot_22 (fun u12 w13 => ?_)
      have x14 : INV (upd ph (906 * (1 + n9) + 16) (-1)) (cpB 0 (1 + n9) 906 f0) := INV_cpS HI (by omega) (by omega)
      refine V_ws [(h0, oC 13 [.ref h1, .ref h2, .int 0, .ref h3, .ref h4, .int (nI k5), .int (nI k6), .int p7, .int p8, .int p9, .int (nI k10), .int p11, .long q12, .ref h5, .ref h6, .int (nI k15), .int (nI k16)]), (h1, aI Y 3640 (cpB 0 (1 + n9) 906 f0)), (h2, aZ Y 2 f1), (h3, aZ Y 80 f3), (h4, aB Y 1600 f4), (h5, aI Y 200 f13), (h6, aI Y 800 f14)] rfl ?_
      refine V_aload_n 25 B dX12_saveSnapshot_25 0 rfl ?_
      refine V_get 26 B gf_RX12_13 0 rfl rfl dX12_saveSnapshot_26 ?_
      refine V_iload_n 29 B dX12_saveSnapshot_29 1 rfl ?_
      refine V_iconst 30 B (v := 1) dX12_saveSnapshot_30 (by decide +kernel) ?_
      refine V_zast 31 B 2 rfl (vp_in_nI (n := n9) (by omega) (by decide)) dX12_saveSnapshot_31 [(h0, oC 13 [.ref h1, .ref h2, .int 0, .ref h3, .ref h4, .int (nI k5), .int (nI k6), .int p7, .int p8, .int p9, .int (nI k10), .int p11, .long q12, .ref h5, .ref h6, .int (nI k15), .int (nI k16)]), (h1, aI Y 3640 (cpB 0 (1 + n9) 906 f0)), (h2, aZ Y 2 (upd f1 n9 (vp_nar .boolean 1))), (h3, aZ Y 80 f3), (h4, aB Y 1600 f4), (h5, aI Y 200 f13), (h6, aI Y 800 f14)] (by rw [nI_clamp (show n9 < 2 ^ 31 by omega)]; rfl) ?_
      refine V_iconst 32 B (v := 1) dX12_saveSnapshot_32 (by decide +kernel) ?_
      exact V_zret 33 B rfl dX12_saveSnapshot_33 (mkW [] [0] [] [(cpB 0 (1 + n9) 906 f0), (upd f1 n9 (vp_nar .boolean 1))] [] []) ⟨(Or.inr ⟨rfl, by omega⟩), ⟨(upd ph (906 * (1 + n9) + 16) (-1)), x14, (SN_sv (by omega) hx0)⟩⟩ rfl)
theorem dX12_restoreSnapshot_0 : decode cX12_restoreSnapshot 0 = .ok (.aload_n 0, 1) := by decide +kernel
theorem dX12_restoreSnapshot_1 : decode cX12_restoreSnapshot 1 = .ok (.iconst 0, 1) := by decide +kernel
theorem dX12_restoreSnapshot_2 : decode cX12_restoreSnapshot 2 = .ok (.putfield 38, 3) := by decide +kernel
theorem dX12_restoreSnapshot_5 : decode cX12_restoreSnapshot 5 = .ok (.iload_n 1, 1) := by decide +kernel
theorem dX12_restoreSnapshot_6 : decode cX12_restoreSnapshot 6 = .ok (.i2l, 1) := by decide +kernel
theorem dX12_restoreSnapshot_7 : decode cX12_restoreSnapshot 7 = .ok (.lconst 0, 1) := by decide +kernel
theorem dX12_restoreSnapshot_8 : decode cX12_restoreSnapshot 8 = .ok (.lconst 1, 1) := by decide +kernel
theorem dX12_restoreSnapshot_9 : decode cX12_restoreSnapshot 9 = .ok (.invokestatic 41, 3) := by decide +kernel
theorem dX12_restoreSnapshot_12 : decode cX12_restoreSnapshot 12 = .ok (.ifCond .eq 12, 3) := by decide +kernel
theorem dX12_restoreSnapshot_24 : decode cX12_restoreSnapshot 24 = .ok (.iconst 0, 1) := by decide +kernel
theorem dX12_restoreSnapshot_25 : decode cX12_restoreSnapshot 25 = .ok (.ireturn, 1) := by decide +kernel
theorem dX12_restoreSnapshot_15 : decode cX12_restoreSnapshot 15 = .ok (.aload_n 0, 1) := by decide +kernel
theorem dX12_restoreSnapshot_16 : decode cX12_restoreSnapshot 16 = .ok (.getfield 13, 3) := by decide +kernel
theorem dX12_restoreSnapshot_19 : decode cX12_restoreSnapshot 19 = .ok (.iload_n 1, 1) := by decide +kernel
theorem dX12_restoreSnapshot_20 : decode cX12_restoreSnapshot 20 = .ok (.baload, 1) := by decide +kernel
theorem dX12_restoreSnapshot_21 : decode cX12_restoreSnapshot 21 = .ok (.ifCond .ne 5, 3) := by decide +kernel
theorem dX12_restoreSnapshot_26 : decode cX12_restoreSnapshot 26 = .ok (.aload_n 0, 1) := by decide +kernel
theorem dX12_restoreSnapshot_27 : decode cX12_restoreSnapshot 27 = .ok (.iconst 1, 1) := by decide +kernel
theorem dX12_restoreSnapshot_28 : decode cX12_restoreSnapshot 28 = .ok (.iload_n 1, 1) := by decide +kernel
theorem dX12_restoreSnapshot_29 : decode cX12_restoreSnapshot 29 = .ok (.iadd, 1) := by decide +kernel
theorem dX12_restoreSnapshot_30 : decode cX12_restoreSnapshot 30 = .ok (.iconst 0, 1) := by decide +kernel
theorem dX12_restoreSnapshot_31 : decode cX12_restoreSnapshot 31 = .ok (.invokevirtual 45, 3) := by decide +kernel
theorem dX12_restoreSnapshot_34 : decode cX12_restoreSnapshot 34 = .ok (.iconst 1, 1) := by decide +kernel
theorem dX12_restoreSnapshot_35 : decode cX12_restoreSnapshot 35 = .ok (.ireturn, 1) := by decide +kernel
set_option maxRecDepth 100000 in
set_option maxHeartbeats 4000000 in
theorem rX12_restoreSnapshot (l : Launch) (D : va_G) (Y : Nat → ClassId) (h0 : Nat) (h1 : Nat) (h2 : Nat) (h3 : Nat) (h4 : Nat) (h5 : Nat) (h6 : Nat) (p2 : Int32) (k5 : Nat) (k6 : Nat) (p7 : Int32) (p8 : Int32) (p9 : Int32) (k10 : Nat) (p11 : Int32) (q12 : Int64) (k15 : Nat) (k16 : Nat) (f0 : Nat → Int32) (f1 : Nat → Int32) (f3 : Nat → Int32) (f4 : Nat → Int32) (f13 : Nat → Int32) (f14 : Nat → Int32) (ph : Nat → Int32) (HI : INV ph f0) (HL : k5 ≤ 1600) (HP : PLV f13) (s0 : Int32) (hx0 : SN ph f1) (sz : Nat) : Met l yX12_restoreSnapshot (WSm yX12_restoreSnapshot cX12_restoreSnapshot 2 (some .boolean)) (mkR 1 0 0 25) (PreC D Y [.ref h0, .int s0] [(h0, oC 13 [.ref h1, .ref h2, .int p2, .ref h3, .ref h4, .int (nI k5), .int (nI k6), .int p7, .int p8, .int p9, .int (nI k10), .int p11, .long q12, .ref h5, .ref h6, .int (nI k15), .int (nI k16)]), (h1, aI Y 3640 f0), (h2, aZ Y 2 f1), (h3, aZ Y 80 f3), (h4, aB Y 1600 f4), (h5, aI Y 200 f13), (h6, aI Y 800 f14)] sz) (QI D (fun (r : Int32) (u : WU) => (r = 0 ∨ r = 1) ∧ (∃ ph2 : Nat → Int32, INV ph2 (u.2.2.2.1 0) ∧ SN ph2 f1)) (fun (u : WU) => [(h0, oC 13 [.ref h1, .ref h2, .int (u.2.1 0), .ref h3, .ref h4, .int (nI k5), .int (nI k6), .int p7, .int p8, .int p9, .int (nI k10), .int p11, .long q12, .ref h5, .ref h6, .int (nI k15), .int (nI k16)]), (h1, aI Y 3640 (u.2.2.2.1 0)), (h2, aZ Y 2 f1), (h3, aZ Y 80 f3), (h4, aB Y 1600 f4), (h5, aI Y 200 f13), (h6, aI Y 800 f14)]) (va_A [(h0, oC 13 [.ref h1, .ref h2, .int p2, .ref h3, .ref h4, .int (nI k5), .int (nI k6), .int p7, .int p8, .int p9, .int (nI k10), .int p11, .long q12, .ref h5, .ref h6, .int (nI k15), .int (nI k16)]), (h1, aI Y 3640 f0), (h2, aZ Y 2 f1), (h3, aZ Y 80 f3), (h4, aB Y 1600 f4), (h5, aI Y 200 f13), (h6, aI Y 800 f14)] sz)) 0 0 (va_A [(h0, oC 13 [.ref h1, .ref h2, .int p2, .ref h3, .ref h4, .int (nI k5), .int (nI k6), .int p7, .int p8, .int p9, .int (nI k10), .int p11, .long q12, .ref h5, .ref h6, .int (nI k15), .int (nI k16)]), (h1, aI Y 3640 f0), (h2, aZ Y 2 f1), (h3, aZ Y 80 f3), (h4, aB Y 1600 f4), (h5, aI Y 200 f13), (h6, aI Y 800 f14)] sz) :=
  met_of  (by decide +kernel) (Nat.le_of_ble_eq_true rfl) (fun p e s m args below meth c B hin hsz => by
    have B : VB p s m args meth c D Y (va_A [(h0, oC 13 [.ref h1, .ref h2, .int p2, .ref h3, .ref h4, .int (nI k5), .int (nI k6), .int p7, .int p8, .int p9, .int (nI k10), .int p11, .long q12, .ref h5, .ref h6, .int (nI k15), .int (nI k16)]), (h1, aI Y 3640 f0), (h2, aZ Y 2 f1), (h3, aZ Y 80 f3), (h4, aB Y 1600 f4), (h5, aI Y 200 f13), (h6, aI Y 800 f14)] sz) cX12_restoreSnapshot 2 RX12 (some .boolean) := B
    refine V_aload_n 0 B dX12_restoreSnapshot_0 0 rfl ?_
    refine V_iconst 1 B (v := 0) dX12_restoreSnapshot_1 (by decide +kernel) ?_
    refine V_put 2 B gp_RX12_38 0 rfl (Nat.le_of_ble_eq_true rfl) rfl rfl dX12_restoreSnapshot_2 [(h0, oC 13 [.ref h1, .ref h2, .int 0, .ref h3, .ref h4, .int (nI k5), .int (nI k6), .int p7, .int p8, .int p9, .int (nI k10), .int p11, .long q12, .ref h5, .ref h6, .int (nI k15), .int (nI k16)]), (h1, aI Y 3640 f0), (h2, aZ Y 2 f1), (h3, aZ Y 80 f3), (h4, aB Y 1600 f4), (h5, aI Y 200 f13), (h6, aI Y 800 f14)] rfl ?_
    refine V_iload_n 5 B dX12_restoreSnapshot_5 1 rfl ?_
    refine V_i2l 6 B dX12_restoreSnapshot_6 rfl ?_
    refine V_nml (fun o0 e1 => ?_)
    have x2 : o0.toInt = s0.toInt := by rw [e1, Int32.toInt_toInt64]
    refine V_lconst 7 B (v := 0) dX12_restoreSnapshot_7 (by decide +kernel) ?_
    refine V_lconst 8 B (v := 1) dX12_restoreSnapshot_8 (by decide +kernel) ?_
    refine V_csi 9 B (st := []) (As := [.long o0, .long 0, .long 1]) (fun sz => rX12_inRange l D Y o0 0 1 sz) glS_RX12_41 ⟨rfl, rfl⟩ ⟨(Nat.le_of_ble_eq_true rfl), (Nat.le_of_ble_eq_true rfl)⟩ ⟨(Nat.le_of_ble_eq_true rfl), (Nat.le_of_ble_eq_true rfl)⟩ [] rfl rfl (Nat.le_of_ble_eq_true rfl) rfl (fun _ _ _ => rfl) dX12_restoreSnapshot_9 (fun j3 u4 w5 => ?_)
    refine V_ws [(h0, oC 13 [.ref h1, .ref h2, .int 0, .ref h3, .ref h4, .int (nI k5), .int (nI k6), .int p7, .int p8, .int p9, .int (nI k10), .int p11, .long q12, .ref h5, .ref h6, .int (nI k15), .int (nI k16)]), (h1, aI Y 3640 f0), (h2, aZ Y 2 f1), (h3, aZ Y 80 f3), (h4, aB Y 1600 f4), (h5, aI Y 200 f13), (h6, aI Y 800 f14)] rfl ?_
    rcases w5 with ⟨rfl, x8⟩ | ⟨rfl, x6, x7⟩
    ·
      rw [show (0 : Int64).toInt = 0 by decide +kernel] at x8
      rw [show (1 : Int64).toInt = 1 by decide +kernel] at x8
      refine V_if_eq_t 12 B 24 dX12_restoreSnapshot_12 (by decide) (by decide +kernel) ?_
      refine V_iconst 24 B (v := 0) dX12_restoreSnapshot_24 (by decide +kernel) ?_
      exact V_zret 25 B rfl dX12_restoreSnapshot_25 (mkW [] [0] [] [f0] [] []) ⟨(Or.inl rfl), ⟨ph, HI, hx0⟩⟩ rfl
    ·
      rw [show (0 : Int64).toInt = 0 by decide +kernel] at x6
      rw [show (1 : Int64).toInt = 1 by decide +kernel] at x7
      refine V_if_eq_f 12 B 24 dX12_restoreSnapshot_12 (by decide) (by decide +kernel) ?_
      refine V_aload_n 15 B dX12_restoreSnapshot_15 0 rfl ?_
      refine V_get 16 B gf_RX12_13 0 rfl rfl dX12_restoreSnapshot_16 ?_
      refine V_iload_n 19 B dX12_restoreSnapshot_19 1 rfl ?_
      obtain ⟨n9, x10, rfl⟩ := nat_of (x := s0) (n := 1) (by omega) (by omega)
      have e11 := nI_toInt (show n9 < 2 ^ 31 by omega)
      refine V_zald 20 B 2 rfl (vp_in_nI (n := n9) (by omega) (by decide)) dX12_restoreSnapshot_20 rfl ?_
      refine V_nmi (fun j12 e13 => ?_)
      refine V_if_ne 21 B 26 dX12_restoreSnapshot_21 (by decide) (fun kk14 => ?_) (fun kk14 => ?_)
      ·
        have x15 := x_ne kk14
        rw [show (0 : Int32).toInt = 0 by decide +kernel] at x15
        refine V_aload_n 26 B dX12_restoreSnapshot_26 0 rfl ?_
        refine V_iconst 27 B (v := 1) dX12_restoreSnapshot_27 (by decide +kernel) ?_
        refine V_iload_n 28 B dX12_restoreSnapshot_28 1 rfl ?_
        refine V_iadd 29 B (v := (nI (1 + n9))) dX12_restoreSnapshot_29 (nI_addE (a := 1) (b := n9) (by omega)) ?_
        refine V_iconst 30 B (v := 0) dX12_restoreSnapshot_30 (by decide +kernel) ?_
        refine V_cvv 31 B (st := []) (As := [.int (nI (1 + n9)), .int (nI 0)]) (fun sz => mX12_copyBlock_m l D Y h0 h1 (.ref h2) (.int 0) (.ref h3) (.ref h4) (.int (nI k5)) (.int (nI k6)) (.int p7) (.int p8) (.int p9) (.int (nI k10)) (.int p11) (.long q12) (.ref h5) (.ref h6) (.int (nI k15)) (.int (nI k16)) f0 (1 + n9) 0 (by omega) (by omega) (by omega) sz) glV_RX12_45 ⟨rfl, rfl⟩ ⟨(Nat.le_of_ble_eq_true rfl), (Nat.le_of_ble_eq_true rfl)⟩ ⟨(Nat.le_of_ble_eq_true rfl), (Nat.le_of_ble_eq_true rfl)⟩ [0, 0] rfl 13 0 rfl rfl rfl rfl (Nat.le_of_ble_eq_true rfl) rfl (fun _ _ => rfl) dX12_restoreSnapshot_31 (fun u16 w17 => ?_)
        have x18 : INV ph (cpB (1 + n9) 0 906 f0) := INV_cpR HI (by omega) (by omega) (SN_get (by omega) hx0 (fun z9 => kk14 (by rw [e13, nI_clamp (show n9 < 2 ^ 31 by omega)]; exact z9)))
        refine V_ws [(h0, oC 13 [.ref h1, .ref h2, .int 0, .ref h3, .ref h4, .int (nI k5), .int (nI k6), .int p7, .int p8, .int p9, .int (nI k10), .int p11, .long q12, .ref h5, .ref h6, .int (nI k15), .int (nI k16)]), (h1, aI Y 3640 (cpB (1 + n9) 0 906 f0)), (h2, aZ Y 2 f1), (h3, aZ Y 80 f3), (h4, aB Y 1600 f4), (h5, aI Y 200 f13), (h6, aI Y 800 f14)] rfl ?_
        refine V_iconst 34 B (v := 1) dX12_restoreSnapshot_34 (by decide +kernel) ?_
        exact V_zret 35 B rfl dX12_restoreSnapshot_35 (mkW [] [0] [] [(cpB (1 + n9) 0 906 f0)] [] []) ⟨(Or.inr rfl), ⟨ph, x18, hx0⟩⟩ rfl
      ·
        obtain rfl : j12 = 0 := kk14
        have e20 : (0 : Int32).toInt = 0 := by decide +kernel
        refine V_iconst 24 B (v := 0) dX12_restoreSnapshot_24 (by decide +kernel) ?_
        exact V_zret 25 B rfl dX12_restoreSnapshot_25 (mkW [] [0] [] [f0] [] []) ⟨(Or.inl rfl), ⟨ph, HI, hx0⟩⟩ rfl)
theorem dX12_isStroke_0 : decode cX12_isStroke 0 = .ok (.iload_n 0, 1) := by decide +kernel
theorem dX12_isStroke_1 : decode cX12_isStroke 1 = .ok (.i2l, 1) := by decide +kernel
theorem dX12_isStroke_2 : decode cX12_isStroke 2 = .ok (.lconst 0, 1) := by decide +kernel
theorem dX12_isStroke_3 : decode cX12_isStroke 3 = .ok (.ldc2_w 49, 3) := by decide +kernel
theorem dX12_isStroke_6 : decode cX12_isStroke 6 = .ok (.invokestatic 41, 3) := by decide +kernel
theorem dX12_isStroke_9 : decode cX12_isStroke 9 = .ok (.ifCond .eq 16, 3) := by decide +kernel
theorem dX12_isStroke_25 : decode cX12_isStroke 25 = .ok (.iconst 0, 1) := by decide +kernel
theorem dX12_isStroke_26 : decode cX12_isStroke 26 = .ok (.ireturn, 1) := by decide +kernel
theorem dX12_isStroke_12 : decode cX12_isStroke 12 = .ok (.iload_n 0, 1) := by decide +kernel
theorem dX12_isStroke_13 : decode cX12_isStroke 13 = .ok (.bipush 32, 2) := by decide +kernel
theorem dX12_isStroke_15 : decode cX12_isStroke 15 = .ok (.irem, 1) := by decide +kernel
theorem dX12_isStroke_16 : decode cX12_isStroke 16 = .ok (.bipush 26, 2) := by decide +kernel
theorem dX12_isStroke_18 : decode cX12_isStroke 18 = .ok (.if_icmp .ge 7, 3) := by decide +kernel
theorem dX12_isStroke_21 : decode cX12_isStroke 21 = .ok (.iconst 1, 1) := by decide +kernel
theorem dX12_isStroke_22 : decode cX12_isStroke 22 = .ok (.goto 4, 3) := by decide +kernel
set_option maxRecDepth 100000 in
set_option maxHeartbeats 4000000 in
theorem rX12_isStroke (l : Launch) (D : va_G) (Y : Nat → ClassId)  (s0 : Int32)  (sz : Nat) : Met l yX12_isStroke (WSm yX12_isStroke cX12_isStroke 1 (some .boolean)) (mkR 1 0 0 25) (PreC D Y [.int s0] [] sz) (QI D (fun (r : Int32) (u : WU) => (r = 0 ∨ r = 1)) (fun (u : WU) => []) (va_A [] sz)) 0 0 (va_A [] sz) :=
  met_of  (by decide +kernel) (Nat.le_of_ble_eq_true rfl) (fun p e s m args below meth c B hin hsz => by
    have B : VB p s m args meth c D Y (va_A [] sz) cX12_isStroke 1 RX12 (some .boolean) := B
    refine V_iload_n 0 B dX12_isStroke_0 0 rfl ?_
    refine V_i2l 1 B dX12_isStroke_1 rfl ?_
    refine V_nml (fun o0 e1 => ?_)
    have x2 : o0.toInt = s0.toInt := by rw [e1, Int32.toInt_toInt64]
    refine V_lconst 2 B (v := 0) dX12_isStroke_2 (by decide +kernel) ?_
    refine V_ldc2 3 B (v := 511) dX12_isStroke_3 (mT7 212 rfl rfl) ?_
    refine V_csi 6 B (st := []) (As := [.long o0, .long 0, .long 511]) (fun sz => rX12_inRange l D Y o0 0 511 sz) glS_RX12_41 ⟨rfl, rfl⟩ ⟨(Nat.le_of_ble_eq_true rfl), (Nat.le_of_ble_eq_true rfl)⟩ ⟨(Nat.le_of_ble_eq_true rfl), (Nat.le_of_ble_eq_true rfl)⟩ [] rfl rfl (Nat.le_of_ble_eq_true rfl) rfl (fun _ _ _ => rfl) dX12_isStroke_6 (fun j3 u4 w5 => ?_)
    rcases w5 with ⟨rfl, x8⟩ | ⟨rfl, x6, x7⟩
    ·
      rw [show (0 : Int64).toInt = 0 by decide +kernel] at x8
      rw [show (511 : Int64).toInt = 511 by decide +kernel] at x8
      refine V_if_eq_t 9 B 25 dX12_isStroke_9 (by decide) (by decide +kernel) ?_
      refine V_iconst 25 B (v := 0) dX12_isStroke_25 (by decide +kernel) ?_
      exact V_zret 26 B rfl dX12_isStroke_26 (mkW [] [] [] [] [] []) (Or.inl rfl) rfl
    ·
      rw [show (0 : Int64).toInt = 0 by decide +kernel] at x6
      rw [show (511 : Int64).toInt = 511 by decide +kernel] at x7
      refine V_if_eq_f 9 B 25 dX12_isStroke_9 (by decide) (by decide +kernel) ?_
      refine V_iload_n 12 B dX12_isStroke_12 0 rfl ?_
      refine V_bipush 13 B (v := 32) dX12_isStroke_13 (by decide +kernel) ?_
      refine V_irem 15 B dX12_isStroke_15 (by decide +kernel) rfl ?_
      refine V_nmi (fun j9 e10 => ?_)
      refine V_bipush 16 B (v := 26) dX12_isStroke_16 (by decide +kernel) ?_
      refine V_icmp_ge 18 B 25 dX12_isStroke_18 (by decide) (fun kk11 => ?_) (fun kk11 => ?_)
      ·
        have x12 := x_le kk11
        rw [show (26 : Int32).toInt = 26 by decide +kernel] at x12
        refine V_iconst 25 B (v := 0) dX12_isStroke_25 (by decide +kernel) ?_
        exact V_zret 26 B rfl dX12_isStroke_26 (mkW [] [] [] [] [] []) (Or.inl rfl) rfl
      ·
        have x13 := x_nle kk11
        rw [show (26 : Int32).toInt = 26 by decide +kernel] at x13
        refine V_iconst 21 B (v := 1) dX12_isStroke_21 (by decide +kernel) ?_
        refine V_goto 22 B 26 dX12_isStroke_22 (by decide) ?_
        exact V_zret 26 B rfl dX12_isStroke_26 (mkW [] [] [] [] [] []) (Or.inr rfl) rfl)
theorem dX12_keyCost_0 : decode cX12_keyCost 0 = .ok (.bipush 97, 2) := by decide +kernel
theorem dX12_keyCost_2 : decode cX12_keyCost 2 = .ok (.iload_n 0, 1) := by decide +kernel
theorem dX12_keyCost_3 : decode cX12_keyCost 3 = .ok (.iadd, 1) := by decide +kernel
theorem dX12_keyCost_4 : decode cX12_keyCost 4 = .ok (.tableswitch 120 97 121 #[116, 120, 120, 116, 118, 116, 116, 116, 118, 116, 116, 116, 120, 120, 118, 118, 118, 118, 116, 118, 118, 120, 118, 120, 118], 116) := by decide +kernel
theorem dX12_keyCost_120 : decode cX12_keyCost 120 = .ok (.iconst 1, 1) := by decide +kernel
theorem dX12_keyCost_121 : decode cX12_keyCost 121 = .ok (.ireturn, 1) := by decide +kernel
theorem dX12_keyCost_124 : decode cX12_keyCost 124 = .ok (.iconst 3, 1) := by decide +kernel
theorem dX12_keyCost_125 : decode cX12_keyCost 125 = .ok (.ireturn, 1) := by decide +kernel
theorem dX12_keyCost_122 : decode cX12_keyCost 122 = .ok (.iconst 2, 1) := by decide +kernel
theorem dX12_keyCost_123 : decode cX12_keyCost 123 = .ok (.ireturn, 1) := by decide +kernel
theorem sw_out_97_121 {x : Int32} (h97 : ¬ x = 97) (h98 : ¬ x = 98) (h99 : ¬ x = 99) (h100 : ¬ x = 100) (h101 : ¬ x = 101) (h102 : ¬ x = 102) (h103 : ¬ x = 103) (h104 : ¬ x = 104) (h105 : ¬ x = 105) (h106 : ¬ x = 106) (h107 : ¬ x = 107) (h108 : ¬ x = 108) (h109 : ¬ x = 109) (h110 : ¬ x = 110) (h111 : ¬ x = 111) (h112 : ¬ x = 112) (h113 : ¬ x = 113) (h114 : ¬ x = 114) (h115 : ¬ x = 115) (h116 : ¬ x = 116) (h117 : ¬ x = 117) (h118 : ¬ x = 118) (h119 : ¬ x = 119) (h120 : ¬ x = 120) (h121 : ¬ x = 121) : x.toInt < 97 ∨ 121 < x.toInt := by
  have e97 := neT (n := 97) h97 (by decide +kernel)
  have e98 := neT (n := 98) h98 (by decide +kernel)
  have e99 := neT (n := 99) h99 (by decide +kernel)
  have e100 := neT (n := 100) h100 (by decide +kernel)
  have e101 := neT (n := 101) h101 (by decide +kernel)
  have e102 := neT (n := 102) h102 (by decide +kernel)
  have e103 := neT (n := 103) h103 (by decide +kernel)
  have e104 := neT (n := 104) h104 (by decide +kernel)
  have e105 := neT (n := 105) h105 (by decide +kernel)
  have e106 := neT (n := 106) h106 (by decide +kernel)
  have e107 := neT (n := 107) h107 (by decide +kernel)
  have e108 := neT (n := 108) h108 (by decide +kernel)
  have e109 := neT (n := 109) h109 (by decide +kernel)
  have e110 := neT (n := 110) h110 (by decide +kernel)
  have e111 := neT (n := 111) h111 (by decide +kernel)
  have e112 := neT (n := 112) h112 (by decide +kernel)
  have e113 := neT (n := 113) h113 (by decide +kernel)
  have e114 := neT (n := 114) h114 (by decide +kernel)
  have e115 := neT (n := 115) h115 (by decide +kernel)
  have e116 := neT (n := 116) h116 (by decide +kernel)
  have e117 := neT (n := 117) h117 (by decide +kernel)
  have e118 := neT (n := 118) h118 (by decide +kernel)
  have e119 := neT (n := 119) h119 (by decide +kernel)
  have e120 := neT (n := 120) h120 (by decide +kernel)
  have e121 := neT (n := 121) h121 (by decide +kernel)
  omega
set_option maxRecDepth 100000 in
set_option maxHeartbeats 4000000 in
theorem rX12_keyCost (l : Launch) (D : va_G) (Y : Nat → ClassId)  (s0 : Int32)  (sz : Nat) : Met l yX12_keyCost (WSm yX12_keyCost cX12_keyCost 1 (some .int)) (mkR 0 0 0 0) (PreC D Y [.int s0] [] sz) (QI D (fun (r : Int32) (u : WU) => True) (fun (u : WU) => []) (va_A [] sz)) 0 0 (va_A [] sz) :=
  met_of  (by decide +kernel) (Nat.le_of_ble_eq_true rfl) (fun p e s m args below meth c B hin hsz => by
    have B : VB p s m args meth c D Y (va_A [] sz) cX12_keyCost 1 RX12 (some .int) := B
    refine V_bipush 0 B (v := 97) dX12_keyCost_0 (by decide +kernel) ?_
    refine V_iload_n 2 B dX12_keyCost_2 0 rfl ?_
    refine V_iadd 3 B dX12_keyCost_3 rfl ?_
    refine V_nmi (fun j0 e1 => ?_)
    by_cases kk2 : j0 = 97
    ·
      refine V_eqi _ 97 kk2 ?_
      refine V_tableIn 4 B 120 dX12_keyCost_4 (by decide +kernel) (by decide +kernel) (off := 116) (by decide +kernel) (by decide) ?_
      refine V_iconst 120 B (v := 1) dX12_keyCost_120 (by decide +kernel) ?_
      exact V_iret 121 B dX12_keyCost_121 (mkW [] [] [] [] [] []) trivial rfl
    ·
      by_cases kk3 : j0 = 98
      ·
        refine V_eqi _ 98 kk3 ?_
        refine V_tableIn 4 B 124 dX12_keyCost_4 (by decide +kernel) (by decide +kernel) (off := 120) (by decide +kernel) (by decide) ?_
        refine V_iconst 124 B (v := 3) dX12_keyCost_124 (by decide +kernel) ?_
        exact V_iret 125 B dX12_keyCost_125 (mkW [] [] [] [] [] []) trivial rfl
      ·
        by_cases kk4 : j0 = 99
        ·
          refine V_eqi _ 99 kk4 ?_
          refine V_tableIn 4 B 124 dX12_keyCost_4 (by decide +kernel) (by decide +kernel) (off := 120) (by decide +kernel) (by decide) ?_
          refine V_iconst 124 B (v := 3) dX12_keyCost_124 (by decide +kernel) ?_
          exact V_iret 125 B dX12_keyCost_125 (mkW [] [] [] [] [] []) trivial rfl
        ·
          by_cases kk5 : j0 = 100
          ·
            refine V_eqi _ 100 kk5 ?_
            refine V_tableIn 4 B 120 dX12_keyCost_4 (by decide +kernel) (by decide +kernel) (off := 116) (by decide +kernel) (by decide) ?_
            refine V_iconst 120 B (v := 1) dX12_keyCost_120 (by decide +kernel) ?_
            exact V_iret 121 B dX12_keyCost_121 (mkW [] [] [] [] [] []) trivial rfl
          ·
            by_cases kk6 : j0 = 101
            ·
              refine V_eqi _ 101 kk6 ?_
              refine V_tableIn 4 B 122 dX12_keyCost_4 (by decide +kernel) (by decide +kernel) (off := 118) (by decide +kernel) (by decide) ?_
              refine V_iconst 122 B (v := 2) dX12_keyCost_122 (by decide +kernel) ?_
              exact V_iret 123 B dX12_keyCost_123 (mkW [] [] [] [] [] []) trivial rfl
            ·
              by_cases kk7 : j0 = 102
              ·
                refine V_eqi _ 102 kk7 ?_
                refine V_tableIn 4 B 120 dX12_keyCost_4 (by decide +kernel) (by decide +kernel) (off := 116) (by decide +kernel) (by decide) ?_
                refine V_iconst 120 B (v := 1) dX12_keyCost_120 (by decide +kernel) ?_
                exact V_iret 121 B dX12_keyCost_121 (mkW [] [] [] [] [] []) trivial rfl
              ·
                by_cases kk8 : j0 = 103
                ·
                  refine V_eqi _ 103 kk8 ?_
                  refine V_tableIn 4 B 120 dX12_keyCost_4 (by decide +kernel) (by decide +kernel) (off := 116) (by decide +kernel) (by decide) ?_
                  refine V_iconst 120 B (v := 1) dX12_keyCost_120 (by decide +kernel) ?_
                  exact V_iret 121 B dX12_keyCost_121 (mkW [] [] [] [] [] []) trivial rfl
                ·
                  by_cases kk9 : j0 = 104
                  ·
                    refine V_eqi _ 104 kk9 ?_
                    refine V_tableIn 4 B 120 dX12_keyCost_4 (by decide +kernel) (by decide +kernel) (off := 116) (by decide +kernel) (by decide) ?_
                    refine V_iconst 120 B (v := 1) dX12_keyCost_120 (by decide +kernel) ?_
                    exact V_iret 121 B dX12_keyCost_121 (mkW [] [] [] [] [] []) trivial rfl
                  ·
                    by_cases kk10 : j0 = 105
                    ·
                      refine V_eqi _ 105 kk10 ?_
                      refine V_tableIn 4 B 122 dX12_keyCost_4 (by decide +kernel) (by decide +kernel) (off := 118) (by decide +kernel) (by decide) ?_
                      refine V_iconst 122 B (v := 2) dX12_keyCost_122 (by decide +kernel) ?_
                      exact V_iret 123 B dX12_keyCost_123 (mkW [] [] [] [] [] []) trivial rfl
                    ·
                      by_cases kk11 : j0 = 106
                      ·
                        refine V_eqi _ 106 kk11 ?_
                        refine V_tableIn 4 B 120 dX12_keyCost_4 (by decide +kernel) (by decide +kernel) (off := 116) (by decide +kernel) (by decide) ?_
                        refine V_iconst 120 B (v := 1) dX12_keyCost_120 (by decide +kernel) ?_
                        exact V_iret 121 B dX12_keyCost_121 (mkW [] [] [] [] [] []) trivial rfl
                      ·
                        by_cases kk12 : j0 = 107
                        ·
                          refine V_eqi _ 107 kk12 ?_
                          refine V_tableIn 4 B 120 dX12_keyCost_4 (by decide +kernel) (by decide +kernel) (off := 116) (by decide +kernel) (by decide) ?_
                          refine V_iconst 120 B (v := 1) dX12_keyCost_120 (by decide +kernel) ?_
                          exact V_iret 121 B dX12_keyCost_121 (mkW [] [] [] [] [] []) trivial rfl
                        ·
                          by_cases kk13 : j0 = 108
                          ·
                            refine V_eqi _ 108 kk13 ?_
                            refine V_tableIn 4 B 120 dX12_keyCost_4 (by decide +kernel) (by decide +kernel) (off := 116) (by decide +kernel) (by decide) ?_
                            refine V_iconst 120 B (v := 1) dX12_keyCost_120 (by decide +kernel) ?_
                            exact V_iret 121 B dX12_keyCost_121 (mkW [] [] [] [] [] []) trivial rfl
                          ·
                            by_cases kk14 : j0 = 109
                            ·
                              refine V_eqi _ 109 kk14 ?_
                              refine V_tableIn 4 B 124 dX12_keyCost_4 (by decide +kernel) (by decide +kernel) (off := 120) (by decide +kernel) (by decide) ?_
                              refine V_iconst 124 B (v := 3) dX12_keyCost_124 (by decide +kernel) ?_
                              exact V_iret 125 B dX12_keyCost_125 (mkW [] [] [] [] [] []) trivial rfl
                            ·
                              by_cases kk15 : j0 = 110
                              ·
                                refine V_eqi _ 110 kk15 ?_
                                refine V_tableIn 4 B 124 dX12_keyCost_4 (by decide +kernel) (by decide +kernel) (off := 120) (by decide +kernel) (by decide) ?_
                                refine V_iconst 124 B (v := 3) dX12_keyCost_124 (by decide +kernel) ?_
                                exact V_iret 125 B dX12_keyCost_125 (mkW [] [] [] [] [] []) trivial rfl
                              ·
                                by_cases kk16 : j0 = 111
                                ·
                                  refine V_eqi _ 111 kk16 ?_
                                  refine V_tableIn 4 B 122 dX12_keyCost_4 (by decide +kernel) (by decide +kernel) (off := 118) (by decide +kernel) (by decide) ?_
                                  refine V_iconst 122 B (v := 2) dX12_keyCost_122 (by decide +kernel) ?_
                                  exact V_iret 123 B dX12_keyCost_123 (mkW [] [] [] [] [] []) trivial rfl
                                ·
                                  by_cases kk17 : j0 = 112
                                  ·
                                    refine V_eqi _ 112 kk17 ?_
                                    refine V_tableIn 4 B 122 dX12_keyCost_4 (by decide +kernel) (by decide +kernel) (off := 118) (by decide +kernel) (by decide) ?_
                                    refine V_iconst 122 B (v := 2) dX12_keyCost_122 (by decide +kernel) ?_
                                    exact V_iret 123 B dX12_keyCost_123 (mkW [] [] [] [] [] []) trivial rfl
                                  ·
                                    by_cases kk18 : j0 = 113
                                    ·
                                      refine V_eqi _ 113 kk18 ?_
                                      refine V_tableIn 4 B 122 dX12_keyCost_4 (by decide +kernel) (by decide +kernel) (off := 118) (by decide +kernel) (by decide) ?_
                                      refine V_iconst 122 B (v := 2) dX12_keyCost_122 (by decide +kernel) ?_
                                      exact V_iret 123 B dX12_keyCost_123 (mkW [] [] [] [] [] []) trivial rfl
                                    ·
                                      by_cases kk19 : j0 = 114
                                      ·
                                        refine V_eqi _ 114 kk19 ?_
                                        refine V_tableIn 4 B 122 dX12_keyCost_4 (by decide +kernel) (by decide +kernel) (off := 118) (by decide +kernel) (by decide) ?_
                                        refine V_iconst 122 B (v := 2) dX12_keyCost_122 (by decide +kernel) ?_
                                        exact V_iret 123 B dX12_keyCost_123 (mkW [] [] [] [] [] []) trivial rfl
                                      ·
                                        by_cases kk20 : j0 = 115
                                        ·
                                          refine V_eqi _ 115 kk20 ?_
                                          refine V_tableIn 4 B 120 dX12_keyCost_4 (by decide +kernel) (by decide +kernel) (off := 116) (by decide +kernel) (by decide) ?_
                                          refine V_iconst 120 B (v := 1) dX12_keyCost_120 (by decide +kernel) ?_
                                          exact V_iret 121 B dX12_keyCost_121 (mkW [] [] [] [] [] []) trivial rfl
                                        ·
                                          by_cases kk21 : j0 = 116
                                          ·
                                            refine V_eqi _ 116 kk21 ?_
                                            refine V_tableIn 4 B 122 dX12_keyCost_4 (by decide +kernel) (by decide +kernel) (off := 118) (by decide +kernel) (by decide) ?_
                                            refine V_iconst 122 B (v := 2) dX12_keyCost_122 (by decide +kernel) ?_
                                            exact V_iret 123 B dX12_keyCost_123 (mkW [] [] [] [] [] []) trivial rfl
                                          ·
                                            by_cases kk22 : j0 = 117
                                            ·
                                              refine V_eqi _ 117 kk22 ?_
                                              refine V_tableIn 4 B 122 dX12_keyCost_4 (by decide +kernel) (by decide +kernel) (off := 118) (by decide +kernel) (by decide) ?_
                                              refine V_iconst 122 B (v := 2) dX12_keyCost_122 (by decide +kernel) ?_
                                              exact V_iret 123 B dX12_keyCost_123 (mkW [] [] [] [] [] []) trivial rfl
                                            ·
                                              by_cases kk23 : j0 = 118
                                              ·
                                                refine V_eqi _ 118 kk23 ?_
                                                refine V_tableIn 4 B 124 dX12_keyCost_4 (by decide +kernel) (by decide +kernel) (off := 120) (by decide +kernel) (by decide) ?_
                                                refine V_iconst 124 B (v := 3) dX12_keyCost_124 (by decide +kernel) ?_
                                                exact V_iret 125 B dX12_keyCost_125 (mkW [] [] [] [] [] []) trivial rfl
                                              ·
                                                by_cases kk24 : j0 = 119
                                                ·
                                                  refine V_eqi _ 119 kk24 ?_
                                                  refine V_tableIn 4 B 122 dX12_keyCost_4 (by decide +kernel) (by decide +kernel) (off := 118) (by decide +kernel) (by decide) ?_
                                                  refine V_iconst 122 B (v := 2) dX12_keyCost_122 (by decide +kernel) ?_
                                                  exact V_iret 123 B dX12_keyCost_123 (mkW [] [] [] [] [] []) trivial rfl
                                                ·
                                                  by_cases kk25 : j0 = 120
                                                  ·
                                                    refine V_eqi _ 120 kk25 ?_
                                                    refine V_tableIn 4 B 124 dX12_keyCost_4 (by decide +kernel) (by decide +kernel) (off := 120) (by decide +kernel) (by decide) ?_
                                                    refine V_iconst 124 B (v := 3) dX12_keyCost_124 (by decide +kernel) ?_
                                                    exact V_iret 125 B dX12_keyCost_125 (mkW [] [] [] [] [] []) trivial rfl
                                                  ·
                                                    by_cases kk26 : j0 = 121
                                                    ·
                                                      refine V_eqi _ 121 kk26 ?_
                                                      refine V_tableIn 4 B 122 dX12_keyCost_4 (by decide +kernel) (by decide +kernel) (off := 118) (by decide +kernel) (by decide) ?_
                                                      refine V_iconst 122 B (v := 2) dX12_keyCost_122 (by decide +kernel) ?_
                                                      exact V_iret 123 B dX12_keyCost_123 (mkW [] [] [] [] [] []) trivial rfl
                                                    ·
                                                      refine V_tableOut 4 B 124 dX12_keyCost_4 (sw_out_97_121 kk2 kk3 kk4 kk5 kk6 kk7 kk8 kk9 kk10 kk11 kk12 kk13 kk14 kk15 kk16 kk17 kk18 kk19 kk20 kk21 kk22 kk23 kk24 kk25 kk26) (by decide) ?_
                                                      refine V_iconst 124 B (v := 3) dX12_keyCost_124 (by decide +kernel) ?_
                                                      exact V_iret 125 B dX12_keyCost_125 (mkW [] [] [] [] [] []) trivial rfl)
theorem dX12_strokeCost_0 : decode cX12_strokeCost 0 = .ok (.iload_n 0, 1) := by decide +kernel
theorem dX12_strokeCost_1 : decode cX12_strokeCost 1 = .ok (.bipush 32, 2) := by decide +kernel
theorem dX12_strokeCost_3 : decode cX12_strokeCost 3 = .ok (.irem, 1) := by decide +kernel
theorem dX12_strokeCost_4 : decode cX12_strokeCost 4 = .ok (.invokestatic 51, 3) := by decide +kernel
theorem glS_RX12_51 : GLS RX12 51 yX12_keyCost cX12_keyCost 1 (some .int) 1 := ⟨⟨(mT8 0 rfl rfl), (mT8 1 rfl rfl), (mT1 13 rfl rfl), (mT8 2 rfl rfl)⟩, by decide +kernel⟩
theorem dX12_strokeCost_7 : decode cX12_strokeCost 7 = .ok (.istore_n 1, 1) := by decide +kernel
theorem dX12_strokeCost_8 : decode cX12_strokeCost 8 = .ok (.iload_n 0, 1) := by decide +kernel
theorem dX12_strokeCost_9 : decode cX12_strokeCost 9 = .ok (.bipush 32, 2) := by decide +kernel
theorem dX12_strokeCost_11 : decode cX12_strokeCost 11 = .ok (.idiv, 1) := by decide +kernel
theorem dX12_strokeCost_12 : decode cX12_strokeCost 12 = .ok (.istore_n 2, 1) := by decide +kernel
theorem dX12_strokeCost_13 : decode cX12_strokeCost 13 = .ok (.iload_n 2, 1) := by decide +kernel
theorem dX12_strokeCost_14 : decode cX12_strokeCost 14 = .ok (.ifCond .le 18, 3) := by decide +kernel
theorem dX12_strokeCost_32 : decode cX12_strokeCost 32 = .ok (.iload_n 1, 1) := by decide +kernel
theorem dX12_strokeCost_33 : decode cX12_strokeCost 33 = .ok (.ireturn, 1) := by decide +kernel
theorem dX12_strokeCost_17 : decode cX12_strokeCost 17 = .ok (.iload_n 1, 1) := by decide +kernel
theorem dX12_strokeCost_18 : decode cX12_strokeCost 18 = .ok (.iconst 2, 1) := by decide +kernel
theorem dX12_strokeCost_19 : decode cX12_strokeCost 19 = .ok (.iload_n 2, 1) := by decide +kernel
theorem dX12_strokeCost_20 : decode cX12_strokeCost 20 = .ok (.iconst 2, 1) := by decide +kernel
theorem dX12_strokeCost_21 : decode cX12_strokeCost 21 = .ok (.irem, 1) := by decide +kernel
theorem dX12_strokeCost_22 : decode cX12_strokeCost 22 = .ok (.imul, 1) := by decide +kernel
theorem dX12_strokeCost_23 : decode cX12_strokeCost 23 = .ok (.iadd, 1) := by decide +kernel
theorem dX12_strokeCost_24 : decode cX12_strokeCost 24 = .ok (.istore_n 1, 1) := by decide +kernel
theorem dX12_strokeCost_25 : decode cX12_strokeCost 25 = .ok (.iload_n 2, 1) := by decide +kernel
theorem dX12_strokeCost_26 : decode cX12_strokeCost 26 = .ok (.iconst 2, 1) := by decide +kernel
theorem dX12_strokeCost_27 : decode cX12_strokeCost 27 = .ok (.idiv, 1) := by decide +kernel
theorem dX12_strokeCost_28 : decode cX12_strokeCost 28 = .ok (.istore_n 2, 1) := by decide +kernel
theorem dX12_strokeCost_29 : decode cX12_strokeCost 29 = .ok (.goto (-16), 3) := by decide +kernel
set_option maxRecDepth 100000 in
set_option maxHeartbeats 4000000 in
theorem rX12_strokeCost (l : Launch) (D : va_G) (Y : Nat → ClassId)  (s0 : Int32)  (sz : Nat) : Met l yX12_strokeCost (WSm yX12_strokeCost cX12_strokeCost 3 (some .int)) (mkR 1 0 0 20) (PreC D Y [.int s0] [] sz) (QI D (fun (r : Int32) (u : WU) => True) (fun (u : WU) => []) (va_A [] sz)) 0 0 (va_A [] sz) :=
  met_of  (by decide +kernel) (Nat.le_of_ble_eq_true rfl) (fun p e s m args below meth c B hin hsz => by
    have B : VB p s m args meth c D Y (va_A [] sz) cX12_strokeCost 3 RX12 (some .int) := B
    refine V_iload_n 0 B dX12_strokeCost_0 0 rfl ?_
    refine V_bipush 1 B (v := 32) dX12_strokeCost_1 (by decide +kernel) ?_
    refine V_irem 3 B dX12_strokeCost_3 (by decide +kernel) rfl ?_
    refine V_nmi (fun j0 e1 => ?_)
    refine V_csi 4 B (st := []) (As := [.int j0]) (fun sz => rX12_keyCost l D Y j0 sz) glS_RX12_51 ⟨rfl, rfl⟩ ⟨(Nat.le_of_ble_eq_true rfl), (Nat.le_of_ble_eq_true rfl)⟩ ⟨(Nat.le_of_ble_eq_true rfl), (Nat.le_of_ble_eq_true rfl)⟩ [] rfl rfl (Nat.le_of_ble_eq_true rfl) rfl (fun _ _ _ => rfl) dX12_strokeCost_4 (fun j2 u3 w4 => ?_)
    refine V_istore_n 7 B (lv2 := [(1, .int j2), (0, .int s0)]) dX12_strokeCost_7 (by decide) rfl ?_
    refine V_iload_n 8 B dX12_strokeCost_8 1 rfl ?_
    refine V_bipush 9 B (v := 32) dX12_strokeCost_9 (by decide +kernel) ?_
    refine V_idiv 11 B dX12_strokeCost_11 (by decide +kernel) rfl ?_
    refine V_nmi (fun j5 e6 => ?_)
    refine V_istore_n 12 B (lv2 := [(2, .int j5), (1, .int j2), (0, .int s0)]) dX12_strokeCost_12 (by decide) rfl ?_
    refine V_wloop (α := WU) (fun a => ((a.2.1 0)).toInt.toNat) (fun a => True) (fun a => [(2, .int (a.2.1 0)), (1, .int (a.2.1 1)), (0, .int s0)]) (fun a => []) (mkW [] [j5, j2] [] [] [] []) trivial rfl rfl (fun a7 hI9 IH8 => ?_)
    refine V_lv [(2, .int (a7.2.1 0)), (1, .int (a7.2.1 1)), (0, .int s0)] [0, 1, 2] rfl ?_
    refine V_iload_n 13 B dX12_strokeCost_13 0 rfl ?_
    refine V_if_le 14 B 32 dX12_strokeCost_14 (by decide) (fun kk10 => ?_) (fun kk10 => ?_)
    ·
      have x11 := x_le kk10
      rw [show (0 : Int32).toInt = 0 by decide +kernel] at x11
      refine V_iload_n 32 B dX12_strokeCost_32 1 rfl ?_
      exact V_iret 33 B dX12_strokeCost_33 (mkW [] [] [] [] [] []) trivial rfl
    ·
      have x12 := x_nle kk10
      rw [show (0 : Int32).toInt = 0 by decide +kernel] at x12
      refine V_iload_n 17 B dX12_strokeCost_17 1 rfl ?_
      refine V_iconst 18 B (v := 2) dX12_strokeCost_18 (by decide +kernel) ?_
      refine V_iload_n 19 B dX12_strokeCost_19 0 rfl ?_
      refine V_iconst 20 B (v := 2) dX12_strokeCost_20 (by decide +kernel) ?_
      refine V_irem 21 B dX12_strokeCost_21 (by decide +kernel) rfl ?_
      refine V_nmi (fun j13 e14 => ?_)
      refine V_imul 22 B dX12_strokeCost_22 rfl ?_
      refine V_nmi (fun j15 e16 => ?_)
      refine V_iadd 23 B dX12_strokeCost_23 rfl ?_
      refine V_nmi (fun j17 e18 => ?_)
      refine V_istore_n 24 B (lv2 := [(1, .int j17), (2, .int (a7.2.1 0)), (0, .int s0)]) dX12_strokeCost_24 (by decide) rfl ?_
      refine V_iload_n 25 B dX12_strokeCost_25 1 rfl ?_
      refine V_iconst 26 B (v := 2) dX12_strokeCost_26 (by decide +kernel) ?_
      refine V_idiv 27 B dX12_strokeCost_27 (by decide +kernel) rfl ?_
      refine V_nmi (fun j19 e20 => ?_)
      have x21 : 0 ≤ j19.toInt ∧ j19.toInt < (a7.2.1 0).toInt := by rw [e20]; exact half_dec (by omega)
      refine V_istore_n 28 B (lv2 := [(2, .int j19), (1, .int j17), (0, .int s0)]) dX12_strokeCost_28 (by decide) rfl ?_
      refine V_goto 29 B 13 dX12_strokeCost_29 (by decide) ?_
      refine V_lv [(2, .int j19), (1, .int j17), (0, .int s0)] [0, 1, 2] rfl ?_
      exact IH8 (mkW [] [j19, j17] [] [] [] []) trivial (by show (j19).toInt.toNat < _; omega))
theorem dX12_costOf_0 : decode cX12_costOf 0 = .ok (.iconst 0, 1) := by decide +kernel
theorem dX12_costOf_1 : decode cX12_costOf 1 = .ok (.istore_n 2, 1) := by decide +kernel
theorem dX12_costOf_2 : decode cX12_costOf 2 = .ok (.iconst 1, 1) := by decide +kernel
theorem dX12_costOf_3 : decode cX12_costOf 3 = .ok (.istore_n 3, 1) := by decide +kernel
theorem dX12_costOf_4 : decode cX12_costOf 4 = .ok (.iload_n 3, 1) := by decide +kernel
theorem dX12_costOf_5 : decode cX12_costOf 5 = .ok (.aload_n 0, 1) := by decide +kernel
theorem dX12_costOf_6 : decode cX12_costOf 6 = .ok (.getfield 9, 3) := by decide +kernel
theorem dX12_costOf_9 : decode cX12_costOf 9 = .ok (.iload_n 1, 1) := by decide +kernel
theorem dX12_costOf_10 : decode cX12_costOf 10 = .ok (.iaload, 1) := by decide +kernel
theorem dX12_costOf_11 : decode cX12_costOf 11 = .ok (.if_icmp .gt 23, 3) := by decide +kernel
theorem dX12_costOf_34 : decode cX12_costOf 34 = .ok (.iload_n 2, 1) := by decide +kernel
theorem dX12_costOf_35 : decode cX12_costOf 35 = .ok (.ireturn, 1) := by decide +kernel
theorem dX12_costOf_14 : decode cX12_costOf 14 = .ok (.iload_n 2, 1) := by decide +kernel
theorem dX12_costOf_15 : decode cX12_costOf 15 = .ok (.aload_n 0, 1) := by decide +kernel
theorem dX12_costOf_16 : decode cX12_costOf 16 = .ok (.getfield 9, 3) := by decide +kernel
theorem dX12_costOf_19 : decode cX12_costOf 19 = .ok (.iload_n 1, 1) := by decide +kernel
theorem dX12_costOf_20 : decode cX12_costOf 20 = .ok (.iload_n 3, 1) := by decide +kernel
theorem dX12_costOf_21 : decode cX12_costOf 21 = .ok (.iadd, 1) := by decide +kernel
theorem dX12_costOf_22 : decode cX12_costOf 22 = .ok (.iaload, 1) := by decide +kernel
theorem dX12_costOf_23 : decode cX12_costOf 23 = .ok (.invokestatic 55, 3) := by decide +kernel
theorem glS_RX12_55 : GLS RX12 55 yX12_strokeCost cX12_strokeCost 3 (some .int) 1 := ⟨⟨(mT7 237 rfl rfl), (mT7 238 rfl rfl), (mT1 13 rfl rfl), (mT7 239 rfl rfl)⟩, by decide +kernel⟩
theorem dX12_costOf_26 : decode cX12_costOf 26 = .ok (.iadd, 1) := by decide +kernel
theorem dX12_costOf_27 : decode cX12_costOf 27 = .ok (.istore_n 2, 1) := by decide +kernel
theorem dX12_costOf_28 : decode cX12_costOf 28 = .ok (.iinc 3 1, 3) := by decide +kernel
theorem dX12_costOf_31 : decode cX12_costOf 31 = .ok (.goto (-27), 3) := by decide +kernel
set_option maxRecDepth 100000 in
set_option maxHeartbeats 4000000 in
theorem rX12_costOf (l : Launch) (D : va_G) (Y : Nat → ClassId) (h0 : Nat) (h1 : Nat) (h2 : Nat) (h3 : Nat) (h4 : Nat) (h5 : Nat) (h6 : Nat) (p2 : Int32) (k5 : Nat) (k6 : Nat) (p7 : Int32) (p8 : Int32) (p9 : Int32) (k10 : Nat) (p11 : Int32) (q12 : Int64) (k15 : Nat) (k16 : Nat) (f0 : Nat → Int32) (f1 : Nat → Int32) (f3 : Nat → Int32) (f4 : Nat → Int32) (f13 : Nat → Int32) (f14 : Nat → Int32) (ph : Nat → Int32) (HI : INV ph f0) (HL : k5 ≤ 1600) (HP : PLV f13) (s0 : Nat) (hs0 : SQ s0) (sz : Nat) : Met l yX12_costOf (WSm yX12_costOf cX12_costOf 4 (some .int)) (mkR 2 0 0 42) (PreC D Y [.ref h0, .int (nI s0)] [(h0, oC 13 [.ref h1, .ref h2, .int p2, .ref h3, .ref h4, .int (nI k5), .int (nI k6), .int p7, .int p8, .int p9, .int (nI k10), .int p11, .long q12, .ref h5, .ref h6, .int (nI k15), .int (nI k16)]), (h1, aI Y 3640 f0), (h2, aZ Y 2 f1), (h3, aZ Y 80 f3), (h4, aB Y 1600 f4), (h5, aI Y 200 f13), (h6, aI Y 800 f14)] sz) (QI D (fun (r : Int32) (u : WU) => True) (fun (u : WU) => [(h0, oC 13 [.ref h1, .ref h2, .int p2, .ref h3, .ref h4, .int (nI k5), .int (nI k6), .int p7, .int p8, .int p9, .int (nI k10), .int p11, .long q12, .ref h5, .ref h6, .int (nI k15), .int (nI k16)]), (h1, aI Y 3640 f0), (h2, aZ Y 2 f1), (h3, aZ Y 80 f3), (h4, aB Y 1600 f4), (h5, aI Y 200 f13), (h6, aI Y 800 f14)]) (va_A [(h0, oC 13 [.ref h1, .ref h2, .int p2, .ref h3, .ref h4, .int (nI k5), .int (nI k6), .int p7, .int p8, .int p9, .int (nI k10), .int p11, .long q12, .ref h5, .ref h6, .int (nI k15), .int (nI k16)]), (h1, aI Y 3640 f0), (h2, aZ Y 2 f1), (h3, aZ Y 80 f3), (h4, aB Y 1600 f4), (h5, aI Y 200 f13), (h6, aI Y 800 f14)] sz)) 0 0 (va_A [(h0, oC 13 [.ref h1, .ref h2, .int p2, .ref h3, .ref h4, .int (nI k5), .int (nI k6), .int p7, .int p8, .int p9, .int (nI k10), .int p11, .long q12, .ref h5, .ref h6, .int (nI k15), .int (nI k16)]), (h1, aI Y 3640 f0), (h2, aZ Y 2 f1), (h3, aZ Y 80 f3), (h4, aB Y 1600 f4), (h5, aI Y 200 f13), (h6, aI Y 800 f14)] sz) :=
  met_of  (by decide +kernel) (Nat.le_of_ble_eq_true rfl) (fun p e s m args below meth c B hin hsz => by
    have B : VB p s m args meth c D Y (va_A [(h0, oC 13 [.ref h1, .ref h2, .int p2, .ref h3, .ref h4, .int (nI k5), .int (nI k6), .int p7, .int p8, .int p9, .int (nI k10), .int p11, .long q12, .ref h5, .ref h6, .int (nI k15), .int (nI k16)]), (h1, aI Y 3640 f0), (h2, aZ Y 2 f1), (h3, aZ Y 80 f3), (h4, aB Y 1600 f4), (h5, aI Y 200 f13), (h6, aI Y 800 f14)] sz) cX12_costOf 4 RX12 (some .int) := B
    have hq_s0 := hs0.1
    refine V_iconst 0 B (v := 0) dX12_costOf_0 (by decide +kernel) ?_
    refine V_istore_n 1 B (lv2 := [(2, .int 0), (0, .ref h0), (1, .int (nI s0))]) dX12_costOf_1 (by decide) rfl ?_
    refine V_iconst 2 B (v := 1) dX12_costOf_2 (by decide +kernel) ?_
    refine V_istore_n 3 B (lv2 := [(3, .int 1), (2, .int 0), (0, .ref h0), (1, .int (nI s0))]) dX12_costOf_3 (by decide) rfl ?_
    refine V_wloop (α := WU) (fun a => 100000 - (a.1 0)) (fun a => (a.1 0) ≤ 4000 ∧ 1 ≤ (a.1 0)) (fun a => [(3, .int (nI (a.1 0))), (2, .int (a.2.1 0)), (0, .ref h0), (1, .int (nI s0))]) (fun a => [(h0, oC 13 [.ref h1, .ref h2, .int p2, .ref h3, .ref h4, .int (nI k5), .int (nI k6), .int p7, .int p8, .int p9, .int (nI k10), .int p11, .long q12, .ref h5, .ref h6, .int (nI k15), .int (nI k16)]), (h1, aI Y 3640 f0), (h2, aZ Y 2 f1), (h3, aZ Y 80 f3), (h4, aB Y 1600 f4), (h5, aI Y 200 f13), (h6, aI Y 800 f14)]) (mkW [1] [0] [] [] [] []) ⟨(show 1 ≤ 4000 by omega), (show 1 ≤ 1 by omega)⟩ rfl rfl (fun a0 hI2 IH1 => ?_)
    refine V_lv [(3, .int (nI (a0.1 0))), (2, .int (a0.2.1 0)), (0, .ref h0), (1, .int (nI s0))] [0, 1, 2, 3] rfl ?_
    refine V_ws [(h0, oC 13 [.ref h1, .ref h2, .int p2, .ref h3, .ref h4, .int (nI k5), .int (nI k6), .int p7, .int p8, .int p9, .int (nI k10), .int p11, .long q12, .ref h5, .ref h6, .int (nI k15), .int (nI k16)]), (h1, aI Y 3640 f0), (h2, aZ Y 2 f1), (h3, aZ Y 80 f3), (h4, aB Y 1600 f4), (h5, aI Y 200 f13), (h6, aI Y 800 f14)] rfl ?_
    obtain ⟨x3, x4⟩ := hI2
    refine V_iload_n 4 B dX12_costOf_4 0 rfl ?_
    refine V_aload_n 5 B dX12_costOf_5 2 rfl ?_
    refine V_get 6 B gf_RX12_9 0 rfl rfl dX12_costOf_6 ?_
    refine V_iload_n 9 B dX12_costOf_9 3 rfl ?_
    have x5 : (gN f0 s0) ≤ 4 := gN_le HI (by omega) hs0.2.1
    refine V_iald 10 B (v := (nI (gN f0 s0))) 1 rfl (vp_in_nI (n := s0) (by omega) (by decide)) dX12_costOf_10 (by rw [nI_clamp (show s0 < 2 ^ 31 by omega)]; exact gN_eq HI (by omega) hs0.2.1) ?_
    refine V_icmp_gt 11 B 34 dX12_costOf_11 (by decide) (fun kk6 => ?_) (fun kk6 => ?_)
    ·
      have x7 := n_lt (a := (gN f0 s0)) (b := (a0.1 0)) kk6 (by omega) (by omega)
      refine V_iload_n 34 B dX12_costOf_34 1 rfl ?_
      exact V_iret 35 B dX12_costOf_35 (mkW [] [] [] [] [] []) trivial rfl
    ·
      have x8 := n_nlt (a := (gN f0 s0)) (b := (a0.1 0)) kk6 (by omega) (by omega)
      refine V_iload_n 14 B dX12_costOf_14 1 rfl ?_
      refine V_aload_n 15 B dX12_costOf_15 2 rfl ?_
      refine V_get 16 B gf_RX12_9 0 rfl rfl dX12_costOf_16 ?_
      refine V_iload_n 19 B dX12_costOf_19 3 rfl ?_
      refine V_iload_n 20 B dX12_costOf_20 0 rfl ?_
      refine V_iadd 21 B (v := (nI ((a0.1 0) + s0))) dX12_costOf_21 (nI_addE (a := s0) (b := (a0.1 0)) (by omega)) ?_
      refine V_iald 22 B (v := f0 ((a0.1 0) + s0)) 1 rfl (vp_in_nI (n := (a0.1 0) + s0) (by omega) (by decide)) dX12_costOf_22 (by rw [nI_clamp (show (a0.1 0) + s0 < 2 ^ 31 by omega)]) ?_
      refine V_nmi (fun j9 e10 => ?_)
      refine V_csi 23 B (st := [.int (a0.2.1 0)]) (As := [.int j9]) (fun sz => rX12_strokeCost l D Y j9 sz) glS_RX12_55 ⟨rfl, rfl⟩ ⟨(Nat.le_of_ble_eq_true rfl), (Nat.le_of_ble_eq_true rfl)⟩ ⟨(Nat.le_of_ble_eq_true rfl), (Nat.le_of_ble_eq_true rfl)⟩ [] rfl rfl (Nat.le_of_ble_eq_true rfl) rfl (fun _ _ _ => rfl) dX12_costOf_23 (fun j11 u12 w13 => ?_)
      refine V_ws [(h0, oC 13 [.ref h1, .ref h2, .int p2, .ref h3, .ref h4, .int (nI k5), .int (nI k6), .int p7, .int p8, .int p9, .int (nI k10), .int p11, .long q12, .ref h5, .ref h6, .int (nI k15), .int (nI k16)]), (h1, aI Y 3640 f0), (h2, aZ Y 2 f1), (h3, aZ Y 80 f3), (h4, aB Y 1600 f4), (h5, aI Y 200 f13), (h6, aI Y 800 f14)] rfl ?_
      refine V_iadd 26 B dX12_costOf_26 rfl ?_
      refine V_nmi (fun j14 e15 => ?_)
      refine V_istore_n 27 B (lv2 := [(2, .int j14), (3, .int (nI (a0.1 0))), (0, .ref h0), (1, .int (nI s0))]) dX12_costOf_27 (by decide) rfl ?_
      refine V_iinc 28 B (v := (nI (1 + (a0.1 0)))) (lv2 := [(3, .int (nI (1 + (a0.1 0)))), (2, .int j14), (0, .ref h0), (1, .int (nI s0))]) dX12_costOf_28 1 rfl (nI_addE (a := (a0.1 0)) (b := 1) (by omega)) (by decide) rfl ?_
      refine V_goto 31 B 4 dX12_costOf_31 (by decide) ?_
      refine V_lv [(3, .int (nI (1 + (a0.1 0)))), (2, .int j14), (0, .ref h0), (1, .int (nI s0))] [0, 1, 2, 3] rfl ?_
      exact IH1 (mkW [1 + (a0.1 0)] [j14] [] [] [] []) ⟨(show 1 + (a0.1 0) ≤ 4000 by omega), (show 1 ≤ 1 + (a0.1 0) by omega)⟩ (by show 100000 - (1 + (a0.1 0)) < 100000 - (a0.1 0); omega))
theorem dX12_copySequence_0 : decode cX12_copySequence 0 = .ok (.iconst 0, 1) := by decide +kernel
theorem dX12_copySequence_1 : decode cX12_copySequence 1 = .ok (.istore_n 3, 1) := by decide +kernel
theorem dX12_copySequence_2 : decode cX12_copySequence 2 = .ok (.iload_n 3, 1) := by decide +kernel
theorem dX12_copySequence_3 : decode cX12_copySequence 3 = .ok (.iconst 5, 1) := by decide +kernel
theorem dX12_copySequence_4 : decode cX12_copySequence 4 = .ok (.if_icmp .ge 39, 3) := by decide +kernel
theorem dX12_copySequence_43 : decode cX12_copySequence 43 = .ok (.return_, 1) := by decide +kernel
theorem dX12_copySequence_7 : decode cX12_copySequence 7 = .ok (.aload_n 0, 1) := by decide +kernel
theorem dX12_copySequence_8 : decode cX12_copySequence 8 = .ok (.getfield 9, 3) := by decide +kernel
theorem dX12_copySequence_11 : decode cX12_copySequence 11 = .ok (.iload_n 2, 1) := by decide +kernel
theorem dX12_copySequence_12 : decode cX12_copySequence 12 = .ok (.iload_n 3, 1) := by decide +kernel
theorem dX12_copySequence_13 : decode cX12_copySequence 13 = .ok (.iadd, 1) := by decide +kernel
theorem dX12_copySequence_14 : decode cX12_copySequence 14 = .ok (.iload_n 3, 1) := by decide +kernel
theorem dX12_copySequence_15 : decode cX12_copySequence 15 = .ok (.aload_n 0, 1) := by decide +kernel
theorem dX12_copySequence_16 : decode cX12_copySequence 16 = .ok (.getfield 9, 3) := by decide +kernel
theorem dX12_copySequence_19 : decode cX12_copySequence 19 = .ok (.iload_n 1, 1) := by decide +kernel
theorem dX12_copySequence_20 : decode cX12_copySequence 20 = .ok (.iaload, 1) := by decide +kernel
theorem dX12_copySequence_21 : decode cX12_copySequence 21 = .ok (.if_icmp .gt 14, 3) := by decide +kernel
theorem dX12_copySequence_35 : decode cX12_copySequence 35 = .ok (.iconst 0, 1) := by decide +kernel
theorem dX12_copySequence_36 : decode cX12_copySequence 36 = .ok (.iastore, 1) := by decide +kernel
theorem dX12_copySequence_37 : decode cX12_copySequence 37 = .ok (.iinc 3 1, 3) := by decide +kernel
theorem dX12_copySequence_40 : decode cX12_copySequence 40 = .ok (.goto (-38), 3) := by decide +kernel
theorem dX12_copySequence_24 : decode cX12_copySequence 24 = .ok (.aload_n 0, 1) := by decide +kernel
theorem dX12_copySequence_25 : decode cX12_copySequence 25 = .ok (.getfield 9, 3) := by decide +kernel
theorem dX12_copySequence_28 : decode cX12_copySequence 28 = .ok (.iload_n 1, 1) := by decide +kernel
theorem dX12_copySequence_29 : decode cX12_copySequence 29 = .ok (.iload_n 3, 1) := by decide +kernel
theorem dX12_copySequence_30 : decode cX12_copySequence 30 = .ok (.iadd, 1) := by decide +kernel
theorem dX12_copySequence_31 : decode cX12_copySequence 31 = .ok (.iaload, 1) := by decide +kernel
theorem dX12_copySequence_32 : decode cX12_copySequence 32 = .ok (.goto 4, 3) := by decide +kernel
set_option maxRecDepth 100000 in
set_option maxHeartbeats 4000000 in
theorem rX12_copySequence (l : Launch) (D : va_G) (Y : Nat → ClassId) (h0 : Nat) (h1 : Nat) (h2 : Nat) (h3 : Nat) (h4 : Nat) (h5 : Nat) (h6 : Nat) (p2 : Int32) (k5 : Nat) (k6 : Nat) (p7 : Int32) (p8 : Int32) (p9 : Int32) (k10 : Nat) (p11 : Int32) (q12 : Int64) (k15 : Nat) (k16 : Nat) (f0 : Nat → Int32) (f1 : Nat → Int32) (f3 : Nat → Int32) (f4 : Nat → Int32) (f13 : Nat → Int32) (f14 : Nat → Int32) (ph : Nat → Int32) (HI : INV ph f0) (HL : k5 ≤ 1600) (HP : PLV f13) (s0 : Nat) (s1 : Nat) (hs0 : SQ s0) (hs1 : SQ s1) (sz : Nat) : Met l yX12_copySequence (WSm yX12_copySequence cX12_copySequence 4 none) (mkR 0 0 0 0) (PreC D Y [.ref h0, .int (nI s0), .int (nI s1)] [(h0, oC 13 [.ref h1, .ref h2, .int p2, .ref h3, .ref h4, .int (nI k5), .int (nI k6), .int p7, .int p8, .int p9, .int (nI k10), .int p11, .long q12, .ref h5, .ref h6, .int (nI k15), .int (nI k16)]), (h1, aI Y 3640 f0), (h2, aZ Y 2 f1), (h3, aZ Y 80 f3), (h4, aB Y 1600 f4), (h5, aI Y 200 f13), (h6, aI Y 800 f14)] sz) (QV D (fun (u : WU) => INV ph (u.2.2.2.1 0) ∧ (∀ k, (k < s1 ∨ s1 + 5 ≤ k) → (u.2.2.2.1 0) k = f0 k)) (fun (u : WU) => [(h0, oC 13 [.ref h1, .ref h2, .int p2, .ref h3, .ref h4, .int (nI k5), .int (nI k6), .int p7, .int p8, .int p9, .int (nI k10), .int p11, .long q12, .ref h5, .ref h6, .int (nI k15), .int (nI k16)]), (h1, aI Y 3640 (u.2.2.2.1 0)), (h2, aZ Y 2 f1), (h3, aZ Y 80 f3), (h4, aB Y 1600 f4), (h5, aI Y 200 f13), (h6, aI Y 800 f14)]) (va_A [(h0, oC 13 [.ref h1, .ref h2, .int p2, .ref h3, .ref h4, .int (nI k5), .int (nI k6), .int p7, .int p8, .int p9, .int (nI k10), .int p11, .long q12, .ref h5, .ref h6, .int (nI k15), .int (nI k16)]), (h1, aI Y 3640 f0), (h2, aZ Y 2 f1), (h3, aZ Y 80 f3), (h4, aB Y 1600 f4), (h5, aI Y 200 f13), (h6, aI Y 800 f14)] sz)) 0 0 (va_A [(h0, oC 13 [.ref h1, .ref h2, .int p2, .ref h3, .ref h4, .int (nI k5), .int (nI k6), .int p7, .int p8, .int p9, .int (nI k10), .int p11, .long q12, .ref h5, .ref h6, .int (nI k15), .int (nI k16)]), (h1, aI Y 3640 f0), (h2, aZ Y 2 f1), (h3, aZ Y 80 f3), (h4, aB Y 1600 f4), (h5, aI Y 200 f13), (h6, aI Y 800 f14)] sz) :=
  met_of  (by decide +kernel) (Nat.le_of_ble_eq_true rfl) (fun p e s m args below meth c B hin hsz => by
    have B : VB p s m args meth c D Y (va_A [(h0, oC 13 [.ref h1, .ref h2, .int p2, .ref h3, .ref h4, .int (nI k5), .int (nI k6), .int p7, .int p8, .int p9, .int (nI k10), .int p11, .long q12, .ref h5, .ref h6, .int (nI k15), .int (nI k16)]), (h1, aI Y 3640 f0), (h2, aZ Y 2 f1), (h3, aZ Y 80 f3), (h4, aB Y 1600 f4), (h5, aI Y 200 f13), (h6, aI Y 800 f14)] sz) cX12_copySequence 4 RX12 none := B
    have hq_s0 := hs0.1
    have hq_s1 := hs1.1
    refine V_iconst 0 B (v := 0) dX12_copySequence_0 (by decide +kernel) ?_
    refine V_istore_n 1 B (lv2 := [(3, .int 0), (0, .ref h0), (1, .int (nI s0)), (2, .int (nI s1))]) dX12_copySequence_1 (by decide) rfl ?_
    refine V_wloop (α := WU) (fun a => 100000 - (a.1 0)) (fun a => INV ph (a.2.2.2.1 0) ∧ (a.1 0) ≤ 5 ∧ (∀ k, (k < s1 ∨ s1 + 5 ≤ k) → (a.2.2.2.1 0) k = f0 k)) (fun a => [(3, .int (nI (a.1 0))), (0, .ref h0), (1, .int (nI s0)), (2, .int (nI s1))]) (fun a => [(h0, oC 13 [.ref h1, .ref h2, .int p2, .ref h3, .ref h4, .int (nI k5), .int (nI k6), .int p7, .int p8, .int p9, .int (nI k10), .int p11, .long q12, .ref h5, .ref h6, .int (nI k15), .int (nI k16)]), (h1, aI Y 3640 (a.2.2.2.1 0)), (h2, aZ Y 2 f1), (h3, aZ Y 80 f3), (h4, aB Y 1600 f4), (h5, aI Y 200 f13), (h6, aI Y 800 f14)]) (mkW [0] [] [] [f0] [] []) ⟨HI, (show 0 ≤ 5 by omega), (fun _ _ => rfl)⟩ rfl rfl (fun a0 hI2 IH1 => ?_)
    refine V_lv [(3, .int (nI (a0.1 0))), (0, .ref h0), (1, .int (nI s0)), (2, .int (nI s1))] [0, 1, 2, 3] rfl ?_
    refine V_ws [(h0, oC 13 [.ref h1, .ref h2, .int p2, .ref h3, .ref h4, .int (nI k5), .int (nI k6), .int p7, .int p8, .int p9, .int (nI k10), .int p11, .long q12, .ref h5, .ref h6, .int (nI k15), .int (nI k16)]), (h1, aI Y 3640 (a0.2.2.2.1 0)), (h2, aZ Y 2 f1), (h3, aZ Y 80 f3), (h4, aB Y 1600 f4), (h5, aI Y 200 f13), (h6, aI Y 800 f14)] rfl ?_
    obtain ⟨x3, x4, x5⟩ := hI2
    refine V_iload_n 2 B dX12_copySequence_2 0 rfl ?_
    refine V_iconst 3 B (v := 5) dX12_copySequence_3 (by decide +kernel) ?_
    refine V_icmp_ge 4 B 43 dX12_copySequence_4 (by decide) (fun kk6 => ?_) (fun kk6 => ?_)
    ·
      have x7 := n_le (a := 5) (b := (a0.1 0)) kk6 (by omega) (by omega)
      exact V_vret 43 B dX12_copySequence_43 (mkW [] [] [] [(a0.2.2.2.1 0)] [] []) ⟨x3, x5⟩ rfl
    ·
      have x8 := n_nle (a := 5) (b := (a0.1 0)) kk6 (by omega) (by omega)
      by_cases x9 : (a0.1 0) = 0
      ·
        refine V_lv [(3, .int 0), (0, .ref h0), (1, .int (nI s0)), (2, .int (nI s1))] [0, 1, 2, 3] (by rw [x9]; rfl) ?_
        refine V_aload_n 7 B dX12_copySequence_7 1 rfl ?_
        refine V_get 8 B gf_RX12_9 0 rfl rfl dX12_copySequence_8 ?_
        refine V_iload_n 11 B dX12_copySequence_11 3 rfl ?_
        refine V_iload_n 12 B dX12_copySequence_12 0 rfl ?_
        refine V_iadd 13 B (v := (nI s1)) dX12_copySequence_13 (nI_addE (a := s1) (b := 0) (by omega)) ?_
        refine V_iload_n 14 B dX12_copySequence_14 0 rfl ?_
        refine V_aload_n 15 B dX12_copySequence_15 1 rfl ?_
        refine V_get 16 B gf_RX12_9 0 rfl rfl dX12_copySequence_16 ?_
        refine V_iload_n 19 B dX12_copySequence_19 2 rfl ?_
        have x10 : (gN (a0.2.2.2.1 0) s0) ≤ 4 := gN_le x3 (by omega) hs0.2.1
        refine V_iald 20 B (v := (nI ((gN (a0.2.2.2.1 0) s0)))) 1 rfl (vp_in_nI (n := s0) (by omega) (by decide)) dX12_copySequence_20 (by rw [nI_clamp (show s0 < 2 ^ 31 by omega)]; exact gN_eq x3 (by omega) hs0.2.1) ?_
        refine V_icmp_gt 21 B 35 dX12_copySequence_21 (by decide) (fun kk11 => ?_) (fun kk11 => ?_)
        ·
          have x12 := n_lt (a := (gN (a0.2.2.2.1 0) s0)) (b := 0) kk11 (by omega) (by omega)
          refine V_iconst 35 B (v := 0) dX12_copySequence_35 (by decide +kernel) ?_
          have hv13 : INV ph (upd (a0.2.2.2.1 0) s1 0) := INV_nat (v := 0) x3 hs1.2.1 (by omega) (by decide)
          refine V_iast 36 B 1 rfl (vp_in_nI (n := s1) (by omega) (by decide)) dX12_copySequence_36 [(h0, oC 13 [.ref h1, .ref h2, .int p2, .ref h3, .ref h4, .int (nI k5), .int (nI k6), .int p7, .int p8, .int p9, .int (nI k10), .int p11, .long q12, .ref h5, .ref h6, .int (nI k15), .int (nI k16)]), (h1, aI Y 3640 (upd (a0.2.2.2.1 0) s1 0)), (h2, aZ Y 2 f1), (h3, aZ Y 80 f3), (h4, aB Y 1600 f4), (h5, aI Y 200 f13), (h6, aI Y 800 f14)] (by rw [nI_clamp (show s1 < 2 ^ 31 by omega)]; rfl) ?_
          refine V_iinc 37 B (v := 1) (lv2 := [(3, .int 1), (0, .ref h0), (1, .int (nI s0)), (2, .int (nI s1))]) dX12_copySequence_37 0 rfl (by decide +kernel) (by decide) rfl ?_
          refine V_goto 40 B 2 dX12_copySequence_40 (by decide) ?_
          refine V_lv [(3, .int 1), (0, .ref h0), (1, .int (nI s0)), (2, .int (nI s1))] [0, 1, 2, 3] rfl ?_
          exact IH1 (mkW [1] [] [] [(upd (a0.2.2.2.1 0) s1 0)] [] []) ⟨hv13, (show 1 ≤ 5 by omega), (fr_upd x5 (by omega) (by omega))⟩ (by show 100000 - (1) < 100000 - (a0.1 0); omega)
        ·
          have x14 := n_nlt (a := (gN (a0.2.2.2.1 0) s0)) (b := 0) kk11 (by omega) (by omega)
          refine V_aload_n 24 B dX12_copySequence_24 1 rfl ?_
          refine V_get 25 B gf_RX12_9 0 rfl rfl dX12_copySequence_25 ?_
          refine V_iload_n 28 B dX12_copySequence_28 2 rfl ?_
          refine V_iload_n 29 B dX12_copySequence_29 0 rfl ?_
          refine V_iadd 30 B (v := (nI s0)) dX12_copySequence_30 (nI_addE (a := s0) (b := 0) (by omega)) ?_
          have x15 : (gN (a0.2.2.2.1 0) s0) ≤ 4 := gN_le x3 (by omega) hs0.2.1
          refine V_iald 31 B (v := (nI ((gN (a0.2.2.2.1 0) s0)))) 1 rfl (vp_in_nI (n := s0) (by omega) (by decide)) dX12_copySequence_31 (by rw [nI_clamp (show s0 < 2 ^ 31 by omega)]; exact gN_eq x3 (by omega) hs0.2.1) ?_
          refine V_goto 32 B 36 dX12_copySequence_32 (by decide) ?_
          have hv16 : INV ph (upd (a0.2.2.2.1 0) s1 (nI ((gN (a0.2.2.2.1 0) s0)))) := INV_nat (v := (gN (a0.2.2.2.1 0) s0)) x3 hs1.2.1 (by omega) (by decide)
          refine V_iast 36 B 1 rfl (vp_in_nI (n := s1) (by omega) (by decide)) dX12_copySequence_36 [(h0, oC 13 [.ref h1, .ref h2, .int p2, .ref h3, .ref h4, .int (nI k5), .int (nI k6), .int p7, .int p8, .int p9, .int (nI k10), .int p11, .long q12, .ref h5, .ref h6, .int (nI k15), .int (nI k16)]), (h1, aI Y 3640 (upd (a0.2.2.2.1 0) s1 (nI ((gN (a0.2.2.2.1 0) s0))))), (h2, aZ Y 2 f1), (h3, aZ Y 80 f3), (h4, aB Y 1600 f4), (h5, aI Y 200 f13), (h6, aI Y 800 f14)] (by rw [nI_clamp (show s1 < 2 ^ 31 by omega)]; rfl) ?_
          refine V_iinc 37 B (v := 1) (lv2 := [(3, .int 1), (0, .ref h0), (1, .int (nI s0)), (2, .int (nI s1))]) dX12_copySequence_37 0 rfl (by decide +kernel) (by decide) rfl ?_
          refine V_goto 40 B 2 dX12_copySequence_40 (by decide) ?_
          refine V_lv [(3, .int 1), (0, .ref h0), (1, .int (nI s0)), (2, .int (nI s1))] [0, 1, 2, 3] rfl ?_
          exact IH1 (mkW [1] [] [] [(upd (a0.2.2.2.1 0) s1 (nI ((gN (a0.2.2.2.1 0) s0))))] [] []) ⟨hv16, (show 1 ≤ 5 by omega), (fr_upd x5 (by omega) (by omega))⟩ (by show 100000 - (1) < 100000 - (a0.1 0); omega)
      ·
        refine V_aload_n 7 B dX12_copySequence_7 1 rfl ?_
        refine V_get 8 B gf_RX12_9 0 rfl rfl dX12_copySequence_8 ?_
        refine V_iload_n 11 B dX12_copySequence_11 3 rfl ?_
        refine V_iload_n 12 B dX12_copySequence_12 0 rfl ?_
        refine V_iadd 13 B (v := (nI ((a0.1 0) + s1))) dX12_copySequence_13 (nI_addE (a := s1) (b := (a0.1 0)) (by omega)) ?_
        refine V_iload_n 14 B dX12_copySequence_14 0 rfl ?_
        refine V_aload_n 15 B dX12_copySequence_15 1 rfl ?_
        refine V_get 16 B gf_RX12_9 0 rfl rfl dX12_copySequence_16 ?_
        refine V_iload_n 19 B dX12_copySequence_19 2 rfl ?_
        have x17 : (gN (a0.2.2.2.1 0) s0) ≤ 4 := gN_le x3 (by omega) hs0.2.1
        refine V_iald 20 B (v := (nI ((gN (a0.2.2.2.1 0) s0)))) 1 rfl (vp_in_nI (n := s0) (by omega) (by decide)) dX12_copySequence_20 (by rw [nI_clamp (show s0 < 2 ^ 31 by omega)]; exact gN_eq x3 (by omega) hs0.2.1) ?_
        refine V_icmp_gt 21 B 35 dX12_copySequence_21 (by decide) (fun kk18 => ?_) (fun kk18 => ?_)
        ·
          have x19 := n_lt (a := (gN (a0.2.2.2.1 0) s0)) (b := (a0.1 0)) kk18 (by omega) (by omega)
          refine V_iconst 35 B (v := 0) dX12_copySequence_35 (by decide +kernel) ?_
          have hv20 : INV ph (upd (a0.2.2.2.1 0) ((a0.1 0) + s1) 0) := INV_free x3 (SQ.fr hs1 (j := (a0.1 0) + s1) (by omega) (by omega))
          refine V_iast 36 B 1 rfl (vp_in_nI (n := (a0.1 0) + s1) (by omega) (by decide)) dX12_copySequence_36 [(h0, oC 13 [.ref h1, .ref h2, .int p2, .ref h3, .ref h4, .int (nI k5), .int (nI k6), .int p7, .int p8, .int p9, .int (nI k10), .int p11, .long q12, .ref h5, .ref h6, .int (nI k15), .int (nI k16)]), (h1, aI Y 3640 (upd (a0.2.2.2.1 0) ((a0.1 0) + s1) 0)), (h2, aZ Y 2 f1), (h3, aZ Y 80 f3), (h4, aB Y 1600 f4), (h5, aI Y 200 f13), (h6, aI Y 800 f14)] (by rw [nI_clamp (show (a0.1 0) + s1 < 2 ^ 31 by omega)]; rfl) ?_
          refine V_iinc 37 B (v := (nI (1 + (a0.1 0)))) (lv2 := [(3, .int (nI (1 + (a0.1 0)))), (0, .ref h0), (1, .int (nI s0)), (2, .int (nI s1))]) dX12_copySequence_37 0 rfl (nI_addE (a := (a0.1 0)) (b := 1) (by omega)) (by decide) rfl ?_
          refine V_goto 40 B 2 dX12_copySequence_40 (by decide) ?_
          refine V_lv [(3, .int (nI (1 + (a0.1 0)))), (0, .ref h0), (1, .int (nI s0)), (2, .int (nI s1))] [0, 1, 2, 3] rfl ?_
          exact IH1 (mkW [1 + (a0.1 0)] [] [] [(upd (a0.2.2.2.1 0) ((a0.1 0) + s1) 0)] [] []) ⟨hv20, (show 1 + (a0.1 0) ≤ 5 by omega), (fr_upd x5 (by omega) (by omega))⟩ (by show 100000 - (1 + (a0.1 0)) < 100000 - (a0.1 0); omega)
        ·
          have x21 := n_nlt (a := (gN (a0.2.2.2.1 0) s0)) (b := (a0.1 0)) kk18 (by omega) (by omega)
          refine V_aload_n 24 B dX12_copySequence_24 1 rfl ?_
          refine V_get 25 B gf_RX12_9 0 rfl rfl dX12_copySequence_25 ?_
          refine V_iload_n 28 B dX12_copySequence_28 2 rfl ?_
          refine V_iload_n 29 B dX12_copySequence_29 0 rfl ?_
          refine V_iadd 30 B (v := (nI ((a0.1 0) + s0))) dX12_copySequence_30 (nI_addE (a := s0) (b := (a0.1 0)) (by omega)) ?_
          refine V_iald 31 B (v := (a0.2.2.2.1 0) ((a0.1 0) + s0)) 1 rfl (vp_in_nI (n := (a0.1 0) + s0) (by omega) (by decide)) dX12_copySequence_31 (by rw [nI_clamp (show (a0.1 0) + s0 < 2 ^ 31 by omega)]) ?_
          refine V_nmi (fun j22 e23 => ?_)
          refine V_goto 32 B 36 dX12_copySequence_32 (by decide) ?_
          have hv24 : INV ph (upd (a0.2.2.2.1 0) ((a0.1 0) + s1) j22) := INV_free x3 (SQ.fr hs1 (j := (a0.1 0) + s1) (by omega) (by omega))
          refine V_iast 36 B 1 rfl (vp_in_nI (n := (a0.1 0) + s1) (by omega) (by decide)) dX12_copySequence_36 [(h0, oC 13 [.ref h1, .ref h2, .int p2, .ref h3, .ref h4, .int (nI k5), .int (nI k6), .int p7, .int p8, .int p9, .int (nI k10), .int p11, .long q12, .ref h5, .ref h6, .int (nI k15), .int (nI k16)]), (h1, aI Y 3640 (upd (a0.2.2.2.1 0) ((a0.1 0) + s1) j22)), (h2, aZ Y 2 f1), (h3, aZ Y 80 f3), (h4, aB Y 1600 f4), (h5, aI Y 200 f13), (h6, aI Y 800 f14)] (by rw [nI_clamp (show (a0.1 0) + s1 < 2 ^ 31 by omega)]; rfl) ?_
          refine V_iinc 37 B (v := (nI (1 + (a0.1 0)))) (lv2 := [(3, .int (nI (1 + (a0.1 0)))), (0, .ref h0), (1, .int (nI s0)), (2, .int (nI s1))]) dX12_copySequence_37 0 rfl (nI_addE (a := (a0.1 0)) (b := 1) (by omega)) (by decide) rfl ?_
          refine V_goto 40 B 2 dX12_copySequence_40 (by decide) ?_
          refine V_lv [(3, .int (nI (1 + (a0.1 0)))), (0, .ref h0), (1, .int (nI s0)), (2, .int (nI s1))] [0, 1, 2, 3] rfl ?_
          exact IH1 (mkW [1 + (a0.1 0)] [] [] [(upd (a0.2.2.2.1 0) ((a0.1 0) + s1) j22)] [] []) ⟨hv24, (show 1 + (a0.1 0) ≤ 5 by omega), (fr_upd x5 (by omega) (by omega))⟩ (by show 100000 - (1 + (a0.1 0)) < 100000 - (a0.1 0); omega))
theorem dX12_commonOf_0 : decode cX12_commonOf 0 = .ok (.iconst 0, 1) := by decide +kernel
theorem dX12_commonOf_1 : decode cX12_commonOf 1 = .ok (.istore_n 3, 1) := by decide +kernel
theorem dX12_commonOf_2 : decode cX12_commonOf 2 = .ok (.iload_n 3, 1) := by decide +kernel
theorem dX12_commonOf_3 : decode cX12_commonOf 3 = .ok (.aload_n 0, 1) := by decide +kernel
theorem dX12_commonOf_4 : decode cX12_commonOf 4 = .ok (.getfield 9, 3) := by decide +kernel
theorem dX12_commonOf_7 : decode cX12_commonOf 7 = .ok (.iload_n 1, 1) := by decide +kernel
theorem dX12_commonOf_8 : decode cX12_commonOf 8 = .ok (.iaload, 1) := by decide +kernel
theorem dX12_commonOf_9 : decode cX12_commonOf 9 = .ok (.aload_n 0, 1) := by decide +kernel
theorem dX12_commonOf_10 : decode cX12_commonOf 10 = .ok (.getfield 9, 3) := by decide +kernel
theorem dX12_commonOf_13 : decode cX12_commonOf 13 = .ok (.iload_n 2, 1) := by decide +kernel
theorem dX12_commonOf_14 : decode cX12_commonOf 14 = .ok (.iaload, 1) := by decide +kernel
theorem dX12_commonOf_15 : decode cX12_commonOf 15 = .ok (.invokestatic 58, 3) := by decide +kernel
theorem glS_RX12_58 : GLS RX12 58 yX12_min cX12_min 2 (some .int) 2 := ⟨⟨(mT8 86 rfl rfl), (mT8 87 rfl rfl), (mT1 13 rfl rfl), (mT8 88 rfl rfl)⟩, by decide +kernel⟩
theorem dX12_commonOf_18 : decode cX12_commonOf 18 = .ok (.if_icmp .ge 32, 3) := by decide +kernel
theorem dX12_commonOf_50 : decode cX12_commonOf 50 = .ok (.iload_n 3, 1) := by decide +kernel
theorem dX12_commonOf_51 : decode cX12_commonOf 51 = .ok (.ireturn, 1) := by decide +kernel
theorem dX12_commonOf_21 : decode cX12_commonOf 21 = .ok (.aload_n 0, 1) := by decide +kernel
theorem dX12_commonOf_22 : decode cX12_commonOf 22 = .ok (.getfield 9, 3) := by decide +kernel
theorem dX12_commonOf_25 : decode cX12_commonOf 25 = .ok (.iload_n 1, 1) := by decide +kernel
theorem dX12_commonOf_26 : decode cX12_commonOf 26 = .ok (.iload_n 3, 1) := by decide +kernel
theorem dX12_commonOf_27 : decode cX12_commonOf 27 = .ok (.iadd, 1) := by decide +kernel
theorem dX12_commonOf_28 : decode cX12_commonOf 28 = .ok (.iconst 1, 1) := by decide +kernel
theorem dX12_commonOf_29 : decode cX12_commonOf 29 = .ok (.iadd, 1) := by decide +kernel
theorem dX12_commonOf_30 : decode cX12_commonOf 30 = .ok (.iaload, 1) := by decide +kernel
theorem dX12_commonOf_31 : decode cX12_commonOf 31 = .ok (.aload_n 0, 1) := by decide +kernel
theorem dX12_commonOf_32 : decode cX12_commonOf 32 = .ok (.getfield 9, 3) := by decide +kernel
theorem dX12_commonOf_35 : decode cX12_commonOf 35 = .ok (.iload_n 2, 1) := by decide +kernel
theorem dX12_commonOf_36 : decode cX12_commonOf 36 = .ok (.iload_n 3, 1) := by decide +kernel
theorem dX12_commonOf_37 : decode cX12_commonOf 37 = .ok (.iadd, 1) := by decide +kernel
theorem dX12_commonOf_38 : decode cX12_commonOf 38 = .ok (.iconst 1, 1) := by decide +kernel
theorem dX12_commonOf_39 : decode cX12_commonOf 39 = .ok (.iadd, 1) := by decide +kernel
theorem dX12_commonOf_40 : decode cX12_commonOf 40 = .ok (.iaload, 1) := by decide +kernel
theorem dX12_commonOf_41 : decode cX12_commonOf 41 = .ok (.if_icmp .ne 9, 3) := by decide +kernel
theorem dX12_commonOf_44 : decode cX12_commonOf 44 = .ok (.iinc 3 1, 3) := by decide +kernel
theorem dX12_commonOf_47 : decode cX12_commonOf 47 = .ok (.goto (-45), 3) := by decide +kernel
set_option maxRecDepth 100000 in
set_option maxHeartbeats 4000000 in
theorem rX12_commonOf (l : Launch) (D : va_G) (Y : Nat → ClassId) (h0 : Nat) (h1 : Nat) (h2 : Nat) (h3 : Nat) (h4 : Nat) (h5 : Nat) (h6 : Nat) (p2 : Int32) (k5 : Nat) (k6 : Nat) (p7 : Int32) (p8 : Int32) (p9 : Int32) (k10 : Nat) (p11 : Int32) (q12 : Int64) (k15 : Nat) (k16 : Nat) (f0 : Nat → Int32) (f1 : Nat → Int32) (f3 : Nat → Int32) (f4 : Nat → Int32) (f13 : Nat → Int32) (f14 : Nat → Int32) (ph : Nat → Int32) (HI : INV ph f0) (HL : k5 ≤ 1600) (HP : PLV f13) (s0 : Nat) (s1 : Nat) (hs0 : SQ s0) (hs1 : SQ s1) (sz : Nat) : Met l yX12_commonOf (WSm yX12_commonOf cX12_commonOf 4 (some .int)) (mkR 1 0 0 21) (PreC D Y [.ref h0, .int (nI s0), .int (nI s1)] [(h0, oC 13 [.ref h1, .ref h2, .int p2, .ref h3, .ref h4, .int (nI k5), .int (nI k6), .int p7, .int p8, .int p9, .int (nI k10), .int p11, .long q12, .ref h5, .ref h6, .int (nI k15), .int (nI k16)]), (h1, aI Y 3640 f0), (h2, aZ Y 2 f1), (h3, aZ Y 80 f3), (h4, aB Y 1600 f4), (h5, aI Y 200 f13), (h6, aI Y 800 f14)] sz) (QI D (fun (r : Int32) (u : WU) => r = nI (kmV f0 s0 s1)) (fun (u : WU) => [(h0, oC 13 [.ref h1, .ref h2, .int p2, .ref h3, .ref h4, .int (nI k5), .int (nI k6), .int p7, .int p8, .int p9, .int (nI k10), .int p11, .long q12, .ref h5, .ref h6, .int (nI k15), .int (nI k16)]), (h1, aI Y 3640 f0), (h2, aZ Y 2 f1), (h3, aZ Y 80 f3), (h4, aB Y 1600 f4), (h5, aI Y 200 f13), (h6, aI Y 800 f14)]) (va_A [(h0, oC 13 [.ref h1, .ref h2, .int p2, .ref h3, .ref h4, .int (nI k5), .int (nI k6), .int p7, .int p8, .int p9, .int (nI k10), .int p11, .long q12, .ref h5, .ref h6, .int (nI k15), .int (nI k16)]), (h1, aI Y 3640 f0), (h2, aZ Y 2 f1), (h3, aZ Y 80 f3), (h4, aB Y 1600 f4), (h5, aI Y 200 f13), (h6, aI Y 800 f14)] sz)) 0 0 (va_A [(h0, oC 13 [.ref h1, .ref h2, .int p2, .ref h3, .ref h4, .int (nI k5), .int (nI k6), .int p7, .int p8, .int p9, .int (nI k10), .int p11, .long q12, .ref h5, .ref h6, .int (nI k15), .int (nI k16)]), (h1, aI Y 3640 f0), (h2, aZ Y 2 f1), (h3, aZ Y 80 f3), (h4, aB Y 1600 f4), (h5, aI Y 200 f13), (h6, aI Y 800 f14)] sz) :=
  met_of  (by decide +kernel) (Nat.le_of_ble_eq_true rfl) (fun p e s m args below meth c B hin hsz => by
    have B : VB p s m args meth c D Y (va_A [(h0, oC 13 [.ref h1, .ref h2, .int p2, .ref h3, .ref h4, .int (nI k5), .int (nI k6), .int p7, .int p8, .int p9, .int (nI k10), .int p11, .long q12, .ref h5, .ref h6, .int (nI k15), .int (nI k16)]), (h1, aI Y 3640 f0), (h2, aZ Y 2 f1), (h3, aZ Y 80 f3), (h4, aB Y 1600 f4), (h5, aI Y 200 f13), (h6, aI Y 800 f14)] sz) cX12_commonOf 4 RX12 (some .int) := B
    have hq_s0 := hs0.1
    have hq_s1 := hs1.1
    refine V_iconst 0 B (v := 0) dX12_commonOf_0 (by decide +kernel) ?_
    refine V_istore_n 1 B (lv2 := [(3, .int 0), (0, .ref h0), (1, .int (nI s0)), (2, .int (nI s1))]) dX12_commonOf_1 (by decide) rfl ?_
    refine V_wloop (α := WU) (fun a => 100000 - (a.1 0)) (fun a => (a.1 0) ≤ 4 ∧ kmG f0 s0 s1 (min (gN f0 s0) (gN f0 s1)) ((min (gN f0 s0) (gN f0 s1)) - (a.1 0)) = kmG f0 s0 s1 (min (gN f0 s0) (gN f0 s1)) (min (gN f0 s0) (gN f0 s1)) ∧ (a.1 0) ≤ (min (gN f0 s0) (gN f0 s1))) (fun a => [(3, .int (nI (a.1 0))), (0, .ref h0), (1, .int (nI s0)), (2, .int (nI s1))]) (fun a => [(h0, oC 13 [.ref h1, .ref h2, .int p2, .ref h3, .ref h4, .int (nI k5), .int (nI k6), .int p7, .int p8, .int p9, .int (nI k10), .int p11, .long q12, .ref h5, .ref h6, .int (nI k15), .int (nI k16)]), (h1, aI Y 3640 f0), (h2, aZ Y 2 f1), (h3, aZ Y 80 f3), (h4, aB Y 1600 f4), (h5, aI Y 200 f13), (h6, aI Y 800 f14)]) (mkW [0] [] [] [] [] []) ⟨(show 0 ≤ 4 by omega), rfl, (Nat.zero_le _)⟩ rfl rfl (fun a0 hI2 IH1 => ?_)
    refine V_lv [(3, .int (nI (a0.1 0))), (0, .ref h0), (1, .int (nI s0)), (2, .int (nI s1))] [0, 1, 2, 3] rfl ?_
    refine V_ws [(h0, oC 13 [.ref h1, .ref h2, .int p2, .ref h3, .ref h4, .int (nI k5), .int (nI k6), .int p7, .int p8, .int p9, .int (nI k10), .int p11, .long q12, .ref h5, .ref h6, .int (nI k15), .int (nI k16)]), (h1, aI Y 3640 f0), (h2, aZ Y 2 f1), (h3, aZ Y 80 f3), (h4, aB Y 1600 f4), (h5, aI Y 200 f13), (h6, aI Y 800 f14)] rfl ?_
    obtain ⟨x3, x4, x5⟩ := hI2
    refine V_iload_n 2 B dX12_commonOf_2 0 rfl ?_
    refine V_aload_n 3 B dX12_commonOf_3 1 rfl ?_
    refine V_get 4 B gf_RX12_9 0 rfl rfl dX12_commonOf_4 ?_
    refine V_iload_n 7 B dX12_commonOf_7 2 rfl ?_
    have x6 : (gN f0 s0) ≤ 4 := gN_le HI (by omega) hs0.2.1
    refine V_iald 8 B (v := (nI (gN f0 s0))) 1 rfl (vp_in_nI (n := s0) (by omega) (by decide)) dX12_commonOf_8 (by rw [nI_clamp (show s0 < 2 ^ 31 by omega)]; exact gN_eq HI (by omega) hs0.2.1) ?_
    refine V_aload_n 9 B dX12_commonOf_9 1 rfl ?_
    refine V_get 10 B gf_RX12_9 0 rfl rfl dX12_commonOf_10 ?_
    refine V_iload_n 13 B dX12_commonOf_13 3 rfl ?_
    have x7 : (gN f0 s1) ≤ 4 := gN_le HI (by omega) hs1.2.1
    refine V_iald 14 B (v := (nI (gN f0 s1))) 1 rfl (vp_in_nI (n := s1) (by omega) (by decide)) dX12_commonOf_14 (by rw [nI_clamp (show s1 < 2 ^ 31 by omega)]; exact gN_eq HI (by omega) hs1.2.1) ?_
    refine V_csi 15 B (st := [.int (nI (a0.1 0))]) (As := [.int (nI (gN f0 s0)), .int (nI (gN f0 s1))]) (fun sz => rX12_min l D Y (gN f0 s0) (gN f0 s1) (by omega) (by omega) sz) glS_RX12_58 ⟨rfl, rfl⟩ ⟨(Nat.le_of_ble_eq_true rfl), (Nat.le_of_ble_eq_true rfl)⟩ ⟨(Nat.le_of_ble_eq_true rfl), (Nat.le_of_ble_eq_true rfl)⟩ [] rfl rfl (Nat.le_of_ble_eq_true rfl) rfl (fun _ _ _ => rfl) dX12_commonOf_15 (fun j8 u9 w10 => ?_)
    refine V_ws [(h0, oC 13 [.ref h1, .ref h2, .int p2, .ref h3, .ref h4, .int (nI k5), .int (nI k6), .int p7, .int p8, .int p9, .int (nI k10), .int p11, .long q12, .ref h5, .ref h6, .int (nI k15), .int (nI k16)]), (h1, aI Y 3640 f0), (h2, aZ Y 2 f1), (h3, aZ Y 80 f3), (h4, aB Y 1600 f4), (h5, aI Y 200 f13), (h6, aI Y 800 f14)] rfl ?_
    have x11 := w10
    clear w10
    obtain rfl := x11
    refine V_icmp_ge 18 B 50 dX12_commonOf_18 (by decide) (fun kk12 => ?_) (fun kk12 => ?_)
    ·
      have x13 := n_le (a := (min (gN f0 s0) (gN f0 s1))) (b := (a0.1 0)) kk12 (by omega) (by omega)
      refine V_iload_n 50 B dX12_commonOf_50 0 rfl ?_
      exact V_iret 51 B dX12_commonOf_51 (mkW [] [] [] [] [] []) (km_end x4 (by omega) x5) rfl
    ·
      have x14 := n_nle (a := (min (gN f0 s0) (gN f0 s1))) (b := (a0.1 0)) kk12 (by omega) (by omega)
      refine V_aload_n 21 B dX12_commonOf_21 1 rfl ?_
      refine V_get 22 B gf_RX12_9 0 rfl rfl dX12_commonOf_22 ?_
      refine V_iload_n 25 B dX12_commonOf_25 2 rfl ?_
      refine V_iload_n 26 B dX12_commonOf_26 0 rfl ?_
      refine V_iadd 27 B (v := (nI ((a0.1 0) + s0))) dX12_commonOf_27 (nI_addE (a := s0) (b := (a0.1 0)) (by omega)) ?_
      refine V_iconst 28 B (v := 1) dX12_commonOf_28 (by decide +kernel) ?_
      refine V_iadd 29 B (v := (nI (1 + (a0.1 0) + s0))) dX12_commonOf_29 (nI_addE (a := (a0.1 0) + s0) (b := 1) (by omega)) ?_
      refine V_iald 30 B (v := f0 (1 + (a0.1 0) + s0)) 1 rfl (vp_in_nI (n := 1 + (a0.1 0) + s0) (by omega) (by decide)) dX12_commonOf_30 (by rw [nI_clamp (show 1 + (a0.1 0) + s0 < 2 ^ 31 by omega)]) ?_
      refine V_nmi (fun j15 e16 => ?_)
      refine V_aload_n 31 B dX12_commonOf_31 1 rfl ?_
      refine V_get 32 B gf_RX12_9 0 rfl rfl dX12_commonOf_32 ?_
      refine V_iload_n 35 B dX12_commonOf_35 3 rfl ?_
      refine V_iload_n 36 B dX12_commonOf_36 0 rfl ?_
      refine V_iadd 37 B (v := (nI ((a0.1 0) + s1))) dX12_commonOf_37 (nI_addE (a := s1) (b := (a0.1 0)) (by omega)) ?_
      refine V_iconst 38 B (v := 1) dX12_commonOf_38 (by decide +kernel) ?_
      refine V_iadd 39 B (v := (nI (1 + (a0.1 0) + s1))) dX12_commonOf_39 (nI_addE (a := (a0.1 0) + s1) (b := 1) (by omega)) ?_
      refine V_iald 40 B (v := f0 (1 + (a0.1 0) + s1)) 1 rfl (vp_in_nI (n := 1 + (a0.1 0) + s1) (by omega) (by decide)) dX12_commonOf_40 (by rw [nI_clamp (show 1 + (a0.1 0) + s1 < 2 ^ 31 by omega)]) ?_
      refine V_nmi (fun j17 e18 => ?_)
      refine V_icmp_ne 41 B 50 dX12_commonOf_41 (by decide) (fun kk19 => ?_) (fun kk19 => ?_)
      ·
        have x20 := x_ne kk19
        refine V_iload_n 50 B dX12_commonOf_50 0 rfl ?_
        exact V_iret 51 B dX12_commonOf_51 (mkW [] [] [] [] [] []) (km_neq x4 (by omega) (fun z => kk19 (by rw [e16, e18]; exact z))) rfl
      ·
        have x21 := x_eq kk19
        refine V_iinc 44 B (v := (nI (1 + (a0.1 0)))) (lv2 := [(3, .int (nI (1 + (a0.1 0)))), (0, .ref h0), (1, .int (nI s0)), (2, .int (nI s1))]) dX12_commonOf_44 0 rfl (nI_addE (a := (a0.1 0)) (b := 1) (by omega)) (by decide) rfl ?_
        refine V_goto 47 B 2 dX12_commonOf_47 (by decide) ?_
        refine V_lv [(3, .int (nI (1 + (a0.1 0)))), (0, .ref h0), (1, .int (nI s0)), (2, .int (nI s1))] [0, 1, 2, 3] rfl ?_
        exact IH1 (mkW [1 + (a0.1 0)] [] [] [] [] []) ⟨(show 1 + (a0.1 0) ≤ 4 by omega), (km_eq x4 (by omega) (by rw [← e16, ← e18]; exact kk19)), (show 1 + (a0.1 0) ≤ (min (gN f0 s0) (gN f0 s1)) by omega)⟩ (by show 100000 - (1 + (a0.1 0)) < 100000 - (a0.1 0); omega))
theorem dX12_doClash_0 : decode cX12_doClash 0 = .ok (.aload_n 0, 1) := by decide +kernel
theorem dX12_doClash_1 : decode cX12_doClash 1 = .ok (.iload_n 1, 1) := by decide +kernel
theorem dX12_doClash_2 : decode cX12_doClash 2 = .ok (.iload_n 2, 1) := by decide +kernel
theorem dX12_doClash_3 : decode cX12_doClash 3 = .ok (.invokevirtual 62, 3) := by decide +kernel
theorem glV_RX12_62 : GLV RX12 62 yX12_commonOf RX12 cX12_commonOf 4 (some .int) 2 := ⟨⟨(mT8 82 rfl rfl), (mT8 84 rfl rfl), (mTs 43 rfl rfl), (mT1 13 rfl rfl), (mT8 85 rfl rfl)⟩, by decide +kernel⟩
theorem dX12_doClash_6 : decode cX12_doClash 6 = .ok (.aload_n 0, 1) := by decide +kernel
theorem dX12_doClash_7 : decode cX12_doClash 7 = .ok (.getfield 9, 3) := by decide +kernel
theorem dX12_doClash_10 : decode cX12_doClash 10 = .ok (.iload_n 1, 1) := by decide +kernel
theorem dX12_doClash_11 : decode cX12_doClash 11 = .ok (.iaload, 1) := by decide +kernel
theorem dX12_doClash_12 : decode cX12_doClash 12 = .ok (.aload_n 0, 1) := by decide +kernel
theorem dX12_doClash_13 : decode cX12_doClash 13 = .ok (.getfield 9, 3) := by decide +kernel
theorem dX12_doClash_16 : decode cX12_doClash 16 = .ok (.iload_n 2, 1) := by decide +kernel
theorem dX12_doClash_17 : decode cX12_doClash 17 = .ok (.iaload, 1) := by decide +kernel
theorem dX12_doClash_18 : decode cX12_doClash 18 = .ok (.invokestatic 58, 3) := by decide +kernel
theorem dX12_doClash_21 : decode cX12_doClash 21 = .ok (.if_icmp .ne 7, 3) := by decide +kernel
theorem dX12_doClash_28 : decode cX12_doClash 28 = .ok (.iconst 0, 1) := by decide +kernel
theorem dX12_doClash_29 : decode cX12_doClash 29 = .ok (.ireturn, 1) := by decide +kernel
theorem dX12_doClash_24 : decode cX12_doClash 24 = .ok (.iconst 1, 1) := by decide +kernel
theorem dX12_doClash_25 : decode cX12_doClash 25 = .ok (.goto 4, 3) := by decide +kernel
set_option maxRecDepth 100000 in
set_option maxHeartbeats 4000000 in
theorem rX12_doClash (l : Launch) (D : va_G) (Y : Nat → ClassId) (h0 : Nat) (h1 : Nat) (h2 : Nat) (h3 : Nat) (h4 : Nat) (h5 : Nat) (h6 : Nat) (p2 : Int32) (k5 : Nat) (k6 : Nat) (p7 : Int32) (p8 : Int32) (p9 : Int32) (k10 : Nat) (p11 : Int32) (q12 : Int64) (k15 : Nat) (k16 : Nat) (f0 : Nat → Int32) (f1 : Nat → Int32) (f3 : Nat → Int32) (f4 : Nat → Int32) (f13 : Nat → Int32) (f14 : Nat → Int32) (ph : Nat → Int32) (HI : INV ph f0) (HL : k5 ≤ 1600) (HP : PLV f13) (s0 : Nat) (s1 : Nat) (hs0 : SQ s0) (hs1 : SQ s1) (sz : Nat) : Met l yX12_doClash (WSm yX12_doClash cX12_doClash 3 (some .boolean)) (mkR 2 0 0 44) (PreC D Y [.ref h0, .int (nI s0), .int (nI s1)] [(h0, oC 13 [.ref h1, .ref h2, .int p2, .ref h3, .ref h4, .int (nI k5), .int (nI k6), .int p7, .int p8, .int p9, .int (nI k10), .int p11, .long q12, .ref h5, .ref h6, .int (nI k15), .int (nI k16)]), (h1, aI Y 3640 f0), (h2, aZ Y 2 f1), (h3, aZ Y 80 f3), (h4, aB Y 1600 f4), (h5, aI Y 200 f13), (h6, aI Y 800 f14)] sz) (QI D (fun (r : Int32) (u : WU) => ((r = 0 ∧ ¬ DC f0 s0 s1) ∨ (r = 1 ∧ DC f0 s0 s1))) (fun (u : WU) => [(h0, oC 13 [.ref h1, .ref h2, .int p2, .ref h3, .ref h4, .int (nI k5), .int (nI k6), .int p7, .int p8, .int p9, .int (nI k10), .int p11, .long q12, .ref h5, .ref h6, .int (nI k15), .int (nI k16)]), (h1, aI Y 3640 f0), (h2, aZ Y 2 f1), (h3, aZ Y 80 f3), (h4, aB Y 1600 f4), (h5, aI Y 200 f13), (h6, aI Y 800 f14)]) (va_A [(h0, oC 13 [.ref h1, .ref h2, .int p2, .ref h3, .ref h4, .int (nI k5), .int (nI k6), .int p7, .int p8, .int p9, .int (nI k10), .int p11, .long q12, .ref h5, .ref h6, .int (nI k15), .int (nI k16)]), (h1, aI Y 3640 f0), (h2, aZ Y 2 f1), (h3, aZ Y 80 f3), (h4, aB Y 1600 f4), (h5, aI Y 200 f13), (h6, aI Y 800 f14)] sz)) 0 0 (va_A [(h0, oC 13 [.ref h1, .ref h2, .int p2, .ref h3, .ref h4, .int (nI k5), .int (nI k6), .int p7, .int p8, .int p9, .int (nI k10), .int p11, .long q12, .ref h5, .ref h6, .int (nI k15), .int (nI k16)]), (h1, aI Y 3640 f0), (h2, aZ Y 2 f1), (h3, aZ Y 80 f3), (h4, aB Y 1600 f4), (h5, aI Y 200 f13), (h6, aI Y 800 f14)] sz) :=
  met_of  (by decide +kernel) (Nat.le_of_ble_eq_true rfl) (fun p e s m args below meth c B hin hsz => by
    have B : VB p s m args meth c D Y (va_A [(h0, oC 13 [.ref h1, .ref h2, .int p2, .ref h3, .ref h4, .int (nI k5), .int (nI k6), .int p7, .int p8, .int p9, .int (nI k10), .int p11, .long q12, .ref h5, .ref h6, .int (nI k15), .int (nI k16)]), (h1, aI Y 3640 f0), (h2, aZ Y 2 f1), (h3, aZ Y 80 f3), (h4, aB Y 1600 f4), (h5, aI Y 200 f13), (h6, aI Y 800 f14)] sz) cX12_doClash 3 RX12 (some .boolean) := B
    have hq_s0 := hs0.1
    have hq_s1 := hs1.1
    refine V_aload_n 0 B dX12_doClash_0 0 rfl ?_
    refine V_iload_n 1 B dX12_doClash_1 1 rfl ?_
    refine V_iload_n 2 B dX12_doClash_2 2 rfl ?_
    refine V_cvi 3 B (st := []) (As := [.int (nI s0), .int (nI s1)]) (fun sz => rX12_commonOf l D Y h0 h1 h2 h3 h4 h5 h6 p2 k5 k6 p7 p8 p9 k10 p11 q12 k15 k16 f0 f1 f3 f4 f13 f14 ph HI (by omega) HP s0 s1 hs0 hs1 sz) glV_RX12_62 ⟨rfl, rfl⟩ ⟨(Nat.le_of_ble_eq_true rfl), (Nat.le_of_ble_eq_true rfl)⟩ ⟨(Nat.le_of_ble_eq_true rfl), (Nat.le_of_ble_eq_true rfl)⟩ [0, 0, 0, 0, 0, 0, 0] rfl 13 0 rfl rfl rfl rfl (Nat.le_of_ble_eq_true rfl) rfl (fun _ _ _ => rfl) dX12_doClash_3 (fun j0 u1 w2 => ?_)
    refine V_ws [(h0, oC 13 [.ref h1, .ref h2, .int p2, .ref h3, .ref h4, .int (nI k5), .int (nI k6), .int p7, .int p8, .int p9, .int (nI k10), .int p11, .long q12, .ref h5, .ref h6, .int (nI k15), .int (nI k16)]), (h1, aI Y 3640 f0), (h2, aZ Y 2 f1), (h3, aZ Y 80 f3), (h4, aB Y 1600 f4), (h5, aI Y 200 f13), (h6, aI Y 800 f14)] rfl ?_
    have x3 := w2
    clear w2
    obtain rfl := x3
    have x4 := kmV_le f0 s0 s1
    have x5 : gN f0 s0 ≤ 4 := gN_le HI (by omega) hs0.2.1
    have x6 : gN f0 s1 ≤ 4 := gN_le HI (by omega) hs1.2.1
    refine V_aload_n 6 B dX12_doClash_6 0 rfl ?_
    refine V_get 7 B gf_RX12_9 0 rfl rfl dX12_doClash_7 ?_
    refine V_iload_n 10 B dX12_doClash_10 1 rfl ?_
    have x7 : (gN f0 s0) ≤ 4 := gN_le HI (by omega) hs0.2.1
    refine V_iald 11 B (v := (nI (gN f0 s0))) 1 rfl (vp_in_nI (n := s0) (by omega) (by decide)) dX12_doClash_11 (by rw [nI_clamp (show s0 < 2 ^ 31 by omega)]; exact gN_eq HI (by omega) hs0.2.1) ?_
    refine V_aload_n 12 B dX12_doClash_12 0 rfl ?_
    refine V_get 13 B gf_RX12_9 0 rfl rfl dX12_doClash_13 ?_
    refine V_iload_n 16 B dX12_doClash_16 2 rfl ?_
    have x8 : (gN f0 s1) ≤ 4 := gN_le HI (by omega) hs1.2.1
    refine V_iald 17 B (v := (nI (gN f0 s1))) 1 rfl (vp_in_nI (n := s1) (by omega) (by decide)) dX12_doClash_17 (by rw [nI_clamp (show s1 < 2 ^ 31 by omega)]; exact gN_eq HI (by omega) hs1.2.1) ?_
    refine V_csi 18 B (st := [.int (nI (kmV f0 s0 s1))]) (As := [.int (nI (gN f0 s0)), .int (nI (gN f0 s1))]) (fun sz => rX12_min l D Y (gN f0 s0) (gN f0 s1) (by omega) (by omega) sz) glS_RX12_58 ⟨rfl, rfl⟩ ⟨(Nat.le_of_ble_eq_true rfl), (Nat.le_of_ble_eq_true rfl)⟩ ⟨(Nat.le_of_ble_eq_true rfl), (Nat.le_of_ble_eq_true rfl)⟩ [] rfl rfl (Nat.le_of_ble_eq_true rfl) rfl (fun _ _ _ => rfl) dX12_doClash_18 (fun j9 u10 w11 => ?_)
    refine V_ws [(h0, oC 13 [.ref h1, .ref h2, .int p2, .ref h3, .ref h4, .int (nI k5), .int (nI k6), .int p7, .int p8, .int p9, .int (nI k10), .int p11, .long q12, .ref h5, .ref h6, .int (nI k15), .int (nI k16)]), (h1, aI Y 3640 f0), (h2, aZ Y 2 f1), (h3, aZ Y 80 f3), (h4, aB Y 1600 f4), (h5, aI Y 200 f13), (h6, aI Y 800 f14)] rfl ?_
    have x12 := w11
    clear w11
    obtain rfl := x12
    refine V_icmp_ne 21 B 28 dX12_doClash_21 (by decide) (fun kk13 => ?_) (fun kk13 => ?_)
    ·
      have x14 := n_ne (a := (kmV f0 s0 s1)) (b := (min (gN f0 s0) (gN f0 s1))) kk13
      refine V_iconst 28 B (v := 0) dX12_doClash_28 (by decide +kernel) ?_
      exact V_zret 29 B rfl dX12_doClash_29 (mkW [] [] [] [] [] []) (Or.inl ⟨rfl, by unfold DC; omega⟩) rfl
    ·
      have x15 := n_eq (a := (kmV f0 s0 s1)) (b := (min (gN f0 s0) (gN f0 s1))) kk13 (by omega) (by omega)
      refine V_iconst 24 B (v := 1) dX12_doClash_24 (by decide +kernel) ?_
      refine V_goto 25 B 29 dX12_doClash_25 (by decide) ?_
      exact V_zret 29 B rfl dX12_doClash_29 (mkW [] [] [] [] [] []) (Or.inr ⟨rfl, by unfold DC; omega⟩) rfl)
theorem dX12_areEqual_0 : decode cX12_areEqual 0 = .ok (.aload_n 0, 1) := by decide +kernel
theorem dX12_areEqual_1 : decode cX12_areEqual 1 = .ok (.getfield 9, 3) := by decide +kernel
theorem dX12_areEqual_4 : decode cX12_areEqual 4 = .ok (.iload_n 1, 1) := by decide +kernel
theorem dX12_areEqual_5 : decode cX12_areEqual 5 = .ok (.iaload, 1) := by decide +kernel
theorem dX12_areEqual_6 : decode cX12_areEqual 6 = .ok (.aload_n 0, 1) := by decide +kernel
theorem dX12_areEqual_7 : decode cX12_areEqual 7 = .ok (.getfield 9, 3) := by decide +kernel
theorem dX12_areEqual_10 : decode cX12_areEqual 10 = .ok (.iload_n 2, 1) := by decide +kernel
theorem dX12_areEqual_11 : decode cX12_areEqual 11 = .ok (.iaload, 1) := by decide +kernel
theorem dX12_areEqual_12 : decode cX12_areEqual 12 = .ok (.if_icmp .ne 22, 3) := by decide +kernel
theorem dX12_areEqual_34 : decode cX12_areEqual 34 = .ok (.iconst 0, 1) := by decide +kernel
theorem dX12_areEqual_35 : decode cX12_areEqual 35 = .ok (.ireturn, 1) := by decide +kernel
theorem dX12_areEqual_15 : decode cX12_areEqual 15 = .ok (.aload_n 0, 1) := by decide +kernel
theorem dX12_areEqual_16 : decode cX12_areEqual 16 = .ok (.iload_n 1, 1) := by decide +kernel
theorem dX12_areEqual_17 : decode cX12_areEqual 17 = .ok (.iload_n 2, 1) := by decide +kernel
theorem dX12_areEqual_18 : decode cX12_areEqual 18 = .ok (.invokevirtual 62, 3) := by decide +kernel
theorem dX12_areEqual_21 : decode cX12_areEqual 21 = .ok (.aload_n 0, 1) := by decide +kernel
theorem dX12_areEqual_22 : decode cX12_areEqual 22 = .ok (.getfield 9, 3) := by decide +kernel
theorem dX12_areEqual_25 : decode cX12_areEqual 25 = .ok (.iload_n 1, 1) := by decide +kernel
theorem dX12_areEqual_26 : decode cX12_areEqual 26 = .ok (.iaload, 1) := by decide +kernel
theorem dX12_areEqual_27 : decode cX12_areEqual 27 = .ok (.if_icmp .ne 7, 3) := by decide +kernel
theorem dX12_areEqual_30 : decode cX12_areEqual 30 = .ok (.iconst 1, 1) := by decide +kernel
theorem dX12_areEqual_31 : decode cX12_areEqual 31 = .ok (.goto 4, 3) := by decide +kernel
set_option maxRecDepth 100000 in
set_option maxHeartbeats 4000000 in
theorem rX12_areEqual (l : Launch) (D : va_G) (Y : Nat → ClassId) (h0 : Nat) (h1 : Nat) (h2 : Nat) (h3 : Nat) (h4 : Nat) (h5 : Nat) (h6 : Nat) (p2 : Int32) (k5 : Nat) (k6 : Nat) (p7 : Int32) (p8 : Int32) (p9 : Int32) (k10 : Nat) (p11 : Int32) (q12 : Int64) (k15 : Nat) (k16 : Nat) (f0 : Nat → Int32) (f1 : Nat → Int32) (f3 : Nat → Int32) (f4 : Nat → Int32) (f13 : Nat → Int32) (f14 : Nat → Int32) (ph : Nat → Int32) (HI : INV ph f0) (HL : k5 ≤ 1600) (HP : PLV f13) (s0 : Nat) (s1 : Nat) (hs0 : SQ s0) (hs1 : SQ s1) (sz : Nat) : Met l yX12_areEqual (WSm yX12_areEqual cX12_areEqual 3 (some .boolean)) (mkR 2 0 0 44) (PreC D Y [.ref h0, .int (nI s0), .int (nI s1)] [(h0, oC 13 [.ref h1, .ref h2, .int p2, .ref h3, .ref h4, .int (nI k5), .int (nI k6), .int p7, .int p8, .int p9, .int (nI k10), .int p11, .long q12, .ref h5, .ref h6, .int (nI k15), .int (nI k16)]), (h1, aI Y 3640 f0), (h2, aZ Y 2 f1), (h3, aZ Y 80 f3), (h4, aB Y 1600 f4), (h5, aI Y 200 f13), (h6, aI Y 800 f14)] sz) (QI D (fun (r : Int32) (u : WU) => (r = 0 ∨ r = 1)) (fun (u : WU) => [(h0, oC 13 [.ref h1, .ref h2, .int p2, .ref h3, .ref h4, .int (nI k5), .int (nI k6), .int p7, .int p8, .int p9, .int (nI k10), .int p11, .long q12, .ref h5, .ref h6, .int (nI k15), .int (nI k16)]), (h1, aI Y 3640 f0), (h2, aZ Y 2 f1), (h3, aZ Y 80 f3), (h4, aB Y 1600 f4), (h5, aI Y 200 f13), (h6, aI Y 800 f14)]) (va_A [(h0, oC 13 [.ref h1, .ref h2, .int p2, .ref h3, .ref h4, .int (nI k5), .int (nI k6), .int p7, .int p8, .int p9, .int (nI k10), .int p11, .long q12, .ref h5, .ref h6, .int (nI k15), .int (nI k16)]), (h1, aI Y 3640 f0), (h2, aZ Y 2 f1), (h3, aZ Y 80 f3), (h4, aB Y 1600 f4), (h5, aI Y 200 f13), (h6, aI Y 800 f14)] sz)) 0 0 (va_A [(h0, oC 13 [.ref h1, .ref h2, .int p2, .ref h3, .ref h4, .int (nI k5), .int (nI k6), .int p7, .int p8, .int p9, .int (nI k10), .int p11, .long q12, .ref h5, .ref h6, .int (nI k15), .int (nI k16)]), (h1, aI Y 3640 f0), (h2, aZ Y 2 f1), (h3, aZ Y 80 f3), (h4, aB Y 1600 f4), (h5, aI Y 200 f13), (h6, aI Y 800 f14)] sz) :=
  met_of  (by decide +kernel) (Nat.le_of_ble_eq_true rfl) (fun p e s m args below meth c B hin hsz => by
    have B : VB p s m args meth c D Y (va_A [(h0, oC 13 [.ref h1, .ref h2, .int p2, .ref h3, .ref h4, .int (nI k5), .int (nI k6), .int p7, .int p8, .int p9, .int (nI k10), .int p11, .long q12, .ref h5, .ref h6, .int (nI k15), .int (nI k16)]), (h1, aI Y 3640 f0), (h2, aZ Y 2 f1), (h3, aZ Y 80 f3), (h4, aB Y 1600 f4), (h5, aI Y 200 f13), (h6, aI Y 800 f14)] sz) cX12_areEqual 3 RX12 (some .boolean) := B
    have hq_s0 := hs0.1
    have hq_s1 := hs1.1
    refine V_aload_n 0 B dX12_areEqual_0 0 rfl ?_
    refine V_get 1 B gf_RX12_9 0 rfl rfl dX12_areEqual_1 ?_
    refine V_iload_n 4 B dX12_areEqual_4 1 rfl ?_
    have x0 : (gN f0 s0) ≤ 4 := gN_le HI (by omega) hs0.2.1
    refine V_iald 5 B (v := (nI (gN f0 s0))) 1 rfl (vp_in_nI (n := s0) (by omega) (by decide)) dX12_areEqual_5 (by rw [nI_clamp (show s0 < 2 ^ 31 by omega)]; exact gN_eq HI (by omega) hs0.2.1) ?_
    refine V_aload_n 6 B dX12_areEqual_6 0 rfl ?_
    refine V_get 7 B gf_RX12_9 0 rfl rfl dX12_areEqual_7 ?_
    refine V_iload_n 10 B dX12_areEqual_10 2 rfl ?_
    have x1 : (gN f0 s1) ≤ 4 := gN_le HI (by omega) hs1.2.1
    refine V_iald 11 B (v := (nI (gN f0 s1))) 1 rfl (vp_in_nI (n := s1) (by omega) (by decide)) dX12_areEqual_11 (by rw [nI_clamp (show s1 < 2 ^ 31 by omega)]; exact gN_eq HI (by omega) hs1.2.1) ?_
    refine V_icmp_ne 12 B 34 dX12_areEqual_12 (by decide) (fun kk2 => ?_) (fun kk2 => ?_)
    ·
      have x3 := n_ne (a := (gN f0 s0)) (b := (gN f0 s1)) kk2
      refine V_iconst 34 B (v := 0) dX12_areEqual_34 (by decide +kernel) ?_
      exact V_zret 35 B rfl dX12_areEqual_35 (mkW [] [] [] [] [] []) (Or.inl rfl) rfl
    ·
      have x4 := n_eq (a := (gN f0 s0)) (b := (gN f0 s1)) kk2 (by omega) (by omega)
      refine V_aload_n 15 B dX12_areEqual_15 0 rfl ?_
      refine V_iload_n 16 B dX12_areEqual_16 1 rfl ?_
      refine V_iload_n 17 B dX12_areEqual_17 2 rfl ?_
      refine V_cvi 18 B (st := []) (As := [.int (nI s0), .int (nI s1)]) (fun sz => rX12_commonOf l D Y h0 h1 h2 h3 h4 h5 h6 p2 k5 k6 p7 p8 p9 k10 p11 q12 k15 k16 f0 f1 f3 f4 f13 f14 ph HI (by omega) HP s0 s1 hs0 hs1 sz) glV_RX12_62 ⟨rfl, rfl⟩ ⟨(Nat.le_of_ble_eq_true rfl), (Nat.le_of_ble_eq_true rfl)⟩ ⟨(Nat.le_of_ble_eq_true rfl), (Nat.le_of_ble_eq_true rfl)⟩ [0, 0, 0, 0, 0, 0, 0] rfl 13 0 rfl rfl rfl rfl (Nat.le_of_ble_eq_true rfl) rfl (fun _ _ _ => rfl) dX12_areEqual_18 (fun j5 u6 w7 => ?_)
      refine V_ws [(h0, oC 13 [.ref h1, .ref h2, .int p2, .ref h3, .ref h4, .int (nI k5), .int (nI k6), .int p7, .int p8, .int p9, .int (nI k10), .int p11, .long q12, .ref h5, .ref h6, .int (nI k15), .int (nI k16)]), (h1, aI Y 3640 f0), (h2, aZ Y 2 f1), (h3, aZ Y 80 f3), (h4, aB Y 1600 f4), (h5, aI Y 200 f13), (h6, aI Y 800 f14)] rfl ?_
      have x8 := w7
      clear w7
      obtain rfl := x8
      have x9 := kmV_le f0 s0 s1
      have x10 : gN f0 s0 ≤ 4 := gN_le HI (by omega) hs0.2.1
      have x11 : gN f0 s1 ≤ 4 := gN_le HI (by omega) hs1.2.1
      refine V_aload_n 21 B dX12_areEqual_21 0 rfl ?_
      refine V_get 22 B gf_RX12_9 0 rfl rfl dX12_areEqual_22 ?_
      refine V_iload_n 25 B dX12_areEqual_25 1 rfl ?_
      have x12 : (gN f0 s0) ≤ 4 := gN_le HI (by omega) hs0.2.1
      refine V_iald 26 B (v := (nI (gN f0 s0))) 1 rfl (vp_in_nI (n := s0) (by omega) (by decide)) dX12_areEqual_26 (by rw [nI_clamp (show s0 < 2 ^ 31 by omega)]; exact gN_eq HI (by omega) hs0.2.1) ?_
      refine V_icmp_ne 27 B 34 dX12_areEqual_27 (by decide) (fun kk13 => ?_) (fun kk13 => ?_)
      ·
        have x14 := n_ne (a := (kmV f0 s0 s1)) (b := (gN f0 s0)) kk13
        refine V_iconst 34 B (v := 0) dX12_areEqual_34 (by decide +kernel) ?_
        exact V_zret 35 B rfl dX12_areEqual_35 (mkW [] [] [] [] [] []) (Or.inl rfl) rfl
      ·
        have x15 := n_eq (a := (kmV f0 s0 s1)) (b := (gN f0 s0)) kk13 (by omega) (by omega)
        refine V_iconst 30 B (v := 1) dX12_areEqual_30 (by decide +kernel) ?_
        refine V_goto 31 B 35 dX12_areEqual_31 (by decide) ?_
        exact V_zret 35 B rfl dX12_areEqual_35 (mkW [] [] [] [] [] []) (Or.inr rfl) rfl)
