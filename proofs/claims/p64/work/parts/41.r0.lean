theorem dX12_inRange_0 : decode cX12_inRange 0 = .ok (.lload_n 0, 1) := by decide +kernel
theorem dX12_inRange_1 : decode cX12_inRange 1 = .ok (.lload_n 2, 1) := by decide +kernel
theorem dX12_inRange_2 : decode cX12_inRange 2 = .ok (.lcmp, 1) := by decide +kernel
theorem dX12_inRange_3 : decode cX12_inRange 3 = .ok (.ifCond .lt 14, 3) := by decide +kernel
theorem dX12_inRange_6 : decode cX12_inRange 6 = .ok (.lload_n 0, 1) := by decide +kernel
theorem dX12_inRange_7 : decode cX12_inRange 7 = .ok (.lload 4, 2) := by decide +kernel
theorem dX12_inRange_9 : decode cX12_inRange 9 = .ok (.lcmp, 1) := by decide +kernel
theorem dX12_inRange_10 : decode cX12_inRange 10 = .ok (.ifCond .gt 7, 3) := by decide +kernel
theorem dX12_inRange_13 : decode cX12_inRange 13 = .ok (.iconst 1, 1) := by decide +kernel
theorem dX12_inRange_14 : decode cX12_inRange 14 = .ok (.goto 4, 3) := by decide +kernel
theorem dX12_inRange_17 : decode cX12_inRange 17 = .ok (.iconst 0, 1) := by decide +kernel
theorem dX12_inRange_18 : decode cX12_inRange 18 = .ok (.ireturn, 1) := by decide +kernel
set_option maxHeartbeats 4000000 in
theorem rX12_inRange (l : Launch) (D : va_G) (Y : Nat → ClassId) (v lo hi : Int64) (sz : Nat) : Met l yX12_inRange (WSm yX12_inRange cX12_inRange 6 (some .boolean)) (mkR 0 0 0 0) (PreC D Y [.long v, .long lo, .long hi] [] sz) (QI D (fun (r : Int32) (_ : WU) => (r = 0 ∧ (v.toInt < lo.toInt ∨ hi.toInt < v.toInt)) ∨ (r = 1 ∧ lo.toInt ≤ v.toInt ∧ v.toInt ≤ hi.toInt)) (fun (_ : WU) => []) (va_A [] sz)) 0 0 (va_A [] sz) :=
  met_of (by decide +kernel) (Nat.le_of_ble_eq_true rfl) (fun p e s m args below meth c B hin hsz => by
    have B : VB p s m args meth c D Y (va_A [] sz) cX12_inRange 6 RX12 (some .boolean) := B
    refine V_lload_n 0 B dX12_inRange_0 0 rfl ?_
    refine V_lload_n 1 B dX12_inRange_1 1 rfl ?_
    refine V_lcmp 2 B dX12_inRange_2 rfl ?_
    refine V_if_lt 3 B 17 dX12_inRange_3 (by decide) (fun k1 => ?_) (fun k1 => ?_)
    · refine V_iconst 17 B (v := 0) dX12_inRange_17 (by decide +kernel) ?_
      exact V_zret 18 B rfl dX12_inRange_18 (mkW [] [] [] [] [] []) (Or.inl ⟨rfl, Or.inl (lc_ltL k1)⟩) rfl
    · refine V_lload_n 6 B dX12_inRange_6 0 rfl ?_
      refine V_lload 7 B dX12_inRange_7 2 rfl ?_
      refine V_lcmp 9 B dX12_inRange_9 rfl ?_
      refine V_if_gt 10 B 17 dX12_inRange_10 (by decide) (fun k2 => ?_) (fun k2 => ?_)
      · refine V_iconst 17 B (v := 0) dX12_inRange_17 (by decide +kernel) ?_
        exact V_zret 18 B rfl dX12_inRange_18 (mkW [] [] [] [] [] []) (Or.inl ⟨rfl, Or.inr (lc_gtL k2)⟩) rfl
      · refine V_iconst 13 B (v := 1) dX12_inRange_13 (by decide +kernel) ?_
        refine V_goto 14 B 18 dX12_inRange_14 (by decide) ?_
        exact V_zret 18 B rfl dX12_inRange_18 (mkW [] [] [] [] [] []) (Or.inr ⟨rfl, lc_nltL k1, lc_ngtL k2⟩) rfl)
theorem dX12_clearBlock_0 : decode cX12_clearBlock 0 = .ok (.iconst 0, 1) := by decide +kernel
theorem dX12_clearBlock_1 : decode cX12_clearBlock 1 = .ok (.istore_n 2, 1) := by decide +kernel
theorem dX12_clearBlock_2 : decode cX12_clearBlock 2 = .ok (.iload_n 2, 1) := by decide +kernel
theorem dX12_clearBlock_3 : decode cX12_clearBlock 3 = .ok (.sipush 906, 3) := by decide +kernel
theorem dX12_clearBlock_6 : decode cX12_clearBlock 6 = .ok (.if_icmp .ge 22, 3) := by decide +kernel
theorem dX12_clearBlock_9 : decode cX12_clearBlock 9 = .ok (.aload_n 0, 1) := by decide +kernel
theorem dX12_clearBlock_10 : decode cX12_clearBlock 10 = .ok (.getfield 9, 3) := by decide +kernel
theorem dX12_clearBlock_13 : decode cX12_clearBlock 13 = .ok (.sipush 906, 3) := by decide +kernel
theorem dX12_clearBlock_16 : decode cX12_clearBlock 16 = .ok (.iload_n 1, 1) := by decide +kernel
theorem dX12_clearBlock_17 : decode cX12_clearBlock 17 = .ok (.imul, 1) := by decide +kernel
theorem dX12_clearBlock_18 : decode cX12_clearBlock 18 = .ok (.iload_n 2, 1) := by decide +kernel
theorem dX12_clearBlock_19 : decode cX12_clearBlock 19 = .ok (.iadd, 1) := by decide +kernel
theorem dX12_clearBlock_20 : decode cX12_clearBlock 20 = .ok (.iconst 0, 1) := by decide +kernel
theorem dX12_clearBlock_21 : decode cX12_clearBlock 21 = .ok (.iastore, 1) := by decide +kernel
theorem dX12_clearBlock_22 : decode cX12_clearBlock 22 = .ok (.iinc 2 1, 3) := by decide +kernel
theorem dX12_clearBlock_25 : decode cX12_clearBlock 25 = .ok (.goto (-23), 3) := by decide +kernel
theorem dX12_clearBlock_28 : decode cX12_clearBlock 28 = .ok (.aload_n 0, 1) := by decide +kernel
theorem dX12_clearBlock_29 : decode cX12_clearBlock 29 = .ok (.getfield 9, 3) := by decide +kernel
theorem dX12_clearBlock_32 : decode cX12_clearBlock 32 = .ok (.sipush 906, 3) := by decide +kernel
theorem dX12_clearBlock_35 : decode cX12_clearBlock 35 = .ok (.iload_n 1, 1) := by decide +kernel
theorem dX12_clearBlock_36 : decode cX12_clearBlock 36 = .ok (.imul, 1) := by decide +kernel
theorem dX12_clearBlock_37 : decode cX12_clearBlock 37 = .ok (.iconst 0, 1) := by decide +kernel
theorem dX12_clearBlock_38 : decode cX12_clearBlock 38 = .ok (.iadd, 1) := by decide +kernel
theorem dX12_clearBlock_39 : decode cX12_clearBlock 39 = .ok (.iconst 1, 1) := by decide +kernel
theorem dX12_clearBlock_40 : decode cX12_clearBlock 40 = .ok (.iastore, 1) := by decide +kernel
theorem dX12_clearBlock_41 : decode cX12_clearBlock 41 = .ok (.aload_n 0, 1) := by decide +kernel
theorem dX12_clearBlock_42 : decode cX12_clearBlock 42 = .ok (.getfield 9, 3) := by decide +kernel
theorem dX12_clearBlock_45 : decode cX12_clearBlock 45 = .ok (.sipush 906, 3) := by decide +kernel
theorem dX12_clearBlock_48 : decode cX12_clearBlock 48 = .ok (.iload_n 1, 1) := by decide +kernel
theorem dX12_clearBlock_49 : decode cX12_clearBlock 49 = .ok (.imul, 1) := by decide +kernel
theorem dX12_clearBlock_50 : decode cX12_clearBlock 50 = .ok (.bipush 11, 2) := by decide +kernel
theorem dX12_clearBlock_52 : decode cX12_clearBlock 52 = .ok (.iadd, 1) := by decide +kernel
theorem dX12_clearBlock_53 : decode cX12_clearBlock 53 = .ok (.iconst (-1), 1) := by decide +kernel
theorem dX12_clearBlock_54 : decode cX12_clearBlock 54 = .ok (.iastore, 1) := by decide +kernel
theorem dX12_clearBlock_55 : decode cX12_clearBlock 55 = .ok (.aload_n 0, 1) := by decide +kernel
theorem dX12_clearBlock_56 : decode cX12_clearBlock 56 = .ok (.getfield 9, 3) := by decide +kernel
theorem dX12_clearBlock_59 : decode cX12_clearBlock 59 = .ok (.sipush 906, 3) := by decide +kernel
theorem dX12_clearBlock_62 : decode cX12_clearBlock 62 = .ok (.iload_n 1, 1) := by decide +kernel
theorem dX12_clearBlock_63 : decode cX12_clearBlock 63 = .ok (.imul, 1) := by decide +kernel
theorem dX12_clearBlock_64 : decode cX12_clearBlock 64 = .ok (.bipush 16, 2) := by decide +kernel
theorem dX12_clearBlock_66 : decode cX12_clearBlock 66 = .ok (.iadd, 1) := by decide +kernel
theorem dX12_clearBlock_67 : decode cX12_clearBlock 67 = .ok (.iconst (-1), 1) := by decide +kernel
theorem dX12_clearBlock_68 : decode cX12_clearBlock 68 = .ok (.iastore, 1) := by decide +kernel
theorem dX12_clearBlock_69 : decode cX12_clearBlock 69 = .ok (.return_, 1) := by decide +kernel
theorem inw_X12 : ∀ w ∈ u_ws RX12 TX12 17, w ∈ lw_good := by decide +kernel
theorem gf_RX12_9 : GF RX12 9 13 0 := ⟨RX12, TX12, 17, rfl, inw_X12, Nat.le_of_ble_eq_true rfl, (mT7 137 rfl rfl)⟩
theorem dX12_copyBlock_0 : decode cX12_copyBlock 0 = .ok (.iconst 0, 1) := by decide +kernel
theorem dX12_copyBlock_1 : decode cX12_copyBlock 1 = .ok (.istore_n 3, 1) := by decide +kernel
theorem dX12_copyBlock_2 : decode cX12_copyBlock 2 = .ok (.iload_n 3, 1) := by decide +kernel
theorem dX12_copyBlock_3 : decode cX12_copyBlock 3 = .ok (.sipush 906, 3) := by decide +kernel
theorem dX12_copyBlock_6 : decode cX12_copyBlock 6 = .ok (.if_icmp .ge 33, 3) := by decide +kernel
theorem dX12_copyBlock_9 : decode cX12_copyBlock 9 = .ok (.aload_n 0, 1) := by decide +kernel
theorem dX12_copyBlock_10 : decode cX12_copyBlock 10 = .ok (.getfield 9, 3) := by decide +kernel
theorem dX12_copyBlock_13 : decode cX12_copyBlock 13 = .ok (.sipush 906, 3) := by decide +kernel
theorem dX12_copyBlock_16 : decode cX12_copyBlock 16 = .ok (.iload_n 2, 1) := by decide +kernel
theorem dX12_copyBlock_17 : decode cX12_copyBlock 17 = .ok (.imul, 1) := by decide +kernel
theorem dX12_copyBlock_18 : decode cX12_copyBlock 18 = .ok (.iload_n 3, 1) := by decide +kernel
theorem dX12_copyBlock_19 : decode cX12_copyBlock 19 = .ok (.iadd, 1) := by decide +kernel
theorem dX12_copyBlock_20 : decode cX12_copyBlock 20 = .ok (.aload_n 0, 1) := by decide +kernel
theorem dX12_copyBlock_21 : decode cX12_copyBlock 21 = .ok (.getfield 9, 3) := by decide +kernel
theorem dX12_copyBlock_24 : decode cX12_copyBlock 24 = .ok (.sipush 906, 3) := by decide +kernel
theorem dX12_copyBlock_27 : decode cX12_copyBlock 27 = .ok (.iload_n 1, 1) := by decide +kernel
theorem dX12_copyBlock_28 : decode cX12_copyBlock 28 = .ok (.imul, 1) := by decide +kernel
theorem dX12_copyBlock_29 : decode cX12_copyBlock 29 = .ok (.iload_n 3, 1) := by decide +kernel
theorem dX12_copyBlock_30 : decode cX12_copyBlock 30 = .ok (.iadd, 1) := by decide +kernel
theorem dX12_copyBlock_31 : decode cX12_copyBlock 31 = .ok (.iaload, 1) := by decide +kernel
theorem dX12_copyBlock_32 : decode cX12_copyBlock 32 = .ok (.iastore, 1) := by decide +kernel
theorem dX12_copyBlock_33 : decode cX12_copyBlock 33 = .ok (.iinc 3 1, 3) := by decide +kernel
theorem dX12_copyBlock_36 : decode cX12_copyBlock 36 = .ok (.goto (-34), 3) := by decide +kernel
theorem dX12_copyBlock_39 : decode cX12_copyBlock 39 = .ok (.return_, 1) := by decide +kernel
def zrB (b i : Nat) (f : Nat → Int32) : Nat → Int32 := fun k => if 906 * b ≤ k ∧ k < 906 * b + i then 0 else f k
def clB (b : Nat) (f : Nat → Int32) : Nat → Int32 := upd (upd (upd (zrB b 906 f) (906 * b + 0) 1) (906 * b + 11) (-1)) (906 * b + 16) (-1)
def cpB (a b i : Nat) (f : Nat → Int32) : Nat → Int32 := fun k => if 906 * b ≤ k ∧ k < 906 * b + i then f (906 * a + (k - 906 * b)) else f k
theorem zrB_0 (b : Nat) (f : Nat → Int32) : zrB b 0 f = f := by
  funext k
  unfold zrB
  rw [if_neg (by omega)]
theorem zrB_s (b i : Nat) (f : Nat → Int32) (h : 906 * b + i < 2 ^ 31) : upd (zrB b i f) (nI (906 * b + i)).toNatClampNeg 0 = zrB b (i + 1) f := by
  rw [nI_clamp h]
  funext k
  unfold upd zrB
  by_cases h1 : k = 906 * b + i
  · rw [if_pos h1, if_pos (by omega)]
  · rw [if_neg h1]
    by_cases h2 : 906 * b ≤ k ∧ k < 906 * b + i
    · rw [if_pos h2, if_pos (by omega)]
    · rw [if_neg h2, if_neg (by omega)]
theorem cpB_0 (a b : Nat) (f : Nat → Int32) : cpB a b 0 f = f := by
  funext k
  unfold cpB
  rw [if_neg (by omega)]
theorem cpB_r (a b i : Nat) (f : Nat → Int32) (h : 906 * a + i < 2 ^ 31) (hi : i < 906) (hab : a ≠ b) : cpB a b i f (nI (906 * a + i)).toNatClampNeg = f (906 * a + i) := by
  rw [nI_clamp h]
  unfold cpB
  rw [if_neg (by omega)]
theorem cpB_s (a b i : Nat) (f : Nat → Int32) (h : 906 * b + i < 2 ^ 31) : upd (cpB a b i f) (nI (906 * b + i)).toNatClampNeg (f (906 * a + i)) = cpB a b (i + 1) f := by
  rw [nI_clamp h]
  funext k
  unfold upd cpB
  by_cases h1 : k = 906 * b + i
  · rw [if_pos h1, if_pos (by omega), show k - 906 * b = i by omega]
  · rw [if_neg h1]
    by_cases h2 : 906 * b ≤ k ∧ k < 906 * b + i
    · rw [if_pos h2, if_pos (by omega)]
    · rw [if_neg h2, if_neg (by omega)]
set_option maxRecDepth 100000 in
set_option maxHeartbeats 4000000 in
theorem mX12_clearBlock_m (l : Launch) (D : va_G) (Y : Nat → ClassId) (h0 h1 : Nat) (v1 v2 v3 v4 v5 v6 v7 v8 v9 v10 v11 v12 v13 v14 v15 v16 : Value) (f : Nat → Int32) (b : Nat) (hb4 : b ≤ 3) (sz : Nat) : Met l yX12_clearBlock (WSm yX12_clearBlock cX12_clearBlock 3 none) (mkR 0 0 0 0) (PreC D Y [.ref h0, .int (nI b)] [(h0, oC 13 [.ref h1, v1, v2, v3, v4, v5, v6, v7, v8, v9, v10, v11, v12, v13, v14, v15, v16]), (h1, aI Y 3640 (f))] sz) (QV D (fun (_ : Unit) => True) (fun (_ : Unit) => [(h0, oC 13 [.ref h1, v1, v2, v3, v4, v5, v6, v7, v8, v9, v10, v11, v12, v13, v14, v15, v16]), (h1, aI Y 3640 (clB b f))]) (va_A [(h0, oC 13 [.ref h1, v1, v2, v3, v4, v5, v6, v7, v8, v9, v10, v11, v12, v13, v14, v15, v16]), (h1, aI Y 3640 (f))] sz)) 0 0 (va_A [(h0, oC 13 [.ref h1, v1, v2, v3, v4, v5, v6, v7, v8, v9, v10, v11, v12, v13, v14, v15, v16]), (h1, aI Y 3640 (f))] sz) :=
  met_of (by decide +kernel) (Nat.le_of_ble_eq_true rfl) (fun p e s m args below meth c B hin hsz => by
    have B : VB p s m args meth c D Y (va_A [(h0, oC 13 [.ref h1, v1, v2, v3, v4, v5, v6, v7, v8, v9, v10, v11, v12, v13, v14, v15, v16]), (h1, aI Y 3640 (f))] sz) cX12_clearBlock 3 RX12 none := B
    refine V_iconst 0 B (v := 0) dX12_clearBlock_0 (by decide +kernel) ?_
    refine V_istore_n 1 B (lv2 := [(2, .int (0)), (0, .ref h0), (1, .int (nI b))]) dX12_clearBlock_1 (by decide) rfl ?_
    have K : ∀ n i : Nat, i + n = 906 → V p l e (mkR 0 0 0 0) s m args below meth c D (va_A [(h0, oC 13 [.ref h1, v1, v2, v3, v4, v5, v6, v7, v8, v9, v10, v11, v12, v13, v14, v15, v16]), (h1, aI Y 3640 (f))] sz) 3 0 0 (MQ below (QV D (fun (_ : Unit) => True) (fun (_ : Unit) => [(h0, oC 13 [.ref h1, v1, v2, v3, v4, v5, v6, v7, v8, v9, v10, v11, v12, v13, v14, v15, v16]), (h1, aI Y 3640 (clB b f))]) (va_A [(h0, oC 13 [.ref h1, v1, v2, v3, v4, v5, v6, v7, v8, v9, v10, v11, v12, v13, v14, v15, v16]), (h1, aI Y 3640 (f))] sz)) args s 0 0 (va_A [(h0, oC 13 [.ref h1, v1, v2, v3, v4, v5, v6, v7, v8, v9, v10, v11, v12, v13, v14, v15, v16]), (h1, aI Y 3640 (f))] sz)) 2 [(2, .int (nI i)), (0, .ref h0), (1, .int (nI b))] [] [(h0, oC 13 [.ref h1, v1, v2, v3, v4, v5, v6, v7, v8, v9, v10, v11, v12, v13, v14, v15, v16]), (h1, aI Y 3640 (zrB b i f))] := by
      intro n
      induction n with
      | zero =>
        intro i hi
        obtain rfl : i = 906 := by omega
        refine V_iload_n 2 B dX12_clearBlock_2 0 rfl ?_
        refine V_sipush 3 B (v := 906) dX12_clearBlock_3 (by decide +kernel) ?_
        refine V_icmp_ge_t 6 B 28 dX12_clearBlock_6 (by decide) (by decide +kernel) ?_
        refine V_aload_n 28 B dX12_clearBlock_28 1 rfl ?_
        refine V_get 29 B gf_RX12_9 0 rfl rfl dX12_clearBlock_29 ?_
        refine V_sipush 32 B (v := 906) dX12_clearBlock_32 (by decide +kernel) ?_
        refine V_iload_n 35 B dX12_clearBlock_35 2 rfl ?_
        refine V_imul 36 B (v := nI (906 * b)) dX12_clearBlock_36 (pk_mul 906 b) ?_
        refine V_iconst 37 B (v := 0) dX12_clearBlock_37 (by decide +kernel) ?_
        refine V_iadd 38 B (v := nI (906 * b + 0)) dX12_clearBlock_38 (nI_add _ 0) ?_
        refine V_iconst 39 B (v := 1) dX12_clearBlock_39 (by decide +kernel) ?_
        refine V_iast 40 B 1 rfl (vp_in_nI (by omega) (by decide)) dX12_clearBlock_40 [(h0, oC 13 [.ref h1, v1, v2, v3, v4, v5, v6, v7, v8, v9, v10, v11, v12, v13, v14, v15, v16]), (h1, aI Y 3640 (upd (zrB b 906 f) (906 * b + 0) 1))] (by rw [nI_clamp (by omega)]; rfl) ?_
        refine V_aload_n 41 B dX12_clearBlock_41 1 rfl ?_
        refine V_get 42 B gf_RX12_9 0 rfl rfl dX12_clearBlock_42 ?_
        refine V_sipush 45 B (v := 906) dX12_clearBlock_45 (by decide +kernel) ?_
        refine V_iload_n 48 B dX12_clearBlock_48 2 rfl ?_
        refine V_imul 49 B (v := nI (906 * b)) dX12_clearBlock_49 (pk_mul 906 b) ?_
        refine V_bipush 50 B (v := 11) dX12_clearBlock_50 (by decide +kernel) ?_
        refine V_iadd 52 B (v := nI (906 * b + 11)) dX12_clearBlock_52 (nI_add _ 11) ?_
        refine V_iconst 53 B (v := (-1)) dX12_clearBlock_53 (by decide +kernel) ?_
        refine V_iast 54 B 1 rfl (vp_in_nI (by omega) (by decide)) dX12_clearBlock_54 [(h0, oC 13 [.ref h1, v1, v2, v3, v4, v5, v6, v7, v8, v9, v10, v11, v12, v13, v14, v15, v16]), (h1, aI Y 3640 (upd (upd (zrB b 906 f) (906 * b + 0) 1) (906 * b + 11) (-1)))] (by rw [nI_clamp (by omega)]; rfl) ?_
        refine V_aload_n 55 B dX12_clearBlock_55 1 rfl ?_
        refine V_get 56 B gf_RX12_9 0 rfl rfl dX12_clearBlock_56 ?_
        refine V_sipush 59 B (v := 906) dX12_clearBlock_59 (by decide +kernel) ?_
        refine V_iload_n 62 B dX12_clearBlock_62 2 rfl ?_
        refine V_imul 63 B (v := nI (906 * b)) dX12_clearBlock_63 (pk_mul 906 b) ?_
        refine V_bipush 64 B (v := 16) dX12_clearBlock_64 (by decide +kernel) ?_
        refine V_iadd 66 B (v := nI (906 * b + 16)) dX12_clearBlock_66 (nI_add _ 16) ?_
        refine V_iconst 67 B (v := (-1)) dX12_clearBlock_67 (by decide +kernel) ?_
        refine V_iast 68 B 1 rfl (vp_in_nI (by omega) (by decide)) dX12_clearBlock_68 [(h0, oC 13 [.ref h1, v1, v2, v3, v4, v5, v6, v7, v8, v9, v10, v11, v12, v13, v14, v15, v16]), (h1, aI Y 3640 (upd (upd (upd (zrB b 906 f) (906 * b + 0) 1) (906 * b + 11) (-1)) (906 * b + 16) (-1)))] (by rw [nI_clamp (by omega)]; rfl) ?_
        exact V_vret 69 B dX12_clearBlock_69 () trivial rfl
      | succ n ih =>
        intro i hi
        refine V_iload_n 2 B dX12_clearBlock_2 0 rfl ?_
        refine V_sipush 3 B (v := 906) dX12_clearBlock_3 (by decide +kernel) ?_
        refine V_icmp_ge_f 6 B 28 dX12_clearBlock_6 (by decide) (nI_ge (a := i) (b := 906) (by omega) (by decide)) ?_
        refine V_aload_n 9 B dX12_clearBlock_9 1 rfl ?_
        refine V_get 10 B gf_RX12_9 0 rfl rfl dX12_clearBlock_10 ?_
        refine V_sipush 13 B (v := 906) dX12_clearBlock_13 (by decide +kernel) ?_
        refine V_iload_n 16 B dX12_clearBlock_16 2 rfl ?_
        refine V_imul 17 B (v := nI (906 * b)) dX12_clearBlock_17 (pk_mul 906 b) ?_
        refine V_iload_n 18 B dX12_clearBlock_18 0 rfl ?_
        refine V_iadd 19 B (v := nI (906 * b + i)) dX12_clearBlock_19 (nI_add _ _) ?_
        refine V_iconst 20 B (v := 0) dX12_clearBlock_20 (by decide +kernel) ?_
        refine V_iast 21 B 1 rfl (vp_in_nI (by omega) (by decide)) dX12_clearBlock_21 [(h0, oC 13 [.ref h1, v1, v2, v3, v4, v5, v6, v7, v8, v9, v10, v11, v12, v13, v14, v15, v16]), (h1, aI Y 3640 (zrB b (i + 1) f))] (by rw [← zrB_s b i f (by omega)]; rfl) ?_
        refine V_iinc 22 B (v := nI (i + 1)) (lv2 := [(2, .int (nI (i + 1))), (0, .ref h0), (1, .int (nI b))]) dX12_clearBlock_22 0 rfl (nI_1 i) (by decide) rfl ?_
        refine V_goto 25 B 2 dX12_clearBlock_25 (by decide) ?_
        exact ih (i + 1) (by omega)
    have K0 := K 906 0 (by omega)
    rw [zrB_0] at K0
    exact K0)
set_option maxRecDepth 100000 in
set_option maxHeartbeats 4000000 in
theorem mX12_copyBlock_m (l : Launch) (D : va_G) (Y : Nat → ClassId) (h0 h1 : Nat) (v1 v2 v3 v4 v5 v6 v7 v8 v9 v10 v11 v12 v13 v14 v15 v16 : Value) (f : Nat → Int32) (a b : Nat) (ha4 : a ≤ 3) (hb4 : b ≤ 3) (hab : a ≠ b) (sz : Nat) : Met l yX12_copyBlock (WSm yX12_copyBlock cX12_copyBlock 4 none) (mkR 0 0 0 0) (PreC D Y [.ref h0, .int (nI a), .int (nI b)] [(h0, oC 13 [.ref h1, v1, v2, v3, v4, v5, v6, v7, v8, v9, v10, v11, v12, v13, v14, v15, v16]), (h1, aI Y 3640 (f))] sz) (QV D (fun (_ : Unit) => True) (fun (_ : Unit) => [(h0, oC 13 [.ref h1, v1, v2, v3, v4, v5, v6, v7, v8, v9, v10, v11, v12, v13, v14, v15, v16]), (h1, aI Y 3640 (cpB a b 906 f))]) (va_A [(h0, oC 13 [.ref h1, v1, v2, v3, v4, v5, v6, v7, v8, v9, v10, v11, v12, v13, v14, v15, v16]), (h1, aI Y 3640 (f))] sz)) 0 0 (va_A [(h0, oC 13 [.ref h1, v1, v2, v3, v4, v5, v6, v7, v8, v9, v10, v11, v12, v13, v14, v15, v16]), (h1, aI Y 3640 (f))] sz) :=
  met_of (by decide +kernel) (Nat.le_of_ble_eq_true rfl) (fun p e s m args below meth c B hin hsz => by
    have B : VB p s m args meth c D Y (va_A [(h0, oC 13 [.ref h1, v1, v2, v3, v4, v5, v6, v7, v8, v9, v10, v11, v12, v13, v14, v15, v16]), (h1, aI Y 3640 (f))] sz) cX12_copyBlock 4 RX12 none := B
    refine V_iconst 0 B (v := 0) dX12_copyBlock_0 (by decide +kernel) ?_
    refine V_istore_n 1 B (lv2 := [(3, .int (0)), (0, .ref h0), (1, .int (nI a)), (2, .int (nI b))]) dX12_copyBlock_1 (by decide) rfl ?_
    have K : ∀ n i : Nat, i + n = 906 → V p l e (mkR 0 0 0 0) s m args below meth c D (va_A [(h0, oC 13 [.ref h1, v1, v2, v3, v4, v5, v6, v7, v8, v9, v10, v11, v12, v13, v14, v15, v16]), (h1, aI Y 3640 (f))] sz) 4 0 0 (MQ below (QV D (fun (_ : Unit) => True) (fun (_ : Unit) => [(h0, oC 13 [.ref h1, v1, v2, v3, v4, v5, v6, v7, v8, v9, v10, v11, v12, v13, v14, v15, v16]), (h1, aI Y 3640 (cpB a b 906 f))]) (va_A [(h0, oC 13 [.ref h1, v1, v2, v3, v4, v5, v6, v7, v8, v9, v10, v11, v12, v13, v14, v15, v16]), (h1, aI Y 3640 (f))] sz)) args s 0 0 (va_A [(h0, oC 13 [.ref h1, v1, v2, v3, v4, v5, v6, v7, v8, v9, v10, v11, v12, v13, v14, v15, v16]), (h1, aI Y 3640 (f))] sz)) 2 [(3, .int (nI i)), (0, .ref h0), (1, .int (nI a)), (2, .int (nI b))] [] [(h0, oC 13 [.ref h1, v1, v2, v3, v4, v5, v6, v7, v8, v9, v10, v11, v12, v13, v14, v15, v16]), (h1, aI Y 3640 (cpB a b i f))] := by
      intro n
      induction n with
      | zero =>
        intro i hi
        obtain rfl : i = 906 := by omega
        refine V_iload_n 2 B dX12_copyBlock_2 0 rfl ?_
        refine V_sipush 3 B (v := 906) dX12_copyBlock_3 (by decide +kernel) ?_
        refine V_icmp_ge_t 6 B 39 dX12_copyBlock_6 (by decide) (by decide +kernel) ?_
        exact V_vret 39 B dX12_copyBlock_39 () trivial rfl
      | succ n ih =>
        intro i hi
        refine V_iload_n 2 B dX12_copyBlock_2 0 rfl ?_
        refine V_sipush 3 B (v := 906) dX12_copyBlock_3 (by decide +kernel) ?_
        refine V_icmp_ge_f 6 B 39 dX12_copyBlock_6 (by decide) (nI_ge (a := i) (b := 906) (by omega) (by decide)) ?_
        refine V_aload_n 9 B dX12_copyBlock_9 1 rfl ?_
        refine V_get 10 B gf_RX12_9 0 rfl rfl dX12_copyBlock_10 ?_
        refine V_sipush 13 B (v := 906) dX12_copyBlock_13 (by decide +kernel) ?_
        refine V_iload_n 16 B dX12_copyBlock_16 3 rfl ?_
        refine V_imul 17 B (v := nI (906 * b)) dX12_copyBlock_17 (pk_mul 906 b) ?_
        refine V_iload_n 18 B dX12_copyBlock_18 0 rfl ?_
        refine V_iadd 19 B (v := nI (906 * b + i)) dX12_copyBlock_19 (nI_add _ _) ?_
        refine V_aload_n 20 B dX12_copyBlock_20 1 rfl ?_
        refine V_get 21 B gf_RX12_9 0 rfl rfl dX12_copyBlock_21 ?_
        refine V_sipush 24 B (v := 906) dX12_copyBlock_24 (by decide +kernel) ?_
        refine V_iload_n 27 B dX12_copyBlock_27 2 rfl ?_
        refine V_imul 28 B (v := nI (906 * a)) dX12_copyBlock_28 (pk_mul 906 a) ?_
        refine V_iload_n 29 B dX12_copyBlock_29 0 rfl ?_
        refine V_iadd 30 B (v := nI (906 * a + i)) dX12_copyBlock_30 (nI_add _ _) ?_
        refine V_iald 31 B (v := f (906 * a + i)) 1 rfl (vp_in_nI (by omega) (by decide)) dX12_copyBlock_31 (cpB_r a b i f (by omega) (by omega) hab) ?_
        refine V_iast 32 B 1 rfl (vp_in_nI (by omega) (by decide)) dX12_copyBlock_32 [(h0, oC 13 [.ref h1, v1, v2, v3, v4, v5, v6, v7, v8, v9, v10, v11, v12, v13, v14, v15, v16]), (h1, aI Y 3640 (cpB a b (i + 1) f))] (by rw [← cpB_s a b i f (by omega)]; rfl) ?_
        refine V_iinc 33 B (v := nI (i + 1)) (lv2 := [(3, .int (nI (i + 1))), (0, .ref h0), (1, .int (nI a)), (2, .int (nI b))]) dX12_copyBlock_33 0 rfl (nI_1 i) (by decide) rfl ?_
        refine V_goto 36 B 2 dX12_copyBlock_36 (by decide) ?_
        exact ih (i + 1) (by omega)
    have K0 := K 906 0 (by omega)
    rw [cpB_0] at K0
    exact K0)
theorem INV_clB {f : Nat → Int32} (h : INV f) {b : Nat} (hb : b ≤ 3) : INV (clB b f) := by
  intro k hk
  unfold clB
  have z : ∀ j, j < 906 → j ≠ 16 → (bdF j).1 ≤ (0 : Int32).toInt ∧ (0 : Int32).toInt ≤ (bdF j).2 := by decide +kernel
  have e1 := bd_blk (j := 0) (by omega) b hb
  have e2 := bd_blk (j := 11) (by omega) b hb
  have e3 := bd_blk (j := 16) (by omega) b hb
  by_cases q3 : k = 906 * b + 16
  · subst q3
    rw [upd_at, e3]
    decide +kernel
  · rw [upd_ne q3]
    by_cases q2 : k = 906 * b + 11
    · subst q2
      rw [upd_at, e2]
      decide +kernel
    · rw [upd_ne q2]
      by_cases q1 : k = 906 * b + 0
      · subst q1
        rw [upd_at, e1]
        decide +kernel
      · rw [upd_ne q1]
        unfold zrB
        by_cases q : 906 * b ≤ k ∧ k < 906 * b + 906
        · rw [if_pos q]
          have e := bd_blk (j := k - 906 * b) (by omega) b hb
          rw [show 906 * b + (k - 906 * b) = k by omega] at e
          rw [e]
          exact z _ (by omega) (by omega)
        · rw [if_neg q]
          exact h k hk
theorem INV_cpB {f : Nat → Int32} (h : INV f) {a b : Nat} (ha : a ≤ 3) (hb : b ≤ 3) : INV (cpB a b 906 f) := by
  intro k hk
  unfold cpB
  by_cases q : 906 * b ≤ k ∧ k < 906 * b + 906
  · rw [if_pos q]
    have e := bd_blk (j := k - 906 * b) (by omega) b hb
    rw [show 906 * b + (k - 906 * b) = k by omega] at e
    rw [e, ← bd_blk (j := k - 906 * b) (by omega) a ha]
    exact h _ (by omega)
  · rw [if_neg q]
    exact h k hk
def ldM (a : Int32) (s : Nat) : Nat := if a = 0 then 0 else 1 + (4000 - s)
theorem ld0 {a : Int32} {s t : Nat} (h : a = 1) : ldM 0 t < ldM a s := by
  subst h
  unfold ldM
  rw [if_pos rfl, if_neg (by decide)]
  omega
theorem ld1 {a : Int32} {s t : Nat} (h : a = 1) (h1 : s < t) (h2 : t ≤ 4000) : ldM 1 t < ldM a s := by
  subst h
  unfold ldM
  rw [if_neg (by decide), if_neg (by decide)]
  omega
theorem PLV_fr {f : Nat → Int32} (h : PLV f) {k : Nat} {v : Int32} (hk : k % 5 < 3) : PLV (upd f k v) := by
  intro r hr
  rw [upd_ne (by omega), upd_ne (by omega)]
  exact h r hr
theorem PLV_3 {f : Nat → Int32} (h : PLV f) {k : Nat} {v : Int32} (hk : k % 5 = 3) (h0 : 0 ≤ v.toInt) (h1 : v.toInt ≤ 160) : PLV (upd f k v) := by
  intro r hr
  by_cases e : 5 * r + 3 = k
  · subst e
    rw [upd_at, upd_ne (by omega)]
    exact ⟨⟨h0, h1⟩, (h r hr).2⟩
  · rw [upd_ne e, upd_ne (by omega)]
    exact h r hr
theorem PLV_4 {f : Nat → Int32} (h : PLV f) {k : Nat} {v : Int32} (hk : k % 5 = 4) (h0 : 0 ≤ v.toInt) (h1 : v.toInt ≤ 4) : PLV (upd f k v) := by
  intro r hr
  by_cases e : 5 * r + 4 = k
  · subst e
    rw [upd_at, upd_ne (by omega)]
    exact ⟨(h r hr).1, h0, h1⟩
  · rw [upd_ne e, upd_ne (by omega)]
    exact h r hr

theorem dX12_saveSnapshot_0 : decode cX12_saveSnapshot 0 = .ok (.aload_n 0, 1) := by decide +kernel
theorem dX12_saveSnapshot_1 : decode cX12_saveSnapshot 1 = .ok (.iconst 0, 1) := by decide +kernel
theorem dX12_saveSnapshot_2 : decode cX12_saveSnapshot 2 = .ok (.putfield 38, 3) := by decide +kernel
theorem gp_RX12_38 : GP RX12 38 13 2 .int false := ⟨RX12, TX12, 17, ⟨rfl, inw_X12, Nat.le_of_ble_eq_true rfl, (mT7 139 rfl rfl)⟩, ⟨tyX12, tyX12_ok⟩, nmX12, rfl, by decide +kernel, fun h => nomatch h⟩
theorem dX12_saveSnapshot_5 : decode cX12_saveSnapshot 5 = .ok (.iload_n 1, 1) := by decide +kernel
theorem dX12_saveSnapshot_6 : decode cX12_saveSnapshot 6 = .ok (.i2l, 1) := by decide +kernel
theorem dX12_saveSnapshot_7 : decode cX12_saveSnapshot 7 = .ok (.lconst 0, 1) := by decide +kernel
theorem dX12_saveSnapshot_8 : decode cX12_saveSnapshot 8 = .ok (.lconst 1, 1) := by decide +kernel
theorem dX12_saveSnapshot_9 : decode cX12_saveSnapshot 9 = .ok (.invokestatic 41, 3) := by decide +kernel
theorem glS_RX12_41 : GLS RX12 41 yX12_inRange cX12_inRange 6 (some .boolean) 3 := ⟨⟨(mT7 194 rfl rfl), (mT7 195 rfl rfl), (mT1 13 rfl rfl), (mT7 196 rfl rfl)⟩, by decide +kernel⟩
theorem dX12_saveSnapshot_12 : decode cX12_saveSnapshot 12 = .ok (.ifCond .ne 5, 3) := by decide +kernel
theorem dX12_saveSnapshot_15 : decode cX12_saveSnapshot 15 = .ok (.iconst 0, 1) := by decide +kernel
theorem dX12_saveSnapshot_16 : decode cX12_saveSnapshot 16 = .ok (.ireturn, 1) := by decide +kernel
theorem dX12_saveSnapshot_17 : decode cX12_saveSnapshot 17 = .ok (.aload_n 0, 1) := by decide +kernel
theorem dX12_saveSnapshot_18 : decode cX12_saveSnapshot 18 = .ok (.iconst 0, 1) := by decide +kernel
theorem dX12_saveSnapshot_19 : decode cX12_saveSnapshot 19 = .ok (.iconst 1, 1) := by decide +kernel
theorem dX12_saveSnapshot_20 : decode cX12_saveSnapshot 20 = .ok (.iload_n 1, 1) := by decide +kernel
theorem dX12_saveSnapshot_21 : decode cX12_saveSnapshot 21 = .ok (.iadd, 1) := by decide +kernel
theorem dX12_saveSnapshot_22 : decode cX12_saveSnapshot 22 = .ok (.invokevirtual 45, 3) := by decide +kernel
theorem glV_RX12_45 : GLV RX12 45 yX12_copyBlock RX12 cX12_copyBlock 4 none 2 := ⟨⟨(mT7 197 rfl rfl), (mT7 199 rfl rfl), (mTs 28 rfl rfl), (mT1 13 rfl rfl), (mT7 200 rfl rfl)⟩, by decide +kernel⟩
theorem dX12_saveSnapshot_25 : decode cX12_saveSnapshot 25 = .ok (.aload_n 0, 1) := by decide +kernel
theorem dX12_saveSnapshot_26 : decode cX12_saveSnapshot 26 = .ok (.getfield 13, 3) := by decide +kernel
theorem gf_RX12_13 : GF RX12 13 13 1 := ⟨RX12, TX12, 17, rfl, inw_X12, Nat.le_of_ble_eq_true rfl, (mT7 138 rfl rfl)⟩
theorem dX12_saveSnapshot_29 : decode cX12_saveSnapshot 29 = .ok (.iload_n 1, 1) := by decide +kernel
theorem dX12_saveSnapshot_30 : decode cX12_saveSnapshot 30 = .ok (.iconst 1, 1) := by decide +kernel
theorem dX12_saveSnapshot_31 : decode cX12_saveSnapshot 31 = .ok (.bastore, 1) := by decide +kernel
theorem dX12_saveSnapshot_32 : decode cX12_saveSnapshot 32 = .ok (.iconst 1, 1) := by decide +kernel
theorem dX12_saveSnapshot_33 : decode cX12_saveSnapshot 33 = .ok (.ireturn, 1) := by decide +kernel
set_option maxRecDepth 100000 in
set_option maxHeartbeats 4000000 in
theorem rX12_saveSnapshot (l : Launch) (D : va_G) (Y : Nat → ClassId) (h0 : Nat) (h1 : Nat) (h2 : Nat) (h3 : Nat) (h4 : Nat) (h5 : Nat) (h6 : Nat) (p2 : Int32) (k5 : Nat) (k6 : Nat) (p7 : Int32) (p8 : Int32) (p9 : Int32) (k10 : Nat) (p11 : Int32) (q12 : Int64) (k15 : Nat) (k16 : Nat) (f0 : Nat → Int32) (f1 : Nat → Int32) (f3 : Nat → Int32) (f4 : Nat → Int32) (f13 : Nat → Int32) (f14 : Nat → Int32) (HI : INV f0) (HL : k5 ≤ 1600) (HP : PLV f13) (s0 : Int32)  (sz : Nat) : Met l yX12_saveSnapshot (WSm yX12_saveSnapshot cX12_saveSnapshot 2 (some .boolean)) (mkR 1 0 0 25) (PreC D Y [.ref h0, .int s0] [(h0, oC 13 [.ref h1, .ref h2, .int p2, .ref h3, .ref h4, .int (nI k5), .int (nI k6), .int p7, .int p8, .int p9, .int (nI k10), .int p11, .long q12, .ref h5, .ref h6, .int (nI k15), .int (nI k16)]), (h1, aI Y 3640 f0), (h2, aZ Y 2 f1), (h3, aZ Y 80 f3), (h4, aB Y 1600 f4), (h5, aI Y 200 f13), (h6, aI Y 800 f14)] sz) (QI D (fun (r : Int32) (u : WU) => (r = 0 ∨ r = 1) ∧ INV (u.2.2.2.1 0)) (fun (u : WU) => [(h0, oC 13 [.ref h1, .ref h2, .int (u.2.1 0), .ref h3, .ref h4, .int (nI k5), .int (nI k6), .int p7, .int p8, .int p9, .int (nI k10), .int p11, .long q12, .ref h5, .ref h6, .int (nI k15), .int (nI k16)]), (h1, aI Y 3640 (u.2.2.2.1 0)), (h2, aZ Y 2 (u.2.2.2.1 1)), (h3, aZ Y 80 f3), (h4, aB Y 1600 f4), (h5, aI Y 200 f13), (h6, aI Y 800 f14)]) (va_A [(h0, oC 13 [.ref h1, .ref h2, .int p2, .ref h3, .ref h4, .int (nI k5), .int (nI k6), .int p7, .int p8, .int p9, .int (nI k10), .int p11, .long q12, .ref h5, .ref h6, .int (nI k15), .int (nI k16)]), (h1, aI Y 3640 f0), (h2, aZ Y 2 f1), (h3, aZ Y 80 f3), (h4, aB Y 1600 f4), (h5, aI Y 200 f13), (h6, aI Y 800 f14)] sz)) 0 0 (va_A [(h0, oC 13 [.ref h1, .ref h2, .int p2, .ref h3, .ref h4, .int (nI k5), .int (nI k6), .int p7, .int p8, .int p9, .int (nI k10), .int p11, .long q12, .ref h5, .ref h6, .int (nI k15), .int (nI k16)]), (h1, aI Y 3640 f0), (h2, aZ Y 2 f1), (h3, aZ Y 80 f3), (h4, aB Y 1600 f4), (h5, aI Y 200 f13), (h6, aI Y 800 f14)] sz) :=
  met_of  (by decide +kernel) (Nat.le_of_ble_eq_true rfl) (fun p e s m args below meth c B hin hsz => by
    have B : VB p s m args meth c D Y (va_A [(h0, oC 13 [.ref h1, .ref h2, .int p2, .ref h3, .ref h4, .int (nI k5), .int (nI k6), .int p7, .int p8, .int p9, .int (nI k10), .int p11, .long q12, .ref h5, .ref h6, .int (nI k15), .int (nI k16)]), (h1, aI Y 3640 f0), (h2, aZ Y 2 f1), (h3, aZ Y 80 f3), (h4, aB Y 1600 f4), (h5, aI Y 200 f13), (h6, aI Y 800 f14)] sz) cX12_saveSnapshot 2 RX12 (some .boolean) := B
    refine V_aload_n 0 B dX12_saveSnapshot_0 0 rfl ?_
    refine V_iconst 1 B (v := 0) dX12_saveSnapshot_1 (by decide +kernel) ?_
    refine V_put 2 B gp_RX12_38 0 rfl (Nat.le_of_ble_eq_true rfl) rfl rfl dX12_saveSnapshot_2 [(h0, oC 13 [.ref h1, .ref h2, .int 0, .ref h3, .ref h4, .int (nI k5), .int (nI k6), .int p7, .int p8, .int p9, .int (nI k10), .int p11, .long q12, .ref h5, .ref h6, .int (nI k15), .int (nI k16)]), (h1, aI Y 3640 f0), (h2, aZ Y 2 f1), (h3, aZ Y 80 f3), (h4, aB Y 1600 f4), (h5, aI Y 200 f13), (h6, aI Y 800 f14)] rfl ?_
    refine V_iload_n 5 B dX12_saveSnapshot_5 1 rfl ?_
    refine V_i2l 6 B dX12_saveSnapshot_6 rfl ?_
    refine V_nml (fun o0 e1 => ?_)
    have x2 : o0.toInt = s0.toInt := by rw [e1, Int32.toInt_toInt64]
    refine V_lconst 7 B (v := 0) dX12_saveSnapshot_7 (by decide +kernel) ?_
    refine V_lconst 8 B (v := 1) dX12_saveSnapshot_8 (by decide +kernel) ?_
    refine V_csi 9 B (st := []) (As := [.long o0, .long 0, .long 1]) (fun sz => rX12_inRange l D Y o0 0 1 sz) glS_RX12_41 ⟨rfl, rfl⟩ ⟨(Nat.le_of_ble_eq_true rfl), (Nat.le_of_ble_eq_true rfl)⟩ ⟨(Nat.le_of_ble_eq_true rfl), (Nat.le_of_ble_eq_true rfl)⟩ [] rfl rfl (Nat.le_of_ble_eq_true rfl) rfl (fun _ _ _ => rfl) dX12_saveSnapshot_9 (fun j3 u4 w5 => ?_)
    refine V_ws [(h0, oC 13 [.ref h1, .ref h2, .int 0, .ref h3, .ref h4, .int (nI k5), .int (nI k6), .int p7, .int p8, .int p9, .int (nI k10), .int p11, .long q12, .ref h5, .ref h6, .int (nI k15), .int (nI k16)]), (h1, aI Y 3640 f0), (h2, aZ Y 2 f1), (h3, aZ Y 80 f3), (h4, aB Y 1600 f4), (h5, aI Y 200 f13), (h6, aI Y 800 f14)] rfl ?_
    rcases w5 with ⟨rfl, x8⟩ | ⟨rfl, x6, x7⟩
    ·
      rw [show (0 : Int64).toInt = 0 by decide +kernel] at x8
      rw [show (1 : Int64).toInt = 1 by decide +kernel] at x8
      refine V_if_ne_f 12 B 17 dX12_saveSnapshot_12 (by decide) (by decide +kernel) ?_
      refine V_iconst 15 B (v := 0) dX12_saveSnapshot_15 (by decide +kernel) ?_
      exact V_zret 16 B rfl dX12_saveSnapshot_16 (mkW [] [0] [] [f0, f1] [] []) ⟨(Or.inl rfl), HI⟩ rfl
    ·
      rw [show (0 : Int64).toInt = 0 by decide +kernel] at x6
      rw [show (1 : Int64).toInt = 1 by decide +kernel] at x7
      refine V_if_ne_t 12 B 17 dX12_saveSnapshot_12 (by decide) (by decide +kernel) ?_
      refine V_aload_n 17 B dX12_saveSnapshot_17 0 rfl ?_
      refine V_iconst 18 B (v := 0) dX12_saveSnapshot_18 (by decide +kernel) ?_
      refine V_iconst 19 B (v := 1) dX12_saveSnapshot_19 (by decide +kernel) ?_
      refine V_iload_n 20 B dX12_saveSnapshot_20 1 rfl ?_
      obtain ⟨n9, x10, rfl⟩ := nat_of (x := s0) (n := 1) (by omega) (by omega)
      have e11 := nI_toInt (show n9 < 2 ^ 31 by omega)
      refine V_iadd 21 B (v := (nI (1 + n9))) dX12_saveSnapshot_21 (nI_addE (a := 1) (b := n9) (by omega)) ?_
      refine V_cvv 22 B (st := []) (As := [.int (nI 0), .int (nI (1 + n9))]) (fun sz => mX12_copyBlock_m l D Y h0 h1 (.ref h2) (.int 0) (.ref h3) (.ref h4) (.int (nI k5)) (.int (nI k6)) (.int p7) (.int p8) (.int p9) (.int (nI k10)) (.int p11) (.long q12) (.ref h5) (.ref h6) (.int (nI k15)) (.int (nI k16)) f0 0 (1 + n9) (by omega) (by omega) (by omega) sz) glV_RX12_45 ⟨rfl, rfl⟩ ⟨(Nat.le_of_ble_eq_true rfl), (Nat.le_of_ble_eq_true rfl)⟩ ⟨(Nat.le_of_ble_eq_true rfl), (Nat.le_of_ble_eq_true rfl)⟩ [0, 0] rfl 13 0 rfl rfl rfl rfl (Nat.le_of_ble_eq_true rfl) rfl (fun _ _ => rfl) dX12_saveSnapshot_22 (fun u12 w13 => ?_)
      have x14 : INV (cpB 0 (1 + n9) 906 f0) := INV_cpB HI (by omega) (by omega)
      refine V_ws [(h0, oC 13 [.ref h1, .ref h2, .int 0, .ref h3, .ref h4, .int (nI k5), .int (nI k6), .int p7, .int p8, .int p9, .int (nI k10), .int p11, .long q12, .ref h5, .ref h6, .int (nI k15), .int (nI k16)]), (h1, aI Y 3640 (cpB 0 (1 + n9) 906 f0)), (h2, aZ Y 2 f1), (h3, aZ Y 80 f3), (h4, aB Y 1600 f4), (h5, aI Y 200 f13), (h6, aI Y 800 f14)] rfl ?_
      refine V_aload_n 25 B dX12_saveSnapshot_25 0 rfl ?_
      refine V_get 26 B gf_RX12_13 0 rfl rfl dX12_saveSnapshot_26 ?_
      refine V_iload_n 29 B dX12_saveSnapshot_29 1 rfl ?_
      refine V_iconst 30 B (v := 1) dX12_saveSnapshot_30 (by decide +kernel) ?_
      refine V_zast 31 B 2 rfl (vp_in_nI (n := n9) (by omega) (by decide)) dX12_saveSnapshot_31 [(h0, oC 13 [.ref h1, .ref h2, .int 0, .ref h3, .ref h4, .int (nI k5), .int (nI k6), .int p7, .int p8, .int p9, .int (nI k10), .int p11, .long q12, .ref h5, .ref h6, .int (nI k15), .int (nI k16)]), (h1, aI Y 3640 (cpB 0 (1 + n9) 906 f0)), (h2, aZ Y 2 (upd f1 n9 (vp_nar .boolean 1))), (h3, aZ Y 80 f3), (h4, aB Y 1600 f4), (h5, aI Y 200 f13), (h6, aI Y 800 f14)] (by rw [nI_clamp (show n9 < 2 ^ 31 by omega)]; rfl) ?_
      refine V_iconst 32 B (v := 1) dX12_saveSnapshot_32 (by decide +kernel) ?_
      exact V_zret 33 B rfl dX12_saveSnapshot_33 (mkW [] [0] [] [(cpB 0 (1 + n9) 906 f0), (upd f1 n9 (vp_nar .boolean 1))] [] []) ⟨(Or.inr rfl), x14⟩ rfl)
theorem dX12_restoreSnapshot_0 : decode cX12_restoreSnapshot 0 = .ok (.aload_n 0, 1) := by decide +kernel
theorem dX12_restoreSnapshot_1 : decode cX12_restoreSnapshot 1 = .ok (.iconst 0, 1) := by decide +kernel
theorem dX12_restoreSnapshot_2 : decode cX12_restoreSnapshot 2 = .ok (.putfield 38, 3) := by decide +kernel
theorem dX12_restoreSnapshot_5 : decode cX12_restoreSnapshot 5 = .ok (.iload_n 1, 1) := by decide +kernel
theorem dX12_restoreSnapshot_6 : decode cX12_restoreSnapshot 6 = .ok (.i2l, 1) := by decide +kernel
theorem dX12_restoreSnapshot_7 : decode cX12_restoreSnapshot 7 = .ok (.lconst 0, 1) := by decide +kernel
theorem dX12_restoreSnapshot_8 : decode cX12_restoreSnapshot 8 = .ok (.lconst 1, 1) := by decide +kernel
theorem dX12_restoreSnapshot_9 : decode cX12_restoreSnapshot 9 = .ok (.invokestatic 41, 3) := by decide +kernel
theorem dX12_restoreSnapshot_12 : decode cX12_restoreSnapshot 12 = .ok (.ifCond .eq 12, 3) := by decide +kernel
theorem dX12_restoreSnapshot_24 : decode cX12_restoreSnapshot 24 = .ok (.iconst 0, 1) := by decide +kernel
theorem dX12_restoreSnapshot_25 : decode cX12_restoreSnapshot 25 = .ok (.ireturn, 1) := by decide +kernel
theorem dX12_restoreSnapshot_15 : decode cX12_restoreSnapshot 15 = .ok (.aload_n 0, 1) := by decide +kernel
theorem dX12_restoreSnapshot_16 : decode cX12_restoreSnapshot 16 = .ok (.getfield 13, 3) := by decide +kernel
theorem dX12_restoreSnapshot_19 : decode cX12_restoreSnapshot 19 = .ok (.iload_n 1, 1) := by decide +kernel
theorem dX12_restoreSnapshot_20 : decode cX12_restoreSnapshot 20 = .ok (.baload, 1) := by decide +kernel
theorem dX12_restoreSnapshot_21 : decode cX12_restoreSnapshot 21 = .ok (.ifCond .ne 5, 3) := by decide +kernel
theorem dX12_restoreSnapshot_26 : decode cX12_restoreSnapshot 26 = .ok (.aload_n 0, 1) := by decide +kernel
theorem dX12_restoreSnapshot_27 : decode cX12_restoreSnapshot 27 = .ok (.iconst 1, 1) := by decide +kernel
theorem dX12_restoreSnapshot_28 : decode cX12_restoreSnapshot 28 = .ok (.iload_n 1, 1) := by decide +kernel
theorem dX12_restoreSnapshot_29 : decode cX12_restoreSnapshot 29 = .ok (.iadd, 1) := by decide +kernel
theorem dX12_restoreSnapshot_30 : decode cX12_restoreSnapshot 30 = .ok (.iconst 0, 1) := by decide +kernel
theorem dX12_restoreSnapshot_31 : decode cX12_restoreSnapshot 31 = .ok (.invokevirtual 45, 3) := by decide +kernel
theorem dX12_restoreSnapshot_34 : decode cX12_restoreSnapshot 34 = .ok (.iconst 1, 1) := by decide +kernel
theorem dX12_restoreSnapshot_35 : decode cX12_restoreSnapshot 35 = .ok (.ireturn, 1) := by decide +kernel
set_option maxRecDepth 100000 in
set_option maxHeartbeats 4000000 in
theorem rX12_restoreSnapshot (l : Launch) (D : va_G) (Y : Nat → ClassId) (h0 : Nat) (h1 : Nat) (h2 : Nat) (h3 : Nat) (h4 : Nat) (h5 : Nat) (h6 : Nat) (p2 : Int32) (k5 : Nat) (k6 : Nat) (p7 : Int32) (p8 : Int32) (p9 : Int32) (k10 : Nat) (p11 : Int32) (q12 : Int64) (k15 : Nat) (k16 : Nat) (f0 : Nat → Int32) (f1 : Nat → Int32) (f3 : Nat → Int32) (f4 : Nat → Int32) (f13 : Nat → Int32) (f14 : Nat → Int32) (HI : INV f0) (HL : k5 ≤ 1600) (HP : PLV f13) (s0 : Int32)  (sz : Nat) : Met l yX12_restoreSnapshot (WSm yX12_restoreSnapshot cX12_restoreSnapshot 2 (some .boolean)) (mkR 1 0 0 25) (PreC D Y [.ref h0, .int s0] [(h0, oC 13 [.ref h1, .ref h2, .int p2, .ref h3, .ref h4, .int (nI k5), .int (nI k6), .int p7, .int p8, .int p9, .int (nI k10), .int p11, .long q12, .ref h5, .ref h6, .int (nI k15), .int (nI k16)]), (h1, aI Y 3640 f0), (h2, aZ Y 2 f1), (h3, aZ Y 80 f3), (h4, aB Y 1600 f4), (h5, aI Y 200 f13), (h6, aI Y 800 f14)] sz) (QI D (fun (r : Int32) (u : WU) => (r = 0 ∨ r = 1) ∧ INV (u.2.2.2.1 0)) (fun (u : WU) => [(h0, oC 13 [.ref h1, .ref h2, .int (u.2.1 0), .ref h3, .ref h4, .int (nI k5), .int (nI k6), .int p7, .int p8, .int p9, .int (nI k10), .int p11, .long q12, .ref h5, .ref h6, .int (nI k15), .int (nI k16)]), (h1, aI Y 3640 (u.2.2.2.1 0)), (h2, aZ Y 2 f1), (h3, aZ Y 80 f3), (h4, aB Y 1600 f4), (h5, aI Y 200 f13), (h6, aI Y 800 f14)]) (va_A [(h0, oC 13 [.ref h1, .ref h2, .int p2, .ref h3, .ref h4, .int (nI k5), .int (nI k6), .int p7, .int p8, .int p9, .int (nI k10), .int p11, .long q12, .ref h5, .ref h6, .int (nI k15), .int (nI k16)]), (h1, aI Y 3640 f0), (h2, aZ Y 2 f1), (h3, aZ Y 80 f3), (h4, aB Y 1600 f4), (h5, aI Y 200 f13), (h6, aI Y 800 f14)] sz)) 0 0 (va_A [(h0, oC 13 [.ref h1, .ref h2, .int p2, .ref h3, .ref h4, .int (nI k5), .int (nI k6), .int p7, .int p8, .int p9, .int (nI k10), .int p11, .long q12, .ref h5, .ref h6, .int (nI k15), .int (nI k16)]), (h1, aI Y 3640 f0), (h2, aZ Y 2 f1), (h3, aZ Y 80 f3), (h4, aB Y 1600 f4), (h5, aI Y 200 f13), (h6, aI Y 800 f14)] sz) :=
  met_of  (by decide +kernel) (Nat.le_of_ble_eq_true rfl) (fun p e s m args below meth c B hin hsz => by
    have B : VB p s m args meth c D Y (va_A [(h0, oC 13 [.ref h1, .ref h2, .int p2, .ref h3, .ref h4, .int (nI k5), .int (nI k6), .int p7, .int p8, .int p9, .int (nI k10), .int p11, .long q12, .ref h5, .ref h6, .int (nI k15), .int (nI k16)]), (h1, aI Y 3640 f0), (h2, aZ Y 2 f1), (h3, aZ Y 80 f3), (h4, aB Y 1600 f4), (h5, aI Y 200 f13), (h6, aI Y 800 f14)] sz) cX12_restoreSnapshot 2 RX12 (some .boolean) := B
    refine V_aload_n 0 B dX12_restoreSnapshot_0 0 rfl ?_
    refine V_iconst 1 B (v := 0) dX12_restoreSnapshot_1 (by decide +kernel) ?_
    refine V_put 2 B gp_RX12_38 0 rfl (Nat.le_of_ble_eq_true rfl) rfl rfl dX12_restoreSnapshot_2 [(h0, oC 13 [.ref h1, .ref h2, .int 0, .ref h3, .ref h4, .int (nI k5), .int (nI k6), .int p7, .int p8, .int p9, .int (nI k10), .int p11, .long q12, .ref h5, .ref h6, .int (nI k15), .int (nI k16)]), (h1, aI Y 3640 f0), (h2, aZ Y 2 f1), (h3, aZ Y 80 f3), (h4, aB Y 1600 f4), (h5, aI Y 200 f13), (h6, aI Y 800 f14)] rfl ?_
    refine V_iload_n 5 B dX12_restoreSnapshot_5 1 rfl ?_
    refine V_i2l 6 B dX12_restoreSnapshot_6 rfl ?_
    refine V_nml (fun o0 e1 => ?_)
    have x2 : o0.toInt = s0.toInt := by rw [e1, Int32.toInt_toInt64]
    refine V_lconst 7 B (v := 0) dX12_restoreSnapshot_7 (by decide +kernel) ?_
    refine V_lconst 8 B (v := 1) dX12_restoreSnapshot_8 (by decide +kernel) ?_
    refine V_csi 9 B (st := []) (As := [.long o0, .long 0, .long 1]) (fun sz => rX12_inRange l D Y o0 0 1 sz) glS_RX12_41 ⟨rfl, rfl⟩ ⟨(Nat.le_of_ble_eq_true rfl), (Nat.le_of_ble_eq_true rfl)⟩ ⟨(Nat.le_of_ble_eq_true rfl), (Nat.le_of_ble_eq_true rfl)⟩ [] rfl rfl (Nat.le_of_ble_eq_true rfl) rfl (fun _ _ _ => rfl) dX12_restoreSnapshot_9 (fun j3 u4 w5 => ?_)
    refine V_ws [(h0, oC 13 [.ref h1, .ref h2, .int 0, .ref h3, .ref h4, .int (nI k5), .int (nI k6), .int p7, .int p8, .int p9, .int (nI k10), .int p11, .long q12, .ref h5, .ref h6, .int (nI k15), .int (nI k16)]), (h1, aI Y 3640 f0), (h2, aZ Y 2 f1), (h3, aZ Y 80 f3), (h4, aB Y 1600 f4), (h5, aI Y 200 f13), (h6, aI Y 800 f14)] rfl ?_
    rcases w5 with ⟨rfl, x8⟩ | ⟨rfl, x6, x7⟩
    ·
      rw [show (0 : Int64).toInt = 0 by decide +kernel] at x8
      rw [show (1 : Int64).toInt = 1 by decide +kernel] at x8
      refine V_if_eq_t 12 B 24 dX12_restoreSnapshot_12 (by decide) (by decide +kernel) ?_
      refine V_iconst 24 B (v := 0) dX12_restoreSnapshot_24 (by decide +kernel) ?_
      exact V_zret 25 B rfl dX12_restoreSnapshot_25 (mkW [] [0] [] [f0] [] []) ⟨(Or.inl rfl), HI⟩ rfl
    ·
      rw [show (0 : Int64).toInt = 0 by decide +kernel] at x6
      rw [show (1 : Int64).toInt = 1 by decide +kernel] at x7
      refine V_if_eq_f 12 B 24 dX12_restoreSnapshot_12 (by decide) (by decide +kernel) ?_
      refine V_aload_n 15 B dX12_restoreSnapshot_15 0 rfl ?_
      refine V_get 16 B gf_RX12_13 0 rfl rfl dX12_restoreSnapshot_16 ?_
      refine V_iload_n 19 B dX12_restoreSnapshot_19 1 rfl ?_
      obtain ⟨n9, x10, rfl⟩ := nat_of (x := s0) (n := 1) (by omega) (by omega)
      have e11 := nI_toInt (show n9 < 2 ^ 31 by omega)
      refine V_zald 20 B 2 rfl (vp_in_nI (n := n9) (by omega) (by decide)) dX12_restoreSnapshot_20 rfl ?_
      refine V_nmi (fun j12 e13 => ?_)
      refine V_if_ne 21 B 26 dX12_restoreSnapshot_21 (by decide) (fun kk14 => ?_) (fun kk14 => ?_)
      ·
        have x15 := x_ne kk14
        rw [show (0 : Int32).toInt = 0 by decide +kernel] at x15
        refine V_aload_n 26 B dX12_restoreSnapshot_26 0 rfl ?_
        refine V_iconst 27 B (v := 1) dX12_restoreSnapshot_27 (by decide +kernel) ?_
        refine V_iload_n 28 B dX12_restoreSnapshot_28 1 rfl ?_
        refine V_iadd 29 B (v := (nI (1 + n9))) dX12_restoreSnapshot_29 (nI_addE (a := 1) (b := n9) (by omega)) ?_
        refine V_iconst 30 B (v := 0) dX12_restoreSnapshot_30 (by decide +kernel) ?_
        refine V_cvv 31 B (st := []) (As := [.int (nI (1 + n9)), .int (nI 0)]) (fun sz => mX12_copyBlock_m l D Y h0 h1 (.ref h2) (.int 0) (.ref h3) (.ref h4) (.int (nI k5)) (.int (nI k6)) (.int p7) (.int p8) (.int p9) (.int (nI k10)) (.int p11) (.long q12) (.ref h5) (.ref h6) (.int (nI k15)) (.int (nI k16)) f0 (1 + n9) 0 (by omega) (by omega) (by omega) sz) glV_RX12_45 ⟨rfl, rfl⟩ ⟨(Nat.le_of_ble_eq_true rfl), (Nat.le_of_ble_eq_true rfl)⟩ ⟨(Nat.le_of_ble_eq_true rfl), (Nat.le_of_ble_eq_true rfl)⟩ [0, 0] rfl 13 0 rfl rfl rfl rfl (Nat.le_of_ble_eq_true rfl) rfl (fun _ _ => rfl) dX12_restoreSnapshot_31 (fun u16 w17 => ?_)
        have x18 : INV (cpB (1 + n9) 0 906 f0) := INV_cpB HI (by omega) (by omega)
        refine V_ws [(h0, oC 13 [.ref h1, .ref h2, .int 0, .ref h3, .ref h4, .int (nI k5), .int (nI k6), .int p7, .int p8, .int p9, .int (nI k10), .int p11, .long q12, .ref h5, .ref h6, .int (nI k15), .int (nI k16)]), (h1, aI Y 3640 (cpB (1 + n9) 0 906 f0)), (h2, aZ Y 2 f1), (h3, aZ Y 80 f3), (h4, aB Y 1600 f4), (h5, aI Y 200 f13), (h6, aI Y 800 f14)] rfl ?_
        refine V_iconst 34 B (v := 1) dX12_restoreSnapshot_34 (by decide +kernel) ?_
        exact V_zret 35 B rfl dX12_restoreSnapshot_35 (mkW [] [0] [] [(cpB (1 + n9) 0 906 f0)] [] []) ⟨(Or.inr rfl), x18⟩ rfl
      ·
        obtain rfl : j12 = 0 := kk14
        have e20 : (0 : Int32).toInt = 0 := by decide +kernel
        refine V_iconst 24 B (v := 0) dX12_restoreSnapshot_24 (by decide +kernel) ?_
        exact V_zret 25 B rfl dX12_restoreSnapshot_25 (mkW [] [0] [] [f0] [] []) ⟨(Or.inl rfl), HI⟩ rfl)
theorem dX12_fail_0 : decode cX12_fail 0 = .ok (.aload_n 0, 1) := by decide +kernel
theorem dX12_fail_1 : decode cX12_fail 1 = .ok (.iload_n 1, 1) := by decide +kernel
theorem dX12_fail_2 : decode cX12_fail 2 = .ok (.putfield 246, 3) := by decide +kernel
theorem gp_RX12_246 : GP RX12 246 13 7 .int false := ⟨RX12, TX12, 17, ⟨rfl, inw_X12, Nat.le_of_ble_eq_true rfl, (mT7 144 rfl rfl)⟩, ⟨tyX12, tyX12_ok⟩, nmX12, rfl, by decide +kernel, fun h => nomatch h⟩
theorem dX12_fail_5 : decode cX12_fail 5 = .ok (.aload_n 0, 1) := by decide +kernel
theorem dX12_fail_6 : decode cX12_fail 6 = .ok (.aload_n 0, 1) := by decide +kernel
theorem dX12_fail_7 : decode cX12_fail 7 = .ok (.getfield 270, 3) := by decide +kernel
theorem gf_RX12_270 : GF RX12 270 13 10 := ⟨RX12, TX12, 17, rfl, inw_X12, Nat.le_of_ble_eq_true rfl, (mT7 147 rfl rfl)⟩
theorem dX12_fail_10 : decode cX12_fail 10 = .ok (.putfield 24, 3) := by decide +kernel
theorem gp_RX12_24 : GP RX12 24 13 8 .int false := ⟨RX12, TX12, 17, ⟨rfl, inw_X12, Nat.le_of_ble_eq_true rfl, (mT7 145 rfl rfl)⟩, ⟨tyX12, tyX12_ok⟩, nmX12, rfl, by decide +kernel, fun h => nomatch h⟩
theorem dX12_fail_13 : decode cX12_fail 13 = .ok (.iconst 0, 1) := by decide +kernel
theorem dX12_fail_14 : decode cX12_fail 14 = .ok (.ireturn, 1) := by decide +kernel
set_option maxRecDepth 100000 in
set_option maxHeartbeats 4000000 in
theorem rX12_fail (l : Launch) (D : va_G) (Y : Nat → ClassId) (h0 : Nat) (h1 : Nat) (h2 : Nat) (h3 : Nat) (h4 : Nat) (h5 : Nat) (h6 : Nat) (p2 : Int32) (k5 : Nat) (k6 : Nat) (p7 : Int32) (p8 : Int32) (p9 : Int32) (k10 : Nat) (p11 : Int32) (q12 : Int64) (k15 : Nat) (k16 : Nat) (f0 : Nat → Int32) (f1 : Nat → Int32) (f3 : Nat → Int32) (f4 : Nat → Int32) (f13 : Nat → Int32) (f14 : Nat → Int32) (HI : INV f0) (HL : k5 ≤ 1600) (HP : PLV f13) (s0 : Int32)  (sz : Nat) : Met l yX12_fail (WSm yX12_fail cX12_fail 2 (some .boolean)) (mkR 0 0 0 0) (PreC D Y [.ref h0, .int s0] [(h0, oC 13 [.ref h1, .ref h2, .int p2, .ref h3, .ref h4, .int (nI k5), .int (nI k6), .int p7, .int p8, .int p9, .int (nI k10), .int p11, .long q12, .ref h5, .ref h6, .int (nI k15), .int (nI k16)]), (h1, aI Y 3640 f0), (h2, aZ Y 2 f1), (h3, aZ Y 80 f3), (h4, aB Y 1600 f4), (h5, aI Y 200 f13), (h6, aI Y 800 f14)] sz) (QI D (fun (r : Int32) (u : WU) => r = 0) (fun (u : WU) => [(h0, oC 13 [.ref h1, .ref h2, .int p2, .ref h3, .ref h4, .int (nI k5), .int (nI k6), .int (u.2.1 0), .int (u.2.1 1), .int p9, .int (nI k10), .int p11, .long q12, .ref h5, .ref h6, .int (nI k15), .int (nI k16)]), (h1, aI Y 3640 f0), (h2, aZ Y 2 f1), (h3, aZ Y 80 f3), (h4, aB Y 1600 f4), (h5, aI Y 200 f13), (h6, aI Y 800 f14)]) (va_A [(h0, oC 13 [.ref h1, .ref h2, .int p2, .ref h3, .ref h4, .int (nI k5), .int (nI k6), .int p7, .int p8, .int p9, .int (nI k10), .int p11, .long q12, .ref h5, .ref h6, .int (nI k15), .int (nI k16)]), (h1, aI Y 3640 f0), (h2, aZ Y 2 f1), (h3, aZ Y 80 f3), (h4, aB Y 1600 f4), (h5, aI Y 200 f13), (h6, aI Y 800 f14)] sz)) 0 0 (va_A [(h0, oC 13 [.ref h1, .ref h2, .int p2, .ref h3, .ref h4, .int (nI k5), .int (nI k6), .int p7, .int p8, .int p9, .int (nI k10), .int p11, .long q12, .ref h5, .ref h6, .int (nI k15), .int (nI k16)]), (h1, aI Y 3640 f0), (h2, aZ Y 2 f1), (h3, aZ Y 80 f3), (h4, aB Y 1600 f4), (h5, aI Y 200 f13), (h6, aI Y 800 f14)] sz) :=
  met_of  (by decide +kernel) (Nat.le_of_ble_eq_true rfl) (fun p e s m args below meth c B hin hsz => by
    have B : VB p s m args meth c D Y (va_A [(h0, oC 13 [.ref h1, .ref h2, .int p2, .ref h3, .ref h4, .int (nI k5), .int (nI k6), .int p7, .int p8, .int p9, .int (nI k10), .int p11, .long q12, .ref h5, .ref h6, .int (nI k15), .int (nI k16)]), (h1, aI Y 3640 f0), (h2, aZ Y 2 f1), (h3, aZ Y 80 f3), (h4, aB Y 1600 f4), (h5, aI Y 200 f13), (h6, aI Y 800 f14)] sz) cX12_fail 2 RX12 (some .boolean) := B
    refine V_aload_n 0 B dX12_fail_0 0 rfl ?_
    refine V_iload_n 1 B dX12_fail_1 1 rfl ?_
    refine V_put 2 B gp_RX12_246 0 rfl (Nat.le_of_ble_eq_true rfl) rfl rfl dX12_fail_2 [(h0, oC 13 [.ref h1, .ref h2, .int p2, .ref h3, .ref h4, .int (nI k5), .int (nI k6), .int s0, .int p8, .int p9, .int (nI k10), .int p11, .long q12, .ref h5, .ref h6, .int (nI k15), .int (nI k16)]), (h1, aI Y 3640 f0), (h2, aZ Y 2 f1), (h3, aZ Y 80 f3), (h4, aB Y 1600 f4), (h5, aI Y 200 f13), (h6, aI Y 800 f14)] rfl ?_
    refine V_aload_n 5 B dX12_fail_5 0 rfl ?_
    refine V_aload_n 6 B dX12_fail_6 0 rfl ?_
    refine V_get 7 B gf_RX12_270 0 rfl rfl dX12_fail_7 ?_
    refine V_put 10 B gp_RX12_24 0 rfl (Nat.le_of_ble_eq_true rfl) rfl rfl dX12_fail_10 [(h0, oC 13 [.ref h1, .ref h2, .int p2, .ref h3, .ref h4, .int (nI k5), .int (nI k6), .int s0, .int (nI k10), .int p9, .int (nI k10), .int p11, .long q12, .ref h5, .ref h6, .int (nI k15), .int (nI k16)]), (h1, aI Y 3640 f0), (h2, aZ Y 2 f1), (h3, aZ Y 80 f3), (h4, aB Y 1600 f4), (h5, aI Y 200 f13), (h6, aI Y 800 f14)] rfl ?_
    refine V_iconst 13 B (v := 0) dX12_fail_13 (by decide +kernel) ?_
    exact V_zret 14 B rfl dX12_fail_14 (mkW [] [s0, (nI k10)] [] [] [] []) rfl rfl)
theorem dX12_failAt_0 : decode cX12_failAt 0 = .ok (.aload_n 0, 1) := by decide +kernel
theorem dX12_failAt_1 : decode cX12_failAt 1 = .ok (.iload_n 1, 1) := by decide +kernel
theorem dX12_failAt_2 : decode cX12_failAt 2 = .ok (.putfield 246, 3) := by decide +kernel
theorem dX12_failAt_5 : decode cX12_failAt 5 = .ok (.aload_n 0, 1) := by decide +kernel
theorem dX12_failAt_6 : decode cX12_failAt 6 = .ok (.iload_n 2, 1) := by decide +kernel
theorem dX12_failAt_7 : decode cX12_failAt 7 = .ok (.putfield 24, 3) := by decide +kernel
theorem dX12_failAt_10 : decode cX12_failAt 10 = .ok (.iconst 0, 1) := by decide +kernel
theorem dX12_failAt_11 : decode cX12_failAt 11 = .ok (.ireturn, 1) := by decide +kernel
set_option maxRecDepth 100000 in
set_option maxHeartbeats 4000000 in
theorem rX12_failAt (l : Launch) (D : va_G) (Y : Nat → ClassId) (h0 : Nat) (h1 : Nat) (h2 : Nat) (h3 : Nat) (h4 : Nat) (h5 : Nat) (h6 : Nat) (p2 : Int32) (k5 : Nat) (k6 : Nat) (p7 : Int32) (p8 : Int32) (p9 : Int32) (k10 : Nat) (p11 : Int32) (q12 : Int64) (k15 : Nat) (k16 : Nat) (f0 : Nat → Int32) (f1 : Nat → Int32) (f3 : Nat → Int32) (f4 : Nat → Int32) (f13 : Nat → Int32) (f14 : Nat → Int32) (HI : INV f0) (HL : k5 ≤ 1600) (HP : PLV f13) (s0 : Int32) (s1 : Int32)  (sz : Nat) : Met l yX12_failAt (WSm yX12_failAt cX12_failAt 3 (some .boolean)) (mkR 0 0 0 0) (PreC D Y [.ref h0, .int s0, .int s1] [(h0, oC 13 [.ref h1, .ref h2, .int p2, .ref h3, .ref h4, .int (nI k5), .int (nI k6), .int p7, .int p8, .int p9, .int (nI k10), .int p11, .long q12, .ref h5, .ref h6, .int (nI k15), .int (nI k16)]), (h1, aI Y 3640 f0), (h2, aZ Y 2 f1), (h3, aZ Y 80 f3), (h4, aB Y 1600 f4), (h5, aI Y 200 f13), (h6, aI Y 800 f14)] sz) (QI D (fun (r : Int32) (u : WU) => r = 0) (fun (u : WU) => [(h0, oC 13 [.ref h1, .ref h2, .int p2, .ref h3, .ref h4, .int (nI k5), .int (nI k6), .int (u.2.1 0), .int (u.2.1 1), .int p9, .int (nI k10), .int p11, .long q12, .ref h5, .ref h6, .int (nI k15), .int (nI k16)]), (h1, aI Y 3640 f0), (h2, aZ Y 2 f1), (h3, aZ Y 80 f3), (h4, aB Y 1600 f4), (h5, aI Y 200 f13), (h6, aI Y 800 f14)]) (va_A [(h0, oC 13 [.ref h1, .ref h2, .int p2, .ref h3, .ref h4, .int (nI k5), .int (nI k6), .int p7, .int p8, .int p9, .int (nI k10), .int p11, .long q12, .ref h5, .ref h6, .int (nI k15), .int (nI k16)]), (h1, aI Y 3640 f0), (h2, aZ Y 2 f1), (h3, aZ Y 80 f3), (h4, aB Y 1600 f4), (h5, aI Y 200 f13), (h6, aI Y 800 f14)] sz)) 0 0 (va_A [(h0, oC 13 [.ref h1, .ref h2, .int p2, .ref h3, .ref h4, .int (nI k5), .int (nI k6), .int p7, .int p8, .int p9, .int (nI k10), .int p11, .long q12, .ref h5, .ref h6, .int (nI k15), .int (nI k16)]), (h1, aI Y 3640 f0), (h2, aZ Y 2 f1), (h3, aZ Y 80 f3), (h4, aB Y 1600 f4), (h5, aI Y 200 f13), (h6, aI Y 800 f14)] sz) :=
  met_of  (by decide +kernel) (Nat.le_of_ble_eq_true rfl) (fun p e s m args below meth c B hin hsz => by
    have B : VB p s m args meth c D Y (va_A [(h0, oC 13 [.ref h1, .ref h2, .int p2, .ref h3, .ref h4, .int (nI k5), .int (nI k6), .int p7, .int p8, .int p9, .int (nI k10), .int p11, .long q12, .ref h5, .ref h6, .int (nI k15), .int (nI k16)]), (h1, aI Y 3640 f0), (h2, aZ Y 2 f1), (h3, aZ Y 80 f3), (h4, aB Y 1600 f4), (h5, aI Y 200 f13), (h6, aI Y 800 f14)] sz) cX12_failAt 3 RX12 (some .boolean) := B
    refine V_aload_n 0 B dX12_failAt_0 0 rfl ?_
    refine V_iload_n 1 B dX12_failAt_1 1 rfl ?_
    refine V_put 2 B gp_RX12_246 0 rfl (Nat.le_of_ble_eq_true rfl) rfl rfl dX12_failAt_2 [(h0, oC 13 [.ref h1, .ref h2, .int p2, .ref h3, .ref h4, .int (nI k5), .int (nI k6), .int s0, .int p8, .int p9, .int (nI k10), .int p11, .long q12, .ref h5, .ref h6, .int (nI k15), .int (nI k16)]), (h1, aI Y 3640 f0), (h2, aZ Y 2 f1), (h3, aZ Y 80 f3), (h4, aB Y 1600 f4), (h5, aI Y 200 f13), (h6, aI Y 800 f14)] rfl ?_
    refine V_aload_n 5 B dX12_failAt_5 0 rfl ?_
    refine V_iload_n 6 B dX12_failAt_6 2 rfl ?_
    refine V_put 7 B gp_RX12_24 0 rfl (Nat.le_of_ble_eq_true rfl) rfl rfl dX12_failAt_7 [(h0, oC 13 [.ref h1, .ref h2, .int p2, .ref h3, .ref h4, .int (nI k5), .int (nI k6), .int s0, .int s1, .int p9, .int (nI k10), .int p11, .long q12, .ref h5, .ref h6, .int (nI k15), .int (nI k16)]), (h1, aI Y 3640 f0), (h2, aZ Y 2 f1), (h3, aZ Y 80 f3), (h4, aB Y 1600 f4), (h5, aI Y 200 f13), (h6, aI Y 800 f14)] rfl ?_
    refine V_iconst 10 B (v := 0) dX12_failAt_10 (by decide +kernel) ?_
    exact V_zret 11 B rfl dX12_failAt_11 (mkW [] [s0, s1] [] [] [] []) rfl rfl)
theorem dX12_readNumber_0 : decode cX12_readNumber 0 = .ok (.aload_n 0, 1) := by decide +kernel
theorem dX12_readNumber_1 : decode cX12_readNumber 1 = .ok (.getfield 283, 3) := by decide +kernel
theorem gf_RX12_283 : GF RX12 283 13 9 := ⟨RX12, TX12, 17, rfl, inw_X12, Nat.le_of_ble_eq_true rfl, (mT7 146 rfl rfl)⟩
theorem dX12_readNumber_4 : decode cX12_readNumber 4 = .ok (.iconst 2, 1) := by decide +kernel
theorem dX12_readNumber_5 : decode cX12_readNumber 5 = .ok (.if_icmp .eq 9, 3) := by decide +kernel
theorem dX12_readNumber_14 : decode cX12_readNumber 14 = .ok (.aload_n 0, 1) := by decide +kernel
theorem dX12_readNumber_15 : decode cX12_readNumber 15 = .ok (.getfield 273, 3) := by decide +kernel
theorem gf_RX12_273 : GF RX12 273 13 12 := ⟨RX12, TX12, 17, rfl, inw_X12, Nat.le_of_ble_eq_true rfl, (mT7 149 rfl rfl)⟩
theorem dX12_readNumber_18 : decode cX12_readNumber 18 = .ok (.iload_n 1, 1) := by decide +kernel
theorem dX12_readNumber_19 : decode cX12_readNumber 19 = .ok (.i2l, 1) := by decide +kernel
theorem dX12_readNumber_20 : decode cX12_readNumber 20 = .ok (.iload_n 2, 1) := by decide +kernel
theorem dX12_readNumber_21 : decode cX12_readNumber 21 = .ok (.i2l, 1) := by decide +kernel
theorem dX12_readNumber_22 : decode cX12_readNumber 22 = .ok (.invokestatic 41, 3) := by decide +kernel
theorem dX12_readNumber_25 : decode cX12_readNumber 25 = .ok (.ifCond .ne 9, 3) := by decide +kernel
theorem dX12_readNumber_28 : decode cX12_readNumber 28 = .ok (.aload_n 0, 1) := by decide +kernel
theorem dX12_readNumber_29 : decode cX12_readNumber 29 = .ok (.iconst 2, 1) := by decide +kernel
theorem dX12_readNumber_30 : decode cX12_readNumber 30 = .ok (.invokevirtual 291, 3) := by decide +kernel
theorem glV_RX12_291 : GLV RX12 291 yX12_fail RX12 cX12_fail 2 (some .boolean) 1 := ⟨⟨(mT9 236 rfl rfl), (mT9 238 rfl rfl), (mTs 78 rfl rfl), (mT1 13 rfl rfl), (mT9 239 rfl rfl)⟩, by decide +kernel⟩
theorem dX12_readNumber_33 : decode cX12_readNumber 33 = .ok (.ireturn, 1) := by decide +kernel
theorem dX12_readNumber_34 : decode cX12_readNumber 34 = .ok (.aload_n 0, 1) := by decide +kernel
theorem dX12_readNumber_35 : decode cX12_readNumber 35 = .ok (.aload_n 0, 1) := by decide +kernel
theorem dX12_readNumber_36 : decode cX12_readNumber 36 = .ok (.getfield 273, 3) := by decide +kernel
theorem dX12_readNumber_39 : decode cX12_readNumber 39 = .ok (.l2i, 1) := by decide +kernel
theorem dX12_readNumber_40 : decode cX12_readNumber 40 = .ok (.putfield 294, 3) := by decide +kernel
theorem gp_RX12_294 : GP RX12 294 13 11 .int false := ⟨RX12, TX12, 17, ⟨rfl, inw_X12, Nat.le_of_ble_eq_true rfl, (mT7 148 rfl rfl)⟩, ⟨tyX12, tyX12_ok⟩, nmX12, rfl, by decide +kernel, fun h => nomatch h⟩
theorem dX12_readNumber_43 : decode cX12_readNumber 43 = .ok (.aload_n 0, 1) := by decide +kernel
theorem dX12_readNumber_44 : decode cX12_readNumber 44 = .ok (.invokevirtual 288, 3) := by decide +kernel
theorem dX12_advance_0 : decode cX12_advance 0 = .ok (.aload_n 0, 1) := by decide +kernel
theorem dX12_advance_1 : decode cX12_advance 1 = .ok (.aload_n 0, 1) := by decide +kernel
theorem dX12_advance_2 : decode cX12_advance 2 = .ok (.getfield 264, 3) := by decide +kernel
theorem gf_RX12_264 : GF RX12 264 13 6 := ⟨RX12, TX12, 17, rfl, inw_X12, Nat.le_of_ble_eq_true rfl, (mT7 143 rfl rfl)⟩
theorem dX12_advance_5 : decode cX12_advance 5 = .ok (.invokevirtual 267, 3) := by decide +kernel
theorem dX12_byteAt_0 : decode cX12_byteAt 0 = .ok (.iload_n 1, 1) := by decide +kernel
theorem dX12_byteAt_1 : decode cX12_byteAt 1 = .ok (.aload_n 0, 1) := by decide +kernel
theorem dX12_byteAt_2 : decode cX12_byteAt 2 = .ok (.getfield 240, 3) := by decide +kernel
theorem gf_RX12_240 : GF RX12 240 13 5 := ⟨RX12, TX12, 17, rfl, inw_X12, Nat.le_of_ble_eq_true rfl, (mT7 142 rfl rfl)⟩
theorem dX12_byteAt_5 : decode cX12_byteAt 5 = .ok (.if_icmp .ge 16, 3) := by decide +kernel
theorem dX12_byteAt_21 : decode cX12_byteAt 21 = .ok (.iconst (-1), 1) := by decide +kernel
theorem dX12_byteAt_22 : decode cX12_byteAt 22 = .ok (.ireturn, 1) := by decide +kernel
theorem dX12_byteAt_8 : decode cX12_byteAt 8 = .ok (.aload_n 0, 1) := by decide +kernel
theorem dX12_byteAt_9 : decode cX12_byteAt 9 = .ok (.getfield 20, 3) := by decide +kernel
theorem gf_RX12_20 : GF RX12 20 13 4 := ⟨RX12, TX12, 17, rfl, inw_X12, Nat.le_of_ble_eq_true rfl, (mT7 141 rfl rfl)⟩
theorem dX12_byteAt_12 : decode cX12_byteAt 12 = .ok (.iload_n 1, 1) := by decide +kernel
theorem dX12_byteAt_13 : decode cX12_byteAt 13 = .ok (.baload, 1) := by decide +kernel
theorem dX12_byteAt_14 : decode cX12_byteAt 14 = .ok (.sipush 255, 3) := by decide +kernel
theorem dX12_byteAt_17 : decode cX12_byteAt 17 = .ok (.iand, 1) := by decide +kernel
theorem dX12_byteAt_18 : decode cX12_byteAt 18 = .ok (.goto 4, 3) := by decide +kernel
set_option maxRecDepth 100000 in
set_option maxHeartbeats 4000000 in
theorem rX12_byteAt (l : Launch) (D : va_G) (Y : Nat → ClassId) (h0 : Nat) (h1 : Nat) (h2 : Nat) (h3 : Nat) (h4 : Nat) (h5 : Nat) (h6 : Nat) (p2 : Int32) (k5 : Nat) (k6 : Nat) (p7 : Int32) (p8 : Int32) (p9 : Int32) (k10 : Nat) (p11 : Int32) (q12 : Int64) (k15 : Nat) (k16 : Nat) (f0 : Nat → Int32) (f1 : Nat → Int32) (f3 : Nat → Int32) (f4 : Nat → Int32) (f13 : Nat → Int32) (f14 : Nat → Int32) (HI : INV f0) (HL : k5 ≤ 1600) (HP : PLV f13) (s0 : Nat) (hn0 : s0 < 5000) (sz : Nat) : Met l yX12_byteAt (WSm yX12_byteAt cX12_byteAt 2 (some .int)) (mkR 0 0 0 0) (PreC D Y [.ref h0, .int (nI s0)] [(h0, oC 13 [.ref h1, .ref h2, .int p2, .ref h3, .ref h4, .int (nI k5), .int (nI k6), .int p7, .int p8, .int p9, .int (nI k10), .int p11, .long q12, .ref h5, .ref h6, .int (nI k15), .int (nI k16)]), (h1, aI Y 3640 f0), (h2, aZ Y 2 f1), (h3, aZ Y 80 f3), (h4, aB Y 1600 f4), (h5, aI Y 200 f13), (h6, aI Y 800 f14)] sz) (QI D (fun (r : Int32) (u : WU) => r = BY f4 k5 s0) (fun (u : WU) => [(h0, oC 13 [.ref h1, .ref h2, .int p2, .ref h3, .ref h4, .int (nI k5), .int (nI k6), .int p7, .int p8, .int p9, .int (nI k10), .int p11, .long q12, .ref h5, .ref h6, .int (nI k15), .int (nI k16)]), (h1, aI Y 3640 f0), (h2, aZ Y 2 f1), (h3, aZ Y 80 f3), (h4, aB Y 1600 f4), (h5, aI Y 200 f13), (h6, aI Y 800 f14)]) (va_A [(h0, oC 13 [.ref h1, .ref h2, .int p2, .ref h3, .ref h4, .int (nI k5), .int (nI k6), .int p7, .int p8, .int p9, .int (nI k10), .int p11, .long q12, .ref h5, .ref h6, .int (nI k15), .int (nI k16)]), (h1, aI Y 3640 f0), (h2, aZ Y 2 f1), (h3, aZ Y 80 f3), (h4, aB Y 1600 f4), (h5, aI Y 200 f13), (h6, aI Y 800 f14)] sz)) 0 0 (va_A [(h0, oC 13 [.ref h1, .ref h2, .int p2, .ref h3, .ref h4, .int (nI k5), .int (nI k6), .int p7, .int p8, .int p9, .int (nI k10), .int p11, .long q12, .ref h5, .ref h6, .int (nI k15), .int (nI k16)]), (h1, aI Y 3640 f0), (h2, aZ Y 2 f1), (h3, aZ Y 80 f3), (h4, aB Y 1600 f4), (h5, aI Y 200 f13), (h6, aI Y 800 f14)] sz) :=
  met_of  (by decide +kernel) (Nat.le_of_ble_eq_true rfl) (fun p e s m args below meth c B hin hsz => by
    have B : VB p s m args meth c D Y (va_A [(h0, oC 13 [.ref h1, .ref h2, .int p2, .ref h3, .ref h4, .int (nI k5), .int (nI k6), .int p7, .int p8, .int p9, .int (nI k10), .int p11, .long q12, .ref h5, .ref h6, .int (nI k15), .int (nI k16)]), (h1, aI Y 3640 f0), (h2, aZ Y 2 f1), (h3, aZ Y 80 f3), (h4, aB Y 1600 f4), (h5, aI Y 200 f13), (h6, aI Y 800 f14)] sz) cX12_byteAt 2 RX12 (some .int) := B
    refine V_iload_n 0 B dX12_byteAt_0 1 rfl ?_
    refine V_aload_n 1 B dX12_byteAt_1 0 rfl ?_
    refine V_get 2 B gf_RX12_240 0 rfl rfl dX12_byteAt_2 ?_
    refine V_icmp_ge 5 B 21 dX12_byteAt_5 (by decide) (fun kk0 => ?_) (fun kk0 => ?_)
    ·
      have x1 := n_le (a := k5) (b := s0) kk0 (by omega) (by omega)
      refine V_iconst 21 B (v := (-1)) dX12_byteAt_21 (by decide +kernel) ?_
      exact V_iret 22 B dX12_byteAt_22 (mkW [] [] [] [] [] []) (by unfold BY; rw [if_neg (by omega)]) rfl
    ·
      have x2 := n_nle (a := k5) (b := s0) kk0 (by omega) (by omega)
      refine V_aload_n 8 B dX12_byteAt_8 0 rfl ?_
      refine V_get 9 B gf_RX12_20 0 rfl rfl dX12_byteAt_9 ?_
      refine V_iload_n 12 B dX12_byteAt_12 1 rfl ?_
      refine V_bald 13 B 4 rfl (vp_in_nI (n := s0) (by omega) (by decide)) dX12_byteAt_13 rfl ?_
      refine V_nmi (fun j3 e4 => ?_)
      refine V_sipush 14 B (v := 255) dX12_byteAt_14 (by decide +kernel) ?_
      refine V_iand 17 B dX12_byteAt_17 rfl ?_
      refine V_nmi (fun j5 e6 => ?_)
      have x7 : 0 ≤ j5.toInt ∧ j5.toInt ≤ 255 := by rw [e6]; exact ⟨and255_lo _, and255_hi _⟩
      refine V_goto 18 B 22 dX12_byteAt_18 (by decide) ?_
      exact V_iret 22 B dX12_byteAt_22 (mkW [] [] [] [] [] []) (by rw [e6, e4, nI_clamp (show s0 < 2 ^ 31 by omega)]; unfold BY; rw [if_pos (by omega)]) rfl)
theorem glV_RX12_267 : GLV RX12 267 yX12_byteAt RX12 cX12_byteAt 2 (some .int) 1 := ⟨⟨(mT9 201 rfl rfl), (mT9 203 rfl rfl), (mTs 74 rfl rfl), (mT1 13 rfl rfl), (mT9 204 rfl rfl)⟩, by decide +kernel⟩
theorem dX12_advance_8 : decode cX12_advance 8 = .ok (.bipush 32, 2) := by decide +kernel
theorem dX12_advance_10 : decode cX12_advance 10 = .ok (.if_icmp .eq 16, 3) := by decide +kernel
theorem dX12_advance_26 : decode cX12_advance 26 = .ok (.aload_n 0, 1) := by decide +kernel
theorem dX12_advance_27 : decode cX12_advance 27 = .ok (.dup, 1) := by decide +kernel
theorem dX12_advance_28 : decode cX12_advance 28 = .ok (.getfield 264, 3) := by decide +kernel
theorem dX12_advance_31 : decode cX12_advance 31 = .ok (.iconst 1, 1) := by decide +kernel
theorem dX12_advance_32 : decode cX12_advance 32 = .ok (.iadd, 1) := by decide +kernel
theorem dX12_advance_33 : decode cX12_advance 33 = .ok (.putfield 264, 3) := by decide +kernel
theorem gp_RX12_264 : GP RX12 264 13 6 .int false := ⟨RX12, TX12, 17, ⟨rfl, inw_X12, Nat.le_of_ble_eq_true rfl, (mT7 143 rfl rfl)⟩, ⟨tyX12, tyX12_ok⟩, nmX12, rfl, by decide +kernel, fun h => nomatch h⟩
theorem dX12_advance_36 : decode cX12_advance 36 = .ok (.goto (-36), 3) := by decide +kernel
theorem dX12_advance_13 : decode cX12_advance 13 = .ok (.aload_n 0, 1) := by decide +kernel
theorem dX12_advance_14 : decode cX12_advance 14 = .ok (.aload_n 0, 1) := by decide +kernel
theorem dX12_advance_15 : decode cX12_advance 15 = .ok (.getfield 264, 3) := by decide +kernel
theorem dX12_advance_18 : decode cX12_advance 18 = .ok (.invokevirtual 267, 3) := by decide +kernel
theorem dX12_advance_21 : decode cX12_advance 21 = .ok (.bipush 10, 2) := by decide +kernel
theorem dX12_advance_23 : decode cX12_advance 23 = .ok (.if_icmp .ne 16, 3) := by decide +kernel
theorem dX12_advance_39 : decode cX12_advance 39 = .ok (.aload_n 0, 1) := by decide +kernel
theorem dX12_advance_40 : decode cX12_advance 40 = .ok (.aload_n 0, 1) := by decide +kernel
theorem dX12_advance_41 : decode cX12_advance 41 = .ok (.getfield 264, 3) := by decide +kernel
theorem dX12_advance_44 : decode cX12_advance 44 = .ok (.putfield 270, 3) := by decide +kernel
theorem gp_RX12_270 : GP RX12 270 13 10 .int false := ⟨RX12, TX12, 17, ⟨rfl, inw_X12, Nat.le_of_ble_eq_true rfl, (mT7 147 rfl rfl)⟩, ⟨tyX12, tyX12_ok⟩, nmX12, rfl, by decide +kernel, fun h => nomatch h⟩
theorem dX12_advance_47 : decode cX12_advance 47 = .ok (.aload_n 0, 1) := by decide +kernel
theorem dX12_advance_48 : decode cX12_advance 48 = .ok (.lconst 0, 1) := by decide +kernel
theorem dX12_advance_49 : decode cX12_advance 49 = .ok (.putfield 273, 3) := by decide +kernel
theorem gp_RX12_273 : GP RX12 273 13 12 .long false := ⟨RX12, TX12, 17, ⟨rfl, inw_X12, Nat.le_of_ble_eq_true rfl, (mT7 149 rfl rfl)⟩, ⟨tyX12, tyX12_ok⟩, nmX12, rfl, by decide +kernel, fun h => nomatch h⟩
theorem dX12_advance_52 : decode cX12_advance 52 = .ok (.aload_n 0, 1) := by decide +kernel
theorem dX12_advance_53 : decode cX12_advance 53 = .ok (.aload_n 0, 1) := by decide +kernel
theorem dX12_advance_54 : decode cX12_advance 54 = .ok (.getfield 270, 3) := by decide +kernel
theorem dX12_advance_57 : decode cX12_advance 57 = .ok (.invokevirtual 267, 3) := by decide +kernel
theorem dX12_advance_60 : decode cX12_advance 60 = .ok (.istore_n 1, 1) := by decide +kernel
theorem dX12_advance_61 : decode cX12_advance 61 = .ok (.aload_n 0, 1) := by decide +kernel
theorem dX12_advance_62 : decode cX12_advance 62 = .ok (.iload_n 1, 1) := by decide +kernel
theorem dX12_advance_63 : decode cX12_advance 63 = .ok (.iconst (-1), 1) := by decide +kernel
theorem dX12_advance_64 : decode cX12_advance 64 = .ok (.if_icmp .ne 7, 3) := by decide +kernel
theorem dX12_advance_71 : decode cX12_advance 71 = .ok (.iload_n 1, 1) := by decide +kernel
theorem dX12_advance_72 : decode cX12_advance 72 = .ok (.invokestatic 277, 3) := by decide +kernel
theorem dX12_isLetter_0 : decode cX12_isLetter 0 = .ok (.iload_n 0, 1) := by decide +kernel
theorem dX12_isLetter_1 : decode cX12_isLetter 1 = .ok (.invokestatic 253, 3) := by decide +kernel
theorem dX12_isSmall_0 : decode cX12_isSmall 0 = .ok (.iload_n 0, 1) := by decide +kernel
theorem dX12_isSmall_1 : decode cX12_isSmall 1 = .ok (.i2l, 1) := by decide +kernel
theorem dX12_isSmall_2 : decode cX12_isSmall 2 = .ok (.ldc2_w 249, 3) := by decide +kernel
theorem dX12_isSmall_5 : decode cX12_isSmall 5 = .ok (.ldc2_w 251, 3) := by decide +kernel
theorem dX12_isSmall_8 : decode cX12_isSmall 8 = .ok (.invokestatic 41, 3) := by decide +kernel
theorem dX12_isSmall_11 : decode cX12_isSmall 11 = .ok (.ireturn, 1) := by decide +kernel
set_option maxRecDepth 100000 in
set_option maxHeartbeats 4000000 in
theorem rX12_isSmall (l : Launch) (D : va_G) (Y : Nat → ClassId)  (s0 : Int32)  (sz : Nat) : Met l yX12_isSmall (WSm yX12_isSmall cX12_isSmall 1 (some .boolean)) (mkR 1 0 0 25) (PreC D Y [.int s0] [] sz) (QI D (fun (r : Int32) (u : WU) => ((r = 0 ∧ ¬ (97 ≤ s0.toInt ∧ s0.toInt ≤ 122)) ∨ (r = 1 ∧ (97 ≤ s0.toInt ∧ s0.toInt ≤ 122)))) (fun (u : WU) => []) (va_A [] sz)) 0 0 (va_A [] sz) :=
  met_of  (by decide +kernel) (Nat.le_of_ble_eq_true rfl) (fun p e s m args below meth c B hin hsz => by
    have B : VB p s m args meth c D Y (va_A [] sz) cX12_isSmall 1 RX12 (some .boolean) := B
    refine V_iload_n 0 B dX12_isSmall_0 0 rfl ?_
    refine V_i2l 1 B dX12_isSmall_1 rfl ?_
    refine V_nml (fun o0 e1 => ?_)
    have x2 : o0.toInt = s0.toInt := by rw [e1, Int32.toInt_toInt64]
    refine V_ldc2 2 B (v := 97) dX12_isSmall_2 (mT9 211 rfl rfl) ?_
    refine V_ldc2 5 B (v := 122) dX12_isSmall_5 (mT9 212 rfl rfl) ?_
    refine V_csi 8 B (st := []) (As := [.long o0, .long 97, .long 122]) (fun sz => rX12_inRange l D Y o0 97 122 sz) glS_RX12_41 ⟨rfl, rfl⟩ ⟨(Nat.le_of_ble_eq_true rfl), (Nat.le_of_ble_eq_true rfl)⟩ ⟨(Nat.le_of_ble_eq_true rfl), (Nat.le_of_ble_eq_true rfl)⟩ [] rfl rfl (Nat.le_of_ble_eq_true rfl) rfl (fun _ _ _ => rfl) dX12_isSmall_8 (fun j3 u4 w5 => ?_)
    rcases w5 with ⟨rfl, x8⟩ | ⟨rfl, x6, x7⟩
    ·
      rw [show (97 : Int64).toInt = 97 by decide +kernel] at x8
      rw [show (122 : Int64).toInt = 122 by decide +kernel] at x8
      exact V_zret 11 B rfl dX12_isSmall_11 (mkW [] [] [] [] [] []) (Or.inl ⟨rfl, (by omega)⟩) rfl
    ·
      rw [show (97 : Int64).toInt = 97 by decide +kernel] at x6
      rw [show (122 : Int64).toInt = 122 by decide +kernel] at x7
      exact V_zret 11 B rfl dX12_isSmall_11 (mkW [] [] [] [] [] []) (Or.inr ⟨rfl, (by omega)⟩) rfl)
theorem glS_RX12_253 : GLS RX12 253 yX12_isSmall cX12_isSmall 1 (some .boolean) 1 := ⟨⟨(mT9 208 rfl rfl), (mT9 209 rfl rfl), (mT1 13 rfl rfl), (mT9 210 rfl rfl)⟩, by decide +kernel⟩
theorem dX12_isLetter_4 : decode cX12_isLetter 4 = .ok (.ifCond .ne 17, 3) := by decide +kernel
theorem dX12_isLetter_7 : decode cX12_isLetter 7 = .ok (.iload_n 0, 1) := by decide +kernel
theorem dX12_isLetter_8 : decode cX12_isLetter 8 = .ok (.i2l, 1) := by decide +kernel
theorem dX12_isLetter_9 : decode cX12_isLetter 9 = .ok (.ldc2_w 256, 3) := by decide +kernel
theorem dX12_isLetter_12 : decode cX12_isLetter 12 = .ok (.ldc2_w 258, 3) := by decide +kernel
theorem dX12_isLetter_15 : decode cX12_isLetter 15 = .ok (.invokestatic 41, 3) := by decide +kernel
theorem dX12_isLetter_18 : decode cX12_isLetter 18 = .ok (.ifCond .eq 7, 3) := by decide +kernel
theorem dX12_isLetter_25 : decode cX12_isLetter 25 = .ok (.iconst 0, 1) := by decide +kernel
theorem dX12_isLetter_26 : decode cX12_isLetter 26 = .ok (.ireturn, 1) := by decide +kernel
theorem dX12_isLetter_21 : decode cX12_isLetter 21 = .ok (.iconst 1, 1) := by decide +kernel
theorem dX12_isLetter_22 : decode cX12_isLetter 22 = .ok (.goto 4, 3) := by decide +kernel
set_option maxRecDepth 100000 in
set_option maxHeartbeats 4000000 in
theorem rX12_isLetter (l : Launch) (D : va_G) (Y : Nat → ClassId)  (s0 : Int32)  (sz : Nat) : Met l yX12_isLetter (WSm yX12_isLetter cX12_isLetter 1 (some .boolean)) (mkR 2 0 0 45) (PreC D Y [.int s0] [] sz) (QI D (fun (r : Int32) (u : WU) => ((r = 0 ∧ ¬ LET s0) ∨ (r = 1 ∧ LET s0))) (fun (u : WU) => []) (va_A [] sz)) 0 0 (va_A [] sz) :=
  met_of  (by decide +kernel) (Nat.le_of_ble_eq_true rfl) (fun p e s m args below meth c B hin hsz => by
    have B : VB p s m args meth c D Y (va_A [] sz) cX12_isLetter 1 RX12 (some .boolean) := B
    refine V_iload_n 0 B dX12_isLetter_0 0 rfl ?_
    refine V_csi 1 B (st := []) (As := [.int s0]) (fun sz => rX12_isSmall l D Y s0 sz) glS_RX12_253 ⟨rfl, rfl⟩ ⟨(Nat.le_of_ble_eq_true rfl), (Nat.le_of_ble_eq_true rfl)⟩ ⟨(Nat.le_of_ble_eq_true rfl), (Nat.le_of_ble_eq_true rfl)⟩ [] rfl rfl (Nat.le_of_ble_eq_true rfl) rfl (fun _ _ _ => rfl) dX12_isLetter_1 (fun j0 u1 w2 => ?_)
    have x3 := w2
    clear w2
    rcases x3 with ⟨rfl, x4⟩ | ⟨rfl, x4⟩
    ·
      refine V_if_ne_f 4 B 21 dX12_isLetter_4 (by decide) (by decide +kernel) ?_
      refine V_iload_n 7 B dX12_isLetter_7 0 rfl ?_
      refine V_i2l 8 B dX12_isLetter_8 rfl ?_
      refine V_nml (fun o5 e6 => ?_)
      have x7 : o5.toInt = s0.toInt := by rw [e6, Int32.toInt_toInt64]
      refine V_ldc2 9 B (v := 65) dX12_isLetter_9 (mT9 213 rfl rfl) ?_
      refine V_ldc2 12 B (v := 90) dX12_isLetter_12 (mT9 214 rfl rfl) ?_
      refine V_csi 15 B (st := []) (As := [.long o5, .long 65, .long 90]) (fun sz => rX12_inRange l D Y o5 65 90 sz) glS_RX12_41 ⟨rfl, rfl⟩ ⟨(Nat.le_of_ble_eq_true rfl), (Nat.le_of_ble_eq_true rfl)⟩ ⟨(Nat.le_of_ble_eq_true rfl), (Nat.le_of_ble_eq_true rfl)⟩ [] rfl rfl (Nat.le_of_ble_eq_true rfl) rfl (fun _ _ _ => rfl) dX12_isLetter_15 (fun j8 u9 w10 => ?_)
      rcases w10 with ⟨rfl, x13⟩ | ⟨rfl, x11, x12⟩
      ·
        rw [show (65 : Int64).toInt = 65 by decide +kernel] at x13
        rw [show (90 : Int64).toInt = 90 by decide +kernel] at x13
        refine V_if_eq_t 18 B 25 dX12_isLetter_18 (by decide) (by decide +kernel) ?_
        refine V_iconst 25 B (v := 0) dX12_isLetter_25 (by decide +kernel) ?_
        exact V_zret 26 B rfl dX12_isLetter_26 (mkW [] [] [] [] [] []) (Or.inl ⟨rfl, (by unfold LET; omega)⟩) rfl
      ·
        rw [show (65 : Int64).toInt = 65 by decide +kernel] at x11
        rw [show (90 : Int64).toInt = 90 by decide +kernel] at x12
        refine V_if_eq_f 18 B 25 dX12_isLetter_18 (by decide) (by decide +kernel) ?_
        refine V_iconst 21 B (v := 1) dX12_isLetter_21 (by decide +kernel) ?_
        refine V_goto 22 B 26 dX12_isLetter_22 (by decide) ?_
        exact V_zret 26 B rfl dX12_isLetter_26 (mkW [] [] [] [] [] []) (Or.inr ⟨rfl, (by unfold LET; omega)⟩) rfl
    ·
      refine V_if_ne_t 4 B 21 dX12_isLetter_4 (by decide) (by decide +kernel) ?_
      refine V_iconst 21 B (v := 1) dX12_isLetter_21 (by decide +kernel) ?_
      refine V_goto 22 B 26 dX12_isLetter_22 (by decide) ?_
      exact V_zret 26 B rfl dX12_isLetter_26 (mkW [] [] [] [] [] []) (Or.inr ⟨rfl, (by unfold LET; omega)⟩) rfl)
theorem glS_RX12_277 : GLS RX12 277 yX12_isLetter cX12_isLetter 1 (some .boolean) 1 := ⟨⟨(mT9 205 rfl rfl), (mT9 206 rfl rfl), (mT1 13 rfl rfl), (mT9 207 rfl rfl)⟩, by decide +kernel⟩
theorem dX12_advance_75 : decode cX12_advance 75 = .ok (.ifCond .eq 7, 3) := by decide +kernel
theorem dX12_advance_82 : decode cX12_advance 82 = .ok (.iload_n 1, 1) := by decide +kernel
theorem dX12_advance_83 : decode cX12_advance 83 = .ok (.invokestatic 280, 3) := by decide +kernel
theorem dX12_isDigit_0 : decode cX12_isDigit 0 = .ok (.iload_n 0, 1) := by decide +kernel
theorem dX12_isDigit_1 : decode cX12_isDigit 1 = .ok (.i2l, 1) := by decide +kernel
theorem dX12_isDigit_2 : decode cX12_isDigit 2 = .ok (.ldc2_w 260, 3) := by decide +kernel
theorem dX12_isDigit_5 : decode cX12_isDigit 5 = .ok (.ldc2_w 262, 3) := by decide +kernel
theorem dX12_isDigit_8 : decode cX12_isDigit 8 = .ok (.invokestatic 41, 3) := by decide +kernel
theorem dX12_isDigit_11 : decode cX12_isDigit 11 = .ok (.ireturn, 1) := by decide +kernel
set_option maxRecDepth 100000 in
set_option maxHeartbeats 4000000 in
theorem rX12_isDigit (l : Launch) (D : va_G) (Y : Nat → ClassId)  (s0 : Int32)  (sz : Nat) : Met l yX12_isDigit (WSm yX12_isDigit cX12_isDigit 1 (some .boolean)) (mkR 1 0 0 25) (PreC D Y [.int s0] [] sz) (QI D (fun (r : Int32) (u : WU) => ((r = 0 ∧ ¬ DIG s0) ∨ (r = 1 ∧ DIG s0))) (fun (u : WU) => []) (va_A [] sz)) 0 0 (va_A [] sz) :=
  met_of  (by decide +kernel) (Nat.le_of_ble_eq_true rfl) (fun p e s m args below meth c B hin hsz => by
    have B : VB p s m args meth c D Y (va_A [] sz) cX12_isDigit 1 RX12 (some .boolean) := B
    refine V_iload_n 0 B dX12_isDigit_0 0 rfl ?_
    refine V_i2l 1 B dX12_isDigit_1 rfl ?_
    refine V_nml (fun o0 e1 => ?_)
    have x2 : o0.toInt = s0.toInt := by rw [e1, Int32.toInt_toInt64]
    refine V_ldc2 2 B (v := 48) dX12_isDigit_2 (mT9 218 rfl rfl) ?_
    refine V_ldc2 5 B (v := 57) dX12_isDigit_5 (mT9 219 rfl rfl) ?_
    refine V_csi 8 B (st := []) (As := [.long o0, .long 48, .long 57]) (fun sz => rX12_inRange l D Y o0 48 57 sz) glS_RX12_41 ⟨rfl, rfl⟩ ⟨(Nat.le_of_ble_eq_true rfl), (Nat.le_of_ble_eq_true rfl)⟩ ⟨(Nat.le_of_ble_eq_true rfl), (Nat.le_of_ble_eq_true rfl)⟩ [] rfl rfl (Nat.le_of_ble_eq_true rfl) rfl (fun _ _ _ => rfl) dX12_isDigit_8 (fun j3 u4 w5 => ?_)
    rcases w5 with ⟨rfl, x8⟩ | ⟨rfl, x6, x7⟩
    ·
      rw [show (48 : Int64).toInt = 48 by decide +kernel] at x8
      rw [show (57 : Int64).toInt = 57 by decide +kernel] at x8
      exact V_zret 11 B rfl dX12_isDigit_11 (mkW [] [] [] [] [] []) (Or.inl ⟨rfl, (by unfold DIG; omega)⟩) rfl
    ·
      rw [show (48 : Int64).toInt = 48 by decide +kernel] at x6
      rw [show (57 : Int64).toInt = 57 by decide +kernel] at x7
      exact V_zret 11 B rfl dX12_isDigit_11 (mkW [] [] [] [] [] []) (Or.inr ⟨rfl, (by unfold DIG; omega)⟩) rfl)
theorem glS_RX12_280 : GLS RX12 280 yX12_isDigit cX12_isDigit 1 (some .boolean) 1 := ⟨⟨(mT9 215 rfl rfl), (mT9 216 rfl rfl), (mT1 13 rfl rfl), (mT9 217 rfl rfl)⟩, by decide +kernel⟩
theorem dX12_advance_86 : decode cX12_advance 86 = .ok (.ifCond .eq 7, 3) := by decide +kernel
theorem dX12_advance_93 : decode cX12_advance 93 = .ok (.iload_n 1, 1) := by decide +kernel
theorem dX12_advance_94 : decode cX12_advance 94 = .ok (.bipush 59, 2) := by decide +kernel
theorem dX12_advance_96 : decode cX12_advance 96 = .ok (.if_icmp .ne 7, 3) := by decide +kernel
theorem dX12_advance_103 : decode cX12_advance 103 = .ok (.iconst 4, 1) := by decide +kernel
theorem dX12_advance_104 : decode cX12_advance 104 = .ok (.putfield 283, 3) := by decide +kernel
theorem gp_RX12_283 : GP RX12 283 13 9 .int false := ⟨RX12, TX12, 17, ⟨rfl, inw_X12, Nat.le_of_ble_eq_true rfl, (mT7 146 rfl rfl)⟩, ⟨tyX12, tyX12_ok⟩, nmX12, rfl, by decide +kernel, fun h => nomatch h⟩
theorem dX12_advance_107 : decode cX12_advance 107 = .ok (.aload_n 0, 1) := by decide +kernel
theorem dX12_advance_108 : decode cX12_advance 108 = .ok (.getfield 283, 3) := by decide +kernel
theorem dX12_advance_111 : decode cX12_advance 111 = .ok (.iconst 2, 1) := by decide +kernel
theorem dX12_advance_112 : decode cX12_advance 112 = .ok (.if_icmp .le 13, 3) := by decide +kernel
theorem dX12_advance_115 : decode cX12_advance 115 = .ok (.aload_n 0, 1) := by decide +kernel
theorem dX12_advance_116 : decode cX12_advance 116 = .ok (.dup, 1) := by decide +kernel
theorem dX12_advance_117 : decode cX12_advance 117 = .ok (.getfield 264, 3) := by decide +kernel
theorem dX12_advance_120 : decode cX12_advance 120 = .ok (.iconst 1, 1) := by decide +kernel
theorem dX12_advance_121 : decode cX12_advance 121 = .ok (.iadd, 1) := by decide +kernel
theorem dX12_advance_122 : decode cX12_advance 122 = .ok (.putfield 264, 3) := by decide +kernel
theorem dX12_advance_125 : decode cX12_advance 125 = .ok (.aload_n 0, 1) := by decide +kernel
theorem dX12_advance_126 : decode cX12_advance 126 = .ok (.getfield 283, 3) := by decide +kernel
theorem dX12_advance_129 : decode cX12_advance 129 = .ok (.iconst 1, 1) := by decide +kernel
theorem dX12_advance_130 : decode cX12_advance 130 = .ok (.if_icmp .ne 65, 3) := by decide +kernel
theorem dX12_advance_195 : decode cX12_advance 195 = .ok (.aload_n 0, 1) := by decide +kernel
theorem dX12_advance_196 : decode cX12_advance 196 = .ok (.getfield 283, 3) := by decide +kernel
theorem dX12_advance_199 : decode cX12_advance 199 = .ok (.iconst 2, 1) := by decide +kernel
theorem dX12_advance_200 : decode cX12_advance 200 = .ok (.if_icmp .ne 69, 3) := by decide +kernel
theorem dX12_advance_269 : decode cX12_advance 269 = .ok (.aload_n 0, 1) := by decide +kernel
theorem dX12_advance_270 : decode cX12_advance 270 = .ok (.getfield 283, 3) := by decide +kernel
theorem dX12_advance_273 : decode cX12_advance 273 = .ok (.iconst 1, 1) := by decide +kernel
theorem dX12_advance_274 : decode cX12_advance 274 = .ok (.if_icmp .ne 17, 3) := by decide +kernel
theorem dX12_advance_291 : decode cX12_advance 291 = .ok (.aload_n 0, 1) := by decide +kernel
theorem dX12_advance_292 : decode cX12_advance 292 = .ok (.getfield 283, 3) := by decide +kernel
theorem dX12_advance_295 : decode cX12_advance 295 = .ok (.iconst 2, 1) := by decide +kernel
theorem dX12_advance_296 : decode cX12_advance 296 = .ok (.if_icmp .ne 21, 3) := by decide +kernel
theorem dX12_advance_317 : decode cX12_advance 317 = .ok (.return_, 1) := by decide +kernel
theorem dX12_advance_99 : decode cX12_advance 99 = .ok (.iconst 3, 1) := by decide +kernel
theorem dX12_advance_100 : decode cX12_advance 100 = .ok (.goto 4, 3) := by decide +kernel
theorem dX12_advance_89 : decode cX12_advance 89 = .ok (.iconst 2, 1) := by decide +kernel
theorem dX12_advance_90 : decode cX12_advance 90 = .ok (.goto 14, 3) := by decide +kernel
theorem dX12_advance_203 : decode cX12_advance 203 = .ok (.aload_n 0, 1) := by decide +kernel
theorem dX12_advance_204 : decode cX12_advance 204 = .ok (.aload_n 0, 1) := by decide +kernel
theorem dX12_advance_205 : decode cX12_advance 205 = .ok (.getfield 264, 3) := by decide +kernel
theorem dX12_advance_208 : decode cX12_advance 208 = .ok (.invokevirtual 267, 3) := by decide +kernel
theorem dX12_advance_211 : decode cX12_advance 211 = .ok (.invokestatic 280, 3) := by decide +kernel
theorem dX12_advance_214 : decode cX12_advance 214 = .ok (.ifCond .eq 55, 3) := by decide +kernel
theorem dX12_advance_299 : decode cX12_advance 299 = .ok (.aload_n 0, 1) := by decide +kernel
theorem dX12_advance_300 : decode cX12_advance 300 = .ok (.getfield 264, 3) := by decide +kernel
theorem dX12_advance_303 : decode cX12_advance 303 = .ok (.aload_n 0, 1) := by decide +kernel
theorem dX12_advance_304 : decode cX12_advance 304 = .ok (.getfield 270, 3) := by decide +kernel
theorem dX12_advance_307 : decode cX12_advance 307 = .ok (.isub, 1) := by decide +kernel
theorem dX12_advance_308 : decode cX12_advance 308 = .ok (.iconst 3, 1) := by decide +kernel
theorem dX12_advance_309 : decode cX12_advance 309 = .ok (.if_icmp .le 8, 3) := by decide +kernel
theorem dX12_advance_312 : decode cX12_advance 312 = .ok (.aload_n 0, 1) := by decide +kernel
theorem dX12_advance_313 : decode cX12_advance 313 = .ok (.iconst 4, 1) := by decide +kernel
theorem dX12_advance_314 : decode cX12_advance 314 = .ok (.putfield 283, 3) := by decide +kernel
theorem dX12_advance_217 : decode cX12_advance 217 = .ok (.aload_n 0, 1) := by decide +kernel
theorem dX12_advance_218 : decode cX12_advance 218 = .ok (.getfield 264, 3) := by decide +kernel
theorem dX12_advance_221 : decode cX12_advance 221 = .ok (.aload_n 0, 1) := by decide +kernel
theorem dX12_advance_222 : decode cX12_advance 222 = .ok (.getfield 270, 3) := by decide +kernel
theorem dX12_advance_225 : decode cX12_advance 225 = .ok (.isub, 1) := by decide +kernel
theorem dX12_advance_226 : decode cX12_advance 226 = .ok (.iconst 3, 1) := by decide +kernel
theorem dX12_advance_227 : decode cX12_advance 227 = .ok (.if_icmp .ge 29, 3) := by decide +kernel
theorem dX12_advance_256 : decode cX12_advance 256 = .ok (.aload_n 0, 1) := by decide +kernel
theorem dX12_advance_257 : decode cX12_advance 257 = .ok (.dup, 1) := by decide +kernel
theorem dX12_advance_258 : decode cX12_advance 258 = .ok (.getfield 264, 3) := by decide +kernel
theorem dX12_advance_261 : decode cX12_advance 261 = .ok (.iconst 1, 1) := by decide +kernel
theorem dX12_advance_262 : decode cX12_advance 262 = .ok (.iadd, 1) := by decide +kernel
theorem dX12_advance_263 : decode cX12_advance 263 = .ok (.putfield 264, 3) := by decide +kernel
theorem dX12_advance_266 : decode cX12_advance 266 = .ok (.goto (-71), 3) := by decide +kernel
theorem dX12_advance_230 : decode cX12_advance 230 = .ok (.aload_n 0, 1) := by decide +kernel
theorem dX12_advance_231 : decode cX12_advance 231 = .ok (.aload_n 0, 1) := by decide +kernel
theorem dX12_advance_232 : decode cX12_advance 232 = .ok (.getfield 273, 3) := by decide +kernel
theorem dX12_advance_235 : decode cX12_advance 235 = .ok (.ldc2_w 286, 3) := by decide +kernel
theorem dX12_advance_238 : decode cX12_advance 238 = .ok (.lmul, 1) := by decide +kernel
theorem dX12_advance_239 : decode cX12_advance 239 = .ok (.aload_n 0, 1) := by decide +kernel
theorem dX12_advance_240 : decode cX12_advance 240 = .ok (.aload_n 0, 1) := by decide +kernel
theorem dX12_advance_241 : decode cX12_advance 241 = .ok (.getfield 264, 3) := by decide +kernel
theorem dX12_advance_244 : decode cX12_advance 244 = .ok (.invokevirtual 267, 3) := by decide +kernel
theorem dX12_advance_247 : decode cX12_advance 247 = .ok (.i2l, 1) := by decide +kernel
theorem dX12_advance_248 : decode cX12_advance 248 = .ok (.ladd, 1) := by decide +kernel
theorem dX12_advance_249 : decode cX12_advance 249 = .ok (.ldc2_w 260, 3) := by decide +kernel
theorem dX12_advance_252 : decode cX12_advance 252 = .ok (.lsub, 1) := by decide +kernel
theorem dX12_advance_253 : decode cX12_advance 253 = .ok (.putfield 273, 3) := by decide +kernel
theorem dX12_advance_78 : decode cX12_advance 78 = .ok (.iconst 1, 1) := by decide +kernel
theorem dX12_advance_79 : decode cX12_advance 79 = .ok (.goto 25, 3) := by decide +kernel
theorem dX12_advance_133 : decode cX12_advance 133 = .ok (.aload_n 0, 1) := by decide +kernel
theorem dX12_advance_134 : decode cX12_advance 134 = .ok (.aload_n 0, 1) := by decide +kernel
theorem dX12_advance_135 : decode cX12_advance 135 = .ok (.getfield 264, 3) := by decide +kernel
theorem dX12_advance_138 : decode cX12_advance 138 = .ok (.invokevirtual 267, 3) := by decide +kernel
theorem dX12_advance_141 : decode cX12_advance 141 = .ok (.invokestatic 277, 3) := by decide +kernel
theorem dX12_advance_144 : decode cX12_advance 144 = .ok (.ifCond .eq 51, 3) := by decide +kernel
theorem dX12_advance_277 : decode cX12_advance 277 = .ok (.aload_n 0, 1) := by decide +kernel
theorem dX12_advance_278 : decode cX12_advance 278 = .ok (.getfield 264, 3) := by decide +kernel
theorem dX12_advance_281 : decode cX12_advance 281 = .ok (.aload_n 0, 1) := by decide +kernel
theorem dX12_advance_282 : decode cX12_advance 282 = .ok (.getfield 270, 3) := by decide +kernel
theorem dX12_advance_285 : decode cX12_advance 285 = .ok (.isub, 1) := by decide +kernel
theorem dX12_advance_286 : decode cX12_advance 286 = .ok (.bipush 8, 2) := by decide +kernel
theorem dX12_advance_288 : decode cX12_advance 288 = .ok (.if_icmp .gt 24, 3) := by decide +kernel
theorem dX12_advance_147 : decode cX12_advance 147 = .ok (.aload_n 0, 1) := by decide +kernel
theorem dX12_advance_148 : decode cX12_advance 148 = .ok (.getfield 264, 3) := by decide +kernel
theorem dX12_advance_151 : decode cX12_advance 151 = .ok (.aload_n 0, 1) := by decide +kernel
theorem dX12_advance_152 : decode cX12_advance 152 = .ok (.getfield 270, 3) := by decide +kernel
theorem dX12_advance_155 : decode cX12_advance 155 = .ok (.isub, 1) := by decide +kernel
theorem dX12_advance_156 : decode cX12_advance 156 = .ok (.bipush 8, 2) := by decide +kernel
theorem dX12_advance_158 : decode cX12_advance 158 = .ok (.if_icmp .ge 24, 3) := by decide +kernel
theorem dX12_advance_182 : decode cX12_advance 182 = .ok (.aload_n 0, 1) := by decide +kernel
theorem dX12_advance_183 : decode cX12_advance 183 = .ok (.dup, 1) := by decide +kernel
theorem dX12_advance_184 : decode cX12_advance 184 = .ok (.getfield 264, 3) := by decide +kernel
theorem dX12_advance_187 : decode cX12_advance 187 = .ok (.iconst 1, 1) := by decide +kernel
theorem dX12_advance_188 : decode cX12_advance 188 = .ok (.iadd, 1) := by decide +kernel
theorem dX12_advance_189 : decode cX12_advance 189 = .ok (.putfield 264, 3) := by decide +kernel
theorem dX12_advance_192 : decode cX12_advance 192 = .ok (.goto (-67), 3) := by decide +kernel
theorem dX12_advance_161 : decode cX12_advance 161 = .ok (.aload_n 0, 1) := by decide +kernel
theorem dX12_advance_162 : decode cX12_advance 162 = .ok (.aload_n 0, 1) := by decide +kernel
theorem dX12_advance_163 : decode cX12_advance 163 = .ok (.getfield 273, 3) := by decide +kernel
theorem dX12_advance_166 : decode cX12_advance 166 = .ok (.bipush 7, 2) := by decide +kernel
theorem dX12_advance_168 : decode cX12_advance 168 = .ok (.lshl, 1) := by decide +kernel
theorem dX12_advance_169 : decode cX12_advance 169 = .ok (.aload_n 0, 1) := by decide +kernel
theorem dX12_advance_170 : decode cX12_advance 170 = .ok (.aload_n 0, 1) := by decide +kernel
theorem dX12_advance_171 : decode cX12_advance 171 = .ok (.getfield 264, 3) := by decide +kernel
theorem dX12_advance_174 : decode cX12_advance 174 = .ok (.invokevirtual 267, 3) := by decide +kernel
theorem dX12_advance_177 : decode cX12_advance 177 = .ok (.i2l, 1) := by decide +kernel
theorem dX12_advance_178 : decode cX12_advance 178 = .ok (.lor, 1) := by decide +kernel
theorem dX12_advance_179 : decode cX12_advance 179 = .ok (.putfield 273, 3) := by decide +kernel
theorem dX12_advance_67 : decode cX12_advance 67 = .ok (.iconst 0, 1) := by decide +kernel
theorem dX12_advance_68 : decode cX12_advance 68 = .ok (.goto 36, 3) := by decide +kernel
set_option maxRecDepth 100000 in
set_option maxHeartbeats 4000000 in
theorem rX12_advance (l : Launch) (D : va_G) (Y : Nat → ClassId) (h0 : Nat) (h1 : Nat) (h2 : Nat) (h3 : Nat) (h4 : Nat) (h5 : Nat) (h6 : Nat) (p2 : Int32) (k5 : Nat) (k6 : Nat) (p7 : Int32) (p8 : Int32) (p9 : Int32) (k10 : Nat) (p11 : Int32) (q12 : Int64) (k15 : Nat) (k16 : Nat) (f0 : Nat → Int32) (f1 : Nat → Int32) (f3 : Nat → Int32) (f4 : Nat → Int32) (f13 : Nat → Int32) (f14 : Nat → Int32) (HI : INV f0) (HL : k5 ≤ 1600) (HP : PLV f13)  (hx0 : k6 ≤ k5) (sz : Nat) : Met l yX12_advance (WSm yX12_advance cX12_advance 2 none) (mkR 3 0 0 65) (PreC D Y [.ref h0] [(h0, oC 13 [.ref h1, .ref h2, .int p2, .ref h3, .ref h4, .int (nI k5), .int (nI k6), .int p7, .int p8, .int p9, .int (nI k10), .int p11, .long q12, .ref h5, .ref h6, .int (nI k15), .int (nI k16)]), (h1, aI Y 3640 f0), (h2, aZ Y 2 f1), (h3, aZ Y 80 f3), (h4, aB Y 1600 f4), (h5, aI Y 200 f13), (h6, aI Y 800 f14)] sz) (QV D (fun (u : WU) => k6 ≤ (u.1 1) ∧ (u.1 1) ≤ (u.1 0) ∧ (u.1 0) ≤ k5 ∧ ((u.2.1 0) = 0 ∨ (u.1 1) < (u.1 0))) (fun (u : WU) => [(h0, oC 13 [.ref h1, .ref h2, .int p2, .ref h3, .ref h4, .int (nI k5), .int (nI (u.1 0)), .int p7, .int p8, .int (u.2.1 0), .int (nI (u.1 1)), .int p11, .long (u.2.2.1 0), .ref h5, .ref h6, .int (nI k15), .int (nI k16)]), (h1, aI Y 3640 f0), (h2, aZ Y 2 f1), (h3, aZ Y 80 f3), (h4, aB Y 1600 f4), (h5, aI Y 200 f13), (h6, aI Y 800 f14)]) (va_A [(h0, oC 13 [.ref h1, .ref h2, .int p2, .ref h3, .ref h4, .int (nI k5), .int (nI k6), .int p7, .int p8, .int p9, .int (nI k10), .int p11, .long q12, .ref h5, .ref h6, .int (nI k15), .int (nI k16)]), (h1, aI Y 3640 f0), (h2, aZ Y 2 f1), (h3, aZ Y 80 f3), (h4, aB Y 1600 f4), (h5, aI Y 200 f13), (h6, aI Y 800 f14)] sz)) 0 0 (va_A [(h0, oC 13 [.ref h1, .ref h2, .int p2, .ref h3, .ref h4, .int (nI k5), .int (nI k6), .int p7, .int p8, .int p9, .int (nI k10), .int p11, .long q12, .ref h5, .ref h6, .int (nI k15), .int (nI k16)]), (h1, aI Y 3640 f0), (h2, aZ Y 2 f1), (h3, aZ Y 80 f3), (h4, aB Y 1600 f4), (h5, aI Y 200 f13), (h6, aI Y 800 f14)] sz) :=
  met_of  (by decide +kernel) (Nat.le_of_ble_eq_true rfl) (fun p e s m args below meth c B hin hsz => by
    have B : VB p s m args meth c D Y (va_A [(h0, oC 13 [.ref h1, .ref h2, .int p2, .ref h3, .ref h4, .int (nI k5), .int (nI k6), .int p7, .int p8, .int p9, .int (nI k10), .int p11, .long q12, .ref h5, .ref h6, .int (nI k15), .int (nI k16)]), (h1, aI Y 3640 f0), (h2, aZ Y 2 f1), (h3, aZ Y 80 f3), (h4, aB Y 1600 f4), (h5, aI Y 200 f13), (h6, aI Y 800 f14)] sz) cX12_advance 2 RX12 none := B
    refine V_wloop (α := WU) (fun a => 100000 - (a.1 0)) (fun a => (k6 ≤ (a.1 0) ∧ (a.1 0) ≤ k5)) (fun a => [(0, .ref h0)]) (fun a => [(h0, oC 13 [.ref h1, .ref h2, .int p2, .ref h3, .ref h4, .int (nI k5), .int (nI (a.1 0)), .int p7, .int p8, .int p9, .int (nI k10), .int p11, .long q12, .ref h5, .ref h6, .int (nI k15), .int (nI k16)]), (h1, aI Y 3640 f0), (h2, aZ Y 2 f1), (h3, aZ Y 80 f3), (h4, aB Y 1600 f4), (h5, aI Y 200 f13), (h6, aI Y 800 f14)]) (mkW [k6] [] [] [] [] []) (show k6 ≤ k6 ∧ k6 ≤ k5 by omega) rfl rfl (fun a0 hI2 IH1 => ?_)
    refine V_lv [(0, .ref h0)] [0] rfl ?_
    refine V_ws [(h0, oC 13 [.ref h1, .ref h2, .int p2, .ref h3, .ref h4, .int (nI k5), .int (nI (a0.1 0)), .int p7, .int p8, .int p9, .int (nI k10), .int p11, .long q12, .ref h5, .ref h6, .int (nI k15), .int (nI k16)]), (h1, aI Y 3640 f0), (h2, aZ Y 2 f1), (h3, aZ Y 80 f3), (h4, aB Y 1600 f4), (h5, aI Y 200 f13), (h6, aI Y 800 f14)] rfl ?_
    have x3 := hI2
    refine V_aload_n 0 B dX12_advance_0 0 rfl ?_
    refine V_aload_n 1 B dX12_advance_1 0 rfl ?_
    refine V_get 2 B gf_RX12_264 0 rfl rfl dX12_advance_2 ?_
    refine V_cvi 5 B (st := []) (As := [.int (nI (a0.1 0))]) (fun sz => rX12_byteAt l D Y h0 h1 h2 h3 h4 h5 h6 p2 k5 (a0.1 0) p7 p8 p9 k10 p11 q12 k15 k16 f0 f1 f3 f4 f13 f14 HI (by omega) HP (a0.1 0) (by omega) sz) glV_RX12_267 ⟨rfl, rfl⟩ ⟨(Nat.le_of_ble_eq_true rfl), (Nat.le_of_ble_eq_true rfl)⟩ ⟨(Nat.le_of_ble_eq_true rfl), (Nat.le_of_ble_eq_true rfl)⟩ [0, 0, 0, 0, 0, 0, 0] rfl 13 0 rfl rfl rfl rfl (Nat.le_of_ble_eq_true rfl) rfl (fun _ _ _ => rfl) dX12_advance_5 (fun j4 u5 w6 => ?_)
    refine V_ws [(h0, oC 13 [.ref h1, .ref h2, .int p2, .ref h3, .ref h4, .int (nI k5), .int (nI (a0.1 0)), .int p7, .int p8, .int p9, .int (nI k10), .int p11, .long q12, .ref h5, .ref h6, .int (nI k15), .int (nI k16)]), (h1, aI Y 3640 f0), (h2, aZ Y 2 f1), (h3, aZ Y 80 f3), (h4, aB Y 1600 f4), (h5, aI Y 200 f13), (h6, aI Y 800 f14)] rfl ?_
    have x7 := w6
    clear w6
    have x8 : -1 ≤ j4.toInt ∧ j4.toInt ≤ 255 := by rw [x7]; exact BY_rng _ _ _
    refine V_bipush 8 B (v := 32) dX12_advance_8 (by decide +kernel) ?_
    refine V_icmp_eq 10 B 26 dX12_advance_10 (by decide) (fun kk9 => ?_) (fun kk9 => ?_)
    ·
      obtain rfl : j4 = 32 := kk9
      have e11 : (32 : Int32).toInt = 32 := by decide +kernel
      have x12 := BY_lt x7 (by decide +kernel)
      refine V_aload_n 26 B dX12_advance_26 0 rfl ?_
      refine V_dup 27 B dX12_advance_27 rfl ?_
      refine V_get 28 B gf_RX12_264 0 rfl rfl dX12_advance_28 ?_
      refine V_iconst 31 B (v := 1) dX12_advance_31 (by decide +kernel) ?_
      refine V_iadd 32 B (v := (nI (1 + (a0.1 0)))) dX12_advance_32 (nI_addE (a := (a0.1 0)) (b := 1) (by omega)) ?_
      refine V_put 33 B gp_RX12_264 0 rfl (Nat.le_of_ble_eq_true rfl) rfl rfl dX12_advance_33 [(h0, oC 13 [.ref h1, .ref h2, .int p2, .ref h3, .ref h4, .int (nI k5), .int (nI (1 + (a0.1 0))), .int p7, .int p8, .int p9, .int (nI k10), .int p11, .long q12, .ref h5, .ref h6, .int (nI k15), .int (nI k16)]), (h1, aI Y 3640 f0), (h2, aZ Y 2 f1), (h3, aZ Y 80 f3), (h4, aB Y 1600 f4), (h5, aI Y 200 f13), (h6, aI Y 800 f14)] rfl ?_
      refine V_goto 36 B 0 dX12_advance_36 (by decide) ?_
      refine V_lv [(0, .ref h0)] [0] rfl ?_
      exact IH1 (mkW [1 + (a0.1 0)] [] [] [] [] []) (show k6 ≤ 1 + (a0.1 0) ∧ 1 + (a0.1 0) ≤ k5 by omega) (by show 100000 - (1 + (a0.1 0)) < _; omega)
    ·
      have x13 := x_ne kk9
      rw [show (32 : Int32).toInt = 32 by decide +kernel] at x13
      refine V_aload_n 13 B dX12_advance_13 0 rfl ?_
      refine V_aload_n 14 B dX12_advance_14 0 rfl ?_
      refine V_get 15 B gf_RX12_264 0 rfl rfl dX12_advance_15 ?_
      refine V_cvi 18 B (st := []) (As := [.int (nI (a0.1 0))]) (fun sz => rX12_byteAt l D Y h0 h1 h2 h3 h4 h5 h6 p2 k5 (a0.1 0) p7 p8 p9 k10 p11 q12 k15 k16 f0 f1 f3 f4 f13 f14 HI (by omega) HP (a0.1 0) (by omega) sz) glV_RX12_267 ⟨rfl, rfl⟩ ⟨(Nat.le_of_ble_eq_true rfl), (Nat.le_of_ble_eq_true rfl)⟩ ⟨(Nat.le_of_ble_eq_true rfl), (Nat.le_of_ble_eq_true rfl)⟩ [0, 0, 0, 0, 0, 0, 0] rfl 13 0 rfl rfl rfl rfl (Nat.le_of_ble_eq_true rfl) rfl (fun _ _ _ => rfl) dX12_advance_18 (fun j14 u15 w16 => ?_)
      refine V_ws [(h0, oC 13 [.ref h1, .ref h2, .int p2, .ref h3, .ref h4, .int (nI k5), .int (nI (a0.1 0)), .int p7, .int p8, .int p9, .int (nI k10), .int p11, .long q12, .ref h5, .ref h6, .int (nI k15), .int (nI k16)]), (h1, aI Y 3640 f0), (h2, aZ Y 2 f1), (h3, aZ Y 80 f3), (h4, aB Y 1600 f4), (h5, aI Y 200 f13), (h6, aI Y 800 f14)] rfl ?_
      have x17 := w16
      clear w16
      have x18 : -1 ≤ j14.toInt ∧ j14.toInt ≤ 255 := by rw [x17]; exact BY_rng _ _ _
      refine V_bipush 21 B (v := 10) dX12_advance_21 (by decide +kernel) ?_
      refine V_icmp_ne 23 B 39 dX12_advance_23 (by decide) (fun kk19 => ?_) (fun kk19 => ?_)
      ·
        have x20 := x_ne kk19
        rw [show (10 : Int32).toInt = 10 by decide +kernel] at x20
        refine V_aload_n 39 B dX12_advance_39 0 rfl ?_
        refine V_aload_n 40 B dX12_advance_40 0 rfl ?_
        refine V_get 41 B gf_RX12_264 0 rfl rfl dX12_advance_41 ?_
        refine V_put 44 B gp_RX12_270 0 rfl (Nat.le_of_ble_eq_true rfl) rfl rfl dX12_advance_44 [(h0, oC 13 [.ref h1, .ref h2, .int p2, .ref h3, .ref h4, .int (nI k5), .int (nI (a0.1 0)), .int p7, .int p8, .int p9, .int (nI (a0.1 0)), .int p11, .long q12, .ref h5, .ref h6, .int (nI k15), .int (nI k16)]), (h1, aI Y 3640 f0), (h2, aZ Y 2 f1), (h3, aZ Y 80 f3), (h4, aB Y 1600 f4), (h5, aI Y 200 f13), (h6, aI Y 800 f14)] rfl ?_
        refine V_aload_n 47 B dX12_advance_47 0 rfl ?_
        refine V_lconst 48 B (v := 0) dX12_advance_48 (by decide +kernel) ?_
        refine V_put 49 B gp_RX12_273 0 rfl (Nat.le_of_ble_eq_true rfl) rfl rfl dX12_advance_49 [(h0, oC 13 [.ref h1, .ref h2, .int p2, .ref h3, .ref h4, .int (nI k5), .int (nI (a0.1 0)), .int p7, .int p8, .int p9, .int (nI (a0.1 0)), .int p11, .long 0, .ref h5, .ref h6, .int (nI k15), .int (nI k16)]), (h1, aI Y 3640 f0), (h2, aZ Y 2 f1), (h3, aZ Y 80 f3), (h4, aB Y 1600 f4), (h5, aI Y 200 f13), (h6, aI Y 800 f14)] rfl ?_
        refine V_aload_n 52 B dX12_advance_52 0 rfl ?_
        refine V_aload_n 53 B dX12_advance_53 0 rfl ?_
        refine V_get 54 B gf_RX12_270 0 rfl rfl dX12_advance_54 ?_
        refine V_cvi 57 B (st := []) (As := [.int (nI (a0.1 0))]) (fun sz => rX12_byteAt l D Y h0 h1 h2 h3 h4 h5 h6 p2 k5 (a0.1 0) p7 p8 p9 (a0.1 0) p11 0 k15 k16 f0 f1 f3 f4 f13 f14 HI (by omega) HP (a0.1 0) (by omega) sz) glV_RX12_267 ⟨rfl, rfl⟩ ⟨(Nat.le_of_ble_eq_true rfl), (Nat.le_of_ble_eq_true rfl)⟩ ⟨(Nat.le_of_ble_eq_true rfl), (Nat.le_of_ble_eq_true rfl)⟩ [0, 0, 0, 0, 0, 0, 0] rfl 13 0 rfl rfl rfl rfl (Nat.le_of_ble_eq_true rfl) rfl (fun _ _ _ => rfl) dX12_advance_57 (fun j21 u22 w23 => ?_)
        refine V_ws [(h0, oC 13 [.ref h1, .ref h2, .int p2, .ref h3, .ref h4, .int (nI k5), .int (nI (a0.1 0)), .int p7, .int p8, .int p9, .int (nI (a0.1 0)), .int p11, .long 0, .ref h5, .ref h6, .int (nI k15), .int (nI k16)]), (h1, aI Y 3640 f0), (h2, aZ Y 2 f1), (h3, aZ Y 80 f3), (h4, aB Y 1600 f4), (h5, aI Y 200 f13), (h6, aI Y 800 f14)] rfl ?_
        have x24 := w23
        clear w23
        have x25 : -1 ≤ j21.toInt ∧ j21.toInt ≤ 255 := by rw [x24]; exact BY_rng _ _ _
        refine V_istore_n 60 B (lv2 := [(1, .int j21), (0, .ref h0)]) dX12_advance_60 (by decide) rfl ?_
        refine V_aload_n 61 B dX12_advance_61 1 rfl ?_
        refine V_iload_n 62 B dX12_advance_62 0 rfl ?_
        refine V_iconst 63 B (v := (-1)) dX12_advance_63 (by decide +kernel) ?_
        refine V_icmp_ne 64 B 71 dX12_advance_64 (by decide) (fun kk26 => ?_) (fun kk26 => ?_)
        ·
          have x27 := x_ne kk26
          rw [show ((-1) : Int32).toInt = (-1) by decide +kernel] at x27
          refine V_iload_n 71 B dX12_advance_71 0 rfl ?_
          refine V_csi 72 B (st := [.ref h0]) (As := [.int j21]) (fun sz => rX12_isLetter l D Y j21 sz) glS_RX12_277 ⟨rfl, rfl⟩ ⟨(Nat.le_of_ble_eq_true rfl), (Nat.le_of_ble_eq_true rfl)⟩ ⟨(Nat.le_of_ble_eq_true rfl), (Nat.le_of_ble_eq_true rfl)⟩ [] rfl rfl (Nat.le_of_ble_eq_true rfl) rfl (fun _ _ _ => rfl) dX12_advance_72 (fun j28 u29 w30 => ?_)
          refine V_ws [(h0, oC 13 [.ref h1, .ref h2, .int p2, .ref h3, .ref h4, .int (nI k5), .int (nI (a0.1 0)), .int p7, .int p8, .int p9, .int (nI (a0.1 0)), .int p11, .long 0, .ref h5, .ref h6, .int (nI k15), .int (nI k16)]), (h1, aI Y 3640 f0), (h2, aZ Y 2 f1), (h3, aZ Y 80 f3), (h4, aB Y 1600 f4), (h5, aI Y 200 f13), (h6, aI Y 800 f14)] rfl ?_
          have x31 := w30
          clear w30
          rcases x31 with ⟨rfl, x32⟩ | ⟨rfl, x32⟩
          ·
            refine V_if_eq_t 75 B 82 dX12_advance_75 (by decide) (by decide +kernel) ?_
            refine V_iload_n 82 B dX12_advance_82 0 rfl ?_
            refine V_csi 83 B (st := [.ref h0]) (As := [.int j21]) (fun sz => rX12_isDigit l D Y j21 sz) glS_RX12_280 ⟨rfl, rfl⟩ ⟨(Nat.le_of_ble_eq_true rfl), (Nat.le_of_ble_eq_true rfl)⟩ ⟨(Nat.le_of_ble_eq_true rfl), (Nat.le_of_ble_eq_true rfl)⟩ [] rfl rfl (Nat.le_of_ble_eq_true rfl) rfl (fun _ _ _ => rfl) dX12_advance_83 (fun j33 u34 w35 => ?_)
            refine V_ws [(h0, oC 13 [.ref h1, .ref h2, .int p2, .ref h3, .ref h4, .int (nI k5), .int (nI (a0.1 0)), .int p7, .int p8, .int p9, .int (nI (a0.1 0)), .int p11, .long 0, .ref h5, .ref h6, .int (nI k15), .int (nI k16)]), (h1, aI Y 3640 f0), (h2, aZ Y 2 f1), (h3, aZ Y 80 f3), (h4, aB Y 1600 f4), (h5, aI Y 200 f13), (h6, aI Y 800 f14)] rfl ?_
            have x36 := w35
            clear w35
            rcases x36 with ⟨rfl, x37⟩ | ⟨rfl, x37⟩
            ·
              refine V_if_eq_t 86 B 93 dX12_advance_86 (by decide) (by decide +kernel) ?_
              refine V_iload_n 93 B dX12_advance_93 0 rfl ?_
              refine V_bipush 94 B (v := 59) dX12_advance_94 (by decide +kernel) ?_
              refine V_icmp_ne 96 B 103 dX12_advance_96 (by decide) (fun kk38 => ?_) (fun kk38 => ?_)
              ·
                have x39 := x_ne kk38
                rw [show (59 : Int32).toInt = 59 by decide +kernel] at x39
                refine V_iconst 103 B (v := 4) dX12_advance_103 (by decide +kernel) ?_
                refine V_put 104 B gp_RX12_283 0 rfl (Nat.le_of_ble_eq_true rfl) rfl rfl dX12_advance_104 [(h0, oC 13 [.ref h1, .ref h2, .int p2, .ref h3, .ref h4, .int (nI k5), .int (nI (a0.1 0)), .int p7, .int p8, .int 4, .int (nI (a0.1 0)), .int p11, .long 0, .ref h5, .ref h6, .int (nI k15), .int (nI k16)]), (h1, aI Y 3640 f0), (h2, aZ Y 2 f1), (h3, aZ Y 80 f3), (h4, aB Y 1600 f4), (h5, aI Y 200 f13), (h6, aI Y 800 f14)] rfl ?_
                refine V_aload_n 107 B dX12_advance_107 1 rfl ?_
                refine V_get 108 B gf_RX12_283 0 rfl rfl dX12_advance_108 ?_
                refine V_iconst 111 B (v := 2) dX12_advance_111 (by decide +kernel) ?_
                refine V_icmp_le_f 112 B 125 dX12_advance_112 (by decide) (by decide +kernel) ?_
                have x40 : 0 ≤ j4.toInt → (a0.1 0) < k5 := fun z => BY_lt x7 z
                have x41 : 0 ≤ j14.toInt → (a0.1 0) < k5 := fun z => BY_lt x17 z
                have x42 : 0 ≤ j21.toInt → (a0.1 0) < k5 := fun z => BY_lt x24 z
                refine V_aload_n 115 B dX12_advance_115 1 rfl ?_
                refine V_dup 116 B dX12_advance_116 rfl ?_
                refine V_get 117 B gf_RX12_264 0 rfl rfl dX12_advance_117 ?_
                refine V_iconst 120 B (v := 1) dX12_advance_120 (by decide +kernel) ?_
                refine V_iadd 121 B (v := (nI (1 + (a0.1 0)))) dX12_advance_121 (nI_addE (a := (a0.1 0)) (b := 1) (by omega)) ?_
                refine V_put 122 B gp_RX12_264 0 rfl (Nat.le_of_ble_eq_true rfl) rfl rfl dX12_advance_122 [(h0, oC 13 [.ref h1, .ref h2, .int p2, .ref h3, .ref h4, .int (nI k5), .int (nI (1 + (a0.1 0))), .int p7, .int p8, .int 4, .int (nI (a0.1 0)), .int p11, .long 0, .ref h5, .ref h6, .int (nI k15), .int (nI k16)]), (h1, aI Y 3640 f0), (h2, aZ Y 2 f1), (h3, aZ Y 80 f3), (h4, aB Y 1600 f4), (h5, aI Y 200 f13), (h6, aI Y 800 f14)] rfl ?_
                refine V_aload_n 125 B dX12_advance_125 1 rfl ?_
                refine V_get 126 B gf_RX12_283 0 rfl rfl dX12_advance_126 ?_
                refine V_iconst 129 B (v := 1) dX12_advance_129 (by decide +kernel) ?_
                refine V_icmp_ne_t 130 B 195 dX12_advance_130 (by decide) (by decide +kernel) ?_
                refine V_aload_n 195 B dX12_advance_195 1 rfl ?_
                refine V_get 196 B gf_RX12_283 0 rfl rfl dX12_advance_196 ?_
                refine V_iconst 199 B (v := 2) dX12_advance_199 (by decide +kernel) ?_
                refine V_icmp_ne_t 200 B 269 dX12_advance_200 (by decide) (by decide +kernel) ?_
                refine V_aload_n 269 B dX12_advance_269 1 rfl ?_
                refine V_get 270 B gf_RX12_283 0 rfl rfl dX12_advance_270 ?_
                refine V_iconst 273 B (v := 1) dX12_advance_273 (by decide +kernel) ?_
                refine V_icmp_ne_t 274 B 291 dX12_advance_274 (by decide) (by decide +kernel) ?_
                refine V_aload_n 291 B dX12_advance_291 1 rfl ?_
                refine V_get 292 B gf_RX12_283 0 rfl rfl dX12_advance_292 ?_
                refine V_iconst 295 B (v := 2) dX12_advance_295 (by decide +kernel) ?_
                refine V_icmp_ne_t 296 B 317 dX12_advance_296 (by decide) (by decide +kernel) ?_
                exact V_vret 317 B dX12_advance_317 (mkW [1 + (a0.1 0), (a0.1 0)] [4] [0] [] [] []) ⟨(show k6 ≤ (a0.1 0) by omega), (show (a0.1 0) ≤ 1 + (a0.1 0) by omega), (show 1 + (a0.1 0) ≤ k5 by omega), (Or.inr (show (a0.1 0) < 1 + (a0.1 0) by first | omega | exact (Or.resolve_left hx2 (by decide))))⟩ rfl
              ·
                obtain rfl : j21 = 59 := kk38
                have e44 : (59 : Int32).toInt = 59 := by decide +kernel
                refine V_iconst 99 B (v := 3) dX12_advance_99 (by decide +kernel) ?_
                refine V_goto 100 B 104 dX12_advance_100 (by decide) ?_
                refine V_put 104 B gp_RX12_283 0 rfl (Nat.le_of_ble_eq_true rfl) rfl rfl dX12_advance_104 [(h0, oC 13 [.ref h1, .ref h2, .int p2, .ref h3, .ref h4, .int (nI k5), .int (nI (a0.1 0)), .int p7, .int p8, .int 3, .int (nI (a0.1 0)), .int p11, .long 0, .ref h5, .ref h6, .int (nI k15), .int (nI k16)]), (h1, aI Y 3640 f0), (h2, aZ Y 2 f1), (h3, aZ Y 80 f3), (h4, aB Y 1600 f4), (h5, aI Y 200 f13), (h6, aI Y 800 f14)] rfl ?_
                refine V_aload_n 107 B dX12_advance_107 1 rfl ?_
                refine V_get 108 B gf_RX12_283 0 rfl rfl dX12_advance_108 ?_
                refine V_iconst 111 B (v := 2) dX12_advance_111 (by decide +kernel) ?_
                refine V_icmp_le_f 112 B 125 dX12_advance_112 (by decide) (by decide +kernel) ?_
                have x45 : 0 ≤ j4.toInt → (a0.1 0) < k5 := fun z => BY_lt x7 z
                have x46 : 0 ≤ j14.toInt → (a0.1 0) < k5 := fun z => BY_lt x17 z
                have x47 := BY_lt x24 (by decide +kernel)
                refine V_aload_n 115 B dX12_advance_115 1 rfl ?_
                refine V_dup 116 B dX12_advance_116 rfl ?_
                refine V_get 117 B gf_RX12_264 0 rfl rfl dX12_advance_117 ?_
                refine V_iconst 120 B (v := 1) dX12_advance_120 (by decide +kernel) ?_
                refine V_iadd 121 B (v := (nI (1 + (a0.1 0)))) dX12_advance_121 (nI_addE (a := (a0.1 0)) (b := 1) (by omega)) ?_
                refine V_put 122 B gp_RX12_264 0 rfl (Nat.le_of_ble_eq_true rfl) rfl rfl dX12_advance_122 [(h0, oC 13 [.ref h1, .ref h2, .int p2, .ref h3, .ref h4, .int (nI k5), .int (nI (1 + (a0.1 0))), .int p7, .int p8, .int 3, .int (nI (a0.1 0)), .int p11, .long 0, .ref h5, .ref h6, .int (nI k15), .int (nI k16)]), (h1, aI Y 3640 f0), (h2, aZ Y 2 f1), (h3, aZ Y 80 f3), (h4, aB Y 1600 f4), (h5, aI Y 200 f13), (h6, aI Y 800 f14)] rfl ?_
                refine V_aload_n 125 B dX12_advance_125 1 rfl ?_
                refine V_get 126 B gf_RX12_283 0 rfl rfl dX12_advance_126 ?_
                refine V_iconst 129 B (v := 1) dX12_advance_129 (by decide +kernel) ?_
                refine V_icmp_ne_t 130 B 195 dX12_advance_130 (by decide) (by decide +kernel) ?_
                refine V_aload_n 195 B dX12_advance_195 1 rfl ?_
                refine V_get 196 B gf_RX12_283 0 rfl rfl dX12_advance_196 ?_
                refine V_iconst 199 B (v := 2) dX12_advance_199 (by decide +kernel) ?_
                refine V_icmp_ne_t 200 B 269 dX12_advance_200 (by decide) (by decide +kernel) ?_
                refine V_aload_n 269 B dX12_advance_269 1 rfl ?_
                refine V_get 270 B gf_RX12_283 0 rfl rfl dX12_advance_270 ?_
                refine V_iconst 273 B (v := 1) dX12_advance_273 (by decide +kernel) ?_
                refine V_icmp_ne_t 274 B 291 dX12_advance_274 (by decide) (by decide +kernel) ?_
                refine V_aload_n 291 B dX12_advance_291 1 rfl ?_
                refine V_get 292 B gf_RX12_283 0 rfl rfl dX12_advance_292 ?_
                refine V_iconst 295 B (v := 2) dX12_advance_295 (by decide +kernel) ?_
                refine V_icmp_ne_t 296 B 317 dX12_advance_296 (by decide) (by decide +kernel) ?_
                exact V_vret 317 B dX12_advance_317 (mkW [1 + (a0.1 0), (a0.1 0)] [3] [0] [] [] []) ⟨(show k6 ≤ (a0.1 0) by omega), (show (a0.1 0) ≤ 1 + (a0.1 0) by omega), (show 1 + (a0.1 0) ≤ k5 by omega), (Or.inr (show (a0.1 0) < 1 + (a0.1 0) by first | omega | exact (Or.resolve_left hx2 (by decide))))⟩ rfl
            ·
              refine V_if_eq_f 86 B 93 dX12_advance_86 (by decide) (by decide +kernel) ?_
              refine V_iconst 89 B (v := 2) dX12_advance_89 (by decide +kernel) ?_
              refine V_goto 90 B 104 dX12_advance_90 (by decide) ?_
              refine V_put 104 B gp_RX12_283 0 rfl (Nat.le_of_ble_eq_true rfl) rfl rfl dX12_advance_104 [(h0, oC 13 [.ref h1, .ref h2, .int p2, .ref h3, .ref h4, .int (nI k5), .int (nI (a0.1 0)), .int p7, .int p8, .int 2, .int (nI (a0.1 0)), .int p11, .long 0, .ref h5, .ref h6, .int (nI k15), .int (nI k16)]), (h1, aI Y 3640 f0), (h2, aZ Y 2 f1), (h3, aZ Y 80 f3), (h4, aB Y 1600 f4), (h5, aI Y 200 f13), (h6, aI Y 800 f14)] rfl ?_
              refine V_aload_n 107 B dX12_advance_107 1 rfl ?_
              refine V_get 108 B gf_RX12_283 0 rfl rfl dX12_advance_108 ?_
              refine V_iconst 111 B (v := 2) dX12_advance_111 (by decide +kernel) ?_
              refine V_icmp_le_t 112 B 125 dX12_advance_112 (by decide) (by decide +kernel) ?_
              refine V_aload_n 125 B dX12_advance_125 1 rfl ?_
              refine V_get 126 B gf_RX12_283 0 rfl rfl dX12_advance_126 ?_
              refine V_iconst 129 B (v := 1) dX12_advance_129 (by decide +kernel) ?_
              refine V_icmp_ne_t 130 B 195 dX12_advance_130 (by decide) (by decide +kernel) ?_
              refine V_wloop (α := WU) (fun a => 100000 - (a.1 0)) (fun a => ((a0.1 0) ≤ (a.1 0) ∧ (a.1 0) ≤ k5 ∧ ((a.1 0) = (a0.1 0) → DIG (BY f4 k5 (a0.1 0))))) (fun a => [(1, .int j21), (0, .ref h0)]) (fun a => [(h0, oC 13 [.ref h1, .ref h2, .int p2, .ref h3, .ref h4, .int (nI k5), .int (nI (a.1 0)), .int p7, .int p8, .int 2, .int (nI (a0.1 0)), .int p11, .long (a.2.2.1 0), .ref h5, .ref h6, .int (nI k15), .int (nI k16)]), (h1, aI Y 3640 f0), (h2, aZ Y 2 f1), (h3, aZ Y 80 f3), (h4, aB Y 1600 f4), (h5, aI Y 200 f13), (h6, aI Y 800 f14)]) (mkW [(a0.1 0)] [] [0] [] [] []) ⟨(show (a0.1 0) ≤ (a0.1 0) by omega), (show (a0.1 0) ≤ k5 by have z9 := BY_lt x24 (DIG_0 x37); omega), fun _ => by rw [← x24]; exact x37⟩ rfl rfl (fun a48 hI50 IH49 => ?_)
              refine V_lv [(1, .int j21), (0, .ref h0)] [0, 1] rfl ?_
              refine V_ws [(h0, oC 13 [.ref h1, .ref h2, .int p2, .ref h3, .ref h4, .int (nI k5), .int (nI (a48.1 0)), .int p7, .int p8, .int 2, .int (nI (a0.1 0)), .int p11, .long (a48.2.2.1 0), .ref h5, .ref h6, .int (nI k15), .int (nI k16)]), (h1, aI Y 3640 f0), (h2, aZ Y 2 f1), (h3, aZ Y 80 f3), (h4, aB Y 1600 f4), (h5, aI Y 200 f13), (h6, aI Y 800 f14)] rfl ?_
              have x51 := hI50
              refine V_aload_n 195 B dX12_advance_195 1 rfl ?_
              refine V_get 196 B gf_RX12_283 0 rfl rfl dX12_advance_196 ?_
              refine V_iconst 199 B (v := 2) dX12_advance_199 (by decide +kernel) ?_
              refine V_icmp_ne_f 200 B 269 dX12_advance_200 (by decide) (by decide +kernel) ?_
              refine V_aload_n 203 B dX12_advance_203 1 rfl ?_
              refine V_aload_n 204 B dX12_advance_204 1 rfl ?_
              refine V_get 205 B gf_RX12_264 0 rfl rfl dX12_advance_205 ?_
              refine V_cvi 208 B (st := []) (As := [.int (nI (a48.1 0))]) (fun sz => rX12_byteAt l D Y h0 h1 h2 h3 h4 h5 h6 p2 k5 (a48.1 0) p7 p8 2 (a0.1 0) p11 (a48.2.2.1 0) k15 k16 f0 f1 f3 f4 f13 f14 HI (by omega) HP (a48.1 0) (by omega) sz) glV_RX12_267 ⟨rfl, rfl⟩ ⟨(Nat.le_of_ble_eq_true rfl), (Nat.le_of_ble_eq_true rfl)⟩ ⟨(Nat.le_of_ble_eq_true rfl), (Nat.le_of_ble_eq_true rfl)⟩ [0, 0, 0, 0, 0, 0, 0] rfl 13 0 rfl rfl rfl rfl (Nat.le_of_ble_eq_true rfl) rfl (fun _ _ _ => rfl) dX12_advance_208 (fun j52 u53 w54 => ?_)
              refine V_ws [(h0, oC 13 [.ref h1, .ref h2, .int p2, .ref h3, .ref h4, .int (nI k5), .int (nI (a48.1 0)), .int p7, .int p8, .int 2, .int (nI (a0.1 0)), .int p11, .long (a48.2.2.1 0), .ref h5, .ref h6, .int (nI k15), .int (nI k16)]), (h1, aI Y 3640 f0), (h2, aZ Y 2 f1), (h3, aZ Y 80 f3), (h4, aB Y 1600 f4), (h5, aI Y 200 f13), (h6, aI Y 800 f14)] rfl ?_
              have x55 := w54
              clear w54
              have x56 : -1 ≤ j52.toInt ∧ j52.toInt ≤ 255 := by rw [x55]; exact BY_rng _ _ _
              refine V_csi 211 B (st := []) (As := [.int j52]) (fun sz => rX12_isDigit l D Y j52 sz) glS_RX12_280 ⟨rfl, rfl⟩ ⟨(Nat.le_of_ble_eq_true rfl), (Nat.le_of_ble_eq_true rfl)⟩ ⟨(Nat.le_of_ble_eq_true rfl), (Nat.le_of_ble_eq_true rfl)⟩ [] rfl rfl (Nat.le_of_ble_eq_true rfl) rfl (fun _ _ _ => rfl) dX12_advance_211 (fun j57 u58 w59 => ?_)
              refine V_ws [(h0, oC 13 [.ref h1, .ref h2, .int p2, .ref h3, .ref h4, .int (nI k5), .int (nI (a48.1 0)), .int p7, .int p8, .int 2, .int (nI (a0.1 0)), .int p11, .long (a48.2.2.1 0), .ref h5, .ref h6, .int (nI k15), .int (nI k16)]), (h1, aI Y 3640 f0), (h2, aZ Y 2 f1), (h3, aZ Y 80 f3), (h4, aB Y 1600 f4), (h5, aI Y 200 f13), (h6, aI Y 800 f14)] rfl ?_
              have x60 := w59
              clear w59
              rcases x60 with ⟨rfl, x61⟩ | ⟨rfl, x61⟩
              ·
                refine V_if_eq_t 214 B 269 dX12_advance_214 (by decide) (by decide +kernel) ?_
                have x62 := adv_lem (P := DIG) x55 x61 x51.2.2 x51.1
                refine V_aload_n 269 B dX12_advance_269 1 rfl ?_
                refine V_get 270 B gf_RX12_283 0 rfl rfl dX12_advance_270 ?_
                refine V_iconst 273 B (v := 1) dX12_advance_273 (by decide +kernel) ?_
                refine V_icmp_ne_t 274 B 291 dX12_advance_274 (by decide) (by decide +kernel) ?_
                refine V_aload_n 291 B dX12_advance_291 1 rfl ?_
                refine V_get 292 B gf_RX12_283 0 rfl rfl dX12_advance_292 ?_
                refine V_iconst 295 B (v := 2) dX12_advance_295 (by decide +kernel) ?_
                refine V_icmp_ne_f 296 B 317 dX12_advance_296 (by decide) (by decide +kernel) ?_
                refine V_aload_n 299 B dX12_advance_299 1 rfl ?_
                refine V_get 300 B gf_RX12_264 0 rfl rfl dX12_advance_300 ?_
                refine V_aload_n 303 B dX12_advance_303 1 rfl ?_
                refine V_get 304 B gf_RX12_270 0 rfl rfl dX12_advance_304 ?_
                refine V_isub 307 B dX12_advance_307 rfl ?_
                refine V_nmi (fun j63 e64 => ?_)
                have x65 : j63.toInt = (((a48.1 0) : Nat) : Int) - (((a0.1 0) : Nat) : Int) := by rw [e64]; exact nI_subT (a := (a48.1 0)) (b := (a0.1 0)) (by omega) (by omega)
                refine V_iconst 308 B (v := 3) dX12_advance_308 (by decide +kernel) ?_
                refine V_icmp_le 309 B 317 dX12_advance_309 (by decide) (fun kk66 => ?_) (fun kk66 => ?_)
                ·
                  have x67 := x_le kk66
                  rw [show (3 : Int32).toInt = 3 by decide +kernel] at x67
                  exact V_vret 317 B dX12_advance_317 (mkW [(a48.1 0), (a0.1 0)] [2] [(a48.2.2.1 0)] [] [] []) ⟨(show k6 ≤ (a0.1 0) by omega), (show (a0.1 0) ≤ (a48.1 0) by omega), (show (a48.1 0) ≤ k5 by omega), (Or.inr (show (a0.1 0) < (a48.1 0) by first | omega | exact (Or.resolve_left hx2 (by decide))))⟩ rfl
                ·
                  have x68 := x_nle kk66
                  rw [show (3 : Int32).toInt = 3 by decide +kernel] at x68
                  refine V_aload_n 312 B dX12_advance_312 1 rfl ?_
                  refine V_iconst 313 B (v := 4) dX12_advance_313 (by decide +kernel) ?_
                  refine V_put 314 B gp_RX12_283 0 rfl (Nat.le_of_ble_eq_true rfl) rfl rfl dX12_advance_314 [(h0, oC 13 [.ref h1, .ref h2, .int p2, .ref h3, .ref h4, .int (nI k5), .int (nI (a48.1 0)), .int p7, .int p8, .int 4, .int (nI (a0.1 0)), .int p11, .long (a48.2.2.1 0), .ref h5, .ref h6, .int (nI k15), .int (nI k16)]), (h1, aI Y 3640 f0), (h2, aZ Y 2 f1), (h3, aZ Y 80 f3), (h4, aB Y 1600 f4), (h5, aI Y 200 f13), (h6, aI Y 800 f14)] rfl ?_
                  exact V_vret 317 B dX12_advance_317 (mkW [(a48.1 0), (a0.1 0)] [4] [(a48.2.2.1 0)] [] [] []) ⟨(show k6 ≤ (a0.1 0) by omega), (show (a0.1 0) ≤ (a48.1 0) by omega), (show (a48.1 0) ≤ k5 by omega), (Or.inr (show (a0.1 0) < (a48.1 0) by first | omega | exact (Or.resolve_left hx2 (by decide))))⟩ rfl
              ·
                refine V_if_eq_f 214 B 269 dX12_advance_214 (by decide) (by decide +kernel) ?_
                have x69 := BY_lt x55 (DIG_0 x61)
                refine V_aload_n 217 B dX12_advance_217 1 rfl ?_
                refine V_get 218 B gf_RX12_264 0 rfl rfl dX12_advance_218 ?_
                refine V_aload_n 221 B dX12_advance_221 1 rfl ?_
                refine V_get 222 B gf_RX12_270 0 rfl rfl dX12_advance_222 ?_
                refine V_isub 225 B dX12_advance_225 rfl ?_
                refine V_nmi (fun j70 e71 => ?_)
                have x72 : j70.toInt = (((a48.1 0) : Nat) : Int) - (((a0.1 0) : Nat) : Int) := by rw [e71]; exact nI_subT (a := (a48.1 0)) (b := (a0.1 0)) (by omega) (by omega)
                refine V_iconst 226 B (v := 3) dX12_advance_226 (by decide +kernel) ?_
                refine V_icmp_ge 227 B 256 dX12_advance_227 (by decide) (fun kk73 => ?_) (fun kk73 => ?_)
                ·
                  have x74 := x_le kk73
                  rw [show (3 : Int32).toInt = 3 by decide +kernel] at x74
                  refine V_aload_n 256 B dX12_advance_256 1 rfl ?_
                  refine V_dup 257 B dX12_advance_257 rfl ?_
                  refine V_get 258 B gf_RX12_264 0 rfl rfl dX12_advance_258 ?_
                  refine V_iconst 261 B (v := 1) dX12_advance_261 (by decide +kernel) ?_
                  refine V_iadd 262 B (v := (nI (1 + (a48.1 0)))) dX12_advance_262 (nI_addE (a := (a48.1 0)) (b := 1) (by omega)) ?_
                  refine V_put 263 B gp_RX12_264 0 rfl (Nat.le_of_ble_eq_true rfl) rfl rfl dX12_advance_263 [(h0, oC 13 [.ref h1, .ref h2, .int p2, .ref h3, .ref h4, .int (nI k5), .int (nI (1 + (a48.1 0))), .int p7, .int p8, .int 2, .int (nI (a0.1 0)), .int p11, .long (a48.2.2.1 0), .ref h5, .ref h6, .int (nI k15), .int (nI k16)]), (h1, aI Y 3640 f0), (h2, aZ Y 2 f1), (h3, aZ Y 80 f3), (h4, aB Y 1600 f4), (h5, aI Y 200 f13), (h6, aI Y 800 f14)] rfl ?_
                  refine V_goto 266 B 195 dX12_advance_266 (by decide) ?_
                  refine V_lv [(1, .int j21), (0, .ref h0)] [0, 1] rfl ?_
                  exact IH49 (mkW [1 + (a48.1 0)] [] [(a48.2.2.1 0)] [] [] []) ⟨(show (a0.1 0) ≤ 1 + (a48.1 0) by omega), (show 1 + (a48.1 0) ≤ k5 by omega), fun e9 => absurd (show 1 + (a48.1 0) = (a0.1 0) from e9) (by omega)⟩ (by show 100000 - (1 + (a48.1 0)) < _; omega)
                ·
                  have x75 := x_nle kk73
                  rw [show (3 : Int32).toInt = 3 by decide +kernel] at x75
                  refine V_aload_n 230 B dX12_advance_230 1 rfl ?_
                  refine V_aload_n 231 B dX12_advance_231 1 rfl ?_
                  refine V_get 232 B gf_RX12_273 0 rfl rfl dX12_advance_232 ?_
                  refine V_ldc2 235 B (v := 10) dX12_advance_235 (mT9 220 rfl rfl) ?_
                  refine V_lmul 238 B dX12_advance_238 rfl ?_
                  refine V_nml (fun o76 e77 => ?_)
                  refine V_aload_n 239 B dX12_advance_239 1 rfl ?_
                  refine V_aload_n 240 B dX12_advance_240 1 rfl ?_
                  refine V_get 241 B gf_RX12_264 0 rfl rfl dX12_advance_241 ?_
                  refine V_cvi 244 B (st := [.long o76, .ref h0]) (As := [.int (nI (a48.1 0))]) (fun sz => rX12_byteAt l D Y h0 h1 h2 h3 h4 h5 h6 p2 k5 (a48.1 0) p7 p8 2 (a0.1 0) p11 (a48.2.2.1 0) k15 k16 f0 f1 f3 f4 f13 f14 HI (by omega) HP (a48.1 0) (by omega) sz) glV_RX12_267 ⟨rfl, rfl⟩ ⟨(Nat.le_of_ble_eq_true rfl), (Nat.le_of_ble_eq_true rfl)⟩ ⟨(Nat.le_of_ble_eq_true rfl), (Nat.le_of_ble_eq_true rfl)⟩ [0, 0, 0, 0, 0, 0, 0] rfl 13 0 rfl rfl rfl rfl (Nat.le_of_ble_eq_true rfl) rfl (fun _ _ _ => rfl) dX12_advance_244 (fun j78 u79 w80 => ?_)
                  refine V_ws [(h0, oC 13 [.ref h1, .ref h2, .int p2, .ref h3, .ref h4, .int (nI k5), .int (nI (a48.1 0)), .int p7, .int p8, .int 2, .int (nI (a0.1 0)), .int p11, .long (a48.2.2.1 0), .ref h5, .ref h6, .int (nI k15), .int (nI k16)]), (h1, aI Y 3640 f0), (h2, aZ Y 2 f1), (h3, aZ Y 80 f3), (h4, aB Y 1600 f4), (h5, aI Y 200 f13), (h6, aI Y 800 f14)] rfl ?_
                  have x81 := w80
                  clear w80
                  have x82 : -1 ≤ j78.toInt ∧ j78.toInt ≤ 255 := by rw [x81]; exact BY_rng _ _ _
                  refine V_i2l 247 B dX12_advance_247 rfl ?_
                  refine V_nml (fun o83 e84 => ?_)
                  have x85 : o83.toInt = j78.toInt := by rw [e84, Int32.toInt_toInt64]
                  refine V_ladd 248 B dX12_advance_248 rfl ?_
                  refine V_nml (fun o86 e87 => ?_)
                  refine V_ldc2 249 B (v := 48) dX12_advance_249 (mT9 218 rfl rfl) ?_
                  refine V_lsub 252 B dX12_advance_252 rfl ?_
                  refine V_nml (fun o88 e89 => ?_)
                  refine V_put 253 B gp_RX12_273 0 rfl (Nat.le_of_ble_eq_true rfl) rfl rfl dX12_advance_253 [(h0, oC 13 [.ref h1, .ref h2, .int p2, .ref h3, .ref h4, .int (nI k5), .int (nI (a48.1 0)), .int p7, .int p8, .int 2, .int (nI (a0.1 0)), .int p11, .long o88, .ref h5, .ref h6, .int (nI k15), .int (nI k16)]), (h1, aI Y 3640 f0), (h2, aZ Y 2 f1), (h3, aZ Y 80 f3), (h4, aB Y 1600 f4), (h5, aI Y 200 f13), (h6, aI Y 800 f14)] rfl ?_
                  refine V_aload_n 256 B dX12_advance_256 1 rfl ?_
                  refine V_dup 257 B dX12_advance_257 rfl ?_
                  refine V_get 258 B gf_RX12_264 0 rfl rfl dX12_advance_258 ?_
                  refine V_iconst 261 B (v := 1) dX12_advance_261 (by decide +kernel) ?_
                  refine V_iadd 262 B (v := (nI (1 + (a48.1 0)))) dX12_advance_262 (nI_addE (a := (a48.1 0)) (b := 1) (by omega)) ?_
                  refine V_put 263 B gp_RX12_264 0 rfl (Nat.le_of_ble_eq_true rfl) rfl rfl dX12_advance_263 [(h0, oC 13 [.ref h1, .ref h2, .int p2, .ref h3, .ref h4, .int (nI k5), .int (nI (1 + (a48.1 0))), .int p7, .int p8, .int 2, .int (nI (a0.1 0)), .int p11, .long o88, .ref h5, .ref h6, .int (nI k15), .int (nI k16)]), (h1, aI Y 3640 f0), (h2, aZ Y 2 f1), (h3, aZ Y 80 f3), (h4, aB Y 1600 f4), (h5, aI Y 200 f13), (h6, aI Y 800 f14)] rfl ?_
                  refine V_goto 266 B 195 dX12_advance_266 (by decide) ?_
                  refine V_lv [(1, .int j21), (0, .ref h0)] [0, 1] rfl ?_
                  exact IH49 (mkW [1 + (a48.1 0)] [] [o88] [] [] []) ⟨(show (a0.1 0) ≤ 1 + (a48.1 0) by omega), (show 1 + (a48.1 0) ≤ k5 by omega), fun e9 => absurd (show 1 + (a48.1 0) = (a0.1 0) from e9) (by omega)⟩ (by show 100000 - (1 + (a48.1 0)) < _; omega)
          ·
            refine V_if_eq_f 75 B 82 dX12_advance_75 (by decide) (by decide +kernel) ?_
            refine V_iconst 78 B (v := 1) dX12_advance_78 (by decide +kernel) ?_
            refine V_goto 79 B 104 dX12_advance_79 (by decide) ?_
            refine V_put 104 B gp_RX12_283 0 rfl (Nat.le_of_ble_eq_true rfl) rfl rfl dX12_advance_104 [(h0, oC 13 [.ref h1, .ref h2, .int p2, .ref h3, .ref h4, .int (nI k5), .int (nI (a0.1 0)), .int p7, .int p8, .int 1, .int (nI (a0.1 0)), .int p11, .long 0, .ref h5, .ref h6, .int (nI k15), .int (nI k16)]), (h1, aI Y 3640 f0), (h2, aZ Y 2 f1), (h3, aZ Y 80 f3), (h4, aB Y 1600 f4), (h5, aI Y 200 f13), (h6, aI Y 800 f14)] rfl ?_
            refine V_aload_n 107 B dX12_advance_107 1 rfl ?_
            refine V_get 108 B gf_RX12_283 0 rfl rfl dX12_advance_108 ?_
            refine V_iconst 111 B (v := 2) dX12_advance_111 (by decide +kernel) ?_
            refine V_icmp_le_t 112 B 125 dX12_advance_112 (by decide) (by decide +kernel) ?_
            refine V_wloop (α := WU) (fun a => 100000 - (a.1 0)) (fun a => ((a0.1 0) ≤ (a.1 0) ∧ (a.1 0) ≤ k5 ∧ ((a.1 0) = (a0.1 0) → LET (BY f4 k5 (a0.1 0))))) (fun a => [(1, .int j21), (0, .ref h0)]) (fun a => [(h0, oC 13 [.ref h1, .ref h2, .int p2, .ref h3, .ref h4, .int (nI k5), .int (nI (a.1 0)), .int p7, .int p8, .int 1, .int (nI (a0.1 0)), .int p11, .long (a.2.2.1 0), .ref h5, .ref h6, .int (nI k15), .int (nI k16)]), (h1, aI Y 3640 f0), (h2, aZ Y 2 f1), (h3, aZ Y 80 f3), (h4, aB Y 1600 f4), (h5, aI Y 200 f13), (h6, aI Y 800 f14)]) (mkW [(a0.1 0)] [] [0] [] [] []) ⟨(show (a0.1 0) ≤ (a0.1 0) by omega), (show (a0.1 0) ≤ k5 by have z9 := BY_lt x24 (LET_0 x32); omega), fun _ => by rw [← x24]; exact x32⟩ rfl rfl (fun a90 hI92 IH91 => ?_)
            refine V_lv [(1, .int j21), (0, .ref h0)] [0, 1] rfl ?_
            refine V_ws [(h0, oC 13 [.ref h1, .ref h2, .int p2, .ref h3, .ref h4, .int (nI k5), .int (nI (a90.1 0)), .int p7, .int p8, .int 1, .int (nI (a0.1 0)), .int p11, .long (a90.2.2.1 0), .ref h5, .ref h6, .int (nI k15), .int (nI k16)]), (h1, aI Y 3640 f0), (h2, aZ Y 2 f1), (h3, aZ Y 80 f3), (h4, aB Y 1600 f4), (h5, aI Y 200 f13), (h6, aI Y 800 f14)] rfl ?_
            have x93 := hI92
            refine V_aload_n 125 B dX12_advance_125 1 rfl ?_
            refine V_get 126 B gf_RX12_283 0 rfl rfl dX12_advance_126 ?_
            refine V_iconst 129 B (v := 1) dX12_advance_129 (by decide +kernel) ?_
            refine V_icmp_ne_f 130 B 195 dX12_advance_130 (by decide) (by decide +kernel) ?_
            refine V_aload_n 133 B dX12_advance_133 1 rfl ?_
            refine V_aload_n 134 B dX12_advance_134 1 rfl ?_
            refine V_get 135 B gf_RX12_264 0 rfl rfl dX12_advance_135 ?_
            refine V_cvi 138 B (st := []) (As := [.int (nI (a90.1 0))]) (fun sz => rX12_byteAt l D Y h0 h1 h2 h3 h4 h5 h6 p2 k5 (a90.1 0) p7 p8 1 (a0.1 0) p11 (a90.2.2.1 0) k15 k16 f0 f1 f3 f4 f13 f14 HI (by omega) HP (a90.1 0) (by omega) sz) glV_RX12_267 ⟨rfl, rfl⟩ ⟨(Nat.le_of_ble_eq_true rfl), (Nat.le_of_ble_eq_true rfl)⟩ ⟨(Nat.le_of_ble_eq_true rfl), (Nat.le_of_ble_eq_true rfl)⟩ [0, 0, 0, 0, 0, 0, 0] rfl 13 0 rfl rfl rfl rfl (Nat.le_of_ble_eq_true rfl) rfl (fun _ _ _ => rfl) dX12_advance_138 (fun j94 u95 w96 => ?_)
            refine V_ws [(h0, oC 13 [.ref h1, .ref h2, .int p2, .ref h3, .ref h4, .int (nI k5), .int (nI (a90.1 0)), .int p7, .int p8, .int 1, .int (nI (a0.1 0)), .int p11, .long (a90.2.2.1 0), .ref h5, .ref h6, .int (nI k15), .int (nI k16)]), (h1, aI Y 3640 f0), (h2, aZ Y 2 f1), (h3, aZ Y 80 f3), (h4, aB Y 1600 f4), (h5, aI Y 200 f13), (h6, aI Y 800 f14)] rfl ?_
            have x97 := w96
            clear w96
            have x98 : -1 ≤ j94.toInt ∧ j94.toInt ≤ 255 := by rw [x97]; exact BY_rng _ _ _
            refine V_csi 141 B (st := []) (As := [.int j94]) (fun sz => rX12_isLetter l D Y j94 sz) glS_RX12_277 ⟨rfl, rfl⟩ ⟨(Nat.le_of_ble_eq_true rfl), (Nat.le_of_ble_eq_true rfl)⟩ ⟨(Nat.le_of_ble_eq_true rfl), (Nat.le_of_ble_eq_true rfl)⟩ [] rfl rfl (Nat.le_of_ble_eq_true rfl) rfl (fun _ _ _ => rfl) dX12_advance_141 (fun j99 u100 w101 => ?_)
            refine V_ws [(h0, oC 13 [.ref h1, .ref h2, .int p2, .ref h3, .ref h4, .int (nI k5), .int (nI (a90.1 0)), .int p7, .int p8, .int 1, .int (nI (a0.1 0)), .int p11, .long (a90.2.2.1 0), .ref h5, .ref h6, .int (nI k15), .int (nI k16)]), (h1, aI Y 3640 f0), (h2, aZ Y 2 f1), (h3, aZ Y 80 f3), (h4, aB Y 1600 f4), (h5, aI Y 200 f13), (h6, aI Y 800 f14)] rfl ?_
            have x102 := w101
            clear w101
            rcases x102 with ⟨rfl, x103⟩ | ⟨rfl, x103⟩
            ·
              refine V_if_eq_t 144 B 195 dX12_advance_144 (by decide) (by decide +kernel) ?_
              have x104 := adv_lem (P := LET) x97 x103 x93.2.2 x93.1
              refine V_aload_n 195 B dX12_advance_195 1 rfl ?_
              refine V_get 196 B gf_RX12_283 0 rfl rfl dX12_advance_196 ?_
              refine V_iconst 199 B (v := 2) dX12_advance_199 (by decide +kernel) ?_
              refine V_icmp_ne_t 200 B 269 dX12_advance_200 (by decide) (by decide +kernel) ?_
              refine V_aload_n 269 B dX12_advance_269 1 rfl ?_
              refine V_get 270 B gf_RX12_283 0 rfl rfl dX12_advance_270 ?_
              refine V_iconst 273 B (v := 1) dX12_advance_273 (by decide +kernel) ?_
              refine V_icmp_ne_f 274 B 291 dX12_advance_274 (by decide) (by decide +kernel) ?_
              refine V_aload_n 277 B dX12_advance_277 1 rfl ?_
              refine V_get 278 B gf_RX12_264 0 rfl rfl dX12_advance_278 ?_
              refine V_aload_n 281 B dX12_advance_281 1 rfl ?_
              refine V_get 282 B gf_RX12_270 0 rfl rfl dX12_advance_282 ?_
              refine V_isub 285 B dX12_advance_285 rfl ?_
              refine V_nmi (fun j105 e106 => ?_)
              have x107 : j105.toInt = (((a90.1 0) : Nat) : Int) - (((a0.1 0) : Nat) : Int) := by rw [e106]; exact nI_subT (a := (a90.1 0)) (b := (a0.1 0)) (by omega) (by omega)
              refine V_bipush 286 B (v := 8) dX12_advance_286 (by decide +kernel) ?_
              refine V_icmp_gt 288 B 312 dX12_advance_288 (by decide) (fun kk108 => ?_) (fun kk108 => ?_)
              ·
                have x109 := x_lt kk108
                rw [show (8 : Int32).toInt = 8 by decide +kernel] at x109
                refine V_aload_n 312 B dX12_advance_312 1 rfl ?_
                refine V_iconst 313 B (v := 4) dX12_advance_313 (by decide +kernel) ?_
                refine V_put 314 B gp_RX12_283 0 rfl (Nat.le_of_ble_eq_true rfl) rfl rfl dX12_advance_314 [(h0, oC 13 [.ref h1, .ref h2, .int p2, .ref h3, .ref h4, .int (nI k5), .int (nI (a90.1 0)), .int p7, .int p8, .int 4, .int (nI (a0.1 0)), .int p11, .long (a90.2.2.1 0), .ref h5, .ref h6, .int (nI k15), .int (nI k16)]), (h1, aI Y 3640 f0), (h2, aZ Y 2 f1), (h3, aZ Y 80 f3), (h4, aB Y 1600 f4), (h5, aI Y 200 f13), (h6, aI Y 800 f14)] rfl ?_
                exact V_vret 317 B dX12_advance_317 (mkW [(a90.1 0), (a0.1 0)] [4] [(a90.2.2.1 0)] [] [] []) ⟨(show k6 ≤ (a0.1 0) by omega), (show (a0.1 0) ≤ (a90.1 0) by omega), (show (a90.1 0) ≤ k5 by omega), (Or.inr (show (a0.1 0) < (a90.1 0) by first | omega | exact (Or.resolve_left hx2 (by decide))))⟩ rfl
              ·
                have x110 := x_nlt kk108
                rw [show (8 : Int32).toInt = 8 by decide +kernel] at x110
                refine V_aload_n 291 B dX12_advance_291 1 rfl ?_
                refine V_get 292 B gf_RX12_283 0 rfl rfl dX12_advance_292 ?_
                refine V_iconst 295 B (v := 2) dX12_advance_295 (by decide +kernel) ?_
                refine V_icmp_ne_t 296 B 317 dX12_advance_296 (by decide) (by decide +kernel) ?_
                exact V_vret 317 B dX12_advance_317 (mkW [(a90.1 0), (a0.1 0)] [1] [(a90.2.2.1 0)] [] [] []) ⟨(show k6 ≤ (a0.1 0) by omega), (show (a0.1 0) ≤ (a90.1 0) by omega), (show (a90.1 0) ≤ k5 by omega), (Or.inr (show (a0.1 0) < (a90.1 0) by first | omega | exact (Or.resolve_left hx2 (by decide))))⟩ rfl
            ·
              refine V_if_eq_f 144 B 195 dX12_advance_144 (by decide) (by decide +kernel) ?_
              have x111 := BY_lt x97 (LET_0 x103)
              refine V_aload_n 147 B dX12_advance_147 1 rfl ?_
              refine V_get 148 B gf_RX12_264 0 rfl rfl dX12_advance_148 ?_
              refine V_aload_n 151 B dX12_advance_151 1 rfl ?_
              refine V_get 152 B gf_RX12_270 0 rfl rfl dX12_advance_152 ?_
              refine V_isub 155 B dX12_advance_155 rfl ?_
              refine V_nmi (fun j112 e113 => ?_)
              have x114 : j112.toInt = (((a90.1 0) : Nat) : Int) - (((a0.1 0) : Nat) : Int) := by rw [e113]; exact nI_subT (a := (a90.1 0)) (b := (a0.1 0)) (by omega) (by omega)
              refine V_bipush 156 B (v := 8) dX12_advance_156 (by decide +kernel) ?_
              refine V_icmp_ge 158 B 182 dX12_advance_158 (by decide) (fun kk115 => ?_) (fun kk115 => ?_)
              ·
                have x116 := x_le kk115
                rw [show (8 : Int32).toInt = 8 by decide +kernel] at x116
                refine V_aload_n 182 B dX12_advance_182 1 rfl ?_
                refine V_dup 183 B dX12_advance_183 rfl ?_
                refine V_get 184 B gf_RX12_264 0 rfl rfl dX12_advance_184 ?_
                refine V_iconst 187 B (v := 1) dX12_advance_187 (by decide +kernel) ?_
                refine V_iadd 188 B (v := (nI (1 + (a90.1 0)))) dX12_advance_188 (nI_addE (a := (a90.1 0)) (b := 1) (by omega)) ?_
                refine V_put 189 B gp_RX12_264 0 rfl (Nat.le_of_ble_eq_true rfl) rfl rfl dX12_advance_189 [(h0, oC 13 [.ref h1, .ref h2, .int p2, .ref h3, .ref h4, .int (nI k5), .int (nI (1 + (a90.1 0))), .int p7, .int p8, .int 1, .int (nI (a0.1 0)), .int p11, .long (a90.2.2.1 0), .ref h5, .ref h6, .int (nI k15), .int (nI k16)]), (h1, aI Y 3640 f0), (h2, aZ Y 2 f1), (h3, aZ Y 80 f3), (h4, aB Y 1600 f4), (h5, aI Y 200 f13), (h6, aI Y 800 f14)] rfl ?_
                refine V_goto 192 B 125 dX12_advance_192 (by decide) ?_
                refine V_lv [(1, .int j21), (0, .ref h0)] [0, 1] rfl ?_
                exact IH91 (mkW [1 + (a90.1 0)] [] [(a90.2.2.1 0)] [] [] []) ⟨(show (a0.1 0) ≤ 1 + (a90.1 0) by omega), (show 1 + (a90.1 0) ≤ k5 by omega), fun e9 => absurd (show 1 + (a90.1 0) = (a0.1 0) from e9) (by omega)⟩ (by show 100000 - (1 + (a90.1 0)) < _; omega)
              ·
                have x117 := x_nle kk115
                rw [show (8 : Int32).toInt = 8 by decide +kernel] at x117
                refine V_aload_n 161 B dX12_advance_161 1 rfl ?_
                refine V_aload_n 162 B dX12_advance_162 1 rfl ?_
                refine V_get 163 B gf_RX12_273 0 rfl rfl dX12_advance_163 ?_
                refine V_bipush 166 B (v := 7) dX12_advance_166 (by decide +kernel) ?_
                refine V_lshl 168 B dX12_advance_168 rfl ?_
                refine V_nml (fun o118 _ => ?_)
                refine V_aload_n 169 B dX12_advance_169 1 rfl ?_
                refine V_aload_n 170 B dX12_advance_170 1 rfl ?_
                refine V_get 171 B gf_RX12_264 0 rfl rfl dX12_advance_171 ?_
                refine V_cvi 174 B (st := [.long o118, .ref h0]) (As := [.int (nI (a90.1 0))]) (fun sz => rX12_byteAt l D Y h0 h1 h2 h3 h4 h5 h6 p2 k5 (a90.1 0) p7 p8 1 (a0.1 0) p11 (a90.2.2.1 0) k15 k16 f0 f1 f3 f4 f13 f14 HI (by omega) HP (a90.1 0) (by omega) sz) glV_RX12_267 ⟨rfl, rfl⟩ ⟨(Nat.le_of_ble_eq_true rfl), (Nat.le_of_ble_eq_true rfl)⟩ ⟨(Nat.le_of_ble_eq_true rfl), (Nat.le_of_ble_eq_true rfl)⟩ [0, 0, 0, 0, 0, 0, 0] rfl 13 0 rfl rfl rfl rfl (Nat.le_of_ble_eq_true rfl) rfl (fun _ _ _ => rfl) dX12_advance_174 (fun j119 u120 w121 => ?_)
                refine V_ws [(h0, oC 13 [.ref h1, .ref h2, .int p2, .ref h3, .ref h4, .int (nI k5), .int (nI (a90.1 0)), .int p7, .int p8, .int 1, .int (nI (a0.1 0)), .int p11, .long (a90.2.2.1 0), .ref h5, .ref h6, .int (nI k15), .int (nI k16)]), (h1, aI Y 3640 f0), (h2, aZ Y 2 f1), (h3, aZ Y 80 f3), (h4, aB Y 1600 f4), (h5, aI Y 200 f13), (h6, aI Y 800 f14)] rfl ?_
                have x122 := w121
                clear w121
                have x123 : -1 ≤ j119.toInt ∧ j119.toInt ≤ 255 := by rw [x122]; exact BY_rng _ _ _
                refine V_i2l 177 B dX12_advance_177 rfl ?_
                refine V_nml (fun o124 e125 => ?_)
                have x126 : o124.toInt = j119.toInt := by rw [e125, Int32.toInt_toInt64]
                refine V_lor 178 B dX12_advance_178 rfl ?_
                refine V_nml (fun o127 e128 => ?_)
                refine V_put 179 B gp_RX12_273 0 rfl (Nat.le_of_ble_eq_true rfl) rfl rfl dX12_advance_179 [(h0, oC 13 [.ref h1, .ref h2, .int p2, .ref h3, .ref h4, .int (nI k5), .int (nI (a90.1 0)), .int p7, .int p8, .int 1, .int (nI (a0.1 0)), .int p11, .long o127, .ref h5, .ref h6, .int (nI k15), .int (nI k16)]), (h1, aI Y 3640 f0), (h2, aZ Y 2 f1), (h3, aZ Y 80 f3), (h4, aB Y 1600 f4), (h5, aI Y 200 f13), (h6, aI Y 800 f14)] rfl ?_
                refine V_aload_n 182 B dX12_advance_182 1 rfl ?_
                refine V_dup 183 B dX12_advance_183 rfl ?_
                refine V_get 184 B gf_RX12_264 0 rfl rfl dX12_advance_184 ?_
                refine V_iconst 187 B (v := 1) dX12_advance_187 (by decide +kernel) ?_
                refine V_iadd 188 B (v := (nI (1 + (a90.1 0)))) dX12_advance_188 (nI_addE (a := (a90.1 0)) (b := 1) (by omega)) ?_
                refine V_put 189 B gp_RX12_264 0 rfl (Nat.le_of_ble_eq_true rfl) rfl rfl dX12_advance_189 [(h0, oC 13 [.ref h1, .ref h2, .int p2, .ref h3, .ref h4, .int (nI k5), .int (nI (1 + (a90.1 0))), .int p7, .int p8, .int 1, .int (nI (a0.1 0)), .int p11, .long o127, .ref h5, .ref h6, .int (nI k15), .int (nI k16)]), (h1, aI Y 3640 f0), (h2, aZ Y 2 f1), (h3, aZ Y 80 f3), (h4, aB Y 1600 f4), (h5, aI Y 200 f13), (h6, aI Y 800 f14)] rfl ?_
                refine V_goto 192 B 125 dX12_advance_192 (by decide) ?_
                refine V_lv [(1, .int j21), (0, .ref h0)] [0, 1] rfl ?_
                exact IH91 (mkW [1 + (a90.1 0)] [] [o127] [] [] []) ⟨(show (a0.1 0) ≤ 1 + (a90.1 0) by omega), (show 1 + (a90.1 0) ≤ k5 by omega), fun e9 => absurd (show 1 + (a90.1 0) = (a0.1 0) from e9) (by omega)⟩ (by show 100000 - (1 + (a90.1 0)) < _; omega)
        ·
          obtain rfl : j21 = (-1) := kk26
          have e130 : ((-1) : Int32).toInt = (-1) := by decide +kernel
          refine V_iconst 67 B (v := 0) dX12_advance_67 (by decide +kernel) ?_
          refine V_goto 68 B 104 dX12_advance_68 (by decide) ?_
          refine V_put 104 B gp_RX12_283 0 rfl (Nat.le_of_ble_eq_true rfl) rfl rfl dX12_advance_104 [(h0, oC 13 [.ref h1, .ref h2, .int p2, .ref h3, .ref h4, .int (nI k5), .int (nI (a0.1 0)), .int p7, .int p8, .int 0, .int (nI (a0.1 0)), .int p11, .long 0, .ref h5, .ref h6, .int (nI k15), .int (nI k16)]), (h1, aI Y 3640 f0), (h2, aZ Y 2 f1), (h3, aZ Y 80 f3), (h4, aB Y 1600 f4), (h5, aI Y 200 f13), (h6, aI Y 800 f14)] rfl ?_
          refine V_aload_n 107 B dX12_advance_107 1 rfl ?_
          refine V_get 108 B gf_RX12_283 0 rfl rfl dX12_advance_108 ?_
          refine V_iconst 111 B (v := 2) dX12_advance_111 (by decide +kernel) ?_
          refine V_icmp_le_t 112 B 125 dX12_advance_112 (by decide) (by decide +kernel) ?_
          refine V_aload_n 125 B dX12_advance_125 1 rfl ?_
          refine V_get 126 B gf_RX12_283 0 rfl rfl dX12_advance_126 ?_
          refine V_iconst 129 B (v := 1) dX12_advance_129 (by decide +kernel) ?_
          refine V_icmp_ne_t 130 B 195 dX12_advance_130 (by decide) (by decide +kernel) ?_
          refine V_aload_n 195 B dX12_advance_195 1 rfl ?_
          refine V_get 196 B gf_RX12_283 0 rfl rfl dX12_advance_196 ?_
          refine V_iconst 199 B (v := 2) dX12_advance_199 (by decide +kernel) ?_
          refine V_icmp_ne_t 200 B 269 dX12_advance_200 (by decide) (by decide +kernel) ?_
          refine V_aload_n 269 B dX12_advance_269 1 rfl ?_
          refine V_get 270 B gf_RX12_283 0 rfl rfl dX12_advance_270 ?_
          refine V_iconst 273 B (v := 1) dX12_advance_273 (by decide +kernel) ?_
          refine V_icmp_ne_t 274 B 291 dX12_advance_274 (by decide) (by decide +kernel) ?_
          refine V_aload_n 291 B dX12_advance_291 1 rfl ?_
          refine V_get 292 B gf_RX12_283 0 rfl rfl dX12_advance_292 ?_
          refine V_iconst 295 B (v := 2) dX12_advance_295 (by decide +kernel) ?_
          refine V_icmp_ne_t 296 B 317 dX12_advance_296 (by decide) (by decide +kernel) ?_
          exact V_vret 317 B dX12_advance_317 (mkW [(a0.1 0), (a0.1 0)] [0] [0] [] [] []) ⟨(show k6 ≤ (a0.1 0) by omega), (show (a0.1 0) ≤ (a0.1 0) by omega), (show (a0.1 0) ≤ k5 by omega), (Or.inl rfl)⟩ rfl
      ·
        obtain rfl : j14 = 10 := kk19
        have e132 : (10 : Int32).toInt = 10 := by decide +kernel
        have x133 : 0 ≤ j4.toInt → (a0.1 0) < k5 := fun z => BY_lt x7 z
        have x134 := BY_lt x17 (by decide +kernel)
        refine V_aload_n 26 B dX12_advance_26 0 rfl ?_
        refine V_dup 27 B dX12_advance_27 rfl ?_
        refine V_get 28 B gf_RX12_264 0 rfl rfl dX12_advance_28 ?_
        refine V_iconst 31 B (v := 1) dX12_advance_31 (by decide +kernel) ?_
        refine V_iadd 32 B (v := (nI (1 + (a0.1 0)))) dX12_advance_32 (nI_addE (a := (a0.1 0)) (b := 1) (by omega)) ?_
        refine V_put 33 B gp_RX12_264 0 rfl (Nat.le_of_ble_eq_true rfl) rfl rfl dX12_advance_33 [(h0, oC 13 [.ref h1, .ref h2, .int p2, .ref h3, .ref h4, .int (nI k5), .int (nI (1 + (a0.1 0))), .int p7, .int p8, .int p9, .int (nI k10), .int p11, .long q12, .ref h5, .ref h6, .int (nI k15), .int (nI k16)]), (h1, aI Y 3640 f0), (h2, aZ Y 2 f1), (h3, aZ Y 80 f3), (h4, aB Y 1600 f4), (h5, aI Y 200 f13), (h6, aI Y 800 f14)] rfl ?_
        refine V_goto 36 B 0 dX12_advance_36 (by decide) ?_
        refine V_lv [(0, .ref h0)] [0] rfl ?_
        exact IH1 (mkW [1 + (a0.1 0)] [] [] [] [] []) (show k6 ≤ 1 + (a0.1 0) ∧ 1 + (a0.1 0) ≤ k5 by omega) (by show 100000 - (1 + (a0.1 0)) < _; omega))
