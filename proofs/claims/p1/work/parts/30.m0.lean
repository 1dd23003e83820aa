theorem dX12_inRange_0 : decode cX12_inRange 0 = .ok (.lload_n 0, 1) := by decide +kernel
theorem dX12_inRange_1 : decode cX12_inRange 1 = .ok (.lload_n 2, 1) := by decide +kernel
theorem dX12_inRange_2 : decode cX12_inRange 2 = .ok (.lcmp, 1) := by decide +kernel
theorem dX12_inRange_3 : decode cX12_inRange 3 = .ok (.ifCond .lt 14, 3) := by decide +kernel
theorem dX12_inRange_6 : decode cX12_inRange 6 = .ok (.lload_n 0, 1) := by decide +kernel
theorem dX12_inRange_7 : decode cX12_inRange 7 = .ok (.lload 4, 2) := by decide +kernel
theorem dX12_inRange_9 : decode cX12_inRange 9 = .ok (.lcmp, 1) := by decide +kernel
theorem dX12_inRange_10 : decode cX12_inRange 10 = .ok (.ifCond .gt 7, 3) := by decide +kernel
theorem dX12_inRange_13 : decode cX12_inRange 13 = .ok (.iconst 1, 1) := by decide +kernel
theorem dX12_inRange_14 : decode cX12_inRange 14 = .ok (.goto 4, 3) := by decide +kernel
theorem dX12_inRange_17 : decode cX12_inRange 17 = .ok (.iconst 0, 1) := by decide +kernel
theorem dX12_inRange_18 : decode cX12_inRange 18 = .ok (.ireturn, 1) := by decide +kernel
theorem dX12_clearBlock_0 : decode cX12_clearBlock 0 = .ok (.iconst 0, 1) := by decide +kernel
theorem dX12_clearBlock_1 : decode cX12_clearBlock 1 = .ok (.istore_n 2, 1) := by decide +kernel
theorem dX12_clearBlock_2 : decode cX12_clearBlock 2 = .ok (.iload_n 2, 1) := by decide +kernel
theorem dX12_clearBlock_3 : decode cX12_clearBlock 3 = .ok (.sipush 906, 3) := by decide +kernel
theorem dX12_clearBlock_6 : decode cX12_clearBlock 6 = .ok (.if_icmp .ge 22, 3) := by decide +kernel
theorem dX12_clearBlock_9 : decode cX12_clearBlock 9 = .ok (.aload_n 0, 1) := by decide +kernel
theorem dX12_clearBlock_10 : decode cX12_clearBlock 10 = .ok (.getfield 9, 3) := by decide +kernel
theorem dX12_clearBlock_13 : decode cX12_clearBlock 13 = .ok (.sipush 906, 3) := by decide +kernel
theorem dX12_clearBlock_16 : decode cX12_clearBlock 16 = .ok (.iload_n 1, 1) := by decide +kernel
theorem dX12_clearBlock_17 : decode cX12_clearBlock 17 = .ok (.imul, 1) := by decide +kernel
theorem dX12_clearBlock_18 : decode cX12_clearBlock 18 = .ok (.iload_n 2, 1) := by decide +kernel
theorem dX12_clearBlock_19 : decode cX12_clearBlock 19 = .ok (.iadd, 1) := by decide +kernel
theorem dX12_clearBlock_20 : decode cX12_clearBlock 20 = .ok (.iconst 0, 1) := by decide +kernel
theorem dX12_clearBlock_21 : decode cX12_clearBlock 21 = .ok (.iastore, 1) := by decide +kernel
theorem dX12_clearBlock_22 : decode cX12_clearBlock 22 = .ok (.iinc 2 1, 3) := by decide +kernel
theorem dX12_clearBlock_25 : decode cX12_clearBlock 25 = .ok (.goto (-23), 3) := by decide +kernel
theorem dX12_clearBlock_28 : decode cX12_clearBlock 28 = .ok (.aload_n 0, 1) := by decide +kernel
theorem dX12_clearBlock_29 : decode cX12_clearBlock 29 = .ok (.getfield 9, 3) := by decide +kernel
theorem dX12_clearBlock_32 : decode cX12_clearBlock 32 = .ok (.sipush 906, 3) := by decide +kernel
theorem dX12_clearBlock_35 : decode cX12_clearBlock 35 = .ok (.iload_n 1, 1) := by decide +kernel
theorem dX12_clearBlock_36 : decode cX12_clearBlock 36 = .ok (.imul, 1) := by decide +kernel
theorem dX12_clearBlock_37 : decode cX12_clearBlock 37 = .ok (.iconst 0, 1) := by decide +kernel
theorem dX12_clearBlock_38 : decode cX12_clearBlock 38 = .ok (.iadd, 1) := by decide +kernel
theorem dX12_clearBlock_39 : decode cX12_clearBlock 39 = .ok (.iconst 1, 1) := by decide +kernel
theorem dX12_clearBlock_40 : decode cX12_clearBlock 40 = .ok (.iastore, 1) := by decide +kernel
theorem dX12_clearBlock_41 : decode cX12_clearBlock 41 = .ok (.aload_n 0, 1) := by decide +kernel
theorem dX12_clearBlock_42 : decode cX12_clearBlock 42 = .ok (.getfield 9, 3) := by decide +kernel
theorem dX12_clearBlock_45 : decode cX12_clearBlock 45 = .ok (.sipush 906, 3) := by decide +kernel
theorem dX12_clearBlock_48 : decode cX12_clearBlock 48 = .ok (.iload_n 1, 1) := by decide +kernel
theorem dX12_clearBlock_49 : decode cX12_clearBlock 49 = .ok (.imul, 1) := by decide +kernel
theorem dX12_clearBlock_50 : decode cX12_clearBlock 50 = .ok (.bipush 11, 2) := by decide +kernel
theorem dX12_clearBlock_52 : decode cX12_clearBlock 52 = .ok (.iadd, 1) := by decide +kernel
theorem dX12_clearBlock_53 : decode cX12_clearBlock 53 = .ok (.iconst (-1), 1) := by decide +kernel
theorem dX12_clearBlock_54 : decode cX12_clearBlock 54 = .ok (.iastore, 1) := by decide +kernel
theorem dX12_clearBlock_55 : decode cX12_clearBlock 55 = .ok (.aload_n 0, 1) := by decide +kernel
theorem dX12_clearBlock_56 : decode cX12_clearBlock 56 = .ok (.getfield 9, 3) := by decide +kernel
theorem dX12_clearBlock_59 : decode cX12_clearBlock 59 = .ok (.sipush 906, 3) := by decide +kernel
theorem dX12_clearBlock_62 : decode cX12_clearBlock 62 = .ok (.iload_n 1, 1) := by decide +kernel
theorem dX12_clearBlock_63 : decode cX12_clearBlock 63 = .ok (.imul, 1) := by decide +kernel
theorem dX12_clearBlock_64 : decode cX12_clearBlock 64 = .ok (.bipush 16, 2) := by decide +kernel
theorem dX12_clearBlock_66 : decode cX12_clearBlock 66 = .ok (.iadd, 1) := by decide +kernel
theorem dX12_clearBlock_67 : decode cX12_clearBlock 67 = .ok (.iconst (-1), 1) := by decide +kernel
theorem dX12_clearBlock_68 : decode cX12_clearBlock 68 = .ok (.iastore, 1) := by decide +kernel
theorem dX12_clearBlock_69 : decode cX12_clearBlock 69 = .ok (.return_, 1) := by decide +kernel
theorem inw_X12 : ∀ w ∈ u_ws RX12 TX12 17, w ∈ lw_good := by decide +kernel
theorem gf_RX12_9 : GF RX12 9 13 0 := ⟨RX12, TX12, 17, rfl, inw_X12, Nat.le_of_ble_eq_true rfl, (mT7 137 rfl rfl)⟩
theorem dX12_copyBlock_0 : decode cX12_copyBlock 0 = .ok (.iconst 0, 1) := by decide +kernel
theorem dX12_copyBlock_1 : decode cX12_copyBlock 1 = .ok (.istore_n 3, 1) := by decide +kernel
theorem dX12_copyBlock_2 : decode cX12_copyBlock 2 = .ok (.iload_n 3, 1) := by decide +kernel
theorem dX12_copyBlock_3 : decode cX12_copyBlock 3 = .ok (.sipush 906, 3) := by decide +kernel
theorem dX12_copyBlock_6 : decode cX12_copyBlock 6 = .ok (.if_icmp .ge 33, 3) := by decide +kernel
theorem dX12_copyBlock_9 : decode cX12_copyBlock 9 = .ok (.aload_n 0, 1) := by decide +kernel
theorem dX12_copyBlock_10 : decode cX12_copyBlock 10 = .ok (.getfield 9, 3) := by decide +kernel
theorem dX12_copyBlock_13 : decode cX12_copyBlock 13 = .ok (.sipush 906, 3) := by decide +kernel
theorem dX12_copyBlock_16 : decode cX12_copyBlock 16 = .ok (.iload_n 2, 1) := by decide +kernel
theorem dX12_copyBlock_17 : decode cX12_copyBlock 17 = .ok (.imul, 1) := by decide +kernel
theorem dX12_copyBlock_18 : decode cX12_copyBlock 18 = .ok (.iload_n 3, 1) := by decide +kernel
theorem dX12_copyBlock_19 : decode cX12_copyBlock 19 = .ok (.iadd, 1) := by decide +kernel
theorem dX12_copyBlock_20 : decode cX12_copyBlock 20 = .ok (.aload_n 0, 1) := by decide +kernel
theorem dX12_copyBlock_21 : decode cX12_copyBlock 21 = .ok (.getfield 9, 3) := by decide +kernel
theorem dX12_copyBlock_24 : decode cX12_copyBlock 24 = .ok (.sipush 906, 3) := by decide +kernel
theorem dX12_copyBlock_27 : decode cX12_copyBlock 27 = .ok (.iload_n 1, 1) := by decide +kernel
theorem dX12_copyBlock_28 : decode cX12_copyBlock 28 = .ok (.imul, 1) := by decide +kernel
theorem dX12_copyBlock_29 : decode cX12_copyBlock 29 = .ok (.iload_n 3, 1) := by decide +kernel
theorem dX12_copyBlock_30 : decode cX12_copyBlock 30 = .ok (.iadd, 1) := by decide +kernel
theorem dX12_copyBlock_31 : decode cX12_copyBlock 31 = .ok (.iaload, 1) := by decide +kernel
theorem dX12_copyBlock_32 : decode cX12_copyBlock 32 = .ok (.iastore, 1) := by decide +kernel
theorem dX12_copyBlock_33 : decode cX12_copyBlock 33 = .ok (.iinc 3 1, 3) := by decide +kernel
theorem dX12_copyBlock_36 : decode cX12_copyBlock 36 = .ok (.goto (-34), 3) := by decide +kernel
theorem dX12_copyBlock_39 : decode cX12_copyBlock 39 = .ok (.return_, 1) := by decide +kernel
theorem lc_lt {x a : Int32} (h : x < a) : lg_cmp x.toInt64 a.toInt64 < 0 := (lg_cmp_lt _ _).mpr (by rw [Int64.lt_iff_toInt_lt, Int32.toInt_toInt64, Int32.toInt_toInt64]; exact Int32.lt_iff_toInt_lt.mp h)
theorem lc_nlt {x a : Int32} (h : ¬ x < a) : ¬ lg_cmp x.toInt64 a.toInt64 < 0 := fun z => h (Int32.lt_iff_toInt_lt.mpr (by have := (lg_cmp_lt _ _).mp z; rw [Int64.lt_iff_toInt_lt, Int32.toInt_toInt64, Int32.toInt_toInt64] at this; exact this))
theorem lc_gt {x a : Int32} (h : a < x) : 0 < lg_cmp x.toInt64 a.toInt64 := (lg_cmp_gt _ _).mpr (by rw [Int64.lt_iff_toInt_lt, Int32.toInt_toInt64, Int32.toInt_toInt64]; exact Int32.lt_iff_toInt_lt.mp h)
theorem lc_ngt {x a : Int32} (h : ¬ a < x) : ¬ 0 < lg_cmp x.toInt64 a.toInt64 := fun z => h (Int32.lt_iff_toInt_lt.mpr (by have := (lg_cmp_gt _ _).mp z; rw [Int64.lt_iff_toInt_lt, Int32.toInt_toInt64, Int32.toInt_toInt64] at this; exact this))
set_option maxRecDepth 100000 in
set_option maxHeartbeats 4000000 in
theorem mX12_inRange_m (l : Launch) (D : va_G) (Y : Nat → ClassId) (x lo hi : Int32) (L HH : Int64) (hL : lo.toInt64 = L) (hH : hi.toInt64 = HH) (sz : Nat) : Met l yX12_inRange (WSm yX12_inRange cX12_inRange 6 (some .boolean)) (mkR 0 0 0 0) (PreC D Y [.long x.toInt64, .long L, .long HH] [] sz) (QI D (fun (r : Int32) (u : Unit) => (¬ x < lo ∧ ¬ hi < x ∧ r = 1) ∨ (x < lo ∧ r = 0) ∨ (hi < x ∧ r = 0)) (fun (_ : Unit) => []) (va_A [] sz)) 0 0 (va_A [] sz) :=
  met_of (by decide +kernel) (Nat.le_of_ble_eq_true rfl) (fun p e s m args below meth c B hin hsz => by
    have B : VB p s m args meth c D Y (va_A [] sz) cX12_inRange 6 RX12 (some .boolean) := B
    subst hL
    subst hH
    refine V_lload_n 0 B dX12_inRange_0 0 rfl ?_
    refine V_lload_n 1 B dX12_inRange_1 1 rfl ?_
    refine V_lcmp 2 B dX12_inRange_2 rfl ?_
    by_cases h1 : x < lo
    · refine V_if_lt_t 3 B 17 dX12_inRange_3 (by decide) (lc_lt h1) ?_
      refine V_iconst 17 B (v := 0) dX12_inRange_17 (by decide +kernel) ?_
      exact V_zret 18 B rfl dX12_inRange_18 () (Or.inr (Or.inl ⟨h1, rfl⟩)) rfl
    · refine V_if_lt_f 3 B 17 dX12_inRange_3 (by decide) (lc_nlt h1) ?_
      refine V_lload_n 6 B dX12_inRange_6 0 rfl ?_
      refine V_lload 7 B dX12_inRange_7 2 rfl ?_
      refine V_lcmp 9 B dX12_inRange_9 rfl ?_
      by_cases h2 : hi < x
      · refine V_if_gt_t 10 B 17 dX12_inRange_10 (by decide) (lc_gt h2) ?_
        refine V_iconst 17 B (v := 0) dX12_inRange_17 (by decide +kernel) ?_
        exact V_zret 18 B rfl dX12_inRange_18 () (Or.inr (Or.inr ⟨h2, rfl⟩)) rfl
      · refine V_if_gt_f 10 B 17 dX12_inRange_10 (by decide) (lc_ngt h2) ?_
        refine V_iconst 13 B (v := 1) dX12_inRange_13 (by decide +kernel) ?_
        refine V_goto 14 B 18 dX12_inRange_14 (by decide) ?_
        exact V_zret 18 B rfl dX12_inRange_18 () (Or.inl ⟨h1, h2, rfl⟩) rfl)
def zrB (b i : Nat) (f : Nat → Int32) : Nat → Int32 := fun k => if 906 * b ≤ k ∧ k < 906 * b + i then 0 else f k
def clB (b : Nat) (f : Nat → Int32) : Nat → Int32 := upd (upd (upd (zrB b 906 f) (906 * b + 0) 1) (906 * b + 11) (-1)) (906 * b + 16) (-1)
def cpB (a b i : Nat) (f : Nat → Int32) : Nat → Int32 := fun k => if 906 * b ≤ k ∧ k < 906 * b + i then f (906 * a + (k - 906 * b)) else f k
theorem zrB_0 (b : Nat) (f : Nat → Int32) : zrB b 0 f = f := by
  funext k
  unfold zrB
  rw [if_neg (by omega)]
theorem zrB_s (b i : Nat) (f : Nat → Int32) (h : 906 * b + i < 2 ^ 31) : upd (zrB b i f) (nI (906 * b + i)).toNatClampNeg 0 = zrB b (i + 1) f := by
  rw [nI_clamp h]
  funext k
  unfold upd zrB
  by_cases h1 : k = 906 * b + i
  · rw [if_pos h1, if_pos (by omega)]
  · rw [if_neg h1]
    by_cases h2 : 906 * b ≤ k ∧ k < 906 * b + i
    · rw [if_pos h2, if_pos (by omega)]
    · rw [if_neg h2, if_neg (by omega)]
theorem cpB_0 (a b : Nat) (f : Nat → Int32) : cpB a b 0 f = f := by
  funext k
  unfold cpB
  rw [if_neg (by omega)]
theorem cpB_r (a b i : Nat) (f : Nat → Int32) (h : 906 * a + i < 2 ^ 31) (hi : i < 906) (hab : a ≠ b) : cpB a b i f (nI (906 * a + i)).toNatClampNeg = f (906 * a + i) := by
  rw [nI_clamp h]
  unfold cpB
  rw [if_neg (by omega)]
theorem cpB_s (a b i : Nat) (f : Nat → Int32) (h : 906 * b + i < 2 ^ 31) : upd (cpB a b i f) (nI (906 * b + i)).toNatClampNeg (f (906 * a + i)) = cpB a b (i + 1) f := by
  rw [nI_clamp h]
  funext k
  unfold upd cpB
  by_cases h1 : k = 906 * b + i
  · rw [if_pos h1, if_pos (by omega), show k - 906 * b = i by omega]
  · rw [if_neg h1]
    by_cases h2 : 906 * b ≤ k ∧ k < 906 * b + i
    · rw [if_pos h2, if_pos (by omega)]
    · rw [if_neg h2, if_neg (by omega)]
set_option maxRecDepth 100000 in
set_option maxHeartbeats 4000000 in
theorem mX12_clearBlock_m (l : Launch) (D : va_G) (Y : Nat → ClassId) (h0 h1 : Nat) (v1 v2 v3 v4 v5 v6 v7 v8 v9 v10 v11 v12 v13 v14 v15 v16 : Value) (f : Nat → Int32) (b : Nat) (hb4 : b ≤ 3) (sz : Nat) : Met l yX12_clearBlock (WSm yX12_clearBlock cX12_clearBlock 3 none) (mkR 0 0 0 0) (PreC D Y [.ref h0, .int (nI b)] [(h0, oC 13 [.ref h1, v1, v2, v3, v4, v5, v6, v7, v8, v9, v10, v11, v12, v13, v14, v15, v16]), (h1, aI Y 3640 (f))] sz) (QV D (fun (_ : Unit) => True) (fun (_ : Unit) => [(h0, oC 13 [.ref h1, v1, v2, v3, v4, v5, v6, v7, v8, v9, v10, v11, v12, v13, v14, v15, v16]), (h1, aI Y 3640 (clB b f))]) (va_A [(h0, oC 13 [.ref h1, v1, v2, v3, v4, v5, v6, v7, v8, v9, v10, v11, v12, v13, v14, v15, v16]), (h1, aI Y 3640 (f))] sz)) 0 0 (va_A [(h0, oC 13 [.ref h1, v1, v2, v3, v4, v5, v6, v7, v8, v9, v10, v11, v12, v13, v14, v15, v16]), (h1, aI Y 3640 (f))] sz) :=
  met_of (by decide +kernel) (Nat.le_of_ble_eq_true rfl) (fun p e s m args below meth c B hin hsz => by
    have B : VB p s m args meth c D Y (va_A [(h0, oC 13 [.ref h1, v1, v2, v3, v4, v5, v6, v7, v8, v9, v10, v11, v12, v13, v14, v15, v16]), (h1, aI Y 3640 (f))] sz) cX12_clearBlock 3 RX12 none := B
    refine V_iconst 0 B (v := 0) dX12_clearBlock_0 (by decide +kernel) ?_
    refine V_istore_n 1 B (lv2 := [(2, .int (0)), (0, .ref h0), (1, .int (nI b))]) dX12_clearBlock_1 (by decide) rfl ?_
    have K : ∀ n i : Nat, i + n = 906 → V p l e (mkR 0 0 0 0) s m args below meth c D (va_A [(h0, oC 13 [.ref h1, v1, v2, v3, v4, v5, v6, v7, v8, v9, v10, v11, v12, v13, v14, v15, v16]), (h1, aI Y 3640 (f))] sz) 3 0 0 (MQ below (QV D (fun (_ : Unit) => True) (fun (_ : Unit) => [(h0, oC 13 [.ref h1, v1, v2, v3, v4, v5, v6, v7, v8, v9, v10, v11, v12, v13, v14, v15, v16]), (h1, aI Y 3640 (clB b f))]) (va_A [(h0, oC 13 [.ref h1, v1, v2, v3, v4, v5, v6, v7, v8, v9, v10, v11, v12, v13, v14, v15, v16]), (h1, aI Y 3640 (f))] sz)) args s 0 0 (va_A [(h0, oC 13 [.ref h1, v1, v2, v3, v4, v5, v6, v7, v8, v9, v10, v11, v12, v13, v14, v15, v16]), (h1, aI Y 3640 (f))] sz)) 2 [(2, .int (nI i)), (0, .ref h0), (1, .int (nI b))] [] [(h0, oC 13 [.ref h1, v1, v2, v3, v4, v5, v6, v7, v8, v9, v10, v11, v12, v13, v14, v15, v16]), (h1, aI Y 3640 (zrB b i f))] := by
      intro n
      induction n with
      | zero =>
        intro i hi
        obtain rfl : i = 906 := by omega
        refine V_iload_n 2 B dX12_clearBlock_2 0 rfl ?_
        refine V_sipush 3 B (v := 906) dX12_clearBlock_3 (by decide +kernel) ?_
        refine V_icmp_ge_t 6 B 28 dX12_clearBlock_6 (by decide) (by decide +kernel) ?_
        refine V_aload_n 28 B dX12_clearBlock_28 1 rfl ?_
        refine V_get 29 B gf_RX12_9 0 rfl rfl dX12_clearBlock_29 ?_
        refine V_sipush 32 B (v := 906) dX12_clearBlock_32 (by decide +kernel) ?_
        refine V_iload_n 35 B dX12_clearBlock_35 2 rfl ?_
        refine V_imul 36 B (v := nI (906 * b)) dX12_clearBlock_36 (pk_mul 906 b) ?_
        refine V_iconst 37 B (v := 0) dX12_clearBlock_37 (by decide +kernel) ?_
        refine V_iadd 38 B (v := nI (906 * b + 0)) dX12_clearBlock_38 (nI_add _ 0) ?_
        refine V_iconst 39 B (v := 1) dX12_clearBlock_39 (by decide +kernel) ?_
        refine V_iast 40 B 1 rfl (vp_in_nI (by omega) (by decide)) dX12_clearBlock_40 [(h0, oC 13 [.ref h1, v1, v2, v3, v4, v5, v6, v7, v8, v9, v10, v11, v12, v13, v14, v15, v16]), (h1, aI Y 3640 (upd (zrB b 906 f) (906 * b + 0) 1))] (by rw [nI_clamp (by omega)]; rfl) ?_
        refine V_aload_n 41 B dX12_clearBlock_41 1 rfl ?_
        refine V_get 42 B gf_RX12_9 0 rfl rfl dX12_clearBlock_42 ?_
        refine V_sipush 45 B (v := 906) dX12_clearBlock_45 (by decide +kernel) ?_
        refine V_iload_n 48 B dX12_clearBlock_48 2 rfl ?_
        refine V_imul 49 B (v := nI (906 * b)) dX12_clearBlock_49 (pk_mul 906 b) ?_
        refine V_bipush 50 B (v := 11) dX12_clearBlock_50 (by decide +kernel) ?_
        refine V_iadd 52 B (v := nI (906 * b + 11)) dX12_clearBlock_52 (nI_add _ 11) ?_
        refine V_iconst 53 B (v := (-1)) dX12_clearBlock_53 (by decide +kernel) ?_
        refine V_iast 54 B 1 rfl (vp_in_nI (by omega) (by decide)) dX12_clearBlock_54 [(h0, oC 13 [.ref h1, v1, v2, v3, v4, v5, v6, v7, v8, v9, v10, v11, v12, v13, v14, v15, v16]), (h1, aI Y 3640 (upd (upd (zrB b 906 f) (906 * b + 0) 1) (906 * b + 11) (-1)))] (by rw [nI_clamp (by omega)]; rfl) ?_
        refine V_aload_n 55 B dX12_clearBlock_55 1 rfl ?_
        refine V_get 56 B gf_RX12_9 0 rfl rfl dX12_clearBlock_56 ?_
        refine V_sipush 59 B (v := 906) dX12_clearBlock_59 (by decide +kernel) ?_
        refine V_iload_n 62 B dX12_clearBlock_62 2 rfl ?_
        refine V_imul 63 B (v := nI (906 * b)) dX12_clearBlock_63 (pk_mul 906 b) ?_
        refine V_bipush 64 B (v := 16) dX12_clearBlock_64 (by decide +kernel) ?_
        refine V_iadd 66 B (v := nI (906 * b + 16)) dX12_clearBlock_66 (nI_add _ 16) ?_
        refine V_iconst 67 B (v := (-1)) dX12_clearBlock_67 (by decide +kernel) ?_
        refine V_iast 68 B 1 rfl (vp_in_nI (by omega) (by decide)) dX12_clearBlock_68 [(h0, oC 13 [.ref h1, v1, v2, v3, v4, v5, v6, v7, v8, v9, v10, v11, v12, v13, v14, v15, v16]), (h1, aI Y 3640 (upd (upd (upd (zrB b 906 f) (906 * b + 0) 1) (906 * b + 11) (-1)) (906 * b + 16) (-1)))] (by rw [nI_clamp (by omega)]; rfl) ?_
        exact V_vret 69 B dX12_clearBlock_69 () trivial rfl
      | succ n ih =>
        intro i hi
        refine V_iload_n 2 B dX12_clearBlock_2 0 rfl ?_
        refine V_sipush 3 B (v := 906) dX12_clearBlock_3 (by decide +kernel) ?_
        refine V_icmp_ge_f 6 B 28 dX12_clearBlock_6 (by decide) (nI_ge (a := i) (b := 906) (by omega) (by decide)) ?_
        refine V_aload_n 9 B dX12_clearBlock_9 1 rfl ?_
        refine V_get 10 B gf_RX12_9 0 rfl rfl dX12_clearBlock_10 ?_
        refine V_sipush 13 B (v := 906) dX12_clearBlock_13 (by decide +kernel) ?_
        refine V_iload_n 16 B dX12_clearBlock_16 2 rfl ?_
        refine V_imul 17 B (v := nI (906 * b)) dX12_clearBlock_17 (pk_mul 906 b) ?_
        refine V_iload_n 18 B dX12_clearBlock_18 0 rfl ?_
        refine V_iadd 19 B (v := nI (906 * b + i)) dX12_clearBlock_19 (nI_add _ _) ?_
        refine V_iconst 20 B (v := 0) dX12_clearBlock_20 (by decide +kernel) ?_
        refine V_iast 21 B 1 rfl (vp_in_nI (by omega) (by decide)) dX12_clearBlock_21 [(h0, oC 13 [.ref h1, v1, v2, v3, v4, v5, v6, v7, v8, v9, v10, v11, v12, v13, v14, v15, v16]), (h1, aI Y 3640 (zrB b (i + 1) f))] (by rw [← zrB_s b i f (by omega)]; rfl) ?_
        refine V_iinc 22 B (v := nI (i + 1)) (lv2 := [(2, .int (nI (i + 1))), (0, .ref h0), (1, .int (nI b))]) dX12_clearBlock_22 0 rfl (nI_1 i) (by decide) rfl ?_
        refine V_goto 25 B 2 dX12_clearBlock_25 (by decide) ?_
        exact ih (i + 1) (by omega)
    have K0 := K 906 0 (by omega)
    rw [zrB_0] at K0
    exact K0)
set_option maxRecDepth 100000 in
set_option maxHeartbeats 4000000 in
theorem mX12_copyBlock_m (l : Launch) (D : va_G) (Y : Nat → ClassId) (h0 h1 : Nat) (v1 v2 v3 v4 v5 v6 v7 v8 v9 v10 v11 v12 v13 v14 v15 v16 : Value) (f : Nat → Int32) (a b : Nat) (ha4 : a ≤ 3) (hb4 : b ≤ 3) (hab : a ≠ b) (sz : Nat) : Met l yX12_copyBlock (WSm yX12_copyBlock cX12_copyBlock 4 none) (mkR 0 0 0 0) (PreC D Y [.ref h0, .int (nI a), .int (nI b)] [(h0, oC 13 [.ref h1, v1, v2, v3, v4, v5, v6, v7, v8, v9, v10, v11, v12, v13, v14, v15, v16]), (h1, aI Y 3640 (f))] sz) (QV D (fun (_ : Unit) => True) (fun (_ : Unit) => [(h0, oC 13 [.ref h1, v1, v2, v3, v4, v5, v6, v7, v8, v9, v10, v11, v12, v13, v14, v15, v16]), (h1, aI Y 3640 (cpB a b 906 f))]) (va_A [(h0, oC 13 [.ref h1, v1, v2, v3, v4, v5, v6, v7, v8, v9, v10, v11, v12, v13, v14, v15, v16]), (h1, aI Y 3640 (f))] sz)) 0 0 (va_A [(h0, oC 13 [.ref h1, v1, v2, v3, v4, v5, v6, v7, v8, v9, v10, v11, v12, v13, v14, v15, v16]), (h1, aI Y 3640 (f))] sz) :=
  met_of (by decide +kernel) (Nat.le_of_ble_eq_true rfl) (fun p e s m args below meth c B hin hsz => by
    have B : VB p s m args meth c D Y (va_A [(h0, oC 13 [.ref h1, v1, v2, v3, v4, v5, v6, v7, v8, v9, v10, v11, v12, v13, v14, v15, v16]), (h1, aI Y 3640 (f))] sz) cX12_copyBlock 4 RX12 none := B
    refine V_iconst 0 B (v := 0) dX12_copyBlock_0 (by decide +kernel) ?_
    refine V_istore_n 1 B (lv2 := [(3, .int (0)), (0, .ref h0), (1, .int (nI a)), (2, .int (nI b))]) dX12_copyBlock_1 (by decide) rfl ?_
    have K : ∀ n i : Nat, i + n = 906 → V p l e (mkR 0 0 0 0) s m args below meth c D (va_A [(h0, oC 13 [.ref h1, v1, v2, v3, v4, v5, v6, v7, v8, v9, v10, v11, v12, v13, v14, v15, v16]), (h1, aI Y 3640 (f))] sz) 4 0 0 (MQ below (QV D (fun (_ : Unit) => True) (fun (_ : Unit) => [(h0, oC 13 [.ref h1, v1, v2, v3, v4, v5, v6, v7, v8, v9, v10, v11, v12, v13, v14, v15, v16]), (h1, aI Y 3640 (cpB a b 906 f))]) (va_A [(h0, oC 13 [.ref h1, v1, v2, v3, v4, v5, v6, v7, v8, v9, v10, v11, v12, v13, v14, v15, v16]), (h1, aI Y 3640 (f))] sz)) args s 0 0 (va_A [(h0, oC 13 [.ref h1, v1, v2, v3, v4, v5, v6, v7, v8, v9, v10, v11, v12, v13, v14, v15, v16]), (h1, aI Y 3640 (f))] sz)) 2 [(3, .int (nI i)), (0, .ref h0), (1, .int (nI a)), (2, .int (nI b))] [] [(h0, oC 13 [.ref h1, v1, v2, v3, v4, v5, v6, v7, v8, v9, v10, v11, v12, v13, v14, v15, v16]), (h1, aI Y 3640 (cpB a b i f))] := by
      intro n
      induction n with
      | zero =>
        intro i hi
        obtain rfl : i = 906 := by omega
        refine V_iload_n 2 B dX12_copyBlock_2 0 rfl ?_
        refine V_sipush 3 B (v := 906) dX12_copyBlock_3 (by decide +kernel) ?_
        refine V_icmp_ge_t 6 B 39 dX12_copyBlock_6 (by decide) (by decide +kernel) ?_
        exact V_vret 39 B dX12_copyBlock_39 () trivial rfl
      | succ n ih =>
        intro i hi
        refine V_iload_n 2 B dX12_copyBlock_2 0 rfl ?_
        refine V_sipush 3 B (v := 906) dX12_copyBlock_3 (by decide +kernel) ?_
        refine V_icmp_ge_f 6 B 39 dX12_copyBlock_6 (by decide) (nI_ge (a := i) (b := 906) (by omega) (by decide)) ?_
        refine V_aload_n 9 B dX12_copyBlock_9 1 rfl ?_
        refine V_get 10 B gf_RX12_9 0 rfl rfl dX12_copyBlock_10 ?_
        refine V_sipush 13 B (v := 906) dX12_copyBlock_13 (by decide +kernel) ?_
        refine V_iload_n 16 B dX12_copyBlock_16 3 rfl ?_
        refine V_imul 17 B (v := nI (906 * b)) dX12_copyBlock_17 (pk_mul 906 b) ?_
        refine V_iload_n 18 B dX12_copyBlock_18 0 rfl ?_
        refine V_iadd 19 B (v := nI (906 * b + i)) dX12_copyBlock_19 (nI_add _ _) ?_
        refine V_aload_n 20 B dX12_copyBlock_20 1 rfl ?_
        refine V_get 21 B gf_RX12_9 0 rfl rfl dX12_copyBlock_21 ?_
        refine V_sipush 24 B (v := 906) dX12_copyBlock_24 (by decide +kernel) ?_
        refine V_iload_n 27 B dX12_copyBlock_27 2 rfl ?_
        refine V_imul 28 B (v := nI (906 * a)) dX12_copyBlock_28 (pk_mul 906 a) ?_
        refine V_iload_n 29 B dX12_copyBlock_29 0 rfl ?_
        refine V_iadd 30 B (v := nI (906 * a + i)) dX12_copyBlock_30 (nI_add _ _) ?_
        refine V_iald 31 B (v := f (906 * a + i)) 1 rfl (vp_in_nI (by omega) (by decide)) dX12_copyBlock_31 (cpB_r a b i f (by omega) (by omega) hab) ?_
        refine V_iast 32 B 1 rfl (vp_in_nI (by omega) (by decide)) dX12_copyBlock_32 [(h0, oC 13 [.ref h1, v1, v2, v3, v4, v5, v6, v7, v8, v9, v10, v11, v12, v13, v14, v15, v16]), (h1, aI Y 3640 (cpB a b (i + 1) f))] (by rw [← cpB_s a b i f (by omega)]; rfl) ?_
        refine V_iinc 33 B (v := nI (i + 1)) (lv2 := [(3, .int (nI (i + 1))), (0, .ref h0), (1, .int (nI a)), (2, .int (nI b))]) dX12_copyBlock_33 0 rfl (nI_1 i) (by decide) rfl ?_
        refine V_goto 36 B 2 dX12_copyBlock_36 (by decide) ?_
        exact ih (i + 1) (by omega)
    have K0 := K 906 0 (by omega)
    rw [cpB_0] at K0
    exact K0)
