theorem dX1_size_0 : decode cX1_size 0 = .ok (.aload_n 0, 1) := by decide +kernel
theorem dX1_size_1 : decode cX1_size 1 = .ok (.getfield 21, 3) := by decide +kernel
theorem inw_X1 : ∀ w ∈ u_ws RX1 TX1 2, w ∈ lw_good := by decide +kernel
theorem gf_RX1_21 : GF RX1 21 3 1 := ⟨RX1, TX1, 2, rfl, inw_X1, Nat.le_of_ble_eq_true rfl, (mT1 52 rfl rfl)⟩
theorem dX1_size_4 : decode cX1_size 4 = .ok (.ireturn, 1) := by decide +kernel
set_option maxRecDepth 100000 in
set_option maxHeartbeats 4000000 in
theorem mX1_size_1 (l : Launch) (D : va_G) (Y : Nat → ClassId) (h0 : Nat) (h1 : Nat) (sz : Nat) : Met l yX1_size (WSm yX1_size cX1_size 1 (some .int)) (mkR 0 0 0 0) (PreC D Y [.ref h0] [(h0, oC 3 [.ref h1, .int 1])] sz) (QI D (fun (r : Int32) (u : Unit) => r = 1) (fun (_ : Unit) => [(h0, oC 3 [.ref h1, .int 1])]) (va_A [(h0, oC 3 [.ref h1, .int 1])] sz)) 0 0 (va_A [(h0, oC 3 [.ref h1, .int 1])] sz) :=
  met_of (by decide +kernel) (Nat.le_of_ble_eq_true rfl) (fun p e s m args below meth c B hin hsz => by
    have B : VB p s m args meth c D Y (va_A [(h0, oC 3 [.ref h1, .int 1])] sz) cX1_size 1 RX1 (some .int) := B
    refine V_aload_n 0 B dX1_size_0 0 rfl ?_
    refine V_get 1 B gf_RX1_21 0 rfl rfl dX1_size_1 ?_
    exact V_iret 4 B dX1_size_4 () rfl rfl)
theorem dX1_at_0 : decode cX1_at 0 = .ok (.iload_n 1, 1) := by decide +kernel
theorem dX1_at_1 : decode cX1_at 1 = .ok (.ifCond .lt 29, 3) := by decide +kernel
theorem dX1_at_30 : decode cX1_at 30 = .ok (.iconst (-1), 1) := by decide +kernel
theorem dX1_at_31 : decode cX1_at 31 = .ok (.ireturn, 1) := by decide +kernel
theorem dX1_at_4 : decode cX1_at 4 = .ok (.iload_n 1, 1) := by decide +kernel
theorem dX1_at_5 : decode cX1_at 5 = .ok (.aload_n 0, 1) := by decide +kernel
theorem dX1_at_6 : decode cX1_at 6 = .ok (.getfield 21, 3) := by decide +kernel
theorem dX1_at_9 : decode cX1_at 9 = .ok (.if_icmp .ge 21, 3) := by decide +kernel
theorem dX1_at_12 : decode cX1_at 12 = .ok (.iload_n 1, 1) := by decide +kernel
theorem dX1_at_13 : decode cX1_at 13 = .ok (.aload_n 0, 1) := by decide +kernel
theorem dX1_at_14 : decode cX1_at 14 = .ok (.getfield 15, 3) := by decide +kernel
theorem gf_RX1_15 : GF RX1 15 3 0 := ⟨RX1, TX1, 2, rfl, inw_X1, Nat.le_of_ble_eq_true rfl, (mT1 51 rfl rfl)⟩
theorem dX1_at_17 : decode cX1_at 17 = .ok (.arraylength, 1) := by decide +kernel
theorem dX1_at_18 : decode cX1_at 18 = .ok (.if_icmp .ge 12, 3) := by decide +kernel
theorem dX1_at_21 : decode cX1_at 21 = .ok (.aload_n 0, 1) := by decide +kernel
theorem dX1_at_22 : decode cX1_at 22 = .ok (.getfield 15, 3) := by decide +kernel
theorem dX1_at_25 : decode cX1_at 25 = .ok (.iload_n 1, 1) := by decide +kernel
theorem dX1_at_26 : decode cX1_at 26 = .ok (.iaload, 1) := by decide +kernel
theorem dX1_at_27 : decode cX1_at 27 = .ok (.goto 4, 3) := by decide +kernel
set_option maxRecDepth 100000 in
set_option maxHeartbeats 4000000 in
theorem mX1_at_1 (l : Launch) (D : va_G) (Y : Nat → ClassId) (h0 : Nat) (h1 : Nat) (p0 : Int32) (sz : Nat) : Met l yX1_at (WSm yX1_at cX1_at 2 (some .int)) (mkR 0 0 0 0) (PreC D Y [.ref h0, .int p0] [(h0, oC 3 [.ref h1, .int 1]), (h1, aI Y 6 (fun _ => 0))] sz) (QI D (fun (r : Int32) (u : Unit) => (p0 < 0 ∧ r = (-1)) ∨ (¬ p0 < 0 ∧ 1 ≤ p0 ∧ r = (-1)) ∨ (p0 = 0 ∧ r = 0)) (fun (_ : Unit) => [(h0, oC 3 [.ref h1, .int 1]), (h1, aI Y 6 (fun _ => 0))]) (va_A [(h0, oC 3 [.ref h1, .int 1]), (h1, aI Y 6 (fun _ => 0))] sz)) 0 0 (va_A [(h0, oC 3 [.ref h1, .int 1]), (h1, aI Y 6 (fun _ => 0))] sz) :=
  met_of (by decide +kernel) (Nat.le_of_ble_eq_true rfl) (fun p e s m args below meth c B hin hsz => by
    have B : VB p s m args meth c D Y (va_A [(h0, oC 3 [.ref h1, .int 1]), (h1, aI Y 6 (fun _ => 0))] sz) cX1_at 2 RX1 (some .int) := B
    refine V_iload_n 0 B dX1_at_0 1 rfl ?_
    refine V_if_lt 1 B 30 dX1_at_1 (by decide) (fun k0 => ?_) (fun k0 => ?_)
    ·
      refine V_iconst 30 B (v := (-1)) dX1_at_30 (by decide +kernel) ?_
      exact V_iret 31 B dX1_at_31 () (Or.inl ⟨k0, rfl⟩) rfl
    ·
      refine V_iload_n 4 B dX1_at_4 1 rfl ?_
      refine V_aload_n 5 B dX1_at_5 0 rfl ?_
      refine V_get 6 B gf_RX1_21 0 rfl rfl dX1_at_6 ?_
      refine V_icmp_ge 9 B 30 dX1_at_9 (by decide) (fun k1 => ?_) (fun k1 => ?_)
      ·
        refine V_iconst 30 B (v := (-1)) dX1_at_30 (by decide +kernel) ?_
        exact V_iret 31 B dX1_at_31 () (Or.inr (Or.inl ⟨k0, k1, rfl⟩)) rfl
      ·
        obtain rfl : p0 = 0 := q_eq (b_nlt k0 (n := 0) (by decide +kernel)) (b_nge k1 (n := 0) (by decide +kernel)) (by decide +kernel)
        refine V_iload_n 12 B dX1_at_12 1 rfl ?_
        refine V_aload_n 13 B dX1_at_13 0 rfl ?_
        refine V_get 14 B gf_RX1_15 0 rfl rfl dX1_at_14 ?_
        refine V_alenI 17 B (v := 6) 1 rfl (by decide +kernel) dX1_at_17 ?_
        refine V_icmp_ge_f 18 B 30 dX1_at_18 (by decide) (by decide +kernel) ?_
        refine V_aload_n 21 B dX1_at_21 0 rfl ?_
        refine V_get 22 B gf_RX1_15 0 rfl rfl dX1_at_22 ?_
        refine V_iload_n 25 B dX1_at_25 1 rfl ?_
        refine V_iald 26 B (v := 0) 1 rfl (vpin _ _ (by decide +kernel)) dX1_at_26 rfl ?_
        refine V_goto 27 B 31 dX1_at_27 (by decide) ?_
        exact V_iret 31 B dX1_at_31 () (Or.inr (Or.inr ⟨rfl, rfl⟩)) rfl)
theorem dX1_push_0 : decode cX1_push 0 = .ok (.aload_n 0, 1) := by decide +kernel
theorem dX1_push_1 : decode cX1_push 1 = .ok (.getfield 21, 3) := by decide +kernel
theorem dX1_push_4 : decode cX1_push 4 = .ok (.ifCond .lt 15, 3) := by decide +kernel
theorem dX1_push_7 : decode cX1_push 7 = .ok (.aload_n 0, 1) := by decide +kernel
theorem dX1_push_8 : decode cX1_push 8 = .ok (.getfield 21, 3) := by decide +kernel
theorem dX1_push_11 : decode cX1_push 11 = .ok (.aload_n 0, 1) := by decide +kernel
theorem dX1_push_12 : decode cX1_push 12 = .ok (.getfield 15, 3) := by decide +kernel
theorem dX1_push_15 : decode cX1_push 15 = .ok (.arraylength, 1) := by decide +kernel
theorem dX1_push_16 : decode cX1_push 16 = .ok (.if_icmp .lt 5, 3) := by decide +kernel
theorem dX1_push_21 : decode cX1_push 21 = .ok (.aload_n 0, 1) := by decide +kernel
theorem dX1_push_22 : decode cX1_push 22 = .ok (.getfield 15, 3) := by decide +kernel
theorem dX1_push_25 : decode cX1_push 25 = .ok (.aload_n 0, 1) := by decide +kernel
theorem dX1_push_26 : decode cX1_push 26 = .ok (.getfield 21, 3) := by decide +kernel
theorem dX1_push_29 : decode cX1_push 29 = .ok (.iload_n 1, 1) := by decide +kernel
theorem dX1_push_30 : decode cX1_push 30 = .ok (.iastore, 1) := by decide +kernel
theorem dX1_push_31 : decode cX1_push 31 = .ok (.aload_n 0, 1) := by decide +kernel
theorem dX1_push_32 : decode cX1_push 32 = .ok (.dup, 1) := by decide +kernel
theorem dX1_push_33 : decode cX1_push 33 = .ok (.getfield 21, 3) := by decide +kernel
theorem dX1_push_36 : decode cX1_push 36 = .ok (.iconst 1, 1) := by decide +kernel
theorem dX1_push_37 : decode cX1_push 37 = .ok (.iadd, 1) := by decide +kernel
theorem dX1_push_38 : decode cX1_push 38 = .ok (.putfield 21, 3) := by decide +kernel
theorem gp_RX1_21 : GP RX1 21 3 1 .int false := ⟨RX1, TX1, 2, ⟨rfl, inw_X1, Nat.le_of_ble_eq_true rfl, (mT1 52 rfl rfl)⟩, ⟨tyX1, tyX1_ok⟩, nmX1, rfl, by decide +kernel, fun _ => rfl⟩
theorem dX1_push_41 : decode cX1_push 41 = .ok (.iconst 1, 1) := by decide +kernel
theorem dX1_push_42 : decode cX1_push 42 = .ok (.ireturn, 1) := by decide +kernel
set_option maxRecDepth 100000 in
set_option maxHeartbeats 4000000 in
theorem mX1_push_1 (l : Launch) (D : va_G) (Y : Nat → ClassId) (h0 : Nat) (h1 : Nat) (p0 : Int32) (sz : Nat) : Met l yX1_push (WSm yX1_push cX1_push 2 (some .boolean)) (mkR 0 0 0 0) (PreC D Y [.ref h0, .int p0] [(h0, oC 3 [.ref h1, .int 1]), (h1, aI Y 6 (fun _ => 0))] sz) (QI D (fun (r : Int32) (u : Unit) => r = 1) (fun (_ : Unit) => [(h0, oC 3 [.ref h1, .int 2]), (h1, aI Y 6 (upd (fun _ => 0) 1 p0))]) (va_A [(h0, oC 3 [.ref h1, .int 1]), (h1, aI Y 6 (fun _ => 0))] sz)) 0 0 (va_A [(h0, oC 3 [.ref h1, .int 1]), (h1, aI Y 6 (fun _ => 0))] sz) :=
  met_of (by decide +kernel) (Nat.le_of_ble_eq_true rfl) (fun p e s m args below meth c B hin hsz => by
    have B : VB p s m args meth c D Y (va_A [(h0, oC 3 [.ref h1, .int 1]), (h1, aI Y 6 (fun _ => 0))] sz) cX1_push 2 RX1 (some .boolean) := B
    refine V_aload_n 0 B dX1_push_0 0 rfl ?_
    refine V_get 1 B gf_RX1_21 0 rfl rfl dX1_push_1 ?_
    refine V_if_lt_f 4 B 19 dX1_push_4 (by decide) (by decide +kernel) ?_
    refine V_aload_n 7 B dX1_push_7 0 rfl ?_
    refine V_get 8 B gf_RX1_21 0 rfl rfl dX1_push_8 ?_
    refine V_aload_n 11 B dX1_push_11 0 rfl ?_
    refine V_get 12 B gf_RX1_15 0 rfl rfl dX1_push_12 ?_
    refine V_alenI 15 B (v := 6) 1 rfl (by decide +kernel) dX1_push_15 ?_
    refine V_icmp_lt_t 16 B 21 dX1_push_16 (by decide) (by decide +kernel) ?_
    refine V_aload_n 21 B dX1_push_21 0 rfl ?_
    refine V_get 22 B gf_RX1_15 0 rfl rfl dX1_push_22 ?_
    refine V_aload_n 25 B dX1_push_25 0 rfl ?_
    refine V_get 26 B gf_RX1_21 0 rfl rfl dX1_push_26 ?_
    refine V_iload_n 29 B dX1_push_29 1 rfl ?_
    refine V_iast 30 B 1 rfl (vpin _ _ (by decide +kernel)) dX1_push_30 [(h0, oC 3 [.ref h1, .int 1]), (h1, aI Y 6 (upd (fun _ => 0) 1 p0))] rfl ?_
    refine V_aload_n 31 B dX1_push_31 0 rfl ?_
    refine V_dup 32 B dX1_push_32 rfl ?_
    refine V_get 33 B gf_RX1_21 0 rfl rfl dX1_push_33 ?_
    refine V_iconst 36 B (v := 1) dX1_push_36 (by decide +kernel) ?_
    refine V_iadd 37 B (v := 2) dX1_push_37 (by decide +kernel) ?_
    refine V_put 38 B gp_RX1_21 0 rfl (Nat.le_of_ble_eq_true rfl) rfl rfl dX1_push_38 [(h0, oC 3 [.ref h1, .int 2]), (h1, aI Y 6 (upd (fun _ => 0) 1 p0))] rfl ?_
    refine V_iconst 41 B (v := 1) dX1_push_41 (by decide +kernel) ?_
    exact V_zret 42 B rfl dX1_push_42 () rfl rfl)
set_option maxRecDepth 100000 in
set_option maxHeartbeats 4000000 in
theorem mX1_size_2 (l : Launch) (D : va_G) (Y : Nat → ClassId) (h0 : Nat) (g0 : Nat) (sz : Nat) : Met l yX1_size (WSm yX1_size cX1_size 1 (some .int)) (mkR 0 0 0 0) (PreC D Y [.ref h0] [(h0, oC 3 [.ref g0, .int 1])] sz) (QI D (fun (r : Int32) (u : Unit) => r = 1) (fun (_ : Unit) => [(h0, oC 3 [.ref g0, .int 1])]) (va_A [(h0, oC 3 [.ref g0, .int 1])] sz)) 0 0 (va_A [(h0, oC 3 [.ref g0, .int 1])] sz) :=
  met_of (by decide +kernel) (Nat.le_of_ble_eq_true rfl) (fun p e s m args below meth c B hin hsz => by
    have B : VB p s m args meth c D Y (va_A [(h0, oC 3 [.ref g0, .int 1])] sz) cX1_size 1 RX1 (some .int) := B
    refine V_aload_n 0 B dX1_size_0 0 rfl ?_
    refine V_get 1 B gf_RX1_21 0 rfl rfl dX1_size_1 ?_
    exact V_iret 4 B dX1_size_4 () rfl rfl)
theorem dX0_hasMode_0 : decode cX0_hasMode 0 = .ok (.iload_n 1, 1) := by decide +kernel
theorem dX0_hasMode_1 : decode cX0_hasMode 1 = .ok (.ifCond .lt 18, 3) := by decide +kernel
theorem dX0_hasMode_19 : decode cX0_hasMode 19 = .ok (.iconst 0, 1) := by decide +kernel
theorem dX0_hasMode_20 : decode cX0_hasMode 20 = .ok (.ireturn, 1) := by decide +kernel
theorem dX0_hasMode_4 : decode cX0_hasMode 4 = .ok (.iload_n 1, 1) := by decide +kernel
theorem dX0_hasMode_5 : decode cX0_hasMode 5 = .ok (.aload_n 0, 1) := by decide +kernel
theorem dX0_hasMode_6 : decode cX0_hasMode 6 = .ok (.getfield 14, 3) := by decide +kernel
theorem inw_X0 : ∀ w ∈ u_ws RX0 TX0 12, w ∈ lw_good := by decide +kernel
theorem gf_RX0_14 : GF RX0 14 2 0 := ⟨RX0, TX0, 12, rfl, inw_X0, Nat.le_of_ble_eq_true rfl, (mT1 159 rfl rfl)⟩
theorem dX0_hasMode_9 : decode cX0_hasMode 9 = .ok (.invokevirtual 91, 3) := by decide +kernel
theorem glV_RX0_91 : GLV RX0 91 yX1_size RX1 cX1_size 1 (some .int) 0 := ⟨⟨(mT3 128 rfl rfl), (mT3 47 rfl rfl), (mT3 48 rfl rfl), (mT1 3 rfl rfl), (mT3 49 rfl rfl)⟩, by decide +kernel⟩
theorem dX0_hasMode_12 : decode cX0_hasMode 12 = .ok (.if_icmp .ge 7, 3) := by decide +kernel
theorem dX0_hasMode_15 : decode cX0_hasMode 15 = .ok (.iconst 1, 1) := by decide +kernel
theorem dX0_hasMode_16 : decode cX0_hasMode 16 = .ok (.goto 4, 3) := by decide +kernel
set_option maxRecDepth 100000 in
set_option maxHeartbeats 4000000 in
theorem mX0_hasMode_1 (l : Launch) (D : va_G) (Y : Nat → ClassId) (h0 : Nat) (h1 : Nat) (g0 : Nat) (g1 : Nat) (g2 : Nat) (g3 : Nat) (g4 : Nat) (g5 : Nat) (g6 : Nat) (g7 : Nat) (g8 : Nat) (g9 : Nat) (g10 : Nat) (p0 : Int32) (sz : Nat) : Met l yX0_hasMode (WSm yX0_hasMode cX0_hasMode 2 (some .boolean)) (mkR 1 0 0 20) (PreC D Y [.ref h0, .int p0] [(h0, oC 2 [.ref h1, .ref g0, .ref g1, .ref g2, .ref g3, .ref g4, .ref g5, .ref g6, .ref g7, .ref g8, .ref g9, .int 0]), (h1, oC 3 [.ref g10, .int 1])] sz) (QI D (fun (r : Int32) (u : Unit) => (p0 < 0 ∧ r = 0) ∨ (¬ p0 < 0 ∧ 1 ≤ p0 ∧ r = 0) ∨ (p0 = 0 ∧ r = 1)) (fun (_ : Unit) => [(h0, oC 2 [.ref h1, .ref g0, .ref g1, .ref g2, .ref g3, .ref g4, .ref g5, .ref g6, .ref g7, .ref g8, .ref g9, .int 0]), (h1, oC 3 [.ref g10, .int 1])]) (va_A [(h0, oC 2 [.ref h1, .ref g0, .ref g1, .ref g2, .ref g3, .ref g4, .ref g5, .ref g6, .ref g7, .ref g8, .ref g9, .int 0]), (h1, oC 3 [.ref g10, .int 1])] sz)) 0 0 (va_A [(h0, oC 2 [.ref h1, .ref g0, .ref g1, .ref g2, .ref g3, .ref g4, .ref g5, .ref g6, .ref g7, .ref g8, .ref g9, .int 0]), (h1, oC 3 [.ref g10, .int 1])] sz) :=
  met_of (by decide +kernel) (Nat.le_of_ble_eq_true rfl) (fun p e s m args below meth c B hin hsz => by
    have B : VB p s m args meth c D Y (va_A [(h0, oC 2 [.ref h1, .ref g0, .ref g1, .ref g2, .ref g3, .ref g4, .ref g5, .ref g6, .ref g7, .ref g8, .ref g9, .int 0]), (h1, oC 3 [.ref g10, .int 1])] sz) cX0_hasMode 2 RX0 (some .boolean) := B
    refine V_iload_n 0 B dX0_hasMode_0 1 rfl ?_
    refine V_if_lt 1 B 19 dX0_hasMode_1 (by decide) (fun k0 => ?_) (fun k0 => ?_)
    ·
      refine V_iconst 19 B (v := 0) dX0_hasMode_19 (by decide +kernel) ?_
      exact V_zret 20 B rfl dX0_hasMode_20 () (Or.inl ⟨k0, rfl⟩) rfl
    ·
      refine V_iload_n 4 B dX0_hasMode_4 1 rfl ?_
      refine V_aload_n 5 B dX0_hasMode_5 0 rfl ?_
      refine V_get 6 B gf_RX0_14 0 rfl rfl dX0_hasMode_6 ?_
      refine V_cvi 9 B (st := [.int p0]) (As := []) (fun sz => mX1_size_2 l D Y (h1) (g10) sz) glV_RX0_91 ⟨rfl, rfl⟩ ⟨(Nat.le_of_ble_eq_true rfl), (Nat.le_of_ble_eq_true rfl)⟩ ⟨(Nat.le_of_ble_eq_true rfl), (Nat.le_of_ble_eq_true rfl)⟩ [1] rfl (by decide) 3 rfl rfl rfl rfl (Nat.le_of_ble_eq_true rfl) rfl (fun _ => rfl) dX0_hasMode_9 (fun r1 u1 w1 => ?_)
      obtain rfl := w1
      refine V_ws [(h0, oC 2 [.ref h1, .ref g0, .ref g1, .ref g2, .ref g3, .ref g4, .ref g5, .ref g6, .ref g7, .ref g8, .ref g9, .int 0]), (h1, oC 3 [.ref g10, .int 1])] rfl ?_
      refine V_icmp_ge 12 B 19 dX0_hasMode_12 (by decide) (fun k2 => ?_) (fun k2 => ?_)
      ·
        refine V_iconst 19 B (v := 0) dX0_hasMode_19 (by decide +kernel) ?_
        exact V_zret 20 B rfl dX0_hasMode_20 () (Or.inr (Or.inl ⟨k0, k2, rfl⟩)) rfl
      ·
        obtain rfl : p0 = 0 := q_eq (b_nlt k0 (n := 0) (by decide +kernel)) (b_nge k2 (n := 0) (by decide +kernel)) (by decide +kernel)
        refine V_iconst 15 B (v := 1) dX0_hasMode_15 (by decide +kernel) ?_
        refine V_goto 16 B 20 dX0_hasMode_16 (by decide) ?_
        exact V_zret 20 B rfl dX0_hasMode_20 () (Or.inr (Or.inr ⟨rfl, rfl⟩)) rfl)
