theorem dX0_appendCommand_0 : decode cX0_appendCommand 0 = .ok (.aload_n 0, 1) := by decide +kernel
theorem dX0_appendCommand_1 : decode cX0_appendCommand 1 = .ok (.getfield 20, 3) := by decide +kernel
theorem dX0_appendCommand_4 : decode cX0_appendCommand 4 = .ok (.iload_n 1, 1) := by decide +kernel
theorem dX0_appendCommand_5 : decode cX0_appendCommand 5 = .ok (.invokevirtual 66, 3) := by decide +kernel
theorem dX0_appendCommand_8 : decode cX0_appendCommand 8 = .ok (.pop, 1) := by decide +kernel
theorem dX0_appendCommand_9 : decode cX0_appendCommand 9 = .ok (.aload_n 0, 1) := by decide +kernel
theorem dX0_appendCommand_10 : decode cX0_appendCommand 10 = .ok (.getfield 23, 3) := by decide +kernel
theorem dX0_appendCommand_13 : decode cX0_appendCommand 13 = .ok (.iload_n 1, 1) := by decide +kernel
theorem dX0_appendCommand_14 : decode cX0_appendCommand 14 = .ok (.iconst 1, 1) := by decide +kernel
theorem dX0_appendCommand_15 : decode cX0_appendCommand 15 = .ok (.if_icmp .ne 7, 3) := by decide +kernel
theorem dX0_appendCommand_22 : decode cX0_appendCommand 22 = .ok (.iconst (-1), 1) := by decide +kernel
theorem dX0_appendCommand_23 : decode cX0_appendCommand 23 = .ok (.invokevirtual 66, 3) := by decide +kernel
theorem dX0_appendCommand_26 : decode cX0_appendCommand 26 = .ok (.pop, 1) := by decide +kernel
theorem dX0_appendCommand_27 : decode cX0_appendCommand 27 = .ok (.aload_n 0, 1) := by decide +kernel
theorem dX0_appendCommand_28 : decode cX0_appendCommand 28 = .ok (.getfield 26, 3) := by decide +kernel
theorem dX0_appendCommand_31 : decode cX0_appendCommand 31 = .ok (.iconst 0, 1) := by decide +kernel
theorem dX0_appendCommand_32 : decode cX0_appendCommand 32 = .ok (.invokevirtual 66, 3) := by decide +kernel
theorem dX0_appendCommand_35 : decode cX0_appendCommand 35 = .ok (.pop, 1) := by decide +kernel
theorem dX0_appendCommand_36 : decode cX0_appendCommand 36 = .ok (.return_, 1) := by decide +kernel
theorem dX0_appendCommand_18 : decode cX0_appendCommand 18 = .ok (.iload_n 2, 1) := by decide +kernel
theorem dX0_appendCommand_19 : decode cX0_appendCommand 19 = .ok (.goto 4, 3) := by decide +kernel
set_option maxRecDepth 100000 in
set_option maxHeartbeats 4000000 in
theorem mX0_appendCommand_1 (l : Launch) (D : va_G) (Y : Nat → ClassId) (h0 : Nat) (g0 : Nat) (h1 : Nat) (h3 : Nat) (h5 : Nat) (g1 : Nat) (g2 : Nat) (g3 : Nat) (g4 : Nat) (g5 : Nat) (g6 : Nat) (g7 : Nat) (h2 : Nat) (h4 : Nat) (h6 : Nat) (p0 : Int32) (p1 : Int32) (sz : Nat) : Met l yX0_appendCommand (WSm yX0_appendCommand cX0_appendCommand 3 none) (mkR 1 0 0 21) (PreC D Y [.ref h0, .int p0, .int p1] [(h0, oC 2 [.ref g0, .ref h1, .ref h3, .ref h5, .ref g1, .ref g2, .ref g3, .ref g4, .ref g5, .ref g6, .ref g7, .int 0]), (h1, oC 3 [.ref h2, .int 0]), (h2, aI Y 40 (fun _ => 0)), (h3, oC 3 [.ref h4, .int 0]), (h4, aI Y 40 (fun _ => 0)), (h5, oC 3 [.ref h6, .int 0]), (h6, aI Y 40 (fun _ => 0))] sz) (QV D (fun (u : Nat) => (u = 0 ∧ ¬ p0 = 1) ∨ (u = 1 ∧ p0 = 1)) (fun (u : Nat) => match u with | 0 => [(h0, oC 2 [.ref g0, .ref h1, .ref h3, .ref h5, .ref g1, .ref g2, .ref g3, .ref g4, .ref g5, .ref g6, .ref g7, .int 0]), (h1, oC 3 [.ref h2, .int 1]), (h2, aI Y 40 (upd (fun _ => 0) 0 p0)), (h3, oC 3 [.ref h4, .int 1]), (h4, aI Y 40 (upd (fun _ => 0) 0 (-1))), (h5, oC 3 [.ref h6, .int 1]), (h6, aI Y 40 (upd (fun _ => 0) 0 0))] | _ => [(h0, oC 2 [.ref g0, .ref h1, .ref h3, .ref h5, .ref g1, .ref g2, .ref g3, .ref g4, .ref g5, .ref g6, .ref g7, .int 0]), (h1, oC 3 [.ref h2, .int 1]), (h2, aI Y 40 (upd (fun _ => 0) 0 1)), (h3, oC 3 [.ref h4, .int 1]), (h4, aI Y 40 (upd (fun _ => 0) 0 p1)), (h5, oC 3 [.ref h6, .int 1]), (h6, aI Y 40 (upd (fun _ => 0) 0 0))]) (va_A [(h0, oC 2 [.ref g0, .ref h1, .ref h3, .ref h5, .ref g1, .ref g2, .ref g3, .ref g4, .ref g5, .ref g6, .ref g7, .int 0]), (h1, oC 3 [.ref h2, .int 0]), (h2, aI Y 40 (fun _ => 0)), (h3, oC 3 [.ref h4, .int 0]), (h4, aI Y 40 (fun _ => 0)), (h5, oC 3 [.ref h6, .int 0]), (h6, aI Y 40 (fun _ => 0))] sz)) 0 0 (va_A [(h0, oC 2 [.ref g0, .ref h1, .ref h3, .ref h5, .ref g1, .ref g2, .ref g3, .ref g4, .ref g5, .ref g6, .ref g7, .int 0]), (h1, oC 3 [.ref h2, .int 0]), (h2, aI Y 40 (fun _ => 0)), (h3, oC 3 [.ref h4, .int 0]), (h4, aI Y 40 (fun _ => 0)), (h5, oC 3 [.ref h6, .int 0]), (h6, aI Y 40 (fun _ => 0))] sz) :=
  met_of (by decide +kernel) (Nat.le_of_ble_eq_true rfl) (fun p e s m args below meth c B hin hsz => by
    have B : VB p s m args meth c D Y (va_A [(h0, oC 2 [.ref g0, .ref h1, .ref h3, .ref h5, .ref g1, .ref g2, .ref g3, .ref g4, .ref g5, .ref g6, .ref g7, .int 0]), (h1, oC 3 [.ref h2, .int 0]), (h2, aI Y 40 (fun _ => 0)), (h3, oC 3 [.ref h4, .int 0]), (h4, aI Y 40 (fun _ => 0)), (h5, oC 3 [.ref h6, .int 0]), (h6, aI Y 40 (fun _ => 0))] sz) cX0_appendCommand 3 RX0 none := B
    refine V_aload_n 0 B dX0_appendCommand_0 0 rfl ?_
    refine V_get 1 B gf_RX0_20 0 rfl rfl dX0_appendCommand_1 ?_
    refine V_iload_n 4 B dX0_appendCommand_4 1 rfl ?_
    refine V_cvi 5 B (st := []) (As := [.int p0]) (fun sz => mX1_push_4 l D Y (h1) (h2) (p0) sz) glV_RX0_66 ⟨rfl, rfl⟩ ⟨(Nat.le_of_ble_eq_true rfl), (Nat.le_of_ble_eq_true rfl)⟩ ⟨(Nat.le_of_ble_eq_true rfl), (Nat.le_of_ble_eq_true rfl)⟩ [1, 0] rfl 3 0 rfl rfl rfl rfl (Nat.le_of_ble_eq_true rfl) rfl (fun _ _ _ => rfl) dX0_appendCommand_5 (fun r0 u0 w0 => ?_)
    obtain rfl := w0
    refine V_ws [(h0, oC 2 [.ref g0, .ref h1, .ref h3, .ref h5, .ref g1, .ref g2, .ref g3, .ref g4, .ref g5, .ref g6, .ref g7, .int 0]), (h1, oC 3 [.ref h2, .int 1]), (h2, aI Y 40 (upd (fun _ => 0) 0 p0)), (h3, oC 3 [.ref h4, .int 0]), (h4, aI Y 40 (fun _ => 0)), (h5, oC 3 [.ref h6, .int 0]), (h6, aI Y 40 (fun _ => 0))] rfl ?_
    refine V_pop 8 B dX0_appendCommand_8 rfl ?_
    refine V_aload_n 9 B dX0_appendCommand_9 0 rfl ?_
    refine V_get 10 B gf_RX0_23 0 rfl rfl dX0_appendCommand_10 ?_
    refine V_iload_n 13 B dX0_appendCommand_13 1 rfl ?_
    refine V_iconst 14 B (v := 1) dX0_appendCommand_14 (by decide +kernel) ?_
    refine V_icmp_ne 15 B 22 dX0_appendCommand_15 (by decide) (fun k1 => ?_) (fun k1 => ?_)
    ·
      refine V_iconst 22 B (v := (-1)) dX0_appendCommand_22 (by decide +kernel) ?_
      refine V_cvi 23 B (st := []) (As := [.int (-1)]) (fun sz => mX1_push_5 l D Y (h3) (h4) sz) glV_RX0_66 ⟨rfl, rfl⟩ ⟨(Nat.le_of_ble_eq_true rfl), (Nat.le_of_ble_eq_true rfl)⟩ ⟨(Nat.le_of_ble_eq_true rfl), (Nat.le_of_ble_eq_true rfl)⟩ [3, 0] rfl 3 0 rfl rfl rfl rfl (Nat.le_of_ble_eq_true rfl) rfl (fun _ _ _ => rfl) dX0_appendCommand_23 (fun r2 u2 w2 => ?_)
      obtain rfl := w2
      refine V_ws [(h0, oC 2 [.ref g0, .ref h1, .ref h3, .ref h5, .ref g1, .ref g2, .ref g3, .ref g4, .ref g5, .ref g6, .ref g7, .int 0]), (h1, oC 3 [.ref h2, .int 1]), (h2, aI Y 40 (upd (fun _ => 0) 0 p0)), (h3, oC 3 [.ref h4, .int 1]), (h4, aI Y 40 (upd (fun _ => 0) 0 (-1))), (h5, oC 3 [.ref h6, .int 0]), (h6, aI Y 40 (fun _ => 0))] rfl ?_
      refine V_pop 26 B dX0_appendCommand_26 rfl ?_
      refine V_aload_n 27 B dX0_appendCommand_27 0 rfl ?_
      refine V_get 28 B gf_RX0_26 0 rfl rfl dX0_appendCommand_28 ?_
      refine V_iconst 31 B (v := 0) dX0_appendCommand_31 (by decide +kernel) ?_
      refine V_cvi 32 B (st := []) (As := [.int 0]) (fun sz => mX1_push_6 l D Y (h5) (h6) sz) glV_RX0_66 ⟨rfl, rfl⟩ ⟨(Nat.le_of_ble_eq_true rfl), (Nat.le_of_ble_eq_true rfl)⟩ ⟨(Nat.le_of_ble_eq_true rfl), (Nat.le_of_ble_eq_true rfl)⟩ [5, 0] rfl 3 0 rfl rfl rfl rfl (Nat.le_of_ble_eq_true rfl) rfl (fun _ _ _ => rfl) dX0_appendCommand_32 (fun r3 u3 w3 => ?_)
      obtain rfl := w3
      refine V_ws [(h0, oC 2 [.ref g0, .ref h1, .ref h3, .ref h5, .ref g1, .ref g2, .ref g3, .ref g4, .ref g5, .ref g6, .ref g7, .int 0]), (h1, oC 3 [.ref h2, .int 1]), (h2, aI Y 40 (upd (fun _ => 0) 0 p0)), (h3, oC 3 [.ref h4, .int 1]), (h4, aI Y 40 (upd (fun _ => 0) 0 (-1))), (h5, oC 3 [.ref h6, .int 1]), (h6, aI Y 40 (upd (fun _ => 0) 0 0))] rfl ?_
      refine V_pop 35 B dX0_appendCommand_35 rfl ?_
      exact V_vret 36 B dX0_appendCommand_36 0 (Or.inl ⟨rfl, k1⟩) rfl
    ·
      obtain rfl : p0 = 1 := k1
      refine V_iload_n 18 B dX0_appendCommand_18 2 rfl ?_
      refine V_goto 19 B 23 dX0_appendCommand_19 (by decide) ?_
      refine V_cvi 23 B (st := []) (As := [.int p1]) (fun sz => mX1_push_4 l D Y (h3) (h4) (p1) sz) glV_RX0_66 ⟨rfl, rfl⟩ ⟨(Nat.le_of_ble_eq_true rfl), (Nat.le_of_ble_eq_true rfl)⟩ ⟨(Nat.le_of_ble_eq_true rfl), (Nat.le_of_ble_eq_true rfl)⟩ [3, 0] rfl 3 0 rfl rfl rfl rfl (Nat.le_of_ble_eq_true rfl) rfl (fun _ _ _ => rfl) dX0_appendCommand_23 (fun r4 u4 w4 => ?_)
      obtain rfl := w4
      refine V_ws [(h0, oC 2 [.ref g0, .ref h1, .ref h3, .ref h5, .ref g1, .ref g2, .ref g3, .ref g4, .ref g5, .ref g6, .ref g7, .int 0]), (h1, oC 3 [.ref h2, .int 1]), (h2, aI Y 40 (upd (fun _ => 0) 0 1)), (h3, oC 3 [.ref h4, .int 1]), (h4, aI Y 40 (upd (fun _ => 0) 0 p1)), (h5, oC 3 [.ref h6, .int 0]), (h6, aI Y 40 (fun _ => 0))] rfl ?_
      refine V_pop 26 B dX0_appendCommand_26 rfl ?_
      refine V_aload_n 27 B dX0_appendCommand_27 0 rfl ?_
      refine V_get 28 B gf_RX0_26 0 rfl rfl dX0_appendCommand_28 ?_
      refine V_iconst 31 B (v := 0) dX0_appendCommand_31 (by decide +kernel) ?_
      refine V_cvi 32 B (st := []) (As := [.int 0]) (fun sz => mX1_push_6 l D Y (h5) (h6) sz) glV_RX0_66 ⟨rfl, rfl⟩ ⟨(Nat.le_of_ble_eq_true rfl), (Nat.le_of_ble_eq_true rfl)⟩ ⟨(Nat.le_of_ble_eq_true rfl), (Nat.le_of_ble_eq_true rfl)⟩ [5, 0] rfl 3 0 rfl rfl rfl rfl (Nat.le_of_ble_eq_true rfl) rfl (fun _ _ _ => rfl) dX0_appendCommand_32 (fun r5 u5 w5 => ?_)
      obtain rfl := w5
      refine V_ws [(h0, oC 2 [.ref g0, .ref h1, .ref h3, .ref h5, .ref g1, .ref g2, .ref g3, .ref g4, .ref g5, .ref g6, .ref g7, .int 0]), (h1, oC 3 [.ref h2, .int 1]), (h2, aI Y 40 (upd (fun _ => 0) 0 1)), (h3, oC 3 [.ref h4, .int 1]), (h4, aI Y 40 (upd (fun _ => 0) 0 p1)), (h5, oC 3 [.ref h6, .int 1]), (h6, aI Y 40 (upd (fun _ => 0) 0 0))] rfl ?_
      refine V_pop 35 B dX0_appendCommand_35 rfl ?_
      exact V_vret 36 B dX0_appendCommand_36 1 (Or.inr ⟨rfl, rfl⟩) rfl)
set_option maxRecDepth 100000 in
set_option maxHeartbeats 4000000 in
theorem mX1_push_7 (l : Launch) (D : va_G) (Y : Nat → ClassId) (h0 : Nat) (h1 : Nat) (sz : Nat) : Met l yX1_push (WSm yX1_push cX1_push 2 (some .boolean)) (mkR 0 0 0 0) (PreC D Y [.ref h0, .int 1] [(h0, oC 3 [.ref h1, .int 0]), (h1, aI Y 40 (fun _ => 0))] sz) (QI D (fun (r : Int32) (u : Unit) => 1 = r) (fun (_ : Unit) => [(h0, oC 3 [.ref h1, .int 1]), (h1, aI Y 40 (upd (fun _ => 0) 0 1))]) (va_A [(h0, oC 3 [.ref h1, .int 0]), (h1, aI Y 40 (fun _ => 0))] sz)) 0 0 (va_A [(h0, oC 3 [.ref h1, .int 0]), (h1, aI Y 40 (fun _ => 0))] sz) :=
  met_of (by decide +kernel) (Nat.le_of_ble_eq_true rfl) (fun p e s m args below meth c B hin hsz => by
    have B : VB p s m args meth c D Y (va_A [(h0, oC 3 [.ref h1, .int 0]), (h1, aI Y 40 (fun _ => 0))] sz) cX1_push 2 RX1 (some .boolean) := B
    refine V_aload_n 0 B dX1_push_0 0 rfl ?_
    refine V_get 1 B gf_RX1_21 0 rfl rfl dX1_push_1 ?_
    refine V_if_lt_f 4 B 19 dX1_push_4 (by decide) (by decide +kernel) ?_
    refine V_aload_n 7 B dX1_push_7 0 rfl ?_
    refine V_get 8 B gf_RX1_21 0 rfl rfl dX1_push_8 ?_
    refine V_aload_n 11 B dX1_push_11 0 rfl ?_
    refine V_get 12 B gf_RX1_15 0 rfl rfl dX1_push_12 ?_
    refine V_alenI 15 B (v := 40) 1 rfl (by decide +kernel) dX1_push_15 ?_
    refine V_icmp_lt_t 16 B 21 dX1_push_16 (by decide) (by decide +kernel) ?_
    refine V_aload_n 21 B dX1_push_21 0 rfl ?_
    refine V_get 22 B gf_RX1_15 0 rfl rfl dX1_push_22 ?_
    refine V_aload_n 25 B dX1_push_25 0 rfl ?_
    refine V_get 26 B gf_RX1_21 0 rfl rfl dX1_push_26 ?_
    refine V_iload_n 29 B dX1_push_29 1 rfl ?_
    refine V_iast 30 B 1 rfl (vpin _ _ (by decide +kernel)) dX1_push_30 [(h0, oC 3 [.ref h1, .int 0]), (h1, aI Y 40 (upd (fun _ => 0) 0 1))] rfl ?_
    refine V_aload_n 31 B dX1_push_31 0 rfl ?_
    refine V_dup 32 B dX1_push_32 rfl ?_
    refine V_get 33 B gf_RX1_21 0 rfl rfl dX1_push_33 ?_
    refine V_iconst 36 B (v := 1) dX1_push_36 (by decide +kernel) ?_
    refine V_iadd 37 B (v := 1) dX1_push_37 (by decide +kernel) ?_
    refine V_put 38 B gp_RX1_21 0 rfl (Nat.le_of_ble_eq_true rfl) rfl rfl dX1_push_38 [(h0, oC 3 [.ref h1, .int 1]), (h1, aI Y 40 (upd (fun _ => 0) 0 1))] rfl ?_
    refine V_iconst 41 B (v := 1) dX1_push_41 (by decide +kernel) ?_
    exact V_zret 42 B rfl dX1_push_42 () rfl rfl)
set_option maxRecDepth 100000 in
set_option maxHeartbeats 4000000 in
theorem mX0_appendCommand_2 (l : Launch) (D : va_G) (Y : Nat → ClassId) (h0 : Nat) (g0 : Nat) (h1 : Nat) (h3 : Nat) (h5 : Nat) (g1 : Nat) (g2 : Nat) (g3 : Nat) (g4 : Nat) (g5 : Nat) (g6 : Nat) (g7 : Nat) (h2 : Nat) (h4 : Nat) (h6 : Nat) (sz : Nat) : Met l yX0_appendCommand (WSm yX0_appendCommand cX0_appendCommand 3 none) (mkR 1 0 0 21) (PreC D Y [.ref h0, .int 1, .int 0] [(h0, oC 2 [.ref g0, .ref h1, .ref h3, .ref h5, .ref g1, .ref g2, .ref g3, .ref g4, .ref g5, .ref g6, .ref g7, .int 0]), (h1, oC 3 [.ref h2, .int 0]), (h2, aI Y 40 (fun _ => 0)), (h3, oC 3 [.ref h4, .int 0]), (h4, aI Y 40 (fun _ => 0)), (h5, oC 3 [.ref h6, .int 0]), (h6, aI Y 40 (fun _ => 0))] sz) (QV D (fun (u : Unit) => True) (fun (_ : Unit) => [(h0, oC 2 [.ref g0, .ref h1, .ref h3, .ref h5, .ref g1, .ref g2, .ref g3, .ref g4, .ref g5, .ref g6, .ref g7, .int 0]), (h1, oC 3 [.ref h2, .int 1]), (h2, aI Y 40 (upd (fun _ => 0) 0 1)), (h3, oC 3 [.ref h4, .int 1]), (h4, aI Y 40 (upd (fun _ => 0) 0 0)), (h5, oC 3 [.ref h6, .int 1]), (h6, aI Y 40 (upd (fun _ => 0) 0 0))]) (va_A [(h0, oC 2 [.ref g0, .ref h1, .ref h3, .ref h5, .ref g1, .ref g2, .ref g3, .ref g4, .ref g5, .ref g6, .ref g7, .int 0]), (h1, oC 3 [.ref h2, .int 0]), (h2, aI Y 40 (fun _ => 0)), (h3, oC 3 [.ref h4, .int 0]), (h4, aI Y 40 (fun _ => 0)), (h5, oC 3 [.ref h6, .int 0]), (h6, aI Y 40 (fun _ => 0))] sz)) 0 0 (va_A [(h0, oC 2 [.ref g0, .ref h1, .ref h3, .ref h5, .ref g1, .ref g2, .ref g3, .ref g4, .ref g5, .ref g6, .ref g7, .int 0]), (h1, oC 3 [.ref h2, .int 0]), (h2, aI Y 40 (fun _ => 0)), (h3, oC 3 [.ref h4, .int 0]), (h4, aI Y 40 (fun _ => 0)), (h5, oC 3 [.ref h6, .int 0]), (h6, aI Y 40 (fun _ => 0))] sz) :=
  met_of (by decide +kernel) (Nat.le_of_ble_eq_true rfl) (fun p e s m args below meth c B hin hsz => by
    have B : VB p s m args meth c D Y (va_A [(h0, oC 2 [.ref g0, .ref h1, .ref h3, .ref h5, .ref g1, .ref g2, .ref g3, .ref g4, .ref g5, .ref g6, .ref g7, .int 0]), (h1, oC 3 [.ref h2, .int 0]), (h2, aI Y 40 (fun _ => 0)), (h3, oC 3 [.ref h4, .int 0]), (h4, aI Y 40 (fun _ => 0)), (h5, oC 3 [.ref h6, .int 0]), (h6, aI Y 40 (fun _ => 0))] sz) cX0_appendCommand 3 RX0 none := B
    refine V_aload_n 0 B dX0_appendCommand_0 0 rfl ?_
    refine V_get 1 B gf_RX0_20 0 rfl rfl dX0_appendCommand_1 ?_
    refine V_iload_n 4 B dX0_appendCommand_4 1 rfl ?_
    refine V_cvi 5 B (st := []) (As := [.int 1]) (fun sz => mX1_push_7 l D Y (h1) (h2) sz) glV_RX0_66 ⟨rfl, rfl⟩ ⟨(Nat.le_of_ble_eq_true rfl), (Nat.le_of_ble_eq_true rfl)⟩ ⟨(Nat.le_of_ble_eq_true rfl), (Nat.le_of_ble_eq_true rfl)⟩ [1, 0] rfl 3 0 rfl rfl rfl rfl (Nat.le_of_ble_eq_true rfl) rfl (fun _ _ _ => rfl) dX0_appendCommand_5 (fun r0 u0 w0 => ?_)
    obtain rfl := w0
    refine V_ws [(h0, oC 2 [.ref g0, .ref h1, .ref h3, .ref h5, .ref g1, .ref g2, .ref g3, .ref g4, .ref g5, .ref g6, .ref g7, .int 0]), (h1, oC 3 [.ref h2, .int 1]), (h2, aI Y 40 (upd (fun _ => 0) 0 1)), (h3, oC 3 [.ref h4, .int 0]), (h4, aI Y 40 (fun _ => 0)), (h5, oC 3 [.ref h6, .int 0]), (h6, aI Y 40 (fun _ => 0))] rfl ?_
    refine V_pop 8 B dX0_appendCommand_8 rfl ?_
    refine V_aload_n 9 B dX0_appendCommand_9 0 rfl ?_
    refine V_get 10 B gf_RX0_23 0 rfl rfl dX0_appendCommand_10 ?_
    refine V_iload_n 13 B dX0_appendCommand_13 1 rfl ?_
    refine V_iconst 14 B (v := 1) dX0_appendCommand_14 (by decide +kernel) ?_
    refine V_icmp_ne_f 15 B 22 dX0_appendCommand_15 (by decide) (by decide +kernel) ?_
    refine V_iload_n 18 B dX0_appendCommand_18 2 rfl ?_
    refine V_goto 19 B 23 dX0_appendCommand_19 (by decide) ?_
    refine V_cvi 23 B (st := []) (As := [.int 0]) (fun sz => mX1_push_6 l D Y (h3) (h4) sz) glV_RX0_66 ⟨rfl, rfl⟩ ⟨(Nat.le_of_ble_eq_true rfl), (Nat.le_of_ble_eq_true rfl)⟩ ⟨(Nat.le_of_ble_eq_true rfl), (Nat.le_of_ble_eq_true rfl)⟩ [3, 0] rfl 3 0 rfl rfl rfl rfl (Nat.le_of_ble_eq_true rfl) rfl (fun _ _ _ => rfl) dX0_appendCommand_23 (fun r1 u1 w1 => ?_)
    obtain rfl := w1
    refine V_ws [(h0, oC 2 [.ref g0, .ref h1, .ref h3, .ref h5, .ref g1, .ref g2, .ref g3, .ref g4, .ref g5, .ref g6, .ref g7, .int 0]), (h1, oC 3 [.ref h2, .int 1]), (h2, aI Y 40 (upd (fun _ => 0) 0 1)), (h3, oC 3 [.ref h4, .int 1]), (h4, aI Y 40 (upd (fun _ => 0) 0 0)), (h5, oC 3 [.ref h6, .int 0]), (h6, aI Y 40 (fun _ => 0))] rfl ?_
    refine V_pop 26 B dX0_appendCommand_26 rfl ?_
    refine V_aload_n 27 B dX0_appendCommand_27 0 rfl ?_
    refine V_get 28 B gf_RX0_26 0 rfl rfl dX0_appendCommand_28 ?_
    refine V_iconst 31 B (v := 0) dX0_appendCommand_31 (by decide +kernel) ?_
    refine V_cvi 32 B (st := []) (As := [.int 0]) (fun sz => mX1_push_6 l D Y (h5) (h6) sz) glV_RX0_66 ⟨rfl, rfl⟩ ⟨(Nat.le_of_ble_eq_true rfl), (Nat.le_of_ble_eq_true rfl)⟩ ⟨(Nat.le_of_ble_eq_true rfl), (Nat.le_of_ble_eq_true rfl)⟩ [5, 0] rfl 3 0 rfl rfl rfl rfl (Nat.le_of_ble_eq_true rfl) rfl (fun _ _ _ => rfl) dX0_appendCommand_32 (fun r2 u2 w2 => ?_)
    obtain rfl := w2
    refine V_ws [(h0, oC 2 [.ref g0, .ref h1, .ref h3, .ref h5, .ref g1, .ref g2, .ref g3, .ref g4, .ref g5, .ref g6, .ref g7, .int 0]), (h1, oC 3 [.ref h2, .int 1]), (h2, aI Y 40 (upd (fun _ => 0) 0 1)), (h3, oC 3 [.ref h4, .int 1]), (h4, aI Y 40 (upd (fun _ => 0) 0 0)), (h5, oC 3 [.ref h6, .int 1]), (h6, aI Y 40 (upd (fun _ => 0) 0 0))] rfl ?_
    refine V_pop 35 B dX0_appendCommand_35 rfl ?_
    exact V_vret 36 B dX0_appendCommand_36 () trivial rfl)
theorem dX11_addCommand_0 : decode cX11_addCommand 0 = .ok (.iload_n 1, 1) := by decide +kernel
theorem dX11_addCommand_1 : decode cX11_addCommand 1 = .ok (.ifCond .lt 8, 3) := by decide +kernel
theorem dX11_addCommand_9 : decode cX11_addCommand 9 = .ok (.new 190, 3) := by decide +kernel
theorem gt_RX11_190_192_194 : GT RX11 190 192 194 "java/lang/IllegalArgumentException" "no such kind" ["java/lang/RuntimeException", "java/lang/Exception"] := ⟨rfl, (mT5 31 rfl rfl), (mT1 22 rfl rfl), List.mem_of_getElem? (i := 0) rfl, by decide +kernel, by decide +kernel, List.mem_of_getElem? (i := 0) rfl, gta_194⟩
theorem dX11_addCommand_12 : decode cX11_addCommand 12 = .ok (.dup, 1) := by decide +kernel
theorem dX11_addCommand_13 : decode cX11_addCommand 13 = .ok (.ldc 192, 2) := by decide +kernel
theorem dX11_addCommand_15 : decode cX11_addCommand 15 = .ok (.invokespecial 194, 3) := by decide +kernel
theorem dX11_addCommand_18 : decode cX11_addCommand 18 = .ok (.athrow, 1) := by decide +kernel
theorem dX11_addCommand_4 : decode cX11_addCommand 4 = .ok (.iload_n 1, 1) := by decide +kernel
theorem dX11_addCommand_5 : decode cX11_addCommand 5 = .ok (.iconst 3, 1) := by decide +kernel
theorem dX11_addCommand_6 : decode cX11_addCommand 6 = .ok (.if_icmp .lt 13, 3) := by decide +kernel
theorem dX11_addCommand_19 : decode cX11_addCommand 19 = .ok (.iload_n 1, 1) := by decide +kernel
theorem dX11_addCommand_20 : decode cX11_addCommand 20 = .ok (.iconst 1, 1) := by decide +kernel
theorem dX11_addCommand_21 : decode cX11_addCommand 21 = .ok (.if_icmp .ne 8, 3) := by decide +kernel
theorem dX11_addCommand_29 : decode cX11_addCommand 29 = .ok (.aload_n 0, 1) := by decide +kernel
theorem dX11_addCommand_30 : decode cX11_addCommand 30 = .ok (.getfield 10, 3) := by decide +kernel
theorem dX11_addCommand_33 : decode cX11_addCommand 33 = .ok (.getfield 119, 3) := by decide +kernel
theorem dX11_addCommand_36 : decode cX11_addCommand 36 = .ok (.invokevirtual 197, 3) := by decide +kernel
theorem glV_RX11_197 : GLV RX11 197 yX1_isFull RX1 cX1_isFull 1 (some .boolean) 0 := ⟨⟨(mT5 178 rfl rfl), (mT3 38 rfl rfl), (mT3 39 rfl rfl), (mT1 3 rfl rfl), (mT3 40 rfl rfl)⟩, by decide +kernel⟩
theorem dX11_addCommand_39 : decode cX11_addCommand 39 = .ok (.ifCond .eq 6, 3) := by decide +kernel
theorem dX11_addCommand_45 : decode cX11_addCommand 45 = .ok (.aload_n 0, 1) := by decide +kernel
theorem dX11_addCommand_46 : decode cX11_addCommand 46 = .ok (.getfield 10, 3) := by decide +kernel
theorem dX11_addCommand_49 : decode cX11_addCommand 49 = .ok (.iload_n 1, 1) := by decide +kernel
theorem dX11_addCommand_50 : decode cX11_addCommand 50 = .ok (.iload_n 2, 1) := by decide +kernel
theorem dX11_addCommand_51 : decode cX11_addCommand 51 = .ok (.invokevirtual 200, 3) := by decide +kernel
theorem glV_RX11_200 : GLV RX11 200 yX0_appendCommand RX0 cX0_appendCommand 3 none 2 := ⟨⟨(mT5 179 rfl rfl), (mT3 66 rfl rfl), (mT3 67 rfl rfl), (mT1 2 rfl rfl), (mT3 68 rfl rfl)⟩, by decide +kernel⟩
theorem dX11_addCommand_54 : decode cX11_addCommand 54 = .ok (.aload_n 0, 1) := by decide +kernel
theorem dX11_addCommand_55 : decode cX11_addCommand 55 = .ok (.getfield 10, 3) := by decide +kernel
theorem dX11_addCommand_58 : decode cX11_addCommand 58 = .ok (.getfield 119, 3) := by decide +kernel
theorem dX11_addCommand_61 : decode cX11_addCommand 61 = .ok (.invokevirtual 95, 3) := by decide +kernel
theorem dX11_addCommand_64 : decode cX11_addCommand 64 = .ok (.iconst 1, 1) := by decide +kernel
theorem dX11_addCommand_65 : decode cX11_addCommand 65 = .ok (.isub, 1) := by decide +kernel
theorem dX11_addCommand_66 : decode cX11_addCommand 66 = .ok (.ireturn, 1) := by decide +kernel
theorem dX11_addCommand_24 : decode cX11_addCommand 24 = .ok (.aload_n 0, 1) := by decide +kernel
theorem dX11_addCommand_25 : decode cX11_addCommand 25 = .ok (.iload_n 2, 1) := by decide +kernel
theorem dX11_addCommand_26 : decode cX11_addCommand 26 = .ok (.invokevirtual 180, 3) := by decide +kernel
set_option maxRecDepth 100000 in
set_option maxHeartbeats 4000000 in
theorem mX11_addCommand_1 (l : Launch) (hl9 : l.stackTraces = false) (D : va_G) (Y : Nat → ClassId) (h0 : Nat) (h1 : Nat) (g0 : Nat) (g1 : Nat) (g2 : Nat) (g3 : Nat) (g4 : Nat) (g5 : Nat) (g6 : Nat) (g7 : Nat) (h2 : Nat) (h3 : Nat) (h5 : Nat) (h7 : Nat) (g8 : Nat) (g9 : Nat) (g10 : Nat) (g11 : Nat) (g12 : Nat) (g13 : Nat) (g14 : Nat) (g15 : Nat) (h4 : Nat) (h6 : Nat) (h8 : Nat) (p0 : Int32) (p1 : Int32) (sz : Nat) : vx_Met l yX11_addCommand (WSm yX11_addCommand cX11_addCommand 3 (some .int)) (mkR 7 1 6 103) (PreX D Y [.ref h0, .int p0, .int p1] [(h0, oC 12 [.ref h1, .ref g0, .ref g1, .ref g2, .ref g3, .ref g4, .ref g5, .ref g6, .ref g7, .long 0]), (h1, oC 2 [.ref h2, .ref h3, .ref h5, .ref h7, .ref g8, .ref g9, .ref g10, .ref g11, .ref g12, .ref g13, .ref g14, .int 0]), (h2, oC 3 [.ref g15, .int 1]), (h3, oC 3 [.ref h4, .int 0]), (h4, aI Y 40 (fun _ => 0)), (h5, oC 3 [.ref h6, .int 0]), (h6, aI Y 40 (fun _ => 0)), (h7, oC 3 [.ref h8, .int 0]), (h8, aI Y 40 (fun _ => 0))] sz) (QI D (fun (r : Int32) (u : Nat) => (u = 0 ∧ ¬ p0 < 0 ∧ p0 < 3 ∧ ¬ p0 = 1 ∧ ¬ p0 = 1 ∧ 0 = r) ∨ (u = 1 ∧ p0 = 1 ∧ p1 = 0 ∧ 0 = r)) (fun (u : Nat) => match u with | 0 => [(h0, oC 12 [.ref h1, .ref g0, .ref g1, .ref g2, .ref g3, .ref g4, .ref g5, .ref g6, .ref g7, .long 0]), (h1, oC 2 [.ref h2, .ref h3, .ref h5, .ref h7, .ref g8, .ref g9, .ref g10, .ref g11, .ref g12, .ref g13, .ref g14, .int 0]), (h2, oC 3 [.ref g15, .int 1]), (h3, oC 3 [.ref h4, .int 1]), (h4, aI Y 40 (upd (fun _ => 0) 0 p0)), (h5, oC 3 [.ref h6, .int 1]), (h6, aI Y 40 (upd (fun _ => 0) 0 (-1))), (h7, oC 3 [.ref h8, .int 1]), (h8, aI Y 40 (upd (fun _ => 0) 0 0))] | _ => [(h0, oC 12 [.ref h1, .ref g0, .ref g1, .ref g2, .ref g3, .ref g4, .ref g5, .ref g6, .ref g7, .long 0]), (h1, oC 2 [.ref h2, .ref h3, .ref h5, .ref h7, .ref g8, .ref g9, .ref g10, .ref g11, .ref g12, .ref g13, .ref g14, .int 0]), (h2, oC 3 [.ref g15, .int 1]), (h3, oC 3 [.ref h4, .int 1]), (h4, aI Y 40 (upd (fun _ => 0) 0 1)), (h5, oC 3 [.ref h6, .int 1]), (h6, aI Y 40 (upd (fun _ => 0) 0 0)), (h7, oC 3 [.ref h8, .int 1]), (h8, aI Y 40 (upd (fun _ => 0) 0 0))]) (va_A [(h0, oC 12 [.ref h1, .ref g0, .ref g1, .ref g2, .ref g3, .ref g4, .ref g5, .ref g6, .ref g7, .long 0]), (h1, oC 2 [.ref h2, .ref h3, .ref h5, .ref h7, .ref g8, .ref g9, .ref g10, .ref g11, .ref g12, .ref g13, .ref g14, .int 0]), (h2, oC 3 [.ref g15, .int 1]), (h3, oC 3 [.ref h4, .int 0]), (h4, aI Y 40 (fun _ => 0)), (h5, oC 3 [.ref h6, .int 0]), (h6, aI Y 40 (fun _ => 0)), (h7, oC 3 [.ref h8, .int 0]), (h8, aI Y 40 (fun _ => 0))] sz)) (XW D (fun (E : String) (u : Unit) => (E = "java/lang/IllegalArgumentException" ∧ p0 < 0) ∨ (E = "java/lang/IndexOutOfBoundsException" ∧ p0 = 1 ∧ p1 < 0) ∨ (E = "java/lang/IndexOutOfBoundsException" ∧ p0 = 1 ∧ ¬ p1 < 0 ∧ 1 ≤ p1) ∨ (E = "java/lang/IllegalArgumentException" ∧ ¬ p0 < 0 ∧ ¬ p0 < 3)) (fun (_ : Unit) => [(h0, oC 12 [.ref h1, .ref g0, .ref g1, .ref g2, .ref g3, .ref g4, .ref g5, .ref g6, .ref g7, .long 0]), (h1, oC 2 [.ref h2, .ref h3, .ref h5, .ref h7, .ref g8, .ref g9, .ref g10, .ref g11, .ref g12, .ref g13, .ref g14, .int 0]), (h2, oC 3 [.ref g15, .int 1]), (h3, oC 3 [.ref h4, .int 0]), (h4, aI Y 40 (fun _ => 0)), (h5, oC 3 [.ref h6, .int 0]), (h6, aI Y 40 (fun _ => 0)), (h7, oC 3 [.ref h8, .int 0]), (h8, aI Y 40 (fun _ => 0))]) (va_A [(h0, oC 12 [.ref h1, .ref g0, .ref g1, .ref g2, .ref g3, .ref g4, .ref g5, .ref g6, .ref g7, .long 0]), (h1, oC 2 [.ref h2, .ref h3, .ref h5, .ref h7, .ref g8, .ref g9, .ref g10, .ref g11, .ref g12, .ref g13, .ref g14, .int 0]), (h2, oC 3 [.ref g15, .int 1]), (h3, oC 3 [.ref h4, .int 0]), (h4, aI Y 40 (fun _ => 0)), (h5, oC 3 [.ref h6, .int 0]), (h6, aI Y 40 (fun _ => 0)), (h7, oC 3 [.ref h8, .int 0]), (h8, aI Y 40 (fun _ => 0))] sz)) 1 6 (va_A [(h0, oC 12 [.ref h1, .ref g0, .ref g1, .ref g2, .ref g3, .ref g4, .ref g5, .ref g6, .ref g7, .long 0]), (h1, oC 2 [.ref h2, .ref h3, .ref h5, .ref h7, .ref g8, .ref g9, .ref g10, .ref g11, .ref g12, .ref g13, .ref g14, .int 0]), (h2, oC 3 [.ref g15, .int 1]), (h3, oC 3 [.ref h4, .int 0]), (h4, aI Y 40 (fun _ => 0)), (h5, oC 3 [.ref h6, .int 0]), (h6, aI Y 40 (fun _ => 0)), (h7, oC 3 [.ref h8, .int 0]), (h8, aI Y 40 (fun _ => 0))] sz) :=
  xmet_of (by decide +kernel) (Nat.le_of_ble_eq_true rfl) (fun p e s m args below meth c B EB hout hsz => by
    have B : VB p s m args meth c D Y (va_A [(h0, oC 12 [.ref h1, .ref g0, .ref g1, .ref g2, .ref g3, .ref g4, .ref g5, .ref g6, .ref g7, .long 0]), (h1, oC 2 [.ref h2, .ref h3, .ref h5, .ref h7, .ref g8, .ref g9, .ref g10, .ref g11, .ref g12, .ref g13, .ref g14, .int 0]), (h2, oC 3 [.ref g15, .int 1]), (h3, oC 3 [.ref h4, .int 0]), (h4, aI Y 40 (fun _ => 0)), (h5, oC 3 [.ref h6, .int 0]), (h6, aI Y 40 (fun _ => 0)), (h7, oC 3 [.ref h8, .int 0]), (h8, aI Y 40 (fun _ => 0))] sz) cX11_addCommand 3 RX11 (some .int) := B
    refine V_iload_n 0 B dX11_addCommand_0 1 rfl ?_
    refine V_if_lt 1 B 9 dX11_addCommand_1 (by decide) (fun k0 => ?_) (fun k0 => ?_)
    ·
      exact V_throwS 9 B EB hl9 gt_RX11_190_192_194 hout dX11_addCommand_9 dX11_addCommand_12 dX11_addCommand_13 dX11_addCommand_15 dX11_addCommand_18 (Nat.le_of_ble_eq_true rfl) (Nat.le_of_ble_eq_true rfl) (Nat.le_of_ble_eq_true rfl) (Nat.le_of_ble_eq_true rfl) (Nat.le_of_ble_eq_true rfl) (Nat.le_of_ble_eq_true rfl) () (Or.inl ⟨rfl, k0⟩) rfl
    ·
      refine V_iload_n 4 B dX11_addCommand_4 1 rfl ?_
      refine V_iconst 5 B (v := 3) dX11_addCommand_5 (by decide +kernel) ?_
      refine V_icmp_lt 6 B 19 dX11_addCommand_6 (by decide) (fun k1 => ?_) (fun k1 => ?_)
      ·
        refine V_iload_n 19 B dX11_addCommand_19 1 rfl ?_
        refine V_iconst 20 B (v := 1) dX11_addCommand_20 (by decide +kernel) ?_
        refine V_icmp_ne 21 B 29 dX11_addCommand_21 (by decide) (fun k2 => ?_) (fun k2 => ?_)
        ·
          refine V_aload_n 29 B dX11_addCommand_29 0 rfl ?_
          refine V_get 30 B gf_RX11_10 0 rfl rfl dX11_addCommand_30 ?_
          refine V_get 33 B gf_RX11_119 1 rfl rfl dX11_addCommand_33 ?_
          refine V_cvi 36 B (st := []) (As := []) (fun sz => mX1_isFull_1 l D Y (h3) (h4) sz) glV_RX11_197 ⟨rfl, rfl⟩ ⟨(Nat.le_of_ble_eq_true rfl), (Nat.le_of_ble_eq_true rfl)⟩ ⟨(Nat.le_of_ble_eq_true rfl), (Nat.le_of_ble_eq_true rfl)⟩ [3, 0] rfl 3 0 rfl rfl rfl rfl (Nat.le_of_ble_eq_true rfl) rfl (fun _ _ _ => rfl) dX11_addCommand_36 (fun r3 u3 w3 => ?_)
          obtain rfl := w3
          refine V_ws [(h0, oC 12 [.ref h1, .ref g0, .ref g1, .ref g2, .ref g3, .ref g4, .ref g5, .ref g6, .ref g7, .long 0]), (h1, oC 2 [.ref h2, .ref h3, .ref h5, .ref h7, .ref g8, .ref g9, .ref g10, .ref g11, .ref g12, .ref g13, .ref g14, .int 0]), (h2, oC 3 [.ref g15, .int 1]), (h3, oC 3 [.ref h4, .int 0]), (h4, aI Y 40 (fun _ => 0)), (h5, oC 3 [.ref h6, .int 0]), (h6, aI Y 40 (fun _ => 0)), (h7, oC 3 [.ref h8, .int 0]), (h8, aI Y 40 (fun _ => 0))] rfl ?_
          refine V_if_eq_t 39 B 45 dX11_addCommand_39 (by decide) (by decide +kernel) ?_
          refine V_aload_n 45 B dX11_addCommand_45 0 rfl ?_
          refine V_get 46 B gf_RX11_10 0 rfl rfl dX11_addCommand_46 ?_
          refine V_iload_n 49 B dX11_addCommand_49 1 rfl ?_
          refine V_iload_n 50 B dX11_addCommand_50 2 rfl ?_
          refine V_cvv 51 B (st := []) (As := [.int p0, .int p1]) (fun sz => mX0_appendCommand_1 l D Y (h1) (h2) (h3) (h5) (h7) (g8) (g9) (g10) (g11) (g12) (g13) (g14) (h4) (h6) (h8) (p0) (p1) sz) glV_RX11_200 ⟨rfl, rfl⟩ ⟨(Nat.le_of_ble_eq_true rfl), (Nat.le_of_ble_eq_true rfl)⟩ ⟨(Nat.le_of_ble_eq_true rfl), (Nat.le_of_ble_eq_true rfl)⟩ [1, 1, 0, 0, 0, 0, 0] rfl 2 0 rfl rfl rfl rfl (Nat.le_of_ble_eq_true rfl) rfl (fun u _ => by
        first | rfl | (split <;> rfl) | (dsimp only; split <;> rfl)) dX11_addCommand_51 (fun u4 w4 => ?_)
          rcases w4 with ⟨rfl, k5⟩ | ⟨rfl, k6⟩
          ·
            refine V_ws [(h0, oC 12 [.ref h1, .ref g0, .ref g1, .ref g2, .ref g3, .ref g4, .ref g5, .ref g6, .ref g7, .long 0]), (h1, oC 2 [.ref h2, .ref h3, .ref h5, .ref h7, .ref g8, .ref g9, .ref g10, .ref g11, .ref g12, .ref g13, .ref g14, .int 0]), (h2, oC 3 [.ref g15, .int 1]), (h3, oC 3 [.ref h4, .int 1]), (h4, aI Y 40 (upd (fun _ => 0) 0 p0)), (h5, oC 3 [.ref h6, .int 1]), (h6, aI Y 40 (upd (fun _ => 0) 0 (-1))), (h7, oC 3 [.ref h8, .int 1]), (h8, aI Y 40 (upd (fun _ => 0) 0 0))] rfl ?_
            refine V_aload_n 54 B dX11_addCommand_54 0 rfl ?_
            refine V_get 55 B gf_RX11_10 0 rfl rfl dX11_addCommand_55 ?_
            refine V_get 58 B gf_RX11_119 1 rfl rfl dX11_addCommand_58 ?_
            refine V_cvi 61 B (st := []) (As := []) (fun sz => mX1_size_2 l D Y (h3) (h4) sz) glV_RX11_95 ⟨rfl, rfl⟩ ⟨(Nat.le_of_ble_eq_true rfl), (Nat.le_of_ble_eq_true rfl)⟩ ⟨(Nat.le_of_ble_eq_true rfl), (Nat.le_of_ble_eq_true rfl)⟩ [3] rfl 3 0 rfl rfl rfl rfl (Nat.le_of_ble_eq_true rfl) rfl (fun _ _ _ => rfl) dX11_addCommand_61 (fun r7 u7 w7 => ?_)
            obtain rfl := w7
            refine V_ws [(h0, oC 12 [.ref h1, .ref g0, .ref g1, .ref g2, .ref g3, .ref g4, .ref g5, .ref g6, .ref g7, .long 0]), (h1, oC 2 [.ref h2, .ref h3, .ref h5, .ref h7, .ref g8, .ref g9, .ref g10, .ref g11, .ref g12, .ref g13, .ref g14, .int 0]), (h2, oC 3 [.ref g15, .int 1]), (h3, oC 3 [.ref h4, .int 1]), (h4, aI Y 40 (upd (fun _ => 0) 0 p0)), (h5, oC 3 [.ref h6, .int 1]), (h6, aI Y 40 (upd (fun _ => 0) 0 (-1))), (h7, oC 3 [.ref h8, .int 1]), (h8, aI Y 40 (upd (fun _ => 0) 0 0))] rfl ?_
            refine V_iconst 64 B (v := 1) dX11_addCommand_64 (by decide +kernel) ?_
            refine V_isub 65 B (v := 0) dX11_addCommand_65 (by decide +kernel) ?_
            refine V_xret ?_
            refine V_widen (k := 1) (n := 6) (Nat.le_of_ble_eq_true rfl) (Nat.le_of_ble_eq_true rfl) ?_
            exact V_iret 66 B dX11_addCommand_66 0 (Or.inl ⟨rfl, k0, k1, k2, k5, rfl⟩) rfl
          ·
            refine V_ws [(h0, oC 12 [.ref h1, .ref g0, .ref g1, .ref g2, .ref g3, .ref g4, .ref g5, .ref g6, .ref g7, .long 0]), (h1, oC 2 [.ref h2, .ref h3, .ref h5, .ref h7, .ref g8, .ref g9, .ref g10, .ref g11, .ref g12, .ref g13, .ref g14, .int 0]), (h2, oC 3 [.ref g15, .int 1]), (h3, oC 3 [.ref h4, .int 1]), (h4, aI Y 40 (upd (fun _ => 0) 0 1)), (h5, oC 3 [.ref h6, .int 1]), (h6, aI Y 40 (upd (fun _ => 0) 0 p1)), (h7, oC 3 [.ref h8, .int 1]), (h8, aI Y 40 (upd (fun _ => 0) 0 0))] rfl ?_
            exact absurd k6 k2
        ·
          obtain rfl : p0 = 1 := k2
          refine V_aload_n 24 B dX11_addCommand_24 0 rfl ?_
          refine V_iload_n 25 B dX11_addCommand_25 2 rfl ?_
          refine V_xvv 26 B EB (st := []) (As := [.int p1]) (fun sz => mX11_needMode_1 l hl9 D Y (h0) (h1) (g0) (g1) (g2) (g3) (g4) (g5) (g6) (g7) (h2) (h3) (h5) (h7) (g8) (g9) (g10) (g11) (g12) (g13) (g14) (g15) (p1) sz) glV_RX11_180 ⟨rfl, rfl⟩ ⟨(Nat.le_of_ble_eq_true rfl), (Nat.le_of_ble_eq_true rfl)⟩ ⟨(Nat.le_of_ble_eq_true rfl), (Nat.le_of_ble_eq_true rfl)⟩ [0, 0, 0] rfl 12 0 rfl rfl rfl rfl (Nat.le_of_ble_eq_true rfl) rfl (fun _ _ => rfl) (fun _ _ _ => rfl) dX11_addCommand_26 (fun E u8 w8 => ?_) (fun u8 w8 => ?_)
          ·
            rcases w8 with ⟨rfl, k9⟩ | ⟨rfl, k10, k11⟩
            ·
              exact VX_out 26 B hout () (Or.inr (Or.inl ⟨rfl, rfl, k9⟩)) rfl (Nat.le_of_ble_eq_true rfl) (Nat.le_of_ble_eq_true rfl)
            ·
              exact VX_out 26 B hout () (Or.inr (Or.inr (Or.inl ⟨rfl, rfl, k10, k11⟩))) rfl (Nat.le_of_ble_eq_true rfl) (Nat.le_of_ble_eq_true rfl)
          ·
            have k12 := w8
            refine V_ws [(h0, oC 12 [.ref h1, .ref g0, .ref g1, .ref g2, .ref g3, .ref g4, .ref g5, .ref g6, .ref g7, .long 0]), (h1, oC 2 [.ref h2, .ref h3, .ref h5, .ref h7, .ref g8, .ref g9, .ref g10, .ref g11, .ref g12, .ref g13, .ref g14, .int 0]), (h2, oC 3 [.ref g15, .int 1]), (h3, oC 3 [.ref h4, .int 0]), (h4, aI Y 40 (fun _ => 0)), (h5, oC 3 [.ref h6, .int 0]), (h6, aI Y 40 (fun _ => 0)), (h7, oC 3 [.ref h8, .int 0]), (h8, aI Y 40 (fun _ => 0))] rfl ?_
            obtain rfl : p1 = 0 := k12
            refine V_aload_n 29 B dX11_addCommand_29 0 rfl ?_
            refine V_get 30 B gf_RX11_10 0 rfl rfl dX11_addCommand_30 ?_
            refine V_get 33 B gf_RX11_119 1 rfl rfl dX11_addCommand_33 ?_
            refine V_cvi 36 B (st := []) (As := []) (fun sz => mX1_isFull_1 l D Y (h3) (h4) sz) glV_RX11_197 ⟨rfl, rfl⟩ ⟨(Nat.le_of_ble_eq_true rfl), (Nat.le_of_ble_eq_true rfl)⟩ ⟨(Nat.le_of_ble_eq_true rfl), (Nat.le_of_ble_eq_true rfl)⟩ [3, 0] rfl 3 0 rfl rfl rfl rfl (Nat.le_of_ble_eq_true rfl) rfl (fun _ _ _ => rfl) dX11_addCommand_36 (fun r13 u13 w13 => ?_)
            obtain rfl := w13
            refine V_ws [(h0, oC 12 [.ref h1, .ref g0, .ref g1, .ref g2, .ref g3, .ref g4, .ref g5, .ref g6, .ref g7, .long 0]), (h1, oC 2 [.ref h2, .ref h3, .ref h5, .ref h7, .ref g8, .ref g9, .ref g10, .ref g11, .ref g12, .ref g13, .ref g14, .int 0]), (h2, oC 3 [.ref g15, .int 1]), (h3, oC 3 [.ref h4, .int 0]), (h4, aI Y 40 (fun _ => 0)), (h5, oC 3 [.ref h6, .int 0]), (h6, aI Y 40 (fun _ => 0)), (h7, oC 3 [.ref h8, .int 0]), (h8, aI Y 40 (fun _ => 0))] rfl ?_
            refine V_if_eq_t 39 B 45 dX11_addCommand_39 (by decide) (by decide +kernel) ?_
            refine V_aload_n 45 B dX11_addCommand_45 0 rfl ?_
            refine V_get 46 B gf_RX11_10 0 rfl rfl dX11_addCommand_46 ?_
            refine V_iload_n 49 B dX11_addCommand_49 1 rfl ?_
            refine V_iload_n 50 B dX11_addCommand_50 2 rfl ?_
            refine V_cvv 51 B (st := []) (As := [.int 1, .int 0]) (fun sz => mX0_appendCommand_2 l D Y (h1) (h2) (h3) (h5) (h7) (g8) (g9) (g10) (g11) (g12) (g13) (g14) (h4) (h6) (h8) sz) glV_RX11_200 ⟨rfl, rfl⟩ ⟨(Nat.le_of_ble_eq_true rfl), (Nat.le_of_ble_eq_true rfl)⟩ ⟨(Nat.le_of_ble_eq_true rfl), (Nat.le_of_ble_eq_true rfl)⟩ [1, 1, 0, 0, 0, 0, 0] rfl 2 0 rfl rfl rfl rfl (Nat.le_of_ble_eq_true rfl) rfl (fun _ _ => rfl) dX11_addCommand_51 (fun u14 w14 => ?_)
            refine V_ws [(h0, oC 12 [.ref h1, .ref g0, .ref g1, .ref g2, .ref g3, .ref g4, .ref g5, .ref g6, .ref g7, .long 0]), (h1, oC 2 [.ref h2, .ref h3, .ref h5, .ref h7, .ref g8, .ref g9, .ref g10, .ref g11, .ref g12, .ref g13, .ref g14, .int 0]), (h2, oC 3 [.ref g15, .int 1]), (h3, oC 3 [.ref h4, .int 1]), (h4, aI Y 40 (upd (fun _ => 0) 0 1)), (h5, oC 3 [.ref h6, .int 1]), (h6, aI Y 40 (upd (fun _ => 0) 0 0)), (h7, oC 3 [.ref h8, .int 1]), (h8, aI Y 40 (upd (fun _ => 0) 0 0))] rfl ?_
            refine V_aload_n 54 B dX11_addCommand_54 0 rfl ?_
            refine V_get 55 B gf_RX11_10 0 rfl rfl dX11_addCommand_55 ?_
            refine V_get 58 B gf_RX11_119 1 rfl rfl dX11_addCommand_58 ?_
            refine V_cvi 61 B (st := []) (As := []) (fun sz => mX1_size_2 l D Y (h3) (h4) sz) glV_RX11_95 ⟨rfl, rfl⟩ ⟨(Nat.le_of_ble_eq_true rfl), (Nat.le_of_ble_eq_true rfl)⟩ ⟨(Nat.le_of_ble_eq_true rfl), (Nat.le_of_ble_eq_true rfl)⟩ [3] rfl 3 0 rfl rfl rfl rfl (Nat.le_of_ble_eq_true rfl) rfl (fun _ _ _ => rfl) dX11_addCommand_61 (fun r15 u15 w15 => ?_)
            obtain rfl := w15
            refine V_ws [(h0, oC 12 [.ref h1, .ref g0, .ref g1, .ref g2, .ref g3, .ref g4, .ref g5, .ref g6, .ref g7, .long 0]), (h1, oC 2 [.ref h2, .ref h3, .ref h5, .ref h7, .ref g8, .ref g9, .ref g10, .ref g11, .ref g12, .ref g13, .ref g14, .int 0]), (h2, oC 3 [.ref g15, .int 1]), (h3, oC 3 [.ref h4, .int 1]), (h4, aI Y 40 (upd (fun _ => 0) 0 1)), (h5, oC 3 [.ref h6, .int 1]), (h6, aI Y 40 (upd (fun _ => 0) 0 0)), (h7, oC 3 [.ref h8, .int 1]), (h8, aI Y 40 (upd (fun _ => 0) 0 0))] rfl ?_
            refine V_iconst 64 B (v := 1) dX11_addCommand_64 (by decide +kernel) ?_
            refine V_isub 65 B (v := 0) dX11_addCommand_65 (by decide +kernel) ?_
            refine V_xret ?_
            exact V_iret 66 B dX11_addCommand_66 1 (Or.inr ⟨rfl, rfl, rfl, rfl⟩) rfl
      ·
        exact V_throwS 9 B EB hl9 gt_RX11_190_192_194 hout dX11_addCommand_9 dX11_addCommand_12 dX11_addCommand_13 dX11_addCommand_15 dX11_addCommand_18 (Nat.le_of_ble_eq_true rfl) (Nat.le_of_ble_eq_true rfl) (Nat.le_of_ble_eq_true rfl) (Nat.le_of_ble_eq_true rfl) (Nat.le_of_ble_eq_true rfl) (Nat.le_of_ble_eq_true rfl) () (Or.inr (Or.inr (Or.inr ⟨rfl, k0, k1⟩))) rfl)
theorem dX0_hasCommand_0 : decode cX0_hasCommand 0 = .ok (.iload_n 1, 1) := by decide +kernel
theorem dX0_hasCommand_1 : decode cX0_hasCommand 1 = .ok (.ifCond .lt 18, 3) := by decide +kernel
theorem dX0_hasCommand_19 : decode cX0_hasCommand 19 = .ok (.iconst 0, 1) := by decide +kernel
theorem dX0_hasCommand_20 : decode cX0_hasCommand 20 = .ok (.ireturn, 1) := by decide +kernel
theorem dX0_hasCommand_4 : decode cX0_hasCommand 4 = .ok (.iload_n 1, 1) := by decide +kernel
theorem dX0_hasCommand_5 : decode cX0_hasCommand 5 = .ok (.aload_n 0, 1) := by decide +kernel
theorem dX0_hasCommand_6 : decode cX0_hasCommand 6 = .ok (.getfield 20, 3) := by decide +kernel
theorem dX0_hasCommand_9 : decode cX0_hasCommand 9 = .ok (.invokevirtual 91, 3) := by decide +kernel
theorem dX0_hasCommand_12 : decode cX0_hasCommand 12 = .ok (.if_icmp .ge 7, 3) := by decide +kernel
set_option maxRecDepth 100000 in
set_option maxHeartbeats 4000000 in
theorem mX0_hasCommand_1 (l : Launch) (D : va_G) (Y : Nat → ClassId) (h0 : Nat) (g0 : Nat) (h1 : Nat) (g1 : Nat) (g2 : Nat) (g3 : Nat) (g4 : Nat) (g5 : Nat) (g6 : Nat) (g7 : Nat) (g8 : Nat) (g9 : Nat) (g10 : Nat) (p0 : Int32) (sz : Nat) : Met l yX0_hasCommand (WSm yX0_hasCommand cX0_hasCommand 2 (some .boolean)) (mkR 1 0 0 20) (PreC D Y [.ref h0, .int p0] [(h0, oC 2 [.ref g0, .ref h1, .ref g1, .ref g2, .ref g3, .ref g4, .ref g5, .ref g6, .ref g7, .ref g8, .ref g9, .int 0]), (h1, oC 3 [.ref g10, .int 0])] sz) (QI D (fun (r : Int32) (u : Unit) => (p0 < 0 ∧ 0 = r) ∨ (¬ p0 < 0 ∧ 0 = r)) (fun (_ : Unit) => [(h0, oC 2 [.ref g0, .ref h1, .ref g1, .ref g2, .ref g3, .ref g4, .ref g5, .ref g6, .ref g7, .ref g8, .ref g9, .int 0]), (h1, oC 3 [.ref g10, .int 0])]) (va_A [(h0, oC 2 [.ref g0, .ref h1, .ref g1, .ref g2, .ref g3, .ref g4, .ref g5, .ref g6, .ref g7, .ref g8, .ref g9, .int 0]), (h1, oC 3 [.ref g10, .int 0])] sz)) 0 0 (va_A [(h0, oC 2 [.ref g0, .ref h1, .ref g1, .ref g2, .ref g3, .ref g4, .ref g5, .ref g6, .ref g7, .ref g8, .ref g9, .int 0]), (h1, oC 3 [.ref g10, .int 0])] sz) :=
  met_of (by decide +kernel) (Nat.le_of_ble_eq_true rfl) (fun p e s m args below meth c B hin hsz => by
    have B : VB p s m args meth c D Y (va_A [(h0, oC 2 [.ref g0, .ref h1, .ref g1, .ref g2, .ref g3, .ref g4, .ref g5, .ref g6, .ref g7, .ref g8, .ref g9, .int 0]), (h1, oC 3 [.ref g10, .int 0])] sz) cX0_hasCommand 2 RX0 (some .boolean) := B
    refine V_iload_n 0 B dX0_hasCommand_0 1 rfl ?_
    refine V_if_lt 1 B 19 dX0_hasCommand_1 (by decide) (fun k0 => ?_) (fun k0 => ?_)
    ·
      refine V_iconst 19 B (v := 0) dX0_hasCommand_19 (by decide +kernel) ?_
      exact V_zret 20 B rfl dX0_hasCommand_20 () (Or.inl ⟨k0, rfl⟩) rfl
    ·
      refine V_iload_n 4 B dX0_hasCommand_4 1 rfl ?_
      refine V_aload_n 5 B dX0_hasCommand_5 0 rfl ?_
      refine V_get 6 B gf_RX0_20 0 rfl rfl dX0_hasCommand_6 ?_
      refine V_cvi 9 B (st := [.int p0]) (As := []) (fun sz => mX1_size_1 l D Y (h1) (g10) sz) glV_RX0_91 ⟨rfl, rfl⟩ ⟨(Nat.le_of_ble_eq_true rfl), (Nat.le_of_ble_eq_true rfl)⟩ ⟨(Nat.le_of_ble_eq_true rfl), (Nat.le_of_ble_eq_true rfl)⟩ [1] rfl 3 0 rfl rfl rfl rfl (Nat.le_of_ble_eq_true rfl) rfl (fun _ _ _ => rfl) dX0_hasCommand_9 (fun r1 u1 w1 => ?_)
      obtain rfl := w1
      refine V_ws [(h0, oC 2 [.ref g0, .ref h1, .ref g1, .ref g2, .ref g3, .ref g4, .ref g5, .ref g6, .ref g7, .ref g8, .ref g9, .int 0]), (h1, oC 3 [.ref g10, .int 0])] rfl ?_
      refine V_icmp_ge_t 12 B 19 dX0_hasCommand_12 (by decide) (q_ge (b_nlt k0 (n := 0) (by decide +kernel)) (by decide +kernel)) ?_
      refine V_iconst 19 B (v := 0) dX0_hasCommand_19 (by decide +kernel) ?_
      exact V_zret 20 B rfl dX0_hasCommand_20 () (Or.inr ⟨k0, rfl⟩) rfl)
theorem dX11_needCommand_0 : decode cX11_needCommand 0 = .ok (.aload_n 0, 1) := by decide +kernel
theorem dX11_needCommand_1 : decode cX11_needCommand 1 = .ok (.getfield 10, 3) := by decide +kernel
theorem dX11_needCommand_4 : decode cX11_needCommand 4 = .ok (.iload_n 1, 1) := by decide +kernel
theorem dX11_needCommand_5 : decode cX11_needCommand 5 = .ok (.invokevirtual 400, 3) := by decide +kernel
theorem glV_RX11_400 : GLV RX11 400 yX0_hasCommand RX0 cX0_hasCommand 2 (some .boolean) 1 := ⟨⟨(mT5 191 rfl rfl), (mT4 209 rfl rfl), (mT4 210 rfl rfl), (mT1 2 rfl rfl), (mT4 211 rfl rfl)⟩, by decide +kernel⟩
theorem dX11_needCommand_8 : decode cX11_needCommand 8 = .ok (.ifCond .ne 14, 3) := by decide +kernel
theorem dX11_needCommand_11 : decode cX11_needCommand 11 = .ok (.new 225, 3) := by decide +kernel
theorem gt_RX11_225_403_229 : GT RX11 225 403 229 "java/lang/IndexOutOfBoundsException" "no such command" ["java/lang/RuntimeException", "java/lang/Exception"] := ⟨rfl, (mT5 136 rfl rfl), (mT1 23 rfl rfl), List.mem_of_getElem? (i := 10) rfl, by decide +kernel, by decide +kernel, List.mem_of_getElem? (i := 1) rfl, gta_229⟩
theorem dX11_needCommand_14 : decode cX11_needCommand 14 = .ok (.dup, 1) := by decide +kernel
theorem dX11_needCommand_15 : decode cX11_needCommand 15 = .ok (.ldc_w 403, 3) := by decide +kernel
theorem dX11_needCommand_18 : decode cX11_needCommand 18 = .ok (.invokespecial 229, 3) := by decide +kernel
theorem dX11_needCommand_21 : decode cX11_needCommand 21 = .ok (.athrow, 1) := by decide +kernel
set_option maxRecDepth 100000 in
set_option maxHeartbeats 4000000 in
theorem mX11_needCommand_1 (l : Launch) (hl9 : l.stackTraces = false) (D : va_G) (Y : Nat → ClassId) (h0 : Nat) (h1 : Nat) (g0 : Nat) (g1 : Nat) (g2 : Nat) (g3 : Nat) (g4 : Nat) (g5 : Nat) (g6 : Nat) (g7 : Nat) (g8 : Nat) (h2 : Nat) (g9 : Nat) (g10 : Nat) (g11 : Nat) (g12 : Nat) (g13 : Nat) (g14 : Nat) (g15 : Nat) (g16 : Nat) (g17 : Nat) (g18 : Nat) (p0 : Int32) (sz : Nat) : vx_Met l yX11_needCommand (WSm yX11_needCommand cX11_needCommand 2 none) (mkR 6 1 6 82) (PreX D Y [.ref h0, .int p0] [(h0, oC 12 [.ref h1, .ref g0, .ref g1, .ref g2, .ref g3, .ref g4, .ref g5, .ref g6, .ref g7, .long 0]), (h1, oC 2 [.ref g8, .ref h2, .ref g9, .ref g10, .ref g11, .ref g12, .ref g13, .ref g14, .ref g15, .ref g16, .ref g17, .int 0]), (h2, oC 3 [.ref g18, .int 0])] sz) (QV D (fun (u : Unit) => False) (fun (_ : Unit) => [(h0, oC 12 [.ref h1, .ref g0, .ref g1, .ref g2, .ref g3, .ref g4, .ref g5, .ref g6, .ref g7, .long 0]), (h1, oC 2 [.ref g8, .ref h2, .ref g9, .ref g10, .ref g11, .ref g12, .ref g13, .ref g14, .ref g15, .ref g16, .ref g17, .int 0]), (h2, oC 3 [.ref g18, .int 0])]) (va_A [(h0, oC 12 [.ref h1, .ref g0, .ref g1, .ref g2, .ref g3, .ref g4, .ref g5, .ref g6, .ref g7, .long 0]), (h1, oC 2 [.ref g8, .ref h2, .ref g9, .ref g10, .ref g11, .ref g12, .ref g13, .ref g14, .ref g15, .ref g16, .ref g17, .int 0]), (h2, oC 3 [.ref g18, .int 0])] sz)) (XW D (fun (E : String) (u : Unit) => (E = "java/lang/IndexOutOfBoundsException" ∧ p0 < 0) ∨ (E = "java/lang/IndexOutOfBoundsException" ∧ ¬ p0 < 0)) (fun (_ : Unit) => [(h0, oC 12 [.ref h1, .ref g0, .ref g1, .ref g2, .ref g3, .ref g4, .ref g5, .ref g6, .ref g7, .long 0]), (h1, oC 2 [.ref g8, .ref h2, .ref g9, .ref g10, .ref g11, .ref g12, .ref g13, .ref g14, .ref g15, .ref g16, .ref g17, .int 0]), (h2, oC 3 [.ref g18, .int 0])]) (va_A [(h0, oC 12 [.ref h1, .ref g0, .ref g1, .ref g2, .ref g3, .ref g4, .ref g5, .ref g6, .ref g7, .long 0]), (h1, oC 2 [.ref g8, .ref h2, .ref g9, .ref g10, .ref g11, .ref g12, .ref g13, .ref g14, .ref g15, .ref g16, .ref g17, .int 0]), (h2, oC 3 [.ref g18, .int 0])] sz)) 1 6 (va_A [(h0, oC 12 [.ref h1, .ref g0, .ref g1, .ref g2, .ref g3, .ref g4, .ref g5, .ref g6, .ref g7, .long 0]), (h1, oC 2 [.ref g8, .ref h2, .ref g9, .ref g10, .ref g11, .ref g12, .ref g13, .ref g14, .ref g15, .ref g16, .ref g17, .int 0]), (h2, oC 3 [.ref g18, .int 0])] sz) :=
  xmet_of (by decide +kernel) (Nat.le_of_ble_eq_true rfl) (fun p e s m args below meth c B EB hout hsz => by
    have B : VB p s m args meth c D Y (va_A [(h0, oC 12 [.ref h1, .ref g0, .ref g1, .ref g2, .ref g3, .ref g4, .ref g5, .ref g6, .ref g7, .long 0]), (h1, oC 2 [.ref g8, .ref h2, .ref g9, .ref g10, .ref g11, .ref g12, .ref g13, .ref g14, .ref g15, .ref g16, .ref g17, .int 0]), (h2, oC 3 [.ref g18, .int 0])] sz) cX11_needCommand 2 RX11 none := B
    refine V_aload_n 0 B dX11_needCommand_0 0 rfl ?_
    refine V_get 1 B gf_RX11_10 0 rfl rfl dX11_needCommand_1 ?_
    refine V_iload_n 4 B dX11_needCommand_4 1 rfl ?_
    refine V_cvi 5 B (st := []) (As := [.int p0]) (fun sz => mX0_hasCommand_1 l D Y (h1) (g8) (h2) (g9) (g10) (g11) (g12) (g13) (g14) (g15) (g16) (g17) (g18) (p0) sz) glV_RX11_400 ⟨rfl, rfl⟩ ⟨(Nat.le_of_ble_eq_true rfl), (Nat.le_of_ble_eq_true rfl)⟩ ⟨(Nat.le_of_ble_eq_true rfl), (Nat.le_of_ble_eq_true rfl)⟩ [1, 0] rfl 2 0 rfl rfl rfl rfl (Nat.le_of_ble_eq_true rfl) rfl (fun _ _ _ => rfl) dX11_needCommand_5 (fun r0 u0 w0 => ?_)
    rcases w0 with ⟨k1, rfl⟩ | ⟨k2, rfl⟩
    ·
      refine V_ws [(h0, oC 12 [.ref h1, .ref g0, .ref g1, .ref g2, .ref g3, .ref g4, .ref g5, .ref g6, .ref g7, .long 0]), (h1, oC 2 [.ref g8, .ref h2, .ref g9, .ref g10, .ref g11, .ref g12, .ref g13, .ref g14, .ref g15, .ref g16, .ref g17, .int 0]), (h2, oC 3 [.ref g18, .int 0])] rfl ?_
      refine V_if_ne_f 8 B 22 dX11_needCommand_8 (by decide) (by decide +kernel) ?_
      exact V_throwSW 11 B EB hl9 gt_RX11_225_403_229 hout dX11_needCommand_11 dX11_needCommand_14 dX11_needCommand_15 dX11_needCommand_18 dX11_needCommand_21 (Nat.le_of_ble_eq_true rfl) (Nat.le_of_ble_eq_true rfl) (Nat.le_of_ble_eq_true rfl) (Nat.le_of_ble_eq_true rfl) (Nat.le_of_ble_eq_true rfl) (Nat.le_of_ble_eq_true rfl) () (Or.inl ⟨rfl, k1⟩) rfl
    ·
      refine V_ws [(h0, oC 12 [.ref h1, .ref g0, .ref g1, .ref g2, .ref g3, .ref g4, .ref g5, .ref g6, .ref g7, .long 0]), (h1, oC 2 [.ref g8, .ref h2, .ref g9, .ref g10, .ref g11, .ref g12, .ref g13, .ref g14, .ref g15, .ref g16, .ref g17, .int 0]), (h2, oC 3 [.ref g18, .int 0])] rfl ?_
      refine V_if_ne_f 8 B 22 dX11_needCommand_8 (by decide) (by decide +kernel) ?_
      exact V_throwSW 11 B EB hl9 gt_RX11_225_403_229 hout dX11_needCommand_11 dX11_needCommand_14 dX11_needCommand_15 dX11_needCommand_18 dX11_needCommand_21 (Nat.le_of_ble_eq_true rfl) (Nat.le_of_ble_eq_true rfl) (Nat.le_of_ble_eq_true rfl) (Nat.le_of_ble_eq_true rfl) (Nat.le_of_ble_eq_true rfl) (Nat.le_of_ble_eq_true rfl) () (Or.inr ⟨rfl, k2⟩) rfl)
theorem dX11_command_0 : decode cX11_command 0 = .ok (.aload_n 0, 1) := by decide +kernel
theorem dX11_command_1 : decode cX11_command 1 = .ok (.iload_n 1, 1) := by decide +kernel
theorem dX11_command_2 : decode cX11_command 2 = .ok (.invokevirtual 204, 3) := by decide +kernel
theorem glV_RX11_204 : GLV RX11 204 yX11_needCommand RX11 cX11_needCommand 2 none 1 := ⟨⟨(mT5 187 rfl rfl), (mT5 189 rfl rfl), (mTs 22 rfl rfl), (mT1 1 rfl rfl), (mT5 190 rfl rfl)⟩, by decide +kernel⟩
set_option maxRecDepth 100000 in
set_option maxHeartbeats 4000000 in
theorem mX11_command_1 (l : Launch) (hl9 : l.stackTraces = false) (D : va_G) (Y : Nat → ClassId) (h0 : Nat) (h1 : Nat) (g0 : Nat) (g1 : Nat) (g2 : Nat) (g3 : Nat) (g4 : Nat) (g5 : Nat) (g6 : Nat) (g7 : Nat) (g8 : Nat) (h2 : Nat) (g9 : Nat) (g10 : Nat) (g11 : Nat) (g12 : Nat) (g13 : Nat) (g14 : Nat) (g15 : Nat) (g16 : Nat) (g17 : Nat) (g18 : Nat) (p0 : Int32) (p1 : Int32) (sz : Nat) : vx_Met l yX11_command (WSm yX11_command cX11_command 3 (some .int)) (mkR 7 1 6 103) (PreX D Y [.ref h0, .int p0, .int p1] [(h0, oC 12 [.ref h1, .ref g0, .ref g1, .ref g2, .ref g3, .ref g4, .ref g5, .ref g6, .ref g7, .long 0]), (h1, oC 2 [.ref g8, .ref h2, .ref g9, .ref g10, .ref g11, .ref g12, .ref g13, .ref g14, .ref g15, .ref g16, .ref g17, .int 0]), (h2, oC 3 [.ref g18, .int 0])] sz) (QI D (fun (r : Int32) (u : Unit) => False) (fun (_ : Unit) => [(h0, oC 12 [.ref h1, .ref g0, .ref g1, .ref g2, .ref g3, .ref g4, .ref g5, .ref g6, .ref g7, .long 0]), (h1, oC 2 [.ref g8, .ref h2, .ref g9, .ref g10, .ref g11, .ref g12, .ref g13, .ref g14, .ref g15, .ref g16, .ref g17, .int 0]), (h2, oC 3 [.ref g18, .int 0])]) (va_A [(h0, oC 12 [.ref h1, .ref g0, .ref g1, .ref g2, .ref g3, .ref g4, .ref g5, .ref g6, .ref g7, .long 0]), (h1, oC 2 [.ref g8, .ref h2, .ref g9, .ref g10, .ref g11, .ref g12, .ref g13, .ref g14, .ref g15, .ref g16, .ref g17, .int 0]), (h2, oC 3 [.ref g18, .int 0])] sz)) (XW D (fun (E : String) (u : Unit) => (E = "java/lang/IndexOutOfBoundsException" ∧ p0 < 0) ∨ (E = "java/lang/IndexOutOfBoundsException" ∧ ¬ p0 < 0)) (fun (_ : Unit) => [(h0, oC 12 [.ref h1, .ref g0, .ref g1, .ref g2, .ref g3, .ref g4, .ref g5, .ref g6, .ref g7, .long 0]), (h1, oC 2 [.ref g8, .ref h2, .ref g9, .ref g10, .ref g11, .ref g12, .ref g13, .ref g14, .ref g15, .ref g16, .ref g17, .int 0]), (h2, oC 3 [.ref g18, .int 0])]) (va_A [(h0, oC 12 [.ref h1, .ref g0, .ref g1, .ref g2, .ref g3, .ref g4, .ref g5, .ref g6, .ref g7, .long 0]), (h1, oC 2 [.ref g8, .ref h2, .ref g9, .ref g10, .ref g11, .ref g12, .ref g13, .ref g14, .ref g15, .ref g16, .ref g17, .int 0]), (h2, oC 3 [.ref g18, .int 0])] sz)) 1 6 (va_A [(h0, oC 12 [.ref h1, .ref g0, .ref g1, .ref g2, .ref g3, .ref g4, .ref g5, .ref g6, .ref g7, .long 0]), (h1, oC 2 [.ref g8, .ref h2, .ref g9, .ref g10, .ref g11, .ref g12, .ref g13, .ref g14, .ref g15, .ref g16, .ref g17, .int 0]), (h2, oC 3 [.ref g18, .int 0])] sz) :=
  xmet_of (by decide +kernel) (Nat.le_of_ble_eq_true rfl) (fun p e s m args below meth c B EB hout hsz => by
    have B : VB p s m args meth c D Y (va_A [(h0, oC 12 [.ref h1, .ref g0, .ref g1, .ref g2, .ref g3, .ref g4, .ref g5, .ref g6, .ref g7, .long 0]), (h1, oC 2 [.ref g8, .ref h2, .ref g9, .ref g10, .ref g11, .ref g12, .ref g13, .ref g14, .ref g15, .ref g16, .ref g17, .int 0]), (h2, oC 3 [.ref g18, .int 0])] sz) cX11_command 3 RX11 (some .int) := B
    refine V_aload_n 0 B dX11_command_0 0 rfl ?_
    refine V_iload_n 1 B dX11_command_1 1 rfl ?_
    refine V_xvv 2 B EB (st := []) (As := [.int p0]) (fun sz => mX11_needCommand_1 l hl9 D Y (h0) (h1) (g0) (g1) (g2) (g3) (g4) (g5) (g6) (g7) (g8) (h2) (g9) (g10) (g11) (g12) (g13) (g14) (g15) (g16) (g17) (g18) (p0) sz) glV_RX11_204 ⟨rfl, rfl⟩ ⟨(Nat.le_of_ble_eq_true rfl), (Nat.le_of_ble_eq_true rfl)⟩ ⟨(Nat.le_of_ble_eq_true rfl), (Nat.le_of_ble_eq_true rfl)⟩ [0, 0, 0] rfl 12 0 rfl rfl rfl rfl (Nat.le_of_ble_eq_true rfl) rfl (fun _ _ => rfl) (fun _ _ _ => rfl) dX11_command_2 (fun E u0 w0 => ?_) (fun u0 w0 => ?_)
    ·
      rcases w0 with ⟨rfl, k1⟩ | ⟨rfl, k2⟩
      ·
        exact VX_out 2 B hout () (Or.inl ⟨rfl, k1⟩) rfl (Nat.le_of_ble_eq_true rfl) (Nat.le_of_ble_eq_true rfl)
      ·
        exact VX_out 2 B hout () (Or.inr ⟨rfl, k2⟩) rfl (Nat.le_of_ble_eq_true rfl) (Nat.le_of_ble_eq_true rfl)
    ·
      exact w0.elim)
theorem dX11_reserve_0 : decode cX11_reserve 0 = .ok (.aload_n 0, 1) := by decide +kernel
theorem dX11_reserve_1 : decode cX11_reserve 1 = .ok (.getfield 68, 3) := by decide +kernel
theorem dX11_reserve_4 : decode cX11_reserve 4 = .ok (.lconst 0, 1) := by decide +kernel
theorem dX11_reserve_5 : decode cX11_reserve 5 = .ok (.lcmp, 1) := by decide +kernel
theorem dX11_reserve_6 : decode cX11_reserve 6 = .ok (.ifCond .ne 6, 3) := by decide +kernel
theorem dX11_reserve_9 : decode cX11_reserve 9 = .ok (.bipush (-4), 2) := by decide +kernel
theorem dX11_reserve_11 : decode cX11_reserve 11 = .ok (.ireturn, 1) := by decide +kernel
set_option maxRecDepth 100000 in
set_option maxHeartbeats 4000000 in
theorem mX11_reserve_1 (l : Launch) (D : va_G) (Y : Nat → ClassId) (h0 : Nat) (g0 : Nat) (g1 : Nat) (g2 : Nat) (g3 : Nat) (g4 : Nat) (g5 : Nat) (g6 : Nat) (g7 : Nat) (g8 : Nat) (sz : Nat) : Met l yX11_reserve (WSm yX11_reserve cX11_reserve 1 (some .int)) (mkR 0 0 0 0) (PreC D Y [.ref h0] [(h0, oC 12 [.ref g0, .ref g1, .ref g2, .ref g3, .ref g4, .ref g5, .ref g6, .ref g7, .ref g8, .long 0])] sz) (QI D (fun (r : Int32) (u : Unit) => (-4) = r) (fun (_ : Unit) => [(h0, oC 12 [.ref g0, .ref g1, .ref g2, .ref g3, .ref g4, .ref g5, .ref g6, .ref g7, .ref g8, .long 0])]) (va_A [(h0, oC 12 [.ref g0, .ref g1, .ref g2, .ref g3, .ref g4, .ref g5, .ref g6, .ref g7, .ref g8, .long 0])] sz)) 0 0 (va_A [(h0, oC 12 [.ref g0, .ref g1, .ref g2, .ref g3, .ref g4, .ref g5, .ref g6, .ref g7, .ref g8, .long 0])] sz) :=
  met_of (by decide +kernel) (Nat.le_of_ble_eq_true rfl) (fun p e s m args below meth c B hin hsz => by
    have B : VB p s m args meth c D Y (va_A [(h0, oC 12 [.ref g0, .ref g1, .ref g2, .ref g3, .ref g4, .ref g5, .ref g6, .ref g7, .ref g8, .long 0])] sz) cX11_reserve 1 RX11 (some .int) := B
    refine V_aload_n 0 B dX11_reserve_0 0 rfl ?_
    refine V_get 1 B gf_RX11_68 0 rfl rfl dX11_reserve_1 ?_
    refine V_lconst 4 B (v := 0) dX11_reserve_4 (by decide +kernel) ?_
    refine V_lcmp 5 B (v := 0) dX11_reserve_5 (by decide +kernel) ?_
    refine V_if_ne_f 6 B 12 dX11_reserve_6 (by decide) (by decide +kernel) ?_
    refine V_bipush 9 B (v := (-4)) dX11_reserve_9 (by decide +kernel) ?_
    exact V_iret 11 B dX11_reserve_11 () rfl rfl)
theorem dX11_reservedStroke_0 : decode cX11_reservedStroke 0 = .ok (.iload_n 1, 1) := by decide +kernel
theorem dX11_reservedStroke_1 : decode cX11_reservedStroke 1 = .ok (.ifCond .lt 17, 3) := by decide +kernel
theorem dX11_reservedStroke_18 : decode cX11_reservedStroke 18 = .ok (.new 225, 3) := by decide +kernel
theorem gt_RX11_225_227_229 : GT RX11 225 227 229 "java/lang/IndexOutOfBoundsException" "no such reserved sequence" ["java/lang/RuntimeException", "java/lang/Exception"] := ⟨rfl, (mT5 136 rfl rfl), (mT1 23 rfl rfl), List.mem_of_getElem? (i := 1) rfl, by decide +kernel, by decide +kernel, List.mem_of_getElem? (i := 1) rfl, gta_229⟩
theorem dX11_reservedStroke_21 : decode cX11_reservedStroke 21 = .ok (.dup, 1) := by decide +kernel
theorem dX11_reservedStroke_22 : decode cX11_reservedStroke 22 = .ok (.ldc 227, 2) := by decide +kernel
theorem dX11_reservedStroke_24 : decode cX11_reservedStroke 24 = .ok (.invokespecial 229, 3) := by decide +kernel
theorem dX11_reservedStroke_27 : decode cX11_reservedStroke 27 = .ok (.athrow, 1) := by decide +kernel
theorem dX11_reservedStroke_4 : decode cX11_reservedStroke 4 = .ok (.iload_n 1, 1) := by decide +kernel
theorem dX11_reservedStroke_5 : decode cX11_reservedStroke 5 = .ok (.aload_n 0, 1) := by decide +kernel
theorem dX11_reservedStroke_6 : decode cX11_reservedStroke 6 = .ok (.getfield 10, 3) := by decide +kernel
theorem dX11_reservedStroke_9 : decode cX11_reservedStroke 9 = .ok (.getfield 122, 3) := by decide +kernel
theorem dX11_reservedStroke_12 : decode cX11_reservedStroke 12 = .ok (.invokevirtual 126, 3) := by decide +kernel
theorem dX11_reservedStroke_15 : decode cX11_reservedStroke 15 = .ok (.if_icmp .lt 13, 3) := by decide +kernel
set_option maxRecDepth 100000 in
set_option maxHeartbeats 4000000 in
theorem mX11_reservedStroke_1 (l : Launch) (hl9 : l.stackTraces = false) (D : va_G) (Y : Nat → ClassId) (h0 : Nat) (h1 : Nat) (g0 : Nat) (g1 : Nat) (g2 : Nat) (g3 : Nat) (g4 : Nat) (g5 : Nat) (g6 : Nat) (g7 : Nat) (g8 : Nat) (g9 : Nat) (g10 : Nat) (g11 : Nat) (h2 : Nat) (g12 : Nat) (g13 : Nat) (g14 : Nat) (g15 : Nat) (g16 : Nat) (g17 : Nat) (g18 : Nat) (p0 : Int32) (p1 : Int32) (sz : Nat) : vx_Met l yX11_reservedStroke (WSm yX11_reservedStroke cX11_reservedStroke 3 (some .int)) (mkR 6 1 6 82) (PreX D Y [.ref h0, .int p0, .int p1] [(h0, oC 12 [.ref h1, .ref g0, .ref g1, .ref g2, .ref g3, .ref g4, .ref g5, .ref g6, .ref g7, .long 0]), (h1, oC 2 [.ref g8, .ref g9, .ref g10, .ref g11, .ref h2, .ref g12, .ref g13, .ref g14, .ref g15, .ref g16, .ref g17, .int 0]), (h2, oC 7 [.ref g18, .int 0])] sz) (QI D (fun (r : Int32) (u : Unit) => False) (fun (_ : Unit) => [(h0, oC 12 [.ref h1, .ref g0, .ref g1, .ref g2, .ref g3, .ref g4, .ref g5, .ref g6, .ref g7, .long 0]), (h1, oC 2 [.ref g8, .ref g9, .ref g10, .ref g11, .ref h2, .ref g12, .ref g13, .ref g14, .ref g15, .ref g16, .ref g17, .int 0]), (h2, oC 7 [.ref g18, .int 0])]) (va_A [(h0, oC 12 [.ref h1, .ref g0, .ref g1, .ref g2, .ref g3, .ref g4, .ref g5, .ref g6, .ref g7, .long 0]), (h1, oC 2 [.ref g8, .ref g9, .ref g10, .ref g11, .ref h2, .ref g12, .ref g13, .ref g14, .ref g15, .ref g16, .ref g17, .int 0]), (h2, oC 7 [.ref g18, .int 0])] sz)) (XW D (fun (E : String) (u : Unit) => (E = "java/lang/IndexOutOfBoundsException" ∧ p0 < 0) ∨ (E = "java/lang/IndexOutOfBoundsException" ∧ ¬ p0 < 0)) (fun (_ : Unit) => [(h0, oC 12 [.ref h1, .ref g0, .ref g1, .ref g2, .ref g3, .ref g4, .ref g5, .ref g6, .ref g7, .long 0]), (h1, oC 2 [.ref g8, .ref g9, .ref g10, .ref g11, .ref h2, .ref g12, .ref g13, .ref g14, .ref g15, .ref g16, .ref g17, .int 0]), (h2, oC 7 [.ref g18, .int 0])]) (va_A [(h0, oC 12 [.ref h1, .ref g0, .ref g1, .ref g2, .ref g3, .ref g4, .ref g5, .ref g6, .ref g7, .long 0]), (h1, oC 2 [.ref g8, .ref g9, .ref g10, .ref g11, .ref h2, .ref g12, .ref g13, .ref g14, .ref g15, .ref g16, .ref g17, .int 0]), (h2, oC 7 [.ref g18, .int 0])] sz)) 1 6 (va_A [(h0, oC 12 [.ref h1, .ref g0, .ref g1, .ref g2, .ref g3, .ref g4, .ref g5, .ref g6, .ref g7, .long 0]), (h1, oC 2 [.ref g8, .ref g9, .ref g10, .ref g11, .ref h2, .ref g12, .ref g13, .ref g14, .ref g15, .ref g16, .ref g17, .int 0]), (h2, oC 7 [.ref g18, .int 0])] sz) :=
  xmet_of (by decide +kernel) (Nat.le_of_ble_eq_true rfl) (fun p e s m args below meth c B EB hout hsz => by
    have B : VB p s m args meth c D Y (va_A [(h0, oC 12 [.ref h1, .ref g0, .ref g1, .ref g2, .ref g3, .ref g4, .ref g5, .ref g6, .ref g7, .long 0]), (h1, oC 2 [.ref g8, .ref g9, .ref g10, .ref g11, .ref h2, .ref g12, .ref g13, .ref g14, .ref g15, .ref g16, .ref g17, .int 0]), (h2, oC 7 [.ref g18, .int 0])] sz) cX11_reservedStroke 3 RX11 (some .int) := B
    refine V_iload_n 0 B dX11_reservedStroke_0 1 rfl ?_
    refine V_if_lt 1 B 18 dX11_reservedStroke_1 (by decide) (fun k0 => ?_) (fun k0 => ?_)
    ·
      exact V_throwS 18 B EB hl9 gt_RX11_225_227_229 hout dX11_reservedStroke_18 dX11_reservedStroke_21 dX11_reservedStroke_22 dX11_reservedStroke_24 dX11_reservedStroke_27 (Nat.le_of_ble_eq_true rfl) (Nat.le_of_ble_eq_true rfl) (Nat.le_of_ble_eq_true rfl) (Nat.le_of_ble_eq_true rfl) (Nat.le_of_ble_eq_true rfl) (Nat.le_of_ble_eq_true rfl) () (Or.inl ⟨rfl, k0⟩) rfl
    ·
      refine V_iload_n 4 B dX11_reservedStroke_4 1 rfl ?_
      refine V_aload_n 5 B dX11_reservedStroke_5 0 rfl ?_
      refine V_get 6 B gf_RX11_10 0 rfl rfl dX11_reservedStroke_6 ?_
      refine V_get 9 B gf_RX11_122 1 rfl rfl dX11_reservedStroke_9 ?_
      refine V_cvi 12 B (st := [.int p0]) (As := []) (fun sz => mX5_size_1 l D Y (h2) (g18) sz) glV_RX11_126 ⟨rfl, rfl⟩ ⟨(Nat.le_of_ble_eq_true rfl), (Nat.le_of_ble_eq_true rfl)⟩ ⟨(Nat.le_of_ble_eq_true rfl), (Nat.le_of_ble_eq_true rfl)⟩ [2] rfl 7 0 rfl rfl rfl rfl (Nat.le_of_ble_eq_true rfl) rfl (fun _ _ _ => rfl) dX11_reservedStroke_12 (fun r1 u1 w1 => ?_)
      obtain rfl := w1
      refine V_ws [(h0, oC 12 [.ref h1, .ref g0, .ref g1, .ref g2, .ref g3, .ref g4, .ref g5, .ref g6, .ref g7, .long 0]), (h1, oC 2 [.ref g8, .ref g9, .ref g10, .ref g11, .ref h2, .ref g12, .ref g13, .ref g14, .ref g15, .ref g16, .ref g17, .int 0]), (h2, oC 7 [.ref g18, .int 0])] rfl ?_
      refine V_icmp_lt_f 15 B 28 dX11_reservedStroke_15 (by decide) (q_nlt (b_nlt k0 (n := 0) (by decide +kernel)) (by decide +kernel)) ?_
      exact V_throwS 18 B EB hl9 gt_RX11_225_227_229 hout dX11_reservedStroke_18 dX11_reservedStroke_21 dX11_reservedStroke_22 dX11_reservedStroke_24 dX11_reservedStroke_27 (Nat.le_of_ble_eq_true rfl) (Nat.le_of_ble_eq_true rfl) (Nat.le_of_ble_eq_true rfl) (Nat.le_of_ble_eq_true rfl) (Nat.le_of_ble_eq_true rfl) (Nat.le_of_ble_eq_true rfl) () (Or.inr ⟨rfl, k0⟩) rfl)
theorem dX11_bind_0 : decode cX11_bind 0 = .ok (.aload_n 0, 1) := by decide +kernel
theorem dX11_bind_1 : decode cX11_bind 1 = .ok (.iload_n 1, 1) := by decide +kernel
theorem dX11_bind_2 : decode cX11_bind 2 = .ok (.invokevirtual 180, 3) := by decide +kernel
theorem dX11_bind_5 : decode cX11_bind 5 = .ok (.aload_n 0, 1) := by decide +kernel
theorem dX11_bind_6 : decode cX11_bind 6 = .ok (.iload_n 2, 1) := by decide +kernel
theorem dX11_bind_7 : decode cX11_bind 7 = .ok (.invokevirtual 204, 3) := by decide +kernel
set_option maxRecDepth 100000 in
set_option maxHeartbeats 4000000 in
theorem mX11_bind_1 (l : Launch) (hl9 : l.stackTraces = false) (D : va_G) (Y : Nat → ClassId) (h0 : Nat) (h1 : Nat) (g0 : Nat) (g1 : Nat) (g2 : Nat) (g3 : Nat) (g4 : Nat) (g5 : Nat) (g6 : Nat) (g7 : Nat) (h2 : Nat) (h3 : Nat) (g8 : Nat) (g9 : Nat) (g10 : Nat) (g11 : Nat) (g12 : Nat) (g13 : Nat) (g14 : Nat) (g15 : Nat) (g16 : Nat) (g17 : Nat) (g18 : Nat) (p0 : Int32) (p1 : Int32) (sz : Nat) : vx_Met l yX11_bind (WSm yX11_bind cX11_bind 3 (some .int)) (mkR 7 2 12 103) (PreX D Y [.ref h0, .int p0, .int p1] [(h0, oC 12 [.ref h1, .ref g0, .ref g1, .ref g2, .ref g3, .ref g4, .ref g5, .ref g6, .ref g7, .long 0]), (h1, oC 2 [.ref h2, .ref h3, .ref g8, .ref g9, .ref g10, .ref g11, .ref g12, .ref g13, .ref g14, .ref g15, .ref g16, .int 0]), (h2, oC 3 [.ref g17, .int 1]), (h3, oC 3 [.ref g18, .int 0])] sz) (QI D (fun (r : Int32) (u : Unit) => False) (fun (_ : Unit) => [(h0, oC 12 [.ref h1, .ref g0, .ref g1, .ref g2, .ref g3, .ref g4, .ref g5, .ref g6, .ref g7, .long 0]), (h1, oC 2 [.ref h2, .ref h3, .ref g8, .ref g9, .ref g10, .ref g11, .ref g12, .ref g13, .ref g14, .ref g15, .ref g16, .int 0]), (h2, oC 3 [.ref g17, .int 1]), (h3, oC 3 [.ref g18, .int 0])]) (va_A [(h0, oC 12 [.ref h1, .ref g0, .ref g1, .ref g2, .ref g3, .ref g4, .ref g5, .ref g6, .ref g7, .long 0]), (h1, oC 2 [.ref h2, .ref h3, .ref g8, .ref g9, .ref g10, .ref g11, .ref g12, .ref g13, .ref g14, .ref g15, .ref g16, .int 0]), (h2, oC 3 [.ref g17, .int 1]), (h3, oC 3 [.ref g18, .int 0])] sz)) (XW D (fun (E : String) (u : Unit) => (E = "java/lang/IndexOutOfBoundsException" ∧ p0 < 0) ∨ (E = "java/lang/IndexOutOfBoundsException" ∧ ¬ p0 < 0 ∧ 1 ≤ p0) ∨ (E = "java/lang/IndexOutOfBoundsException" ∧ p0 = 0 ∧ p1 < 0) ∨ (E = "java/lang/IndexOutOfBoundsException" ∧ p0 = 0 ∧ ¬ p1 < 0)) (fun (_ : Unit) => [(h0, oC 12 [.ref h1, .ref g0, .ref g1, .ref g2, .ref g3, .ref g4, .ref g5, .ref g6, .ref g7, .long 0]), (h1, oC 2 [.ref h2, .ref h3, .ref g8, .ref g9, .ref g10, .ref g11, .ref g12, .ref g13, .ref g14, .ref g15, .ref g16, .int 0]), (h2, oC 3 [.ref g17, .int 1]), (h3, oC 3 [.ref g18, .int 0])]) (va_A [(h0, oC 12 [.ref h1, .ref g0, .ref g1, .ref g2, .ref g3, .ref g4, .ref g5, .ref g6, .ref g7, .long 0]), (h1, oC 2 [.ref h2, .ref h3, .ref g8, .ref g9, .ref g10, .ref g11, .ref g12, .ref g13, .ref g14, .ref g15, .ref g16, .int 0]), (h2, oC 3 [.ref g17, .int 1]), (h3, oC 3 [.ref g18, .int 0])] sz)) 2 12 (va_A [(h0, oC 12 [.ref h1, .ref g0, .ref g1, .ref g2, .ref g3, .ref g4, .ref g5, .ref g6, .ref g7, .long 0]), (h1, oC 2 [.ref h2, .ref h3, .ref g8, .ref g9, .ref g10, .ref g11, .ref g12, .ref g13, .ref g14, .ref g15, .ref g16, .int 0]), (h2, oC 3 [.ref g17, .int 1]), (h3, oC 3 [.ref g18, .int 0])] sz) :=
  xmet_of (by decide +kernel) (Nat.le_of_ble_eq_true rfl) (fun p e s m args below meth c B EB hout hsz => by
    have B : VB p s m args meth c D Y (va_A [(h0, oC 12 [.ref h1, .ref g0, .ref g1, .ref g2, .ref g3, .ref g4, .ref g5, .ref g6, .ref g7, .long 0]), (h1, oC 2 [.ref h2, .ref h3, .ref g8, .ref g9, .ref g10, .ref g11, .ref g12, .ref g13, .ref g14, .ref g15, .ref g16, .int 0]), (h2, oC 3 [.ref g17, .int 1]), (h3, oC 3 [.ref g18, .int 0])] sz) cX11_bind 3 RX11 (some .int) := B
    refine V_aload_n 0 B dX11_bind_0 0 rfl ?_
    refine V_iload_n 1 B dX11_bind_1 1 rfl ?_
    refine V_xvv 2 B EB (st := []) (As := [.int p0]) (fun sz => mX11_needMode_1 l hl9 D Y (h0) (h1) (g0) (g1) (g2) (g3) (g4) (g5) (g6) (g7) (h2) (h3) (g8) (g9) (g10) (g11) (g12) (g13) (g14) (g15) (g16) (g17) (p0) sz) glV_RX11_180 ⟨rfl, rfl⟩ ⟨(Nat.le_of_ble_eq_true rfl), (Nat.le_of_ble_eq_true rfl)⟩ ⟨(Nat.le_of_ble_eq_true rfl), (Nat.le_of_ble_eq_true rfl)⟩ [0, 0, 0] rfl 12 0 rfl rfl rfl rfl (Nat.le_of_ble_eq_true rfl) rfl (fun _ _ => rfl) (fun _ _ _ => rfl) dX11_bind_2 (fun E u0 w0 => ?_) (fun u0 w0 => ?_)
    ·
      rcases w0 with ⟨rfl, k1⟩ | ⟨rfl, k2, k3⟩
      ·
        exact VX_out 2 B hout () (Or.inl ⟨rfl, k1⟩) rfl (Nat.le_of_ble_eq_true rfl) (Nat.le_of_ble_eq_true rfl)
      ·
        exact VX_out 2 B hout () (Or.inr (Or.inl ⟨rfl, k2, k3⟩)) rfl (Nat.le_of_ble_eq_true rfl) (Nat.le_of_ble_eq_true rfl)
    ·
      have k4 := w0
      refine V_ws [(h0, oC 12 [.ref h1, .ref g0, .ref g1, .ref g2, .ref g3, .ref g4, .ref g5, .ref g6, .ref g7, .long 0]), (h1, oC 2 [.ref h2, .ref h3, .ref g8, .ref g9, .ref g10, .ref g11, .ref g12, .ref g13, .ref g14, .ref g15, .ref g16, .int 0]), (h2, oC 3 [.ref g17, .int 1]), (h3, oC 3 [.ref g18, .int 0])] rfl ?_
      obtain rfl : p0 = 0 := k4
      refine V_aload_n 5 B dX11_bind_5 0 rfl ?_
      refine V_iload_n 6 B dX11_bind_6 2 rfl ?_
      refine V_xvv 7 B EB (st := []) (As := [.int p1]) (fun sz => mX11_needCommand_1 l hl9 D Y (h0) (h1) (g0) (g1) (g2) (g3) (g4) (g5) (g6) (g7) (h2) (h3) (g8) (g9) (g10) (g11) (g12) (g13) (g14) (g15) (g16) (g18) (p1) sz) glV_RX11_204 ⟨rfl, rfl⟩ ⟨(Nat.le_of_ble_eq_true rfl), (Nat.le_of_ble_eq_true rfl)⟩ ⟨(Nat.le_of_ble_eq_true rfl), (Nat.le_of_ble_eq_true rfl)⟩ [0, 0, 1] rfl 12 0 rfl rfl rfl rfl (Nat.le_of_ble_eq_true rfl) rfl (fun _ _ => rfl) (fun _ _ _ => rfl) dX11_bind_7 (fun E u5 w5 => ?_) (fun u5 w5 => ?_)
      ·
        rcases w5 with ⟨rfl, k6⟩ | ⟨rfl, k7⟩
        ·
          exact VX_out 7 B hout () (Or.inr (Or.inr (Or.inl ⟨rfl, rfl, k6⟩))) rfl (Nat.le_of_ble_eq_true rfl) (Nat.le_of_ble_eq_true rfl)
        ·
          exact VX_out 7 B hout () (Or.inr (Or.inr (Or.inr ⟨rfl, rfl, k7⟩))) rfl (Nat.le_of_ble_eq_true rfl) (Nat.le_of_ble_eq_true rfl)
      ·
        exact w5.elim)
theorem dX11_force_0 : decode cX11_force 0 = .ok (.aload_n 0, 1) := by decide +kernel
theorem dX11_force_1 : decode cX11_force 1 = .ok (.iload_n 1, 1) := by decide +kernel
theorem dX11_force_2 : decode cX11_force 2 = .ok (.invokevirtual 180, 3) := by decide +kernel
theorem dX11_force_5 : decode cX11_force 5 = .ok (.aload_n 0, 1) := by decide +kernel
theorem dX11_force_6 : decode cX11_force 6 = .ok (.iload_n 2, 1) := by decide +kernel
theorem dX11_force_7 : decode cX11_force 7 = .ok (.invokevirtual 204, 3) := by decide +kernel
set_option maxRecDepth 100000 in
set_option maxHeartbeats 4000000 in
theorem mX11_force_1 (l : Launch) (hl9 : l.stackTraces = false) (D : va_G) (Y : Nat → ClassId) (h0 : Nat) (h1 : Nat) (g0 : Nat) (g1 : Nat) (g2 : Nat) (g3 : Nat) (g4 : Nat) (g5 : Nat) (g6 : Nat) (g7 : Nat) (h2 : Nat) (h3 : Nat) (g8 : Nat) (g9 : Nat) (g10 : Nat) (g11 : Nat) (g12 : Nat) (g13 : Nat) (g14 : Nat) (g15 : Nat) (g16 : Nat) (g17 : Nat) (g18 : Nat) (p0 : Int32) (p1 : Int32) (sz : Nat) : vx_Met l yX11_force (WSm yX11_force cX11_force 3 (some .int)) (mkR 7 2 12 103) (PreX D Y [.ref h0, .int p0, .int p1] [(h0, oC 12 [.ref h1, .ref g0, .ref g1, .ref g2, .ref g3, .ref g4, .ref g5, .ref g6, .ref g7, .long 0]), (h1, oC 2 [.ref h2, .ref h3, .ref g8, .ref g9, .ref g10, .ref g11, .ref g12, .ref g13, .ref g14, .ref g15, .ref g16, .int 0]), (h2, oC 3 [.ref g17, .int 1]), (h3, oC 3 [.ref g18, .int 0])] sz) (QI D (fun (r : Int32) (u : Unit) => False) (fun (_ : Unit) => [(h0, oC 12 [.ref h1, .ref g0, .ref g1, .ref g2, .ref g3, .ref g4, .ref g5, .ref g6, .ref g7, .long 0]), (h1, oC 2 [.ref h2, .ref h3, .ref g8, .ref g9, .ref g10, .ref g11, .ref g12, .ref g13, .ref g14, .ref g15, .ref g16, .int 0]), (h2, oC 3 [.ref g17, .int 1]), (h3, oC 3 [.ref g18, .int 0])]) (va_A [(h0, oC 12 [.ref h1, .ref g0, .ref g1, .ref g2, .ref g3, .ref g4, .ref g5, .ref g6, .ref g7, .long 0]), (h1, oC 2 [.ref h2, .ref h3, .ref g8, .ref g9, .ref g10, .ref g11, .ref g12, .ref g13, .ref g14, .ref g15, .ref g16, .int 0]), (h2, oC 3 [.ref g17, .int 1]), (h3, oC 3 [.ref g18, .int 0])] sz)) (XW D (fun (E : String) (u : Unit) => (E = "java/lang/IndexOutOfBoundsException" ∧ p0 < 0) ∨ (E = "java/lang/IndexOutOfBoundsException" ∧ ¬ p0 < 0 ∧ 1 ≤ p0) ∨ (E = "java/lang/IndexOutOfBoundsException" ∧ p0 = 0 ∧ p1 < 0) ∨ (E = "java/lang/IndexOutOfBoundsException" ∧ p0 = 0 ∧ ¬ p1 < 0)) (fun (_ : Unit) => [(h0, oC 12 [.ref h1, .ref g0, .ref g1, .ref g2, .ref g3, .ref g4, .ref g5, .ref g6, .ref g7, .long 0]), (h1, oC 2 [.ref h2, .ref h3, .ref g8, .ref g9, .ref g10, .ref g11, .ref g12, .ref g13, .ref g14, .ref g15, .ref g16, .int 0]), (h2, oC 3 [.ref g17, .int 1]), (h3, oC 3 [.ref g18, .int 0])]) (va_A [(h0, oC 12 [.ref h1, .ref g0, .ref g1, .ref g2, .ref g3, .ref g4, .ref g5, .ref g6, .ref g7, .long 0]), (h1, oC 2 [.ref h2, .ref h3, .ref g8, .ref g9, .ref g10, .ref g11, .ref g12, .ref g13, .ref g14, .ref g15, .ref g16, .int 0]), (h2, oC 3 [.ref g17, .int 1]), (h3, oC 3 [.ref g18, .int 0])] sz)) 2 12 (va_A [(h0, oC 12 [.ref h1, .ref g0, .ref g1, .ref g2, .ref g3, .ref g4, .ref g5, .ref g6, .ref g7, .long 0]), (h1, oC 2 [.ref h2, .ref h3, .ref g8, .ref g9, .ref g10, .ref g11, .ref g12, .ref g13, .ref g14, .ref g15, .ref g16, .int 0]), (h2, oC 3 [.ref g17, .int 1]), (h3, oC 3 [.ref g18, .int 0])] sz) :=
  xmet_of (by decide +kernel) (Nat.le_of_ble_eq_true rfl) (fun p e s m args below meth c B EB hout hsz => by
    have B : VB p s m args meth c D Y (va_A [(h0, oC 12 [.ref h1, .ref g0, .ref g1, .ref g2, .ref g3, .ref g4, .ref g5, .ref g6, .ref g7, .long 0]), (h1, oC 2 [.ref h2, .ref h3, .ref g8, .ref g9, .ref g10, .ref g11, .ref g12, .ref g13, .ref g14, .ref g15, .ref g16, .int 0]), (h2, oC 3 [.ref g17, .int 1]), (h3, oC 3 [.ref g18, .int 0])] sz) cX11_force 3 RX11 (some .int) := B
    refine V_aload_n 0 B dX11_force_0 0 rfl ?_
    refine V_iload_n 1 B dX11_force_1 1 rfl ?_
    refine V_xvv 2 B EB (st := []) (As := [.int p0]) (fun sz => mX11_needMode_1 l hl9 D Y (h0) (h1) (g0) (g1) (g2) (g3) (g4) (g5) (g6) (g7) (h2) (h3) (g8) (g9) (g10) (g11) (g12) (g13) (g14) (g15) (g16) (g17) (p0) sz) glV_RX11_180 ⟨rfl, rfl⟩ ⟨(Nat.le_of_ble_eq_true rfl), (Nat.le_of_ble_eq_true rfl)⟩ ⟨(Nat.le_of_ble_eq_true rfl), (Nat.le_of_ble_eq_true rfl)⟩ [0, 0, 0] rfl 12 0 rfl rfl rfl rfl (Nat.le_of_ble_eq_true rfl) rfl (fun _ _ => rfl) (fun _ _ _ => rfl) dX11_force_2 (fun E u0 w0 => ?_) (fun u0 w0 => ?_)
    ·
      rcases w0 with ⟨rfl, k1⟩ | ⟨rfl, k2, k3⟩
      ·
        exact VX_out 2 B hout () (Or.inl ⟨rfl, k1⟩) rfl (Nat.le_of_ble_eq_true rfl) (Nat.le_of_ble_eq_true rfl)
      ·
        exact VX_out 2 B hout () (Or.inr (Or.inl ⟨rfl, k2, k3⟩)) rfl (Nat.le_of_ble_eq_true rfl) (Nat.le_of_ble_eq_true rfl)
    ·
      have k4 := w0
      refine V_ws [(h0, oC 12 [.ref h1, .ref g0, .ref g1, .ref g2, .ref g3, .ref g4, .ref g5, .ref g6, .ref g7, .long 0]), (h1, oC 2 [.ref h2, .ref h3, .ref g8, .ref g9, .ref g10, .ref g11, .ref g12, .ref g13, .ref g14, .ref g15, .ref g16, .int 0]), (h2, oC 3 [.ref g17, .int 1]), (h3, oC 3 [.ref g18, .int 0])] rfl ?_
      obtain rfl : p0 = 0 := k4
      refine V_aload_n 5 B dX11_force_5 0 rfl ?_
      refine V_iload_n 6 B dX11_force_6 2 rfl ?_
      refine V_xvv 7 B EB (st := []) (As := [.int p1]) (fun sz => mX11_needCommand_1 l hl9 D Y (h0) (h1) (g0) (g1) (g2) (g3) (g4) (g5) (g6) (g7) (h2) (h3) (g8) (g9) (g10) (g11) (g12) (g13) (g14) (g15) (g16) (g18) (p1) sz) glV_RX11_204 ⟨rfl, rfl⟩ ⟨(Nat.le_of_ble_eq_true rfl), (Nat.le_of_ble_eq_true rfl)⟩ ⟨(Nat.le_of_ble_eq_true rfl), (Nat.le_of_ble_eq_true rfl)⟩ [0, 0, 1] rfl 12 0 rfl rfl rfl rfl (Nat.le_of_ble_eq_true rfl) rfl (fun _ _ => rfl) (fun _ _ _ => rfl) dX11_force_7 (fun E u5 w5 => ?_) (fun u5 w5 => ?_)
      ·
        rcases w5 with ⟨rfl, k6⟩ | ⟨rfl, k7⟩
        ·
          exact VX_out 7 B hout () (Or.inr (Or.inr (Or.inl ⟨rfl, rfl, k6⟩))) rfl (Nat.le_of_ble_eq_true rfl) (Nat.le_of_ble_eq_true rfl)
        ·
          exact VX_out 7 B hout () (Or.inr (Or.inr (Or.inr ⟨rfl, rfl, k7⟩))) rfl (Nat.le_of_ble_eq_true rfl) (Nat.le_of_ble_eq_true rfl)
      ·
        exact w5.elim)
theorem dX11_move_0 : decode cX11_move 0 = .ok (.aload_n 0, 1) := by decide +kernel
theorem dX11_move_1 : decode cX11_move 1 = .ok (.iload_n 1, 1) := by decide +kernel
theorem dX11_move_2 : decode cX11_move 2 = .ok (.invokevirtual 167, 3) := by decide +kernel
set_option maxRecDepth 100000 in
set_option maxHeartbeats 4000000 in
theorem mX11_move_1 (l : Launch) (hl9 : l.stackTraces = false) (D : va_G) (Y : Nat → ClassId) (h0 : Nat) (h1 : Nat) (g0 : Nat) (g1 : Nat) (g2 : Nat) (g3 : Nat) (g4 : Nat) (g5 : Nat) (g6 : Nat) (g7 : Nat) (g8 : Nat) (g9 : Nat) (g10 : Nat) (g11 : Nat) (g12 : Nat) (h2 : Nat) (g13 : Nat) (g14 : Nat) (g15 : Nat) (g16 : Nat) (g17 : Nat) (g18 : Nat) (p0 : Int32) (sz : Nat) : vx_Met l yX11_move (WSm yX11_move cX11_move 2 (some .int)) (mkR 7 1 6 103) (PreX D Y [.ref h0, .int p0] [(h0, oC 12 [.ref h1, .ref g0, .ref g1, .ref g2, .ref g3, .ref g4, .ref g5, .ref g6, .ref g7, .long 0]), (h1, oC 2 [.ref g8, .ref g9, .ref g10, .ref g11, .ref g12, .ref h2, .ref g13, .ref g14, .ref g15, .ref g16, .ref g17, .int 0]), (h2, oC 3 [.ref g18, .int 0])] sz) (QI D (fun (r : Int32) (u : Unit) => False) (fun (_ : Unit) => [(h0, oC 12 [.ref h1, .ref g0, .ref g1, .ref g2, .ref g3, .ref g4, .ref g5, .ref g6, .ref g7, .long 0]), (h1, oC 2 [.ref g8, .ref g9, .ref g10, .ref g11, .ref g12, .ref h2, .ref g13, .ref g14, .ref g15, .ref g16, .ref g17, .int 0]), (h2, oC 3 [.ref g18, .int 0])]) (va_A [(h0, oC 12 [.ref h1, .ref g0, .ref g1, .ref g2, .ref g3, .ref g4, .ref g5, .ref g6, .ref g7, .long 0]), (h1, oC 2 [.ref g8, .ref g9, .ref g10, .ref g11, .ref g12, .ref h2, .ref g13, .ref g14, .ref g15, .ref g16, .ref g17, .int 0]), (h2, oC 3 [.ref g18, .int 0])] sz)) (XW D (fun (E : String) (u : Unit) => (E = "java/lang/IndexOutOfBoundsException" ∧ p0 < 0) ∨ (E = "java/lang/IndexOutOfBoundsException" ∧ ¬ p0 < 0)) (fun (_ : Unit) => [(h0, oC 12 [.ref h1, .ref g0, .ref g1, .ref g2, .ref g3, .ref g4, .ref g5, .ref g6, .ref g7, .long 0]), (h1, oC 2 [.ref g8, .ref g9, .ref g10, .ref g11, .ref g12, .ref h2, .ref g13, .ref g14, .ref g15, .ref g16, .ref g17, .int 0]), (h2, oC 3 [.ref g18, .int 0])]) (va_A [(h0, oC 12 [.ref h1, .ref g0, .ref g1, .ref g2, .ref g3, .ref g4, .ref g5, .ref g6, .ref g7, .long 0]), (h1, oC 2 [.ref g8, .ref g9, .ref g10, .ref g11, .ref g12, .ref h2, .ref g13, .ref g14, .ref g15, .ref g16, .ref g17, .int 0]), (h2, oC 3 [.ref g18, .int 0])] sz)) 1 6 (va_A [(h0, oC 12 [.ref h1, .ref g0, .ref g1, .ref g2, .ref g3, .ref g4, .ref g5, .ref g6, .ref g7, .long 0]), (h1, oC 2 [.ref g8, .ref g9, .ref g10, .ref g11, .ref g12, .ref h2, .ref g13, .ref g14, .ref g15, .ref g16, .ref g17, .int 0]), (h2, oC 3 [.ref g18, .int 0])] sz) :=
  xmet_of (by decide +kernel) (Nat.le_of_ble_eq_true rfl) (fun p e s m args below meth c B EB hout hsz => by
    have B : VB p s m args meth c D Y (va_A [(h0, oC 12 [.ref h1, .ref g0, .ref g1, .ref g2, .ref g3, .ref g4, .ref g5, .ref g6, .ref g7, .long 0]), (h1, oC 2 [.ref g8, .ref g9, .ref g10, .ref g11, .ref g12, .ref h2, .ref g13, .ref g14, .ref g15, .ref g16, .ref g17, .int 0]), (h2, oC 3 [.ref g18, .int 0])] sz) cX11_move 2 RX11 (some .int) := B
    refine V_aload_n 0 B dX11_move_0 0 rfl ?_
    refine V_iload_n 1 B dX11_move_1 1 rfl ?_
    refine V_xvv 2 B EB (st := []) (As := [.int p0]) (fun sz => mX11_needBinding_1 l hl9 D Y (h0) (h1) (g0) (g1) (g2) (g3) (g4) (g5) (g6) (g7) (g8) (g9) (g10) (g11) (g12) (h2) (g13) (g14) (g15) (g16) (g17) (g18) (p0) sz) glV_RX11_167 ⟨rfl, rfl⟩ ⟨(Nat.le_of_ble_eq_true rfl), (Nat.le_of_ble_eq_true rfl)⟩ ⟨(Nat.le_of_ble_eq_true rfl), (Nat.le_of_ble_eq_true rfl)⟩ [0, 0, 0] rfl 12 0 rfl rfl rfl rfl (Nat.le_of_ble_eq_true rfl) rfl (fun _ _ => rfl) (fun _ _ _ => rfl) dX11_move_2 (fun E u0 w0 => ?_) (fun u0 w0 => ?_)
    ·
      rcases w0 with ⟨rfl, k1⟩ | ⟨rfl, k2⟩
      ·
        exact VX_out 2 B hout () (Or.inl ⟨rfl, k1⟩) rfl (Nat.le_of_ble_eq_true rfl) (Nat.le_of_ble_eq_true rfl)
      ·
        exact VX_out 2 B hout () (Or.inr ⟨rfl, k2⟩) rfl (Nat.le_of_ble_eq_true rfl) (Nat.le_of_ble_eq_true rfl)
    ·
      exact w0.elim)
theorem dX11_unbind_0 : decode cX11_unbind 0 = .ok (.aload_n 0, 1) := by decide +kernel
theorem dX11_unbind_1 : decode cX11_unbind 1 = .ok (.iload_n 1, 1) := by decide +kernel
theorem dX11_unbind_2 : decode cX11_unbind 2 = .ok (.invokevirtual 167, 3) := by decide +kernel
set_option maxRecDepth 100000 in
set_option maxHeartbeats 4000000 in
theorem mX11_unbind_1 (l : Launch) (hl9 : l.stackTraces = false) (D : va_G) (Y : Nat → ClassId) (h0 : Nat) (h1 : Nat) (g0 : Nat) (g1 : Nat) (g2 : Nat) (g3 : Nat) (g4 : Nat) (g5 : Nat) (g6 : Nat) (g7 : Nat) (g8 : Nat) (g9 : Nat) (g10 : Nat) (g11 : Nat) (g12 : Nat) (h2 : Nat) (g13 : Nat) (g14 : Nat) (g15 : Nat) (g16 : Nat) (g17 : Nat) (g18 : Nat) (p0 : Int32) (sz : Nat) : vx_Met l yX11_unbind (WSm yX11_unbind cX11_unbind 2 (some .int)) (mkR 7 1 6 103) (PreX D Y [.ref h0, .int p0] [(h0, oC 12 [.ref h1, .ref g0, .ref g1, .ref g2, .ref g3, .ref g4, .ref g5, .ref g6, .ref g7, .long 0]), (h1, oC 2 [.ref g8, .ref g9, .ref g10, .ref g11, .ref g12, .ref h2, .ref g13, .ref g14, .ref g15, .ref g16, .ref g17, .int 0]), (h2, oC 3 [.ref g18, .int 0])] sz) (QI D (fun (r : Int32) (u : Unit) => False) (fun (_ : Unit) => [(h0, oC 12 [.ref h1, .ref g0, .ref g1, .ref g2, .ref g3, .ref g4, .ref g5, .ref g6, .ref g7, .long 0]), (h1, oC 2 [.ref g8, .ref g9, .ref g10, .ref g11, .ref g12, .ref h2, .ref g13, .ref g14, .ref g15, .ref g16, .ref g17, .int 0]), (h2, oC 3 [.ref g18, .int 0])]) (va_A [(h0, oC 12 [.ref h1, .ref g0, .ref g1, .ref g2, .ref g3, .ref g4, .ref g5, .ref g6, .ref g7, .long 0]), (h1, oC 2 [.ref g8, .ref g9, .ref g10, .ref g11, .ref g12, .ref h2, .ref g13, .ref g14, .ref g15, .ref g16, .ref g17, .int 0]), (h2, oC 3 [.ref g18, .int 0])] sz)) (XW D (fun (E : String) (u : Unit) => (E = "java/lang/IndexOutOfBoundsException" ∧ p0 < 0) ∨ (E = "java/lang/IndexOutOfBoundsException" ∧ ¬ p0 < 0)) (fun (_ : Unit) => [(h0, oC 12 [.ref h1, .ref g0, .ref g1, .ref g2, .ref g3, .ref g4, .ref g5, .ref g6, .ref g7, .long 0]), (h1, oC 2 [.ref g8, .ref g9, .ref g10, .ref g11, .ref g12, .ref h2, .ref g13, .ref g14, .ref g15, .ref g16, .ref g17, .int 0]), (h2, oC 3 [.ref g18, .int 0])]) (va_A [(h0, oC 12 [.ref h1, .ref g0, .ref g1, .ref g2, .ref g3, .ref g4, .ref g5, .ref g6, .ref g7, .long 0]), (h1, oC 2 [.ref g8, .ref g9, .ref g10, .ref g11, .ref g12, .ref h2, .ref g13, .ref g14, .ref g15, .ref g16, .ref g17, .int 0]), (h2, oC 3 [.ref g18, .int 0])] sz)) 1 6 (va_A [(h0, oC 12 [.ref h1, .ref g0, .ref g1, .ref g2, .ref g3, .ref g4, .ref g5, .ref g6, .ref g7, .long 0]), (h1, oC 2 [.ref g8, .ref g9, .ref g10, .ref g11, .ref g12, .ref h2, .ref g13, .ref g14, .ref g15, .ref g16, .ref g17, .int 0]), (h2, oC 3 [.ref g18, .int 0])] sz) :=
  xmet_of (by decide +kernel) (Nat.le_of_ble_eq_true rfl) (fun p e s m args below meth c B EB hout hsz => by
    have B : VB p s m args meth c D Y (va_A [(h0, oC 12 [.ref h1, .ref g0, .ref g1, .ref g2, .ref g3, .ref g4, .ref g5, .ref g6, .ref g7, .long 0]), (h1, oC 2 [.ref g8, .ref g9, .ref g10, .ref g11, .ref g12, .ref h2, .ref g13, .ref g14, .ref g15, .ref g16, .ref g17, .int 0]), (h2, oC 3 [.ref g18, .int 0])] sz) cX11_unbind 2 RX11 (some .int) := B
    refine V_aload_n 0 B dX11_unbind_0 0 rfl ?_
    refine V_iload_n 1 B dX11_unbind_1 1 rfl ?_
    refine V_xvv 2 B EB (st := []) (As := [.int p0]) (fun sz => mX11_needBinding_1 l hl9 D Y (h0) (h1) (g0) (g1) (g2) (g3) (g4) (g5) (g6) (g7) (g8) (g9) (g10) (g11) (g12) (h2) (g13) (g14) (g15) (g16) (g17) (g18) (p0) sz) glV_RX11_167 ⟨rfl, rfl⟩ ⟨(Nat.le_of_ble_eq_true rfl), (Nat.le_of_ble_eq_true rfl)⟩ ⟨(Nat.le_of_ble_eq_true rfl), (Nat.le_of_ble_eq_true rfl)⟩ [0, 0, 0] rfl 12 0 rfl rfl rfl rfl (Nat.le_of_ble_eq_true rfl) rfl (fun _ _ => rfl) (fun _ _ _ => rfl) dX11_unbind_2 (fun E u0 w0 => ?_) (fun u0 w0 => ?_)
    ·
      rcases w0 with ⟨rfl, k1⟩ | ⟨rfl, k2⟩
      ·
        exact VX_out 2 B hout () (Or.inl ⟨rfl, k1⟩) rfl (Nat.le_of_ble_eq_true rfl) (Nat.le_of_ble_eq_true rfl)
      ·
        exact VX_out 2 B hout () (Or.inr ⟨rfl, k2⟩) rfl (Nat.le_of_ble_eq_true rfl) (Nat.le_of_ble_eq_true rfl)
    ·
      exact w0.elim)
theorem dX11_binding_0 : decode cX11_binding 0 = .ok (.aload_n 0, 1) := by decide +kernel
theorem dX11_binding_1 : decode cX11_binding 1 = .ok (.iload_n 1, 1) := by decide +kernel
theorem dX11_binding_2 : decode cX11_binding 2 = .ok (.invokevirtual 167, 3) := by decide +kernel
set_option maxRecDepth 100000 in
set_option maxHeartbeats 4000000 in
theorem mX11_binding_1 (l : Launch) (hl9 : l.stackTraces = false) (D : va_G) (Y : Nat → ClassId) (h0 : Nat) (h1 : Nat) (g0 : Nat) (g1 : Nat) (g2 : Nat) (g3 : Nat) (g4 : Nat) (g5 : Nat) (g6 : Nat) (g7 : Nat) (g8 : Nat) (g9 : Nat) (g10 : Nat) (g11 : Nat) (g12 : Nat) (h2 : Nat) (g13 : Nat) (g14 : Nat) (g15 : Nat) (g16 : Nat) (g17 : Nat) (g18 : Nat) (p0 : Int32) (p1 : Int32) (sz : Nat) : vx_Met l yX11_binding (WSm yX11_binding cX11_binding 3 (some .int)) (mkR 7 1 6 103) (PreX D Y [.ref h0, .int p0, .int p1] [(h0, oC 12 [.ref h1, .ref g0, .ref g1, .ref g2, .ref g3, .ref g4, .ref g5, .ref g6, .ref g7, .long 0]), (h1, oC 2 [.ref g8, .ref g9, .ref g10, .ref g11, .ref g12, .ref h2, .ref g13, .ref g14, .ref g15, .ref g16, .ref g17, .int 0]), (h2, oC 3 [.ref g18, .int 0])] sz) (QI D (fun (r : Int32) (u : Unit) => False) (fun (_ : Unit) => [(h0, oC 12 [.ref h1, .ref g0, .ref g1, .ref g2, .ref g3, .ref g4, .ref g5, .ref g6, .ref g7, .long 0]), (h1, oC 2 [.ref g8, .ref g9, .ref g10, .ref g11, .ref g12, .ref h2, .ref g13, .ref g14, .ref g15, .ref g16, .ref g17, .int 0]), (h2, oC 3 [.ref g18, .int 0])]) (va_A [(h0, oC 12 [.ref h1, .ref g0, .ref g1, .ref g2, .ref g3, .ref g4, .ref g5, .ref g6, .ref g7, .long 0]), (h1, oC 2 [.ref g8, .ref g9, .ref g10, .ref g11, .ref g12, .ref h2, .ref g13, .ref g14, .ref g15, .ref g16, .ref g17, .int 0]), (h2, oC 3 [.ref g18, .int 0])] sz)) (XW D (fun (E : String) (u : Unit) => (E = "java/lang/IndexOutOfBoundsException" ∧ p0 < 0) ∨ (E = "java/lang/IndexOutOfBoundsException" ∧ ¬ p0 < 0)) (fun (_ : Unit) => [(h0, oC 12 [.ref h1, .ref g0, .ref g1, .ref g2, .ref g3, .ref g4, .ref g5, .ref g6, .ref g7, .long 0]), (h1, oC 2 [.ref g8, .ref g9, .ref g10, .ref g11, .ref g12, .ref h2, .ref g13, .ref g14, .ref g15, .ref g16, .ref g17, .int 0]), (h2, oC 3 [.ref g18, .int 0])]) (va_A [(h0, oC 12 [.ref h1, .ref g0, .ref g1, .ref g2, .ref g3, .ref g4, .ref g5, .ref g6, .ref g7, .long 0]), (h1, oC 2 [.ref g8, .ref g9, .ref g10, .ref g11, .ref g12, .ref h2, .ref g13, .ref g14, .ref g15, .ref g16, .ref g17, .int 0]), (h2, oC 3 [.ref g18, .int 0])] sz)) 1 6 (va_A [(h0, oC 12 [.ref h1, .ref g0, .ref g1, .ref g2, .ref g3, .ref g4, .ref g5, .ref g6, .ref g7, .long 0]), (h1, oC 2 [.ref g8, .ref g9, .ref g10, .ref g11, .ref g12, .ref h2, .ref g13, .ref g14, .ref g15, .ref g16, .ref g17, .int 0]), (h2, oC 3 [.ref g18, .int 0])] sz) :=
  xmet_of (by decide +kernel) (Nat.le_of_ble_eq_true rfl) (fun p e s m args below meth c B EB hout hsz => by
    have B : VB p s m args meth c D Y (va_A [(h0, oC 12 [.ref h1, .ref g0, .ref g1, .ref g2, .ref g3, .ref g4, .ref g5, .ref g6, .ref g7, .long 0]), (h1, oC 2 [.ref g8, .ref g9, .ref g10, .ref g11, .ref g12, .ref h2, .ref g13, .ref g14, .ref g15, .ref g16, .ref g17, .int 0]), (h2, oC 3 [.ref g18, .int 0])] sz) cX11_binding 3 RX11 (some .int) := B
    refine V_aload_n 0 B dX11_binding_0 0 rfl ?_
    refine V_iload_n 1 B dX11_binding_1 1 rfl ?_
    refine V_xvv 2 B EB (st := []) (As := [.int p0]) (fun sz => mX11_needBinding_1 l hl9 D Y (h0) (h1) (g0) (g1) (g2) (g3) (g4) (g5) (g6) (g7) (g8) (g9) (g10) (g11) (g12) (h2) (g13) (g14) (g15) (g16) (g17) (g18) (p0) sz) glV_RX11_167 ⟨rfl, rfl⟩ ⟨(Nat.le_of_ble_eq_true rfl), (Nat.le_of_ble_eq_true rfl)⟩ ⟨(Nat.le_of_ble_eq_true rfl), (Nat.le_of_ble_eq_true rfl)⟩ [0, 0, 0] rfl 12 0 rfl rfl rfl rfl (Nat.le_of_ble_eq_true rfl) rfl (fun _ _ => rfl) (fun _ _ _ => rfl) dX11_binding_2 (fun E u0 w0 => ?_) (fun u0 w0 => ?_)
    ·
      rcases w0 with ⟨rfl, k1⟩ | ⟨rfl, k2⟩
      ·
        exact VX_out 2 B hout () (Or.inl ⟨rfl, k1⟩) rfl (Nat.le_of_ble_eq_true rfl) (Nat.le_of_ble_eq_true rfl)
      ·
        exact VX_out 2 B hout () (Or.inr ⟨rfl, k2⟩) rfl (Nat.le_of_ble_eq_true rfl) (Nat.le_of_ble_eq_true rfl)
    ·
      exact w0.elim)
theorem dX11_bindingStroke_0 : decode cX11_bindingStroke 0 = .ok (.aload_n 0, 1) := by decide +kernel
theorem dX11_bindingStroke_1 : decode cX11_bindingStroke 1 = .ok (.iload_n 1, 1) := by decide +kernel
theorem dX11_bindingStroke_2 : decode cX11_bindingStroke 2 = .ok (.invokevirtual 167, 3) := by decide +kernel
set_option maxRecDepth 100000 in
set_option maxHeartbeats 4000000 in
theorem mX11_bindingStroke_1 (l : Launch) (hl9 : l.stackTraces = false) (D : va_G) (Y : Nat → ClassId) (h0 : Nat) (h1 : Nat) (g0 : Nat) (g1 : Nat) (g2 : Nat) (g3 : Nat) (g4 : Nat) (g5 : Nat) (g6 : Nat) (g7 : Nat) (g8 : Nat) (g9 : Nat) (g10 : Nat) (g11 : Nat) (g12 : Nat) (h2 : Nat) (g13 : Nat) (g14 : Nat) (g15 : Nat) (g16 : Nat) (g17 : Nat) (g18 : Nat) (p0 : Int32) (p1 : Int32) (sz : Nat) : vx_Met l yX11_bindingStroke (WSm yX11_bindingStroke cX11_bindingStroke 3 (some .int)) (mkR 7 1 6 103) (PreX D Y [.ref h0, .int p0, .int p1] [(h0, oC 12 [.ref h1, .ref g0, .ref g1, .ref g2, .ref g3, .ref g4, .ref g5, .ref g6, .ref g7, .long 0]), (h1, oC 2 [.ref g8, .ref g9, .ref g10, .ref g11, .ref g12, .ref h2, .ref g13, .ref g14, .ref g15, .ref g16, .ref g17, .int 0]), (h2, oC 3 [.ref g18, .int 0])] sz) (QI D (fun (r : Int32) (u : Unit) => False) (fun (_ : Unit) => [(h0, oC 12 [.ref h1, .ref g0, .ref g1, .ref g2, .ref g3, .ref g4, .ref g5, .ref g6, .ref g7, .long 0]), (h1, oC 2 [.ref g8, .ref g9, .ref g10, .ref g11, .ref g12, .ref h2, .ref g13, .ref g14, .ref g15, .ref g16, .ref g17, .int 0]), (h2, oC 3 [.ref g18, .int 0])]) (va_A [(h0, oC 12 [.ref h1, .ref g0, .ref g1, .ref g2, .ref g3, .ref g4, .ref g5, .ref g6, .ref g7, .long 0]), (h1, oC 2 [.ref g8, .ref g9, .ref g10, .ref g11, .ref g12, .ref h2, .ref g13, .ref g14, .ref g15, .ref g16, .ref g17, .int 0]), (h2, oC 3 [.ref g18, .int 0])] sz)) (XW D (fun (E : String) (u : Unit) => (E = "java/lang/IndexOutOfBoundsException" ∧ p0 < 0) ∨ (E = "java/lang/IndexOutOfBoundsException" ∧ ¬ p0 < 0)) (fun (_ : Unit) => [(h0, oC 12 [.ref h1, .ref g0, .ref g1, .ref g2, .ref g3, .ref g4, .ref g5, .ref g6, .ref g7, .long 0]), (h1, oC 2 [.ref g8, .ref g9, .ref g10, .ref g11, .ref g12, .ref h2, .ref g13, .ref g14, .ref g15, .ref g16, .ref g17, .int 0]), (h2, oC 3 [.ref g18, .int 0])]) (va_A [(h0, oC 12 [.ref h1, .ref g0, .ref g1, .ref g2, .ref g3, .ref g4, .ref g5, .ref g6, .ref g7, .long 0]), (h1, oC 2 [.ref g8, .ref g9, .ref g10, .ref g11, .ref g12, .ref h2, .ref g13, .ref g14, .ref g15, .ref g16, .ref g17, .int 0]), (h2, oC 3 [.ref g18, .int 0])] sz)) 1 6 (va_A [(h0, oC 12 [.ref h1, .ref g0, .ref g1, .ref g2, .ref g3, .ref g4, .ref g5, .ref g6, .ref g7, .long 0]), (h1, oC 2 [.ref g8, .ref g9, .ref g10, .ref g11, .ref g12, .ref h2, .ref g13, .ref g14, .ref g15, .ref g16, .ref g17, .int 0]), (h2, oC 3 [.ref g18, .int 0])] sz) :=
  xmet_of (by decide +kernel) (Nat.le_of_ble_eq_true rfl) (fun p e s m args below meth c B EB hout hsz => by
    have B : VB p s m args meth c D Y (va_A [(h0, oC 12 [.ref h1, .ref g0, .ref g1, .ref g2, .ref g3, .ref g4, .ref g5, .ref g6, .ref g7, .long 0]), (h1, oC 2 [.ref g8, .ref g9, .ref g10, .ref g11, .ref g12, .ref h2, .ref g13, .ref g14, .ref g15, .ref g16, .ref g17, .int 0]), (h2, oC 3 [.ref g18, .int 0])] sz) cX11_bindingStroke 3 RX11 (some .int) := B
    refine V_aload_n 0 B dX11_bindingStroke_0 0 rfl ?_
    refine V_iload_n 1 B dX11_bindingStroke_1 1 rfl ?_
    refine V_xvv 2 B EB (st := []) (As := [.int p0]) (fun sz => mX11_needBinding_1 l hl9 D Y (h0) (h1) (g0) (g1) (g2) (g3) (g4) (g5) (g6) (g7) (g8) (g9) (g10) (g11) (g12) (h2) (g13) (g14) (g15) (g16) (g17) (g18) (p0) sz) glV_RX11_167 ⟨rfl, rfl⟩ ⟨(Nat.le_of_ble_eq_true rfl), (Nat.le_of_ble_eq_true rfl)⟩ ⟨(Nat.le_of_ble_eq_true rfl), (Nat.le_of_ble_eq_true rfl)⟩ [0, 0, 0] rfl 12 0 rfl rfl rfl rfl (Nat.le_of_ble_eq_true rfl) rfl (fun _ _ => rfl) (fun _ _ _ => rfl) dX11_bindingStroke_2 (fun E u0 w0 => ?_) (fun u0 w0 => ?_)
    ·
      rcases w0 with ⟨rfl, k1⟩ | ⟨rfl, k2⟩
      ·
        exact VX_out 2 B hout () (Or.inl ⟨rfl, k1⟩) rfl (Nat.le_of_ble_eq_true rfl) (Nat.le_of_ble_eq_true rfl)
      ·
        exact VX_out 2 B hout () (Or.inr ⟨rfl, k2⟩) rfl (Nat.le_of_ble_eq_true rfl) (Nat.le_of_ble_eq_true rfl)
    ·
      exact w0.elim)
theorem dX11_clashing_0 : decode cX11_clashing 0 = .ok (.aload_n 0, 1) := by decide +kernel
theorem dX11_clashing_1 : decode cX11_clashing 1 = .ok (.iload_n 1, 1) := by decide +kernel
theorem dX11_clashing_2 : decode cX11_clashing 2 = .ok (.invokevirtual 180, 3) := by decide +kernel
theorem dX11_clashing_5 : decode cX11_clashing 5 = .ok (.aload_n 0, 1) := by decide +kernel
theorem dX11_clashing_6 : decode cX11_clashing 6 = .ok (.getfield 68, 3) := by decide +kernel
theorem dX11_clashing_9 : decode cX11_clashing 9 = .ok (.lconst 0, 1) := by decide +kernel
theorem dX11_clashing_10 : decode cX11_clashing 10 = .ok (.lcmp, 1) := by decide +kernel
theorem dX11_clashing_11 : decode cX11_clashing 11 = .ok (.ifCond .ne 8, 3) := by decide +kernel
theorem dX11_clashing_14 : decode cX11_clashing 14 = .ok (.bipush (-4), 2) := by decide +kernel
theorem dX11_clashing_16 : decode cX11_clashing 16 = .ok (.goto 16, 3) := by decide +kernel
theorem dX11_clashing_32 : decode cX11_clashing 32 = .ok (.ireturn, 1) := by decide +kernel
set_option maxRecDepth 100000 in
set_option maxHeartbeats 4000000 in
theorem mX11_clashing_1 (l : Launch) (hl9 : l.stackTraces = false) (D : va_G) (Y : Nat → ClassId) (h0 : Nat) (h1 : Nat) (g0 : Nat) (g1 : Nat) (g2 : Nat) (g3 : Nat) (g4 : Nat) (g5 : Nat) (g6 : Nat) (g7 : Nat) (h2 : Nat) (g8 : Nat) (g9 : Nat) (g10 : Nat) (g11 : Nat) (g12 : Nat) (g13 : Nat) (g14 : Nat) (g15 : Nat) (g16 : Nat) (g17 : Nat) (g18 : Nat) (p0 : Int32) (sz : Nat) : vx_Met l yX11_clashing (WSm yX11_clashing cX11_clashing 2 (some .int)) (mkR 7 1 6 103) (PreX D Y [.ref h0, .int p0] [(h0, oC 12 [.ref h1, .ref g0, .ref g1, .ref g2, .ref g3, .ref g4, .ref g5, .ref g6, .ref g7, .long 0]), (h1, oC 2 [.ref h2, .ref g8, .ref g9, .ref g10, .ref g11, .ref g12, .ref g13, .ref g14, .ref g15, .ref g16, .ref g17, .int 0]), (h2, oC 3 [.ref g18, .int 1])] sz) (QI D (fun (r : Int32) (u : Unit) => p0 = 0 ∧ (-4) = r) (fun (_ : Unit) => [(h0, oC 12 [.ref h1, .ref g0, .ref g1, .ref g2, .ref g3, .ref g4, .ref g5, .ref g6, .ref g7, .long 0]), (h1, oC 2 [.ref h2, .ref g8, .ref g9, .ref g10, .ref g11, .ref g12, .ref g13, .ref g14, .ref g15, .ref g16, .ref g17, .int 0]), (h2, oC 3 [.ref g18, .int 1])]) (va_A [(h0, oC 12 [.ref h1, .ref g0, .ref g1, .ref g2, .ref g3, .ref g4, .ref g5, .ref g6, .ref g7, .long 0]), (h1, oC 2 [.ref h2, .ref g8, .ref g9, .ref g10, .ref g11, .ref g12, .ref g13, .ref g14, .ref g15, .ref g16, .ref g17, .int 0]), (h2, oC 3 [.ref g18, .int 1])] sz)) (XW D (fun (E : String) (u : Unit) => (E = "java/lang/IndexOutOfBoundsException" ∧ p0 < 0) ∨ (E = "java/lang/IndexOutOfBoundsException" ∧ ¬ p0 < 0 ∧ 1 ≤ p0)) (fun (_ : Unit) => [(h0, oC 12 [.ref h1, .ref g0, .ref g1, .ref g2, .ref g3, .ref g4, .ref g5, .ref g6, .ref g7, .long 0]), (h1, oC 2 [.ref h2, .ref g8, .ref g9, .ref g10, .ref g11, .ref g12, .ref g13, .ref g14, .ref g15, .ref g16, .ref g17, .int 0]), (h2, oC 3 [.ref g18, .int 1])]) (va_A [(h0, oC 12 [.ref h1, .ref g0, .ref g1, .ref g2, .ref g3, .ref g4, .ref g5, .ref g6, .ref g7, .long 0]), (h1, oC 2 [.ref h2, .ref g8, .ref g9, .ref g10, .ref g11, .ref g12, .ref g13, .ref g14, .ref g15, .ref g16, .ref g17, .int 0]), (h2, oC 3 [.ref g18, .int 1])] sz)) 1 6 (va_A [(h0, oC 12 [.ref h1, .ref g0, .ref g1, .ref g2, .ref g3, .ref g4, .ref g5, .ref g6, .ref g7, .long 0]), (h1, oC 2 [.ref h2, .ref g8, .ref g9, .ref g10, .ref g11, .ref g12, .ref g13, .ref g14, .ref g15, .ref g16, .ref g17, .int 0]), (h2, oC 3 [.ref g18, .int 1])] sz) :=
  xmet_of (by decide +kernel) (Nat.le_of_ble_eq_true rfl) (fun p e s m args below meth c B EB hout hsz => by
    have B : VB p s m args meth c D Y (va_A [(h0, oC 12 [.ref h1, .ref g0, .ref g1, .ref g2, .ref g3, .ref g4, .ref g5, .ref g6, .ref g7, .long 0]), (h1, oC 2 [.ref h2, .ref g8, .ref g9, .ref g10, .ref g11, .ref g12, .ref g13, .ref g14, .ref g15, .ref g16, .ref g17, .int 0]), (h2, oC 3 [.ref g18, .int 1])] sz) cX11_clashing 2 RX11 (some .int) := B
    refine V_aload_n 0 B dX11_clashing_0 0 rfl ?_
    refine V_iload_n 1 B dX11_clashing_1 1 rfl ?_
    refine V_xvv 2 B EB (st := []) (As := [.int p0]) (fun sz => mX11_needMode_1 l hl9 D Y (h0) (h1) (g0) (g1) (g2) (g3) (g4) (g5) (g6) (g7) (h2) (g8) (g9) (g10) (g11) (g12) (g13) (g14) (g15) (g16) (g17) (g18) (p0) sz) glV_RX11_180 ⟨rfl, rfl⟩ ⟨(Nat.le_of_ble_eq_true rfl), (Nat.le_of_ble_eq_true rfl)⟩ ⟨(Nat.le_of_ble_eq_true rfl), (Nat.le_of_ble_eq_true rfl)⟩ [0, 0, 0] rfl 12 0 rfl rfl rfl rfl (Nat.le_of_ble_eq_true rfl) rfl (fun _ _ => rfl) (fun _ _ _ => rfl) dX11_clashing_2 (fun E u0 w0 => ?_) (fun u0 w0 => ?_)
    ·
      rcases w0 with ⟨rfl, k1⟩ | ⟨rfl, k2, k3⟩
      ·
        exact VX_out 2 B hout () (Or.inl ⟨rfl, k1⟩) rfl (Nat.le_of_ble_eq_true rfl) (Nat.le_of_ble_eq_true rfl)
      ·
        exact VX_out 2 B hout () (Or.inr ⟨rfl, k2, k3⟩) rfl (Nat.le_of_ble_eq_true rfl) (Nat.le_of_ble_eq_true rfl)
    ·
      have k4 := w0
      refine V_ws [(h0, oC 12 [.ref h1, .ref g0, .ref g1, .ref g2, .ref g3, .ref g4, .ref g5, .ref g6, .ref g7, .long 0]), (h1, oC 2 [.ref h2, .ref g8, .ref g9, .ref g10, .ref g11, .ref g12, .ref g13, .ref g14, .ref g15, .ref g16, .ref g17, .int 0]), (h2, oC 3 [.ref g18, .int 1])] rfl ?_
      obtain rfl : p0 = 0 := k4
      refine V_aload_n 5 B dX11_clashing_5 0 rfl ?_
      refine V_get 6 B gf_RX11_68 0 rfl rfl dX11_clashing_6 ?_
      refine V_lconst 9 B (v := 0) dX11_clashing_9 (by decide +kernel) ?_
      refine V_lcmp 10 B (v := 0) dX11_clashing_10 (by decide +kernel) ?_
      refine V_if_ne_f 11 B 19 dX11_clashing_11 (by decide) (by decide +kernel) ?_
      refine V_bipush 14 B (v := (-4)) dX11_clashing_14 (by decide +kernel) ?_
      refine V_goto 16 B 32 dX11_clashing_16 (by decide) ?_
      refine V_xret ?_
      exact V_iret 32 B dX11_clashing_32 () ⟨rfl, rfl⟩ rfl)
theorem dX11_clashes_0 : decode cX11_clashes 0 = .ok (.aload_n 0, 1) := by decide +kernel
theorem dX11_clashes_1 : decode cX11_clashes 1 = .ok (.iload_n 1, 1) := by decide +kernel
theorem dX11_clashes_2 : decode cX11_clashes 2 = .ok (.invokevirtual 180, 3) := by decide +kernel
theorem dX11_clashes_5 : decode cX11_clashes 5 = .ok (.aload_n 0, 1) := by decide +kernel
theorem dX11_clashes_6 : decode cX11_clashes 6 = .ok (.getfield 68, 3) := by decide +kernel
theorem dX11_clashes_9 : decode cX11_clashes 9 = .ok (.lconst 0, 1) := by decide +kernel
theorem dX11_clashes_10 : decode cX11_clashes 10 = .ok (.lcmp, 1) := by decide +kernel
theorem dX11_clashes_11 : decode cX11_clashes 11 = .ok (.ifCond .ne 8, 3) := by decide +kernel
theorem dX11_clashes_14 : decode cX11_clashes 14 = .ok (.bipush (-4), 2) := by decide +kernel
theorem dX11_clashes_16 : decode cX11_clashes 16 = .ok (.goto 15, 3) := by decide +kernel
theorem dX11_clashes_31 : decode cX11_clashes 31 = .ok (.ireturn, 1) := by decide +kernel
set_option maxRecDepth 100000 in
set_option maxHeartbeats 4000000 in
theorem mX11_clashes_1 (l : Launch) (hl9 : l.stackTraces = false) (D : va_G) (Y : Nat → ClassId) (h0 : Nat) (h1 : Nat) (g0 : Nat) (g1 : Nat) (g2 : Nat) (g3 : Nat) (g4 : Nat) (g5 : Nat) (g6 : Nat) (g7 : Nat) (h2 : Nat) (g8 : Nat) (g9 : Nat) (g10 : Nat) (g11 : Nat) (g12 : Nat) (g13 : Nat) (g14 : Nat) (g15 : Nat) (g16 : Nat) (g17 : Nat) (g18 : Nat) (p0 : Int32) (sz : Nat) : vx_Met l yX11_clashes (WSm yX11_clashes cX11_clashes 2 (some .int)) (mkR 7 1 6 103) (PreX D Y [.ref h0, .int p0] [(h0, oC 12 [.ref h1, .ref g0, .ref g1, .ref g2, .ref g3, .ref g4, .ref g5, .ref g6, .ref g7, .long 0]), (h1, oC 2 [.ref h2, .ref g8, .ref g9, .ref g10, .ref g11, .ref g12, .ref g13, .ref g14, .ref g15, .ref g16, .ref g17, .int 0]), (h2, oC 3 [.ref g18, .int 1])] sz) (QI D (fun (r : Int32) (u : Unit) => p0 = 0 ∧ (-4) = r) (fun (_ : Unit) => [(h0, oC 12 [.ref h1, .ref g0, .ref g1, .ref g2, .ref g3, .ref g4, .ref g5, .ref g6, .ref g7, .long 0]), (h1, oC 2 [.ref h2, .ref g8, .ref g9, .ref g10, .ref g11, .ref g12, .ref g13, .ref g14, .ref g15, .ref g16, .ref g17, .int 0]), (h2, oC 3 [.ref g18, .int 1])]) (va_A [(h0, oC 12 [.ref h1, .ref g0, .ref g1, .ref g2, .ref g3, .ref g4, .ref g5, .ref g6, .ref g7, .long 0]), (h1, oC 2 [.ref h2, .ref g8, .ref g9, .ref g10, .ref g11, .ref g12, .ref g13, .ref g14, .ref g15, .ref g16, .ref g17, .int 0]), (h2, oC 3 [.ref g18, .int 1])] sz)) (XW D (fun (E : String) (u : Unit) => (E = "java/lang/IndexOutOfBoundsException" ∧ p0 < 0) ∨ (E = "java/lang/IndexOutOfBoundsException" ∧ ¬ p0 < 0 ∧ 1 ≤ p0)) (fun (_ : Unit) => [(h0, oC 12 [.ref h1, .ref g0, .ref g1, .ref g2, .ref g3, .ref g4, .ref g5, .ref g6, .ref g7, .long 0]), (h1, oC 2 [.ref h2, .ref g8, .ref g9, .ref g10, .ref g11, .ref g12, .ref g13, .ref g14, .ref g15, .ref g16, .ref g17, .int 0]), (h2, oC 3 [.ref g18, .int 1])]) (va_A [(h0, oC 12 [.ref h1, .ref g0, .ref g1, .ref g2, .ref g3, .ref g4, .ref g5, .ref g6, .ref g7, .long 0]), (h1, oC 2 [.ref h2, .ref g8, .ref g9, .ref g10, .ref g11, .ref g12, .ref g13, .ref g14, .ref g15, .ref g16, .ref g17, .int 0]), (h2, oC 3 [.ref g18, .int 1])] sz)) 1 6 (va_A [(h0, oC 12 [.ref h1, .ref g0, .ref g1, .ref g2, .ref g3, .ref g4, .ref g5, .ref g6, .ref g7, .long 0]), (h1, oC 2 [.ref h2, .ref g8, .ref g9, .ref g10, .ref g11, .ref g12, .ref g13, .ref g14, .ref g15, .ref g16, .ref g17, .int 0]), (h2, oC 3 [.ref g18, .int 1])] sz) :=
  xmet_of (by decide +kernel) (Nat.le_of_ble_eq_true rfl) (fun p e s m args below meth c B EB hout hsz => by
    have B : VB p s m args meth c D Y (va_A [(h0, oC 12 [.ref h1, .ref g0, .ref g1, .ref g2, .ref g3, .ref g4, .ref g5, .ref g6, .ref g7, .long 0]), (h1, oC 2 [.ref h2, .ref g8, .ref g9, .ref g10, .ref g11, .ref g12, .ref g13, .ref g14, .ref g15, .ref g16, .ref g17, .int 0]), (h2, oC 3 [.ref g18, .int 1])] sz) cX11_clashes 2 RX11 (some .int) := B
    refine V_aload_n 0 B dX11_clashes_0 0 rfl ?_
    refine V_iload_n 1 B dX11_clashes_1 1 rfl ?_
    refine V_xvv 2 B EB (st := []) (As := [.int p0]) (fun sz => mX11_needMode_1 l hl9 D Y (h0) (h1) (g0) (g1) (g2) (g3) (g4) (g5) (g6) (g7) (h2) (g8) (g9) (g10) (g11) (g12) (g13) (g14) (g15) (g16) (g17) (g18) (p0) sz) glV_RX11_180 ⟨rfl, rfl⟩ ⟨(Nat.le_of_ble_eq_true rfl), (Nat.le_of_ble_eq_true rfl)⟩ ⟨(Nat.le_of_ble_eq_true rfl), (Nat.le_of_ble_eq_true rfl)⟩ [0, 0, 0] rfl 12 0 rfl rfl rfl rfl (Nat.le_of_ble_eq_true rfl) rfl (fun _ _ => rfl) (fun _ _ _ => rfl) dX11_clashes_2 (fun E u0 w0 => ?_) (fun u0 w0 => ?_)
    ·
      rcases w0 with ⟨rfl, k1⟩ | ⟨rfl, k2, k3⟩
      ·
        exact VX_out 2 B hout () (Or.inl ⟨rfl, k1⟩) rfl (Nat.le_of_ble_eq_true rfl) (Nat.le_of_ble_eq_true rfl)
      ·
        exact VX_out 2 B hout () (Or.inr ⟨rfl, k2, k3⟩) rfl (Nat.le_of_ble_eq_true rfl) (Nat.le_of_ble_eq_true rfl)
    ·
      have k4 := w0
      refine V_ws [(h0, oC 12 [.ref h1, .ref g0, .ref g1, .ref g2, .ref g3, .ref g4, .ref g5, .ref g6, .ref g7, .long 0]), (h1, oC 2 [.ref h2, .ref g8, .ref g9, .ref g10, .ref g11, .ref g12, .ref g13, .ref g14, .ref g15, .ref g16, .ref g17, .int 0]), (h2, oC 3 [.ref g18, .int 1])] rfl ?_
      obtain rfl : p0 = 0 := k4
      refine V_aload_n 5 B dX11_clashes_5 0 rfl ?_
      refine V_get 6 B gf_RX11_68 0 rfl rfl dX11_clashes_6 ?_
      refine V_lconst 9 B (v := 0) dX11_clashes_9 (by decide +kernel) ?_
      refine V_lcmp 10 B (v := 0) dX11_clashes_10 (by decide +kernel) ?_
      refine V_if_ne_f 11 B 19 dX11_clashes_11 (by decide) (by decide +kernel) ?_
      refine V_bipush 14 B (v := (-4)) dX11_clashes_14 (by decide +kernel) ?_
      refine V_goto 16 B 31 dX11_clashes_16 (by decide) ?_
      refine V_xret ?_
      exact V_iret 31 B dX11_clashes_31 () ⟨rfl, rfl⟩ rfl)
theorem dX11_reason_0 : decode cX11_reason 0 = .ok (.aload_n 0, 1) := by decide +kernel
theorem dX11_reason_1 : decode cX11_reason 1 = .ok (.iload_n 1, 1) := by decide +kernel
theorem dX11_reason_2 : decode cX11_reason 2 = .ok (.invokevirtual 180, 3) := by decide +kernel
theorem dX11_reason_5 : decode cX11_reason 5 = .ok (.aload_n 0, 1) := by decide +kernel
theorem dX11_reason_6 : decode cX11_reason 6 = .ok (.getfield 68, 3) := by decide +kernel
theorem dX11_reason_9 : decode cX11_reason 9 = .ok (.lconst 0, 1) := by decide +kernel
theorem dX11_reason_10 : decode cX11_reason 10 = .ok (.lcmp, 1) := by decide +kernel
theorem dX11_reason_11 : decode cX11_reason 11 = .ok (.ifCond .ne 8, 3) := by decide +kernel
theorem dX11_reason_14 : decode cX11_reason 14 = .ok (.bipush (-4), 2) := by decide +kernel
theorem dX11_reason_16 : decode cX11_reason 16 = .ok (.goto 15, 3) := by decide +kernel
theorem dX11_reason_31 : decode cX11_reason 31 = .ok (.ireturn, 1) := by decide +kernel
set_option maxRecDepth 100000 in
set_option maxHeartbeats 4000000 in
theorem mX11_reason_1 (l : Launch) (hl9 : l.stackTraces = false) (D : va_G) (Y : Nat → ClassId) (h0 : Nat) (h1 : Nat) (g0 : Nat) (g1 : Nat) (g2 : Nat) (g3 : Nat) (g4 : Nat) (g5 : Nat) (g6 : Nat) (g7 : Nat) (h2 : Nat) (g8 : Nat) (g9 : Nat) (g10 : Nat) (g11 : Nat) (g12 : Nat) (g13 : Nat) (g14 : Nat) (g15 : Nat) (g16 : Nat) (g17 : Nat) (g18 : Nat) (p0 : Int32) (sz : Nat) : vx_Met l yX11_reason (WSm yX11_reason cX11_reason 2 (some .int)) (mkR 7 1 6 103) (PreX D Y [.ref h0, .int p0] [(h0, oC 12 [.ref h1, .ref g0, .ref g1, .ref g2, .ref g3, .ref g4, .ref g5, .ref g6, .ref g7, .long 0]), (h1, oC 2 [.ref h2, .ref g8, .ref g9, .ref g10, .ref g11, .ref g12, .ref g13, .ref g14, .ref g15, .ref g16, .ref g17, .int 0]), (h2, oC 3 [.ref g18, .int 1])] sz) (QI D (fun (r : Int32) (u : Unit) => p0 = 0 ∧ (-4) = r) (fun (_ : Unit) => [(h0, oC 12 [.ref h1, .ref g0, .ref g1, .ref g2, .ref g3, .ref g4, .ref g5, .ref g6, .ref g7, .long 0]), (h1, oC 2 [.ref h2, .ref g8, .ref g9, .ref g10, .ref g11, .ref g12, .ref g13, .ref g14, .ref g15, .ref g16, .ref g17, .int 0]), (h2, oC 3 [.ref g18, .int 1])]) (va_A [(h0, oC 12 [.ref h1, .ref g0, .ref g1, .ref g2, .ref g3, .ref g4, .ref g5, .ref g6, .ref g7, .long 0]), (h1, oC 2 [.ref h2, .ref g8, .ref g9, .ref g10, .ref g11, .ref g12, .ref g13, .ref g14, .ref g15, .ref g16, .ref g17, .int 0]), (h2, oC 3 [.ref g18, .int 1])] sz)) (XW D (fun (E : String) (u : Unit) => (E = "java/lang/IndexOutOfBoundsException" ∧ p0 < 0) ∨ (E = "java/lang/IndexOutOfBoundsException" ∧ ¬ p0 < 0 ∧ 1 ≤ p0)) (fun (_ : Unit) => [(h0, oC 12 [.ref h1, .ref g0, .ref g1, .ref g2, .ref g3, .ref g4, .ref g5, .ref g6, .ref g7, .long 0]), (h1, oC 2 [.ref h2, .ref g8, .ref g9, .ref g10, .ref g11, .ref g12, .ref g13, .ref g14, .ref g15, .ref g16, .ref g17, .int 0]), (h2, oC 3 [.ref g18, .int 1])]) (va_A [(h0, oC 12 [.ref h1, .ref g0, .ref g1, .ref g2, .ref g3, .ref g4, .ref g5, .ref g6, .ref g7, .long 0]), (h1, oC 2 [.ref h2, .ref g8, .ref g9, .ref g10, .ref g11, .ref g12, .ref g13, .ref g14, .ref g15, .ref g16, .ref g17, .int 0]), (h2, oC 3 [.ref g18, .int 1])] sz)) 1 6 (va_A [(h0, oC 12 [.ref h1, .ref g0, .ref g1, .ref g2, .ref g3, .ref g4, .ref g5, .ref g6, .ref g7, .long 0]), (h1, oC 2 [.ref h2, .ref g8, .ref g9, .ref g10, .ref g11, .ref g12, .ref g13, .ref g14, .ref g15, .ref g16, .ref g17, .int 0]), (h2, oC 3 [.ref g18, .int 1])] sz) :=
  xmet_of (by decide +kernel) (Nat.le_of_ble_eq_true rfl) (fun p e s m args below meth c B EB hout hsz => by
    have B : VB p s m args meth c D Y (va_A [(h0, oC 12 [.ref h1, .ref g0, .ref g1, .ref g2, .ref g3, .ref g4, .ref g5, .ref g6, .ref g7, .long 0]), (h1, oC 2 [.ref h2, .ref g8, .ref g9, .ref g10, .ref g11, .ref g12, .ref g13, .ref g14, .ref g15, .ref g16, .ref g17, .int 0]), (h2, oC 3 [.ref g18, .int 1])] sz) cX11_reason 2 RX11 (some .int) := B
    refine V_aload_n 0 B dX11_reason_0 0 rfl ?_
    refine V_iload_n 1 B dX11_reason_1 1 rfl ?_
    refine V_xvv 2 B EB (st := []) (As := [.int p0]) (fun sz => mX11_needMode_1 l hl9 D Y (h0) (h1) (g0) (g1) (g2) (g3) (g4) (g5) (g6) (g7) (h2) (g8) (g9) (g10) (g11) (g12) (g13) (g14) (g15) (g16) (g17) (g18) (p0) sz) glV_RX11_180 ⟨rfl, rfl⟩ ⟨(Nat.le_of_ble_eq_true rfl), (Nat.le_of_ble_eq_true rfl)⟩ ⟨(Nat.le_of_ble_eq_true rfl), (Nat.le_of_ble_eq_true rfl)⟩ [0, 0, 0] rfl 12 0 rfl rfl rfl rfl (Nat.le_of_ble_eq_true rfl) rfl (fun _ _ => rfl) (fun _ _ _ => rfl) dX11_reason_2 (fun E u0 w0 => ?_) (fun u0 w0 => ?_)
    ·
      rcases w0 with ⟨rfl, k1⟩ | ⟨rfl, k2, k3⟩
      ·
        exact VX_out 2 B hout () (Or.inl ⟨rfl, k1⟩) rfl (Nat.le_of_ble_eq_true rfl) (Nat.le_of_ble_eq_true rfl)
      ·
        exact VX_out 2 B hout () (Or.inr ⟨rfl, k2, k3⟩) rfl (Nat.le_of_ble_eq_true rfl) (Nat.le_of_ble_eq_true rfl)
    ·
      have k4 := w0
      refine V_ws [(h0, oC 12 [.ref h1, .ref g0, .ref g1, .ref g2, .ref g3, .ref g4, .ref g5, .ref g6, .ref g7, .long 0]), (h1, oC 2 [.ref h2, .ref g8, .ref g9, .ref g10, .ref g11, .ref g12, .ref g13, .ref g14, .ref g15, .ref g16, .ref g17, .int 0]), (h2, oC 3 [.ref g18, .int 1])] rfl ?_
      obtain rfl : p0 = 0 := k4
      refine V_aload_n 5 B dX11_reason_5 0 rfl ?_
      refine V_get 6 B gf_RX11_68 0 rfl rfl dX11_reason_6 ?_
      refine V_lconst 9 B (v := 0) dX11_reason_9 (by decide +kernel) ?_
      refine V_lcmp 10 B (v := 0) dX11_reason_10 (by decide +kernel) ?_
      refine V_if_ne_f 11 B 19 dX11_reason_11 (by decide) (by decide +kernel) ?_
      refine V_bipush 14 B (v := (-4)) dX11_reason_14 (by decide +kernel) ?_
      refine V_goto 16 B 31 dX11_reason_16 (by decide) ?_
      refine V_xret ?_
      exact V_iret 31 B dX11_reason_31 () ⟨rfl, rfl⟩ rfl)
theorem dX11_packed_0 : decode cX11_packed 0 = .ok (.aload_n 0, 1) := by decide +kernel
theorem dX11_packed_1 : decode cX11_packed 1 = .ok (.iload_n 1, 1) := by decide +kernel
theorem dX11_packed_2 : decode cX11_packed 2 = .ok (.invokevirtual 167, 3) := by decide +kernel
set_option maxRecDepth 100000 in
set_option maxHeartbeats 4000000 in
theorem mX11_packed_1 (l : Launch) (hl9 : l.stackTraces = false) (D : va_G) (Y : Nat → ClassId) (h0 : Nat) (h1 : Nat) (g0 : Nat) (g1 : Nat) (g2 : Nat) (g3 : Nat) (g4 : Nat) (g5 : Nat) (g6 : Nat) (g7 : Nat) (g8 : Nat) (g9 : Nat) (g10 : Nat) (g11 : Nat) (g12 : Nat) (h2 : Nat) (g13 : Nat) (g14 : Nat) (g15 : Nat) (g16 : Nat) (g17 : Nat) (g18 : Nat) (p0 : Int32) (p1 : Int32) (sz : Nat) : vx_Met l yX11_packed (WSm yX11_packed cX11_packed 5 (some .int)) (mkR 7 1 6 103) (PreX D Y [.ref h0, .int p0, .int p1] [(h0, oC 12 [.ref h1, .ref g0, .ref g1, .ref g2, .ref g3, .ref g4, .ref g5, .ref g6, .ref g7, .long 0]), (h1, oC 2 [.ref g8, .ref g9, .ref g10, .ref g11, .ref g12, .ref h2, .ref g13, .ref g14, .ref g15, .ref g16, .ref g17, .int 0]), (h2, oC 3 [.ref g18, .int 0])] sz) (QI D (fun (r : Int32) (u : Unit) => False) (fun (_ : Unit) => [(h0, oC 12 [.ref h1, .ref g0, .ref g1, .ref g2, .ref g3, .ref g4, .ref g5, .ref g6, .ref g7, .long 0]), (h1, oC 2 [.ref g8, .ref g9, .ref g10, .ref g11, .ref g12, .ref h2, .ref g13, .ref g14, .ref g15, .ref g16, .ref g17, .int 0]), (h2, oC 3 [.ref g18, .int 0])]) (va_A [(h0, oC 12 [.ref h1, .ref g0, .ref g1, .ref g2, .ref g3, .ref g4, .ref g5, .ref g6, .ref g7, .long 0]), (h1, oC 2 [.ref g8, .ref g9, .ref g10, .ref g11, .ref g12, .ref h2, .ref g13, .ref g14, .ref g15, .ref g16, .ref g17, .int 0]), (h2, oC 3 [.ref g18, .int 0])] sz)) (XW D (fun (E : String) (u : Unit) => (E = "java/lang/IndexOutOfBoundsException" ∧ p0 < 0) ∨ (E = "java/lang/IndexOutOfBoundsException" ∧ ¬ p0 < 0)) (fun (_ : Unit) => [(h0, oC 12 [.ref h1, .ref g0, .ref g1, .ref g2, .ref g3, .ref g4, .ref g5, .ref g6, .ref g7, .long 0]), (h1, oC 2 [.ref g8, .ref g9, .ref g10, .ref g11, .ref g12, .ref h2, .ref g13, .ref g14, .ref g15, .ref g16, .ref g17, .int 0]), (h2, oC 3 [.ref g18, .int 0])]) (va_A [(h0, oC 12 [.ref h1, .ref g0, .ref g1, .ref g2, .ref g3, .ref g4, .ref g5, .ref g6, .ref g7, .long 0]), (h1, oC 2 [.ref g8, .ref g9, .ref g10, .ref g11, .ref g12, .ref h2, .ref g13, .ref g14, .ref g15, .ref g16, .ref g17, .int 0]), (h2, oC 3 [.ref g18, .int 0])] sz)) 1 6 (va_A [(h0, oC 12 [.ref h1, .ref g0, .ref g1, .ref g2, .ref g3, .ref g4, .ref g5, .ref g6, .ref g7, .long 0]), (h1, oC 2 [.ref g8, .ref g9, .ref g10, .ref g11, .ref g12, .ref h2, .ref g13, .ref g14, .ref g15, .ref g16, .ref g17, .int 0]), (h2, oC 3 [.ref g18, .int 0])] sz) :=
  xmet_of (by decide +kernel) (Nat.le_of_ble_eq_true rfl) (fun p e s m args below meth c B EB hout hsz => by
    have B : VB p s m args meth c D Y (va_A [(h0, oC 12 [.ref h1, .ref g0, .ref g1, .ref g2, .ref g3, .ref g4, .ref g5, .ref g6, .ref g7, .long 0]), (h1, oC 2 [.ref g8, .ref g9, .ref g10, .ref g11, .ref g12, .ref h2, .ref g13, .ref g14, .ref g15, .ref g16, .ref g17, .int 0]), (h2, oC 3 [.ref g18, .int 0])] sz) cX11_packed 5 RX11 (some .int) := B
    refine V_aload_n 0 B dX11_packed_0 0 rfl ?_
    refine V_iload_n 1 B dX11_packed_1 1 rfl ?_
    refine V_xvv 2 B EB (st := []) (As := [.int p0]) (fun sz => mX11_needBinding_1 l hl9 D Y (h0) (h1) (g0) (g1) (g2) (g3) (g4) (g5) (g6) (g7) (g8) (g9) (g10) (g11) (g12) (h2) (g13) (g14) (g15) (g16) (g17) (g18) (p0) sz) glV_RX11_167 ⟨rfl, rfl⟩ ⟨(Nat.le_of_ble_eq_true rfl), (Nat.le_of_ble_eq_true rfl)⟩ ⟨(Nat.le_of_ble_eq_true rfl), (Nat.le_of_ble_eq_true rfl)⟩ [0, 0, 0] rfl 12 0 rfl rfl rfl rfl (Nat.le_of_ble_eq_true rfl) rfl (fun _ _ => rfl) (fun _ _ _ => rfl) dX11_packed_2 (fun E u0 w0 => ?_) (fun u0 w0 => ?_)
    ·
      rcases w0 with ⟨rfl, k1⟩ | ⟨rfl, k2⟩
      ·
        exact VX_out 2 B hout () (Or.inl ⟨rfl, k1⟩) rfl (Nat.le_of_ble_eq_true rfl) (Nat.le_of_ble_eq_true rfl)
      ·
        exact VX_out 2 B hout () (Or.inr ⟨rfl, k2⟩) rfl (Nat.le_of_ble_eq_true rfl) (Nat.le_of_ble_eq_true rfl)
    ·
      exact w0.elim)
theorem dX11_common_0 : decode cX11_common 0 = .ok (.aload_n 0, 1) := by decide +kernel
theorem dX11_common_1 : decode cX11_common 1 = .ok (.iload_n 1, 1) := by decide +kernel
theorem dX11_common_2 : decode cX11_common 2 = .ok (.invokevirtual 167, 3) := by decide +kernel
set_option maxRecDepth 100000 in
set_option maxHeartbeats 4000000 in
theorem mX11_common_1 (l : Launch) (hl9 : l.stackTraces = false) (D : va_G) (Y : Nat → ClassId) (h0 : Nat) (h1 : Nat) (g0 : Nat) (g1 : Nat) (g2 : Nat) (g3 : Nat) (g4 : Nat) (g5 : Nat) (g6 : Nat) (g7 : Nat) (g8 : Nat) (g9 : Nat) (g10 : Nat) (g11 : Nat) (g12 : Nat) (h2 : Nat) (g13 : Nat) (g14 : Nat) (g15 : Nat) (g16 : Nat) (g17 : Nat) (g18 : Nat) (p0 : Int32) (p1 : Int32) (sz : Nat) : vx_Met l yX11_common (WSm yX11_common cX11_common 3 (some .int)) (mkR 7 1 6 103) (PreX D Y [.ref h0, .int p0, .int p1] [(h0, oC 12 [.ref h1, .ref g0, .ref g1, .ref g2, .ref g3, .ref g4, .ref g5, .ref g6, .ref g7, .long 0]), (h1, oC 2 [.ref g8, .ref g9, .ref g10, .ref g11, .ref g12, .ref h2, .ref g13, .ref g14, .ref g15, .ref g16, .ref g17, .int 0]), (h2, oC 3 [.ref g18, .int 0])] sz) (QI D (fun (r : Int32) (u : Unit) => False) (fun (_ : Unit) => [(h0, oC 12 [.ref h1, .ref g0, .ref g1, .ref g2, .ref g3, .ref g4, .ref g5, .ref g6, .ref g7, .long 0]), (h1, oC 2 [.ref g8, .ref g9, .ref g10, .ref g11, .ref g12, .ref h2, .ref g13, .ref g14, .ref g15, .ref g16, .ref g17, .int 0]), (h2, oC 3 [.ref g18, .int 0])]) (va_A [(h0, oC 12 [.ref h1, .ref g0, .ref g1, .ref g2, .ref g3, .ref g4, .ref g5, .ref g6, .ref g7, .long 0]), (h1, oC 2 [.ref g8, .ref g9, .ref g10, .ref g11, .ref g12, .ref h2, .ref g13, .ref g14, .ref g15, .ref g16, .ref g17, .int 0]), (h2, oC 3 [.ref g18, .int 0])] sz)) (XW D (fun (E : String) (u : Unit) => (E = "java/lang/IndexOutOfBoundsException" ∧ p0 < 0) ∨ (E = "java/lang/IndexOutOfBoundsException" ∧ ¬ p0 < 0)) (fun (_ : Unit) => [(h0, oC 12 [.ref h1, .ref g0, .ref g1, .ref g2, .ref g3, .ref g4, .ref g5, .ref g6, .ref g7, .long 0]), (h1, oC 2 [.ref g8, .ref g9, .ref g10, .ref g11, .ref g12, .ref h2, .ref g13, .ref g14, .ref g15, .ref g16, .ref g17, .int 0]), (h2, oC 3 [.ref g18, .int 0])]) (va_A [(h0, oC 12 [.ref h1, .ref g0, .ref g1, .ref g2, .ref g3, .ref g4, .ref g5, .ref g6, .ref g7, .long 0]), (h1, oC 2 [.ref g8, .ref g9, .ref g10, .ref g11, .ref g12, .ref h2, .ref g13, .ref g14, .ref g15, .ref g16, .ref g17, .int 0]), (h2, oC 3 [.ref g18, .int 0])] sz)) 1 6 (va_A [(h0, oC 12 [.ref h1, .ref g0, .ref g1, .ref g2, .ref g3, .ref g4, .ref g5, .ref g6, .ref g7, .long 0]), (h1, oC 2 [.ref g8, .ref g9, .ref g10, .ref g11, .ref g12, .ref h2, .ref g13, .ref g14, .ref g15, .ref g16, .ref g17, .int 0]), (h2, oC 3 [.ref g18, .int 0])] sz) :=
  xmet_of (by decide +kernel) (Nat.le_of_ble_eq_true rfl) (fun p e s m args below meth c B EB hout hsz => by
    have B : VB p s m args meth c D Y (va_A [(h0, oC 12 [.ref h1, .ref g0, .ref g1, .ref g2, .ref g3, .ref g4, .ref g5, .ref g6, .ref g7, .long 0]), (h1, oC 2 [.ref g8, .ref g9, .ref g10, .ref g11, .ref g12, .ref h2, .ref g13, .ref g14, .ref g15, .ref g16, .ref g17, .int 0]), (h2, oC 3 [.ref g18, .int 0])] sz) cX11_common 3 RX11 (some .int) := B
    refine V_aload_n 0 B dX11_common_0 0 rfl ?_
    refine V_iload_n 1 B dX11_common_1 1 rfl ?_
    refine V_xvv 2 B EB (st := []) (As := [.int p0]) (fun sz => mX11_needBinding_1 l hl9 D Y (h0) (h1) (g0) (g1) (g2) (g3) (g4) (g5) (g6) (g7) (g8) (g9) (g10) (g11) (g12) (h2) (g13) (g14) (g15) (g16) (g17) (g18) (p0) sz) glV_RX11_167 ⟨rfl, rfl⟩ ⟨(Nat.le_of_ble_eq_true rfl), (Nat.le_of_ble_eq_true rfl)⟩ ⟨(Nat.le_of_ble_eq_true rfl), (Nat.le_of_ble_eq_true rfl)⟩ [0, 0, 0] rfl 12 0 rfl rfl rfl rfl (Nat.le_of_ble_eq_true rfl) rfl (fun _ _ => rfl) (fun _ _ _ => rfl) dX11_common_2 (fun E u0 w0 => ?_) (fun u0 w0 => ?_)
    ·
      rcases w0 with ⟨rfl, k1⟩ | ⟨rfl, k2⟩
      ·
        exact VX_out 2 B hout () (Or.inl ⟨rfl, k1⟩) rfl (Nat.le_of_ble_eq_true rfl) (Nat.le_of_ble_eq_true rfl)
      ·
        exact VX_out 2 B hout () (Or.inr ⟨rfl, k2⟩) rfl (Nat.le_of_ble_eq_true rfl) (Nat.le_of_ble_eq_true rfl)
    ·
      exact w0.elim)
theorem dX11_leadingSwitches_0 : decode cX11_leadingSwitches 0 = .ok (.iconst 0, 1) := by decide +kernel
theorem dX11_leadingSwitches_1 : decode cX11_leadingSwitches 1 = .ok (.istore_n 1, 1) := by decide +kernel
theorem dX11_leadingSwitches_2 : decode cX11_leadingSwitches 2 = .ok (.aload_n 0, 1) := by decide +kernel
theorem dX11_leadingSwitches_3 : decode cX11_leadingSwitches 3 = .ok (.getfield 10, 3) := by decide +kernel
theorem dX11_leadingSwitches_6 : decode cX11_leadingSwitches 6 = .ok (.getfield 213, 3) := by decide +kernel
theorem gf_RX11_213 : GF RX11 213 2 6 := ⟨RX0, TX0, 12, rfl, inw_X0, Nat.le_of_ble_eq_true rfl, (mT1 185 rfl rfl)⟩
theorem dX11_leadingSwitches_9 : decode cX11_leadingSwitches 9 = .ok (.invokevirtual 95, 3) := by decide +kernel
theorem dX11_leadingSwitches_12 : decode cX11_leadingSwitches 12 = .ok (.istore_n 2, 1) := by decide +kernel
theorem dX11_leadingSwitches_13 : decode cX11_leadingSwitches 13 = .ok (.iload_n 1, 1) := by decide +kernel
theorem dX11_leadingSwitches_14 : decode cX11_leadingSwitches 14 = .ok (.iload_n 2, 1) := by decide +kernel
theorem dX11_leadingSwitches_15 : decode cX11_leadingSwitches 15 = .ok (.if_icmp .ge 34, 3) := by decide +kernel
theorem dX11_leadingSwitches_49 : decode cX11_leadingSwitches 49 = .ok (.iload_n 1, 1) := by decide +kernel
theorem dX11_leadingSwitches_50 : decode cX11_leadingSwitches 50 = .ok (.ireturn, 1) := by decide +kernel
set_option maxRecDepth 100000 in
set_option maxHeartbeats 4000000 in
theorem mX11_leadingSwitches_1 (l : Launch) (D : va_G) (Y : Nat → ClassId) (h0 : Nat) (h1 : Nat) (g0 : Nat) (g1 : Nat) (g2 : Nat) (g3 : Nat) (g4 : Nat) (g5 : Nat) (g6 : Nat) (g7 : Nat) (g8 : Nat) (g9 : Nat) (g10 : Nat) (g11 : Nat) (g12 : Nat) (g13 : Nat) (h2 : Nat) (g14 : Nat) (g15 : Nat) (g16 : Nat) (g17 : Nat) (g18 : Nat) (sz : Nat) : Met l yX11_leadingSwitches (WSm yX11_leadingSwitches cX11_leadingSwitches 3 (some .int)) (mkR 1 0 0 20) (PreC D Y [.ref h0] [(h0, oC 12 [.ref h1, .ref g0, .ref g1, .ref g2, .ref g3, .ref g4, .ref g5, .ref g6, .ref g7, .long 0]), (h1, oC 2 [.ref g8, .ref g9, .ref g10, .ref g11, .ref g12, .ref g13, .ref h2, .ref g14, .ref g15, .ref g16, .ref g17, .int 0]), (h2, oC 3 [.ref g18, .int 0])] sz) (QI D (fun (r : Int32) (u : Unit) => 0 = r) (fun (_ : Unit) => [(h0, oC 12 [.ref h1, .ref g0, .ref g1, .ref g2, .ref g3, .ref g4, .ref g5, .ref g6, .ref g7, .long 0]), (h1, oC 2 [.ref g8, .ref g9, .ref g10, .ref g11, .ref g12, .ref g13, .ref h2, .ref g14, .ref g15, .ref g16, .ref g17, .int 0]), (h2, oC 3 [.ref g18, .int 0])]) (va_A [(h0, oC 12 [.ref h1, .ref g0, .ref g1, .ref g2, .ref g3, .ref g4, .ref g5, .ref g6, .ref g7, .long 0]), (h1, oC 2 [.ref g8, .ref g9, .ref g10, .ref g11, .ref g12, .ref g13, .ref h2, .ref g14, .ref g15, .ref g16, .ref g17, .int 0]), (h2, oC 3 [.ref g18, .int 0])] sz)) 0 0 (va_A [(h0, oC 12 [.ref h1, .ref g0, .ref g1, .ref g2, .ref g3, .ref g4, .ref g5, .ref g6, .ref g7, .long 0]), (h1, oC 2 [.ref g8, .ref g9, .ref g10, .ref g11, .ref g12, .ref g13, .ref h2, .ref g14, .ref g15, .ref g16, .ref g17, .int 0]), (h2, oC 3 [.ref g18, .int 0])] sz) :=
  met_of (by decide +kernel) (Nat.le_of_ble_eq_true rfl) (fun p e s m args below meth c B hin hsz => by
    have B : VB p s m args meth c D Y (va_A [(h0, oC 12 [.ref h1, .ref g0, .ref g1, .ref g2, .ref g3, .ref g4, .ref g5, .ref g6, .ref g7, .long 0]), (h1, oC 2 [.ref g8, .ref g9, .ref g10, .ref g11, .ref g12, .ref g13, .ref h2, .ref g14, .ref g15, .ref g16, .ref g17, .int 0]), (h2, oC 3 [.ref g18, .int 0])] sz) cX11_leadingSwitches 3 RX11 (some .int) := B
    refine V_iconst 0 B (v := 0) dX11_leadingSwitches_0 (by decide +kernel) ?_
    refine V_istore_n 1 B (lv2 := [(1, .int 0), (0, .ref h0)]) dX11_leadingSwitches_1 (by decide) rfl ?_
    refine V_aload_n 2 B dX11_leadingSwitches_2 1 rfl ?_
    refine V_get 3 B gf_RX11_10 0 rfl rfl dX11_leadingSwitches_3 ?_
    refine V_get 6 B gf_RX11_213 1 rfl rfl dX11_leadingSwitches_6 ?_
    refine V_cvi 9 B (st := []) (As := []) (fun sz => mX1_size_1 l D Y (h2) (g18) sz) glV_RX11_95 ⟨rfl, rfl⟩ ⟨(Nat.le_of_ble_eq_true rfl), (Nat.le_of_ble_eq_true rfl)⟩ ⟨(Nat.le_of_ble_eq_true rfl), (Nat.le_of_ble_eq_true rfl)⟩ [2] rfl 3 0 rfl rfl rfl rfl (Nat.le_of_ble_eq_true rfl) rfl (fun _ _ _ => rfl) dX11_leadingSwitches_9 (fun r0 u0 w0 => ?_)
    obtain rfl := w0
    refine V_ws [(h0, oC 12 [.ref h1, .ref g0, .ref g1, .ref g2, .ref g3, .ref g4, .ref g5, .ref g6, .ref g7, .long 0]), (h1, oC 2 [.ref g8, .ref g9, .ref g10, .ref g11, .ref g12, .ref g13, .ref h2, .ref g14, .ref g15, .ref g16, .ref g17, .int 0]), (h2, oC 3 [.ref g18, .int 0])] rfl ?_
    refine V_istore_n 12 B (lv2 := [(2, .int 0), (1, .int 0), (0, .ref h0)]) dX11_leadingSwitches_12 (by decide) rfl ?_
    refine V_iload_n 13 B dX11_leadingSwitches_13 1 rfl ?_
    refine V_iload_n 14 B dX11_leadingSwitches_14 0 rfl ?_
    refine V_icmp_ge_t 15 B 49 dX11_leadingSwitches_15 (by decide) (by decide +kernel) ?_
    refine V_iload_n 49 B dX11_leadingSwitches_49 1 rfl ?_
    exact V_iret 50 B dX11_leadingSwitches_50 () rfl rfl)
theorem dX11_clashPairs_0 : decode cX11_clashPairs 0 = .ok (.aload_n 0, 1) := by decide +kernel
theorem dX11_clashPairs_1 : decode cX11_clashPairs 1 = .ok (.iload_n 1, 1) := by decide +kernel
theorem dX11_clashPairs_2 : decode cX11_clashPairs 2 = .ok (.invokevirtual 180, 3) := by decide +kernel
theorem dX11_clashPairs_5 : decode cX11_clashPairs 5 = .ok (.aload_n 0, 1) := by decide +kernel
theorem dX11_clashPairs_6 : decode cX11_clashPairs 6 = .ok (.iload_n 2, 1) := by decide +kernel
theorem dX11_clashPairs_7 : decode cX11_clashPairs 7 = .ok (.invokevirtual 180, 3) := by decide +kernel
theorem dX11_clashPairs_10 : decode cX11_clashPairs 10 = .ok (.iload_n 1, 1) := by decide +kernel
theorem dX11_clashPairs_11 : decode cX11_clashPairs 11 = .ok (.iload_n 2, 1) := by decide +kernel
theorem dX11_clashPairs_12 : decode cX11_clashPairs 12 = .ok (.if_icmp .ne 14, 3) := by decide +kernel
theorem dX11_clashPairs_15 : decode cX11_clashPairs 15 = .ok (.new 190, 3) := by decide +kernel
theorem gt_RX11_190_262_194 : GT RX11 190 262 194 "java/lang/IllegalArgumentException" "both modes are one" ["java/lang/RuntimeException", "java/lang/Exception"] := ⟨rfl, (mT5 31 rfl rfl), (mT1 22 rfl rfl), List.mem_of_getElem? (i := 2) rfl, by decide +kernel, by decide +kernel, List.mem_of_getElem? (i := 0) rfl, gta_194⟩
theorem dX11_clashPairs_18 : decode cX11_clashPairs 18 = .ok (.dup, 1) := by decide +kernel
theorem dX11_clashPairs_19 : decode cX11_clashPairs 19 = .ok (.ldc_w 262, 3) := by decide +kernel
theorem dX11_clashPairs_22 : decode cX11_clashPairs 22 = .ok (.invokespecial 194, 3) := by decide +kernel
theorem dX11_clashPairs_25 : decode cX11_clashPairs 25 = .ok (.athrow, 1) := by decide +kernel
set_option maxRecDepth 100000 in
set_option maxHeartbeats 4000000 in
theorem mX11_clashPairs_1 (l : Launch) (hl9 : l.stackTraces = false) (D : va_G) (Y : Nat → ClassId) (h0 : Nat) (h1 : Nat) (g0 : Nat) (g1 : Nat) (g2 : Nat) (g3 : Nat) (g4 : Nat) (g5 : Nat) (g6 : Nat) (g7 : Nat) (h2 : Nat) (g8 : Nat) (g9 : Nat) (g10 : Nat) (g11 : Nat) (g12 : Nat) (g13 : Nat) (g14 : Nat) (g15 : Nat) (g16 : Nat) (g17 : Nat) (g18 : Nat) (p0 : Int32) (p1 : Int32) (sz : Nat) : vx_Met l yX11_clashPairs (WSm yX11_clashPairs cX11_clashPairs 5 (some .int)) (mkR 7 3 18 103) (PreX D Y [.ref h0, .int p0, .int p1] [(h0, oC 12 [.ref h1, .ref g0, .ref g1, .ref g2, .ref g3, .ref g4, .ref g5, .ref g6, .ref g7, .long 0]), (h1, oC 2 [.ref h2, .ref g8, .ref g9, .ref g10, .ref g11, .ref g12, .ref g13, .ref g14, .ref g15, .ref g16, .ref g17, .int 0]), (h2, oC 3 [.ref g18, .int 1])] sz) (QI D (fun (r : Int32) (u : Unit) => False) (fun (_ : Unit) => [(h0, oC 12 [.ref h1, .ref g0, .ref g1, .ref g2, .ref g3, .ref g4, .ref g5, .ref g6, .ref g7, .long 0]), (h1, oC 2 [.ref h2, .ref g8, .ref g9, .ref g10, .ref g11, .ref g12, .ref g13, .ref g14, .ref g15, .ref g16, .ref g17, .int 0]), (h2, oC 3 [.ref g18, .int 1])]) (va_A [(h0, oC 12 [.ref h1, .ref g0, .ref g1, .ref g2, .ref g3, .ref g4, .ref g5, .ref g6, .ref g7, .long 0]), (h1, oC 2 [.ref h2, .ref g8, .ref g9, .ref g10, .ref g11, .ref g12, .ref g13, .ref g14, .ref g15, .ref g16, .ref g17, .int 0]), (h2, oC 3 [.ref g18, .int 1])] sz)) (XW D (fun (E : String) (u : Unit) => (E = "java/lang/IndexOutOfBoundsException" ∧ p0 < 0) ∨ (E = "java/lang/IndexOutOfBoundsException" ∧ ¬ p0 < 0 ∧ 1 ≤ p0) ∨ (E = "java/lang/IndexOutOfBoundsException" ∧ p0 = 0 ∧ p1 < 0) ∨ (E = "java/lang/IndexOutOfBoundsException" ∧ p0 = 0 ∧ ¬ p1 < 0 ∧ 1 ≤ p1) ∨ (E = "java/lang/IllegalArgumentException" ∧ p0 = 0 ∧ p1 = 0)) (fun (_ : Unit) => [(h0, oC 12 [.ref h1, .ref g0, .ref g1, .ref g2, .ref g3, .ref g4, .ref g5, .ref g6, .ref g7, .long 0]), (h1, oC 2 [.ref h2, .ref g8, .ref g9, .ref g10, .ref g11, .ref g12, .ref g13, .ref g14, .ref g15, .ref g16, .ref g17, .int 0]), (h2, oC 3 [.ref g18, .int 1])]) (va_A [(h0, oC 12 [.ref h1, .ref g0, .ref g1, .ref g2, .ref g3, .ref g4, .ref g5, .ref g6, .ref g7, .long 0]), (h1, oC 2 [.ref h2, .ref g8, .ref g9, .ref g10, .ref g11, .ref g12, .ref g13, .ref g14, .ref g15, .ref g16, .ref g17, .int 0]), (h2, oC 3 [.ref g18, .int 1])] sz)) 3 18 (va_A [(h0, oC 12 [.ref h1, .ref g0, .ref g1, .ref g2, .ref g3, .ref g4, .ref g5, .ref g6, .ref g7, .long 0]), (h1, oC 2 [.ref h2, .ref g8, .ref g9, .ref g10, .ref g11, .ref g12, .ref g13, .ref g14, .ref g15, .ref g16, .ref g17, .int 0]), (h2, oC 3 [.ref g18, .int 1])] sz) :=
  xmet_of (by decide +kernel) (Nat.le_of_ble_eq_true rfl) (fun p e s m args below meth c B EB hout hsz => by
    have B : VB p s m args meth c D Y (va_A [(h0, oC 12 [.ref h1, .ref g0, .ref g1, .ref g2, .ref g3, .ref g4, .ref g5, .ref g6, .ref g7, .long 0]), (h1, oC 2 [.ref h2, .ref g8, .ref g9, .ref g10, .ref g11, .ref g12, .ref g13, .ref g14, .ref g15, .ref g16, .ref g17, .int 0]), (h2, oC 3 [.ref g18, .int 1])] sz) cX11_clashPairs 5 RX11 (some .int) := B
    refine V_aload_n 0 B dX11_clashPairs_0 0 rfl ?_
    refine V_iload_n 1 B dX11_clashPairs_1 1 rfl ?_
    refine V_xvv 2 B EB (st := []) (As := [.int p0]) (fun sz => mX11_needMode_1 l hl9 D Y (h0) (h1) (g0) (g1) (g2) (g3) (g4) (g5) (g6) (g7) (h2) (g8) (g9) (g10) (g11) (g12) (g13) (g14) (g15) (g16) (g17) (g18) (p0) sz) glV_RX11_180 ⟨rfl, rfl⟩ ⟨(Nat.le_of_ble_eq_true rfl), (Nat.le_of_ble_eq_true rfl)⟩ ⟨(Nat.le_of_ble_eq_true rfl), (Nat.le_of_ble_eq_true rfl)⟩ [0, 0, 0] rfl 12 0 rfl rfl rfl rfl (Nat.le_of_ble_eq_true rfl) rfl (fun _ _ => rfl) (fun _ _ _ => rfl) dX11_clashPairs_2 (fun E u0 w0 => ?_) (fun u0 w0 => ?_)
    ·
      rcases w0 with ⟨rfl, k1⟩ | ⟨rfl, k2, k3⟩
      ·
        exact VX_out 2 B hout () (Or.inl ⟨rfl, k1⟩) rfl (Nat.le_of_ble_eq_true rfl) (Nat.le_of_ble_eq_true rfl)
      ·
        exact VX_out 2 B hout () (Or.inr (Or.inl ⟨rfl, k2, k3⟩)) rfl (Nat.le_of_ble_eq_true rfl) (Nat.le_of_ble_eq_true rfl)
    ·
      have k4 := w0
      refine V_ws [(h0, oC 12 [.ref h1, .ref g0, .ref g1, .ref g2, .ref g3, .ref g4, .ref g5, .ref g6, .ref g7, .long 0]), (h1, oC 2 [.ref h2, .ref g8, .ref g9, .ref g10, .ref g11, .ref g12, .ref g13, .ref g14, .ref g15, .ref g16, .ref g17, .int 0]), (h2, oC 3 [.ref g18, .int 1])] rfl ?_
      obtain rfl : p0 = 0 := k4
      refine V_aload_n 5 B dX11_clashPairs_5 0 rfl ?_
      refine V_iload_n 6 B dX11_clashPairs_6 2 rfl ?_
      refine V_xvv 7 B EB (st := []) (As := [.int p1]) (fun sz => mX11_needMode_1 l hl9 D Y (h0) (h1) (g0) (g1) (g2) (g3) (g4) (g5) (g6) (g7) (h2) (g8) (g9) (g10) (g11) (g12) (g13) (g14) (g15) (g16) (g17) (g18) (p1) sz) glV_RX11_180 ⟨rfl, rfl⟩ ⟨(Nat.le_of_ble_eq_true rfl), (Nat.le_of_ble_eq_true rfl)⟩ ⟨(Nat.le_of_ble_eq_true rfl), (Nat.le_of_ble_eq_true rfl)⟩ [0, 0, 0] rfl 12 0 rfl rfl rfl rfl (Nat.le_of_ble_eq_true rfl) rfl (fun _ _ => rfl) (fun _ _ _ => rfl) dX11_clashPairs_7 (fun E u5 w5 => ?_) (fun u5 w5 => ?_)
      ·
        rcases w5 with ⟨rfl, k6⟩ | ⟨rfl, k7, k8⟩
        ·
          exact VX_out 7 B hout () (Or.inr (Or.inr (Or.inl ⟨rfl, rfl, k6⟩))) rfl (Nat.le_of_ble_eq_true rfl) (Nat.le_of_ble_eq_true rfl)
        ·
          exact VX_out 7 B hout () (Or.inr (Or.inr (Or.inr (Or.inl ⟨rfl, rfl, k7, k8⟩)))) rfl (Nat.le_of_ble_eq_true rfl) (Nat.le_of_ble_eq_true rfl)
      ·
        have k9 := w5
        refine V_ws [(h0, oC 12 [.ref h1, .ref g0, .ref g1, .ref g2, .ref g3, .ref g4, .ref g5, .ref g6, .ref g7, .long 0]), (h1, oC 2 [.ref h2, .ref g8, .ref g9, .ref g10, .ref g11, .ref g12, .ref g13, .ref g14, .ref g15, .ref g16, .ref g17, .int 0]), (h2, oC 3 [.ref g18, .int 1])] rfl ?_
        obtain rfl : p1 = 0 := k9
        refine V_iload_n 10 B dX11_clashPairs_10 1 rfl ?_
        refine V_iload_n 11 B dX11_clashPairs_11 2 rfl ?_
        refine V_icmp_ne_f 12 B 26 dX11_clashPairs_12 (by decide) (by decide +kernel) ?_
        exact V_throwSW 15 B EB hl9 gt_RX11_190_262_194 hout dX11_clashPairs_15 dX11_clashPairs_18 dX11_clashPairs_19 dX11_clashPairs_22 dX11_clashPairs_25 (Nat.le_of_ble_eq_true rfl) (Nat.le_of_ble_eq_true rfl) (Nat.le_of_ble_eq_true rfl) (Nat.le_of_ble_eq_true rfl) (Nat.le_of_ble_eq_true rfl) (Nat.le_of_ble_eq_true rfl) () (Or.inr (Or.inr (Or.inr (Or.inr ⟨rfl, rfl, rfl⟩)))) rfl)
theorem dX11_digest_0 : decode cX11_digest 0 = .ok (.bipush 7, 2) := by decide +kernel
theorem dX11_digest_2 : decode cX11_digest 2 = .ok (.istore_n 1, 1) := by decide +kernel
theorem dX11_digest_3 : decode cX11_digest 3 = .ok (.iconst 0, 1) := by decide +kernel
theorem dX11_digest_4 : decode cX11_digest 4 = .ok (.istore_n 2, 1) := by decide +kernel
theorem dX11_digest_5 : decode cX11_digest 5 = .ok (.iload_n 2, 1) := by decide +kernel
theorem dX11_digest_6 : decode cX11_digest 6 = .ok (.aload_n 0, 1) := by decide +kernel
theorem dX11_digest_7 : decode cX11_digest 7 = .ok (.getfield 10, 3) := by decide +kernel
theorem dX11_digest_10 : decode cX11_digest 10 = .ok (.getfield 91, 3) := by decide +kernel
theorem dX11_digest_13 : decode cX11_digest 13 = .ok (.invokevirtual 95, 3) := by decide +kernel
theorem dX11_digest_16 : decode cX11_digest 16 = .ok (.if_icmp .ge 89, 3) := by decide +kernel
theorem dX11_digest_105 : decode cX11_digest 105 = .ok (.iload_n 1, 1) := by decide +kernel
theorem dX11_digest_106 : decode cX11_digest 106 = .ok (.ireturn, 1) := by decide +kernel
set_option maxRecDepth 100000 in
set_option maxHeartbeats 4000000 in
theorem mX11_digest_1 (l : Launch) (D : va_G) (Y : Nat → ClassId) (h0 : Nat) (h1 : Nat) (g0 : Nat) (g1 : Nat) (g2 : Nat) (g3 : Nat) (g4 : Nat) (g5 : Nat) (g6 : Nat) (g7 : Nat) (g8 : Nat) (g9 : Nat) (g10 : Nat) (g11 : Nat) (g12 : Nat) (h2 : Nat) (g13 : Nat) (g14 : Nat) (g15 : Nat) (g16 : Nat) (g17 : Nat) (g18 : Nat) (sz : Nat) : Met l yX11_digest (WSm yX11_digest cX11_digest 7 (some .int)) (mkR 1 0 0 20) (PreC D Y [.ref h0] [(h0, oC 12 [.ref h1, .ref g0, .ref g1, .ref g2, .ref g3, .ref g4, .ref g5, .ref g6, .ref g7, .long 0]), (h1, oC 2 [.ref g8, .ref g9, .ref g10, .ref g11, .ref g12, .ref h2, .ref g13, .ref g14, .ref g15, .ref g16, .ref g17, .int 0]), (h2, oC 3 [.ref g18, .int 0])] sz) (QI D (fun (r : Int32) (u : Unit) => 7 = r) (fun (_ : Unit) => [(h0, oC 12 [.ref h1, .ref g0, .ref g1, .ref g2, .ref g3, .ref g4, .ref g5, .ref g6, .ref g7, .long 0]), (h1, oC 2 [.ref g8, .ref g9, .ref g10, .ref g11, .ref g12, .ref h2, .ref g13, .ref g14, .ref g15, .ref g16, .ref g17, .int 0]), (h2, oC 3 [.ref g18, .int 0])]) (va_A [(h0, oC 12 [.ref h1, .ref g0, .ref g1, .ref g2, .ref g3, .ref g4, .ref g5, .ref g6, .ref g7, .long 0]), (h1, oC 2 [.ref g8, .ref g9, .ref g10, .ref g11, .ref g12, .ref h2, .ref g13, .ref g14, .ref g15, .ref g16, .ref g17, .int 0]), (h2, oC 3 [.ref g18, .int 0])] sz)) 0 0 (va_A [(h0, oC 12 [.ref h1, .ref g0, .ref g1, .ref g2, .ref g3, .ref g4, .ref g5, .ref g6, .ref g7, .long 0]), (h1, oC 2 [.ref g8, .ref g9, .ref g10, .ref g11, .ref g12, .ref h2, .ref g13, .ref g14, .ref g15, .ref g16, .ref g17, .int 0]), (h2, oC 3 [.ref g18, .int 0])] sz) :=
  met_of (by decide +kernel) (Nat.le_of_ble_eq_true rfl) (fun p e s m args below meth c B hin hsz => by
    have B : VB p s m args meth c D Y (va_A [(h0, oC 12 [.ref h1, .ref g0, .ref g1, .ref g2, .ref g3, .ref g4, .ref g5, .ref g6, .ref g7, .long 0]), (h1, oC 2 [.ref g8, .ref g9, .ref g10, .ref g11, .ref g12, .ref h2, .ref g13, .ref g14, .ref g15, .ref g16, .ref g17, .int 0]), (h2, oC 3 [.ref g18, .int 0])] sz) cX11_digest 7 RX11 (some .int) := B
    refine V_bipush 0 B (v := 7) dX11_digest_0 (by decide +kernel) ?_
    refine V_istore_n 2 B (lv2 := [(1, .int 7), (0, .ref h0)]) dX11_digest_2 (by decide) rfl ?_
    refine V_iconst 3 B (v := 0) dX11_digest_3 (by decide +kernel) ?_
    refine V_istore_n 4 B (lv2 := [(2, .int 0), (1, .int 7), (0, .ref h0)]) dX11_digest_4 (by decide) rfl ?_
    refine V_iload_n 5 B dX11_digest_5 0 rfl ?_
    refine V_aload_n 6 B dX11_digest_6 2 rfl ?_
    refine V_get 7 B gf_RX11_10 0 rfl rfl dX11_digest_7 ?_
    refine V_get 10 B gf_RX11_91 1 rfl rfl dX11_digest_10 ?_
    refine V_cvi 13 B (st := [.int 0]) (As := []) (fun sz => mX1_size_1 l D Y (h2) (g18) sz) glV_RX11_95 ⟨rfl, rfl⟩ ⟨(Nat.le_of_ble_eq_true rfl), (Nat.le_of_ble_eq_true rfl)⟩ ⟨(Nat.le_of_ble_eq_true rfl), (Nat.le_of_ble_eq_true rfl)⟩ [2] rfl 3 0 rfl rfl rfl rfl (Nat.le_of_ble_eq_true rfl) rfl (fun _ _ _ => rfl) dX11_digest_13 (fun r0 u0 w0 => ?_)
    obtain rfl := w0
    refine V_ws [(h0, oC 12 [.ref h1, .ref g0, .ref g1, .ref g2, .ref g3, .ref g4, .ref g5, .ref g6, .ref g7, .long 0]), (h1, oC 2 [.ref g8, .ref g9, .ref g10, .ref g11, .ref g12, .ref h2, .ref g13, .ref g14, .ref g15, .ref g16, .ref g17, .int 0]), (h2, oC 3 [.ref g18, .int 0])] rfl ?_
    refine V_icmp_ge_t 16 B 105 dX11_digest_16 (by decide) (by decide +kernel) ?_
    refine V_iload_n 105 B dX11_digest_105 1 rfl ?_
    exact V_iret 106 B dX11_digest_106 () rfl rfl)
