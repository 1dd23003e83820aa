theorem dX12_reason_0 : decode cX12_reason 0 = .ok (.aload_n 0, 1) := by decide +kernel
theorem dX12_reason_1 : decode cX12_reason 1 = .ok (.iconst 0, 1) := by decide +kernel
theorem dX12_reason_2 : decode cX12_reason 2 = .ok (.putfield 38, 3) := by decide +kernel
theorem dX12_reason_5 : decode cX12_reason 5 = .ok (.aload_n 0, 1) := by decide +kernel
theorem dX12_reason_6 : decode cX12_reason 6 = .ok (.aload_n 0, 1) := by decide +kernel
theorem dX12_reason_7 : decode cX12_reason 7 = .ok (.iload_n 1, 1) := by decide +kernel
theorem dX12_reason_8 : decode cX12_reason 8 = .ok (.invokevirtual 91, 3) := by decide +kernel
theorem dX12_reason_11 : decode cX12_reason 11 = .ok (.ifCond .ne 7, 3) := by decide +kernel
theorem dX12_reason_18 : decode cX12_reason 18 = .ok (.iconst 0, 1) := by decide +kernel
theorem dX12_reason_19 : decode cX12_reason 19 = .ok (.iconst 1, 1) := by decide +kernel
theorem dX12_reason_20 : decode cX12_reason 20 = .ok (.invokevirtual 69, 3) := by decide +kernel
theorem dX12_reason_23 : decode cX12_reason 23 = .ok (.ifCond .eq 5, 3) := by decide +kernel
theorem dX12_reason_28 : decode cX12_reason 28 = .ok (.aload_n 0, 1) := by decide +kernel
theorem dX12_reason_29 : decode cX12_reason 29 = .ok (.invokevirtual 125, 3) := by decide +kernel
theorem dX12_reason_32 : decode cX12_reason 32 = .ok (.ifCond .eq 6, 3) := by decide +kernel
theorem dX12_reason_35 : decode cX12_reason 35 = .ok (.bipush (-4), 2) := by decide +kernel
theorem dX12_reason_37 : decode cX12_reason 37 = .ok (.ireturn, 1) := by decide +kernel
theorem dX12_reason_14 : decode cX12_reason 14 = .ok (.iconst 1, 1) := by decide +kernel
theorem dX12_reason_15 : decode cX12_reason 15 = .ok (.goto 4, 3) := by decide +kernel
theorem dX12_reason_26 : decode cX12_reason 26 = .ok (.iconst 0, 1) := by decide +kernel
theorem dX12_reason_27 : decode cX12_reason 27 = .ok (.ireturn, 1) := by decide +kernel
set_option maxRecDepth 100000 in
set_option maxHeartbeats 4000000 in
theorem mX12_reason_1 (l : Launch) (D : va_G) (Y : Nat → ClassId) (h0 : Nat) (h1 : Nat) (g0 : Nat) (g1 : Nat) (g2 : Nat) (g3 : Nat) (g4 : Nat) (p0 : Int32) (sz : Nat) : Met l yX12_reason (WSm yX12_reason cX12_reason 5 (some .int)) (mkR 2 0 0 46) (PreC D Y [.ref h0, .int p0] [(h0, oC 13 [.ref h1, .ref g0, .int 0, .ref g1, .ref g2, .int 0, .int 0, .int 0, .int (-1), .int 0, .int 0, .int 0, .long 0, .ref g3, .ref g4, .int 0, .int 0]), (h1, aI Y 3640 (clB 0 (fun _ => 0)))] sz) (QI D (fun (r : Int32) (u : Nat) => (u = 0 ∧ p0 = 0 ∧ (-4) = r) ∨ (u = 1 ∧ p0 < 0 ∧ 0 = r) ∨ (u = 2 ∧ 0 < p0 ∧ 0 = r)) (fun (u : Nat) => match u with | 0 => [(h0, oC 13 [.ref h1, .ref g0, .int 0, .ref g1, .ref g2, .int 0, .int 0, .int 0, .int (-1), .int 0, .int 0, .int 0, .long 0, .ref g3, .ref g4, .int 0, .int 0]), (h1, aI Y 3640 (clB 0 (fun _ => 0)))] | 1 => [(h0, oC 13 [.ref h1, .ref g0, .int 1, .ref g1, .ref g2, .int 0, .int 0, .int 0, .int (-1), .int 0, .int 0, .int 0, .long 0, .ref g3, .ref g4, .int 0, .int 0]), (h1, aI Y 3640 (clB 0 (fun _ => 0)))] | _ => [(h0, oC 13 [.ref h1, .ref g0, .int 1, .ref g1, .ref g2, .int 0, .int 0, .int 0, .int (-1), .int 0, .int 0, .int 0, .long 0, .ref g3, .ref g4, .int 0, .int 0]), (h1, aI Y 3640 (clB 0 (fun _ => 0)))]) (va_A [(h0, oC 13 [.ref h1, .ref g0, .int 0, .ref g1, .ref g2, .int 0, .int 0, .int 0, .int (-1), .int 0, .int 0, .int 0, .long 0, .ref g3, .ref g4, .int 0, .int 0]), (h1, aI Y 3640 (clB 0 (fun _ => 0)))] sz)) 0 0 (va_A [(h0, oC 13 [.ref h1, .ref g0, .int 0, .ref g1, .ref g2, .int 0, .int 0, .int 0, .int (-1), .int 0, .int 0, .int 0, .long 0, .ref g3, .ref g4, .int 0, .int 0]), (h1, aI Y 3640 (clB 0 (fun _ => 0)))] sz) :=
  met_of (by decide +kernel) (Nat.le_of_ble_eq_true rfl) (fun p e s m args below meth c B hin hsz => by
    have B : VB p s m args meth c D Y (va_A [(h0, oC 13 [.ref h1, .ref g0, .int 0, .ref g1, .ref g2, .int 0, .int 0, .int 0, .int (-1), .int 0, .int 0, .int 0, .long 0, .ref g3, .ref g4, .int 0, .int 0]), (h1, aI Y 3640 (clB 0 (fun _ => 0)))] sz) cX12_reason 5 RX12 (some .int) := B
    refine V_aload_n 0 B dX12_reason_0 0 rfl ?_
    refine V_iconst 1 B (v := 0) dX12_reason_1 (by decide +kernel) ?_
    refine V_put 2 B gp_RX12_38 0 rfl (Nat.le_of_ble_eq_true rfl) rfl rfl dX12_reason_2 [(h0, oC 13 [.ref h1, .ref g0, .int 0, .ref g1, .ref g2, .int 0, .int 0, .int 0, .int (-1), .int 0, .int 0, .int 0, .long 0, .ref g3, .ref g4, .int 0, .int 0]), (h1, aI Y 3640 (clB 0 (fun _ => 0)))] rfl ?_
    refine V_aload_n 5 B dX12_reason_5 0 rfl ?_
    refine V_aload_n 6 B dX12_reason_6 0 rfl ?_
    refine V_iload_n 7 B dX12_reason_7 1 rfl ?_
    refine V_cvi 8 B (st := [.ref h0]) (As := [.int p0]) (fun sz => mX12_isMode_1 l D Y (h0) (h1) (g0) (g1) (g2) (g3) (g4) (p0) sz) glV_RX12_91 ⟨rfl, rfl⟩ ⟨(Nat.le_of_ble_eq_true rfl), (Nat.le_of_ble_eq_true rfl)⟩ ⟨(Nat.le_of_ble_eq_true rfl), (Nat.le_of_ble_eq_true rfl)⟩ [0, 0] rfl 13 0 rfl rfl rfl rfl (Nat.le_of_ble_eq_true rfl) rfl (fun _ _ _ => rfl) dX12_reason_8 (fun r0 u0 w0 => ?_)
    rcases w0 with ⟨k1, rfl⟩ | ⟨k2, rfl⟩ | ⟨k3, rfl⟩
    ·
      refine V_ws [(h0, oC 13 [.ref h1, .ref g0, .int 0, .ref g1, .ref g2, .int 0, .int 0, .int 0, .int (-1), .int 0, .int 0, .int 0, .long 0, .ref g3, .ref g4, .int 0, .int 0]), (h1, aI Y 3640 (clB 0 (fun _ => 0)))] rfl ?_
      obtain rfl : p0 = 0 := k1
      refine V_if_ne_t 11 B 18 dX12_reason_11 (by decide) (by decide +kernel) ?_
      refine V_iconst 18 B (v := 0) dX12_reason_18 (by decide +kernel) ?_
      refine V_iconst 19 B (v := 1) dX12_reason_19 (by decide +kernel) ?_
      refine V_cvi 20 B (st := []) (As := [.int 0, .int 1]) (fun sz => mX12_throwsIf_2 l D Y (h0) (h1) (g0) (g1) (g2) (g3) (g4) sz) glV_RX12_69 ⟨rfl, rfl⟩ ⟨(Nat.le_of_ble_eq_true rfl), (Nat.le_of_ble_eq_true rfl)⟩ ⟨(Nat.le_of_ble_eq_true rfl), (Nat.le_of_ble_eq_true rfl)⟩ [0] rfl 13 0 rfl rfl rfl rfl (Nat.le_of_ble_eq_true rfl) rfl (fun _ _ _ => rfl) dX12_reason_20 (fun r4 u4 w4 => ?_)
      obtain rfl := w4
      refine V_ws [(h0, oC 13 [.ref h1, .ref g0, .int 0, .ref g1, .ref g2, .int 0, .int 0, .int 0, .int (-1), .int 0, .int 0, .int 0, .long 0, .ref g3, .ref g4, .int 0, .int 0]), (h1, aI Y 3640 (clB 0 (fun _ => 0)))] rfl ?_
      refine V_if_eq_t 23 B 28 dX12_reason_23 (by decide) (by decide +kernel) ?_
      refine V_aload_n 28 B dX12_reason_28 0 rfl ?_
      refine V_cvi 29 B (st := []) (As := []) (fun sz => mX12_hasNoDraft_1 l D Y (h0) (h1) (g0) (g1) (g2) (g3) (g4) sz) glV_RX12_125 ⟨rfl, rfl⟩ ⟨(Nat.le_of_ble_eq_true rfl), (Nat.le_of_ble_eq_true rfl)⟩ ⟨(Nat.le_of_ble_eq_true rfl), (Nat.le_of_ble_eq_true rfl)⟩ [0, 0] rfl 13 0 rfl rfl rfl rfl (Nat.le_of_ble_eq_true rfl) rfl (fun _ _ _ => rfl) dX12_reason_29 (fun r5 u5 w5 => ?_)
      obtain rfl := w5
      refine V_ws [(h0, oC 13 [.ref h1, .ref g0, .int 0, .ref g1, .ref g2, .int 0, .int 0, .int 0, .int (-1), .int 0, .int 0, .int 0, .long 0, .ref g3, .ref g4, .int 0, .int 0]), (h1, aI Y 3640 (clB 0 (fun _ => 0)))] rfl ?_
      refine V_if_eq_f 32 B 38 dX12_reason_32 (by decide) (by decide +kernel) ?_
      refine V_bipush 35 B (v := (-4)) dX12_reason_35 (by decide +kernel) ?_
      exact V_iret 37 B dX12_reason_37 0 (Or.inl ⟨rfl, rfl, rfl⟩) rfl
    ·
      refine V_ws [(h0, oC 13 [.ref h1, .ref g0, .int 0, .ref g1, .ref g2, .int 0, .int 0, .int 0, .int (-1), .int 0, .int 0, .int 0, .long 0, .ref g3, .ref g4, .int 0, .int 0]), (h1, aI Y 3640 (clB 0 (fun _ => 0)))] rfl ?_
      refine V_if_ne_f 11 B 18 dX12_reason_11 (by decide) (by decide +kernel) ?_
      refine V_iconst 14 B (v := 1) dX12_reason_14 (by decide +kernel) ?_
      refine V_goto 15 B 19 dX12_reason_15 (by decide) ?_
      refine V_iconst 19 B (v := 1) dX12_reason_19 (by decide +kernel) ?_
      refine V_cvi 20 B (st := []) (As := [.int 1, .int 1]) (fun sz => mX12_throwsIf_1 l D Y (h0) (h1) (g0) (g1) (g2) (g3) (g4) sz) glV_RX12_69 ⟨rfl, rfl⟩ ⟨(Nat.le_of_ble_eq_true rfl), (Nat.le_of_ble_eq_true rfl)⟩ ⟨(Nat.le_of_ble_eq_true rfl), (Nat.le_of_ble_eq_true rfl)⟩ [0] rfl 13 0 rfl rfl rfl rfl (Nat.le_of_ble_eq_true rfl) rfl (fun _ _ _ => rfl) dX12_reason_20 (fun r6 u6 w6 => ?_)
      obtain rfl := w6
      refine V_ws [(h0, oC 13 [.ref h1, .ref g0, .int 1, .ref g1, .ref g2, .int 0, .int 0, .int 0, .int (-1), .int 0, .int 0, .int 0, .long 0, .ref g3, .ref g4, .int 0, .int 0]), (h1, aI Y 3640 (clB 0 (fun _ => 0)))] rfl ?_
      refine V_if_eq_f 23 B 28 dX12_reason_23 (by decide) (by decide +kernel) ?_
      refine V_iconst 26 B (v := 0) dX12_reason_26 (by decide +kernel) ?_
      exact V_iret 27 B dX12_reason_27 1 (Or.inr (Or.inl ⟨rfl, k2, rfl⟩)) rfl
    ·
      refine V_ws [(h0, oC 13 [.ref h1, .ref g0, .int 0, .ref g1, .ref g2, .int 0, .int 0, .int 0, .int (-1), .int 0, .int 0, .int 0, .long 0, .ref g3, .ref g4, .int 0, .int 0]), (h1, aI Y 3640 (clB 0 (fun _ => 0)))] rfl ?_
      refine V_if_ne_f 11 B 18 dX12_reason_11 (by decide) (by decide +kernel) ?_
      refine V_iconst 14 B (v := 1) dX12_reason_14 (by decide +kernel) ?_
      refine V_goto 15 B 19 dX12_reason_15 (by decide) ?_
      refine V_iconst 19 B (v := 1) dX12_reason_19 (by decide +kernel) ?_
      refine V_cvi 20 B (st := []) (As := [.int 1, .int 1]) (fun sz => mX12_throwsIf_1 l D Y (h0) (h1) (g0) (g1) (g2) (g3) (g4) sz) glV_RX12_69 ⟨rfl, rfl⟩ ⟨(Nat.le_of_ble_eq_true rfl), (Nat.le_of_ble_eq_true rfl)⟩ ⟨(Nat.le_of_ble_eq_true rfl), (Nat.le_of_ble_eq_true rfl)⟩ [0] rfl 13 0 rfl rfl rfl rfl (Nat.le_of_ble_eq_true rfl) rfl (fun _ _ _ => rfl) dX12_reason_20 (fun r7 u7 w7 => ?_)
      obtain rfl := w7
      refine V_ws [(h0, oC 13 [.ref h1, .ref g0, .int 1, .ref g1, .ref g2, .int 0, .int 0, .int 0, .int (-1), .int 0, .int 0, .int 0, .long 0, .ref g3, .ref g4, .int 0, .int 0]), (h1, aI Y 3640 (clB 0 (fun _ => 0)))] rfl ?_
      refine V_if_eq_f 23 B 28 dX12_reason_23 (by decide) (by decide +kernel) ?_
      refine V_iconst 26 B (v := 0) dX12_reason_26 (by decide +kernel) ?_
      exact V_iret 27 B dX12_reason_27 2 (Or.inr (Or.inr ⟨rfl, k3, rfl⟩)) rfl)
theorem dX12_look_0 : decode cX12_look 0 = .ok (.aload_n 0, 1) := by decide +kernel
theorem dX12_look_1 : decode cX12_look 1 = .ok (.iconst 0, 1) := by decide +kernel
theorem dX12_look_2 : decode cX12_look 2 = .ok (.putfield 38, 3) := by decide +kernel
theorem dX12_look_5 : decode cX12_look 5 = .ok (.aload_n 0, 1) := by decide +kernel
theorem dX12_look_6 : decode cX12_look 6 = .ok (.aload_n 0, 1) := by decide +kernel
theorem dX12_look_7 : decode cX12_look 7 = .ok (.iload_n 1, 1) := by decide +kernel
theorem dX12_look_8 : decode cX12_look 8 = .ok (.invokevirtual 91, 3) := by decide +kernel
theorem dX12_look_11 : decode cX12_look 11 = .ok (.ifCond .ne 7, 3) := by decide +kernel
theorem dX12_look_18 : decode cX12_look 18 = .ok (.iconst 0, 1) := by decide +kernel
theorem dX12_look_19 : decode cX12_look 19 = .ok (.iconst 1, 1) := by decide +kernel
theorem dX12_look_20 : decode cX12_look 20 = .ok (.invokevirtual 69, 3) := by decide +kernel
theorem dX12_look_23 : decode cX12_look 23 = .ok (.ifCond .eq 7, 3) := by decide +kernel
theorem dX12_look_30 : decode cX12_look 30 = .ok (.aload_n 0, 1) := by decide +kernel
theorem dX12_look_31 : decode cX12_look 31 = .ok (.invokevirtual 125, 3) := by decide +kernel
theorem dX12_look_34 : decode cX12_look 34 = .ok (.ifCond .eq 8, 3) := by decide +kernel
theorem dX12_look_37 : decode cX12_look 37 = .ok (.bipush (-4), 2) := by decide +kernel
theorem dX12_look_39 : decode cX12_look 39 = .ok (.goto 11, 3) := by decide +kernel
theorem dX12_look_50 : decode cX12_look 50 = .ok (.ireturn, 1) := by decide +kernel
theorem dX12_look_14 : decode cX12_look 14 = .ok (.iconst 1, 1) := by decide +kernel
theorem dX12_look_15 : decode cX12_look 15 = .ok (.goto 4, 3) := by decide +kernel
theorem dX12_look_26 : decode cX12_look 26 = .ok (.iconst 0, 1) := by decide +kernel
theorem dX12_look_27 : decode cX12_look 27 = .ok (.goto 23, 3) := by decide +kernel
set_option maxRecDepth 100000 in
set_option maxHeartbeats 4000000 in
theorem mX12_look_1 (l : Launch) (D : va_G) (Y : Nat → ClassId) (h0 : Nat) (h1 : Nat) (g0 : Nat) (g1 : Nat) (g2 : Nat) (g3 : Nat) (g4 : Nat) (p0 : Int32) (sz : Nat) : Met l yX12_look (WSm yX12_look cX12_look 2 (some .int)) (mkR 2 0 0 46) (PreC D Y [.ref h0, .int p0] [(h0, oC 13 [.ref h1, .ref g0, .int 0, .ref g1, .ref g2, .int 0, .int 0, .int 0, .int (-1), .int 0, .int 0, .int 0, .long 0, .ref g3, .ref g4, .int 0, .int 0]), (h1, aI Y 3640 (clB 0 (fun _ => 0)))] sz) (QI D (fun (r : Int32) (u : Nat) => (u = 0 ∧ p0 = 0 ∧ (-4) = r) ∨ (u = 1 ∧ p0 < 0 ∧ 0 = r) ∨ (u = 2 ∧ 0 < p0 ∧ 0 = r)) (fun (u : Nat) => match u with | 0 => [(h0, oC 13 [.ref h1, .ref g0, .int 0, .ref g1, .ref g2, .int 0, .int 0, .int 0, .int (-1), .int 0, .int 0, .int 0, .long 0, .ref g3, .ref g4, .int 0, .int 0]), (h1, aI Y 3640 (clB 0 (fun _ => 0)))] | 1 => [(h0, oC 13 [.ref h1, .ref g0, .int 1, .ref g1, .ref g2, .int 0, .int 0, .int 0, .int (-1), .int 0, .int 0, .int 0, .long 0, .ref g3, .ref g4, .int 0, .int 0]), (h1, aI Y 3640 (clB 0 (fun _ => 0)))] | _ => [(h0, oC 13 [.ref h1, .ref g0, .int 1, .ref g1, .ref g2, .int 0, .int 0, .int 0, .int (-1), .int 0, .int 0, .int 0, .long 0, .ref g3, .ref g4, .int 0, .int 0]), (h1, aI Y 3640 (clB 0 (fun _ => 0)))]) (va_A [(h0, oC 13 [.ref h1, .ref g0, .int 0, .ref g1, .ref g2, .int 0, .int 0, .int 0, .int (-1), .int 0, .int 0, .int 0, .long 0, .ref g3, .ref g4, .int 0, .int 0]), (h1, aI Y 3640 (clB 0 (fun _ => 0)))] sz)) 0 0 (va_A [(h0, oC 13 [.ref h1, .ref g0, .int 0, .ref g1, .ref g2, .int 0, .int 0, .int 0, .int (-1), .int 0, .int 0, .int 0, .long 0, .ref g3, .ref g4, .int 0, .int 0]), (h1, aI Y 3640 (clB 0 (fun _ => 0)))] sz) :=
  met_of (by decide +kernel) (Nat.le_of_ble_eq_true rfl) (fun p e s m args below meth c B hin hsz => by
    have B : VB p s m args meth c D Y (va_A [(h0, oC 13 [.ref h1, .ref g0, .int 0, .ref g1, .ref g2, .int 0, .int 0, .int 0, .int (-1), .int 0, .int 0, .int 0, .long 0, .ref g3, .ref g4, .int 0, .int 0]), (h1, aI Y 3640 (clB 0 (fun _ => 0)))] sz) cX12_look 2 RX12 (some .int) := B
    refine V_aload_n 0 B dX12_look_0 0 rfl ?_
    refine V_iconst 1 B (v := 0) dX12_look_1 (by decide +kernel) ?_
    refine V_put 2 B gp_RX12_38 0 rfl (Nat.le_of_ble_eq_true rfl) rfl rfl dX12_look_2 [(h0, oC 13 [.ref h1, .ref g0, .int 0, .ref g1, .ref g2, .int 0, .int 0, .int 0, .int (-1), .int 0, .int 0, .int 0, .long 0, .ref g3, .ref g4, .int 0, .int 0]), (h1, aI Y 3640 (clB 0 (fun _ => 0)))] rfl ?_
    refine V_aload_n 5 B dX12_look_5 0 rfl ?_
    refine V_aload_n 6 B dX12_look_6 0 rfl ?_
    refine V_iload_n 7 B dX12_look_7 1 rfl ?_
    refine V_cvi 8 B (st := [.ref h0]) (As := [.int p0]) (fun sz => mX12_isMode_1 l D Y (h0) (h1) (g0) (g1) (g2) (g3) (g4) (p0) sz) glV_RX12_91 ⟨rfl, rfl⟩ ⟨(Nat.le_of_ble_eq_true rfl), (Nat.le_of_ble_eq_true rfl)⟩ ⟨(Nat.le_of_ble_eq_true rfl), (Nat.le_of_ble_eq_true rfl)⟩ [0, 0] rfl 13 0 rfl rfl rfl rfl (Nat.le_of_ble_eq_true rfl) rfl (fun _ _ _ => rfl) dX12_look_8 (fun r0 u0 w0 => ?_)
    rcases w0 with ⟨k1, rfl⟩ | ⟨k2, rfl⟩ | ⟨k3, rfl⟩
    ·
      refine V_ws [(h0, oC 13 [.ref h1, .ref g0, .int 0, .ref g1, .ref g2, .int 0, .int 0, .int 0, .int (-1), .int 0, .int 0, .int 0, .long 0, .ref g3, .ref g4, .int 0, .int 0]), (h1, aI Y 3640 (clB 0 (fun _ => 0)))] rfl ?_
      obtain rfl : p0 = 0 := k1
      refine V_if_ne_t 11 B 18 dX12_look_11 (by decide) (by decide +kernel) ?_
      refine V_iconst 18 B (v := 0) dX12_look_18 (by decide +kernel) ?_
      refine V_iconst 19 B (v := 1) dX12_look_19 (by decide +kernel) ?_
      refine V_cvi 20 B (st := []) (As := [.int 0, .int 1]) (fun sz => mX12_throwsIf_2 l D Y (h0) (h1) (g0) (g1) (g2) (g3) (g4) sz) glV_RX12_69 ⟨rfl, rfl⟩ ⟨(Nat.le_of_ble_eq_true rfl), (Nat.le_of_ble_eq_true rfl)⟩ ⟨(Nat.le_of_ble_eq_true rfl), (Nat.le_of_ble_eq_true rfl)⟩ [0] rfl 13 0 rfl rfl rfl rfl (Nat.le_of_ble_eq_true rfl) rfl (fun _ _ _ => rfl) dX12_look_20 (fun r4 u4 w4 => ?_)
      obtain rfl := w4
      refine V_ws [(h0, oC 13 [.ref h1, .ref g0, .int 0, .ref g1, .ref g2, .int 0, .int 0, .int 0, .int (-1), .int 0, .int 0, .int 0, .long 0, .ref g3, .ref g4, .int 0, .int 0]), (h1, aI Y 3640 (clB 0 (fun _ => 0)))] rfl ?_
      refine V_if_eq_t 23 B 30 dX12_look_23 (by decide) (by decide +kernel) ?_
      refine V_aload_n 30 B dX12_look_30 0 rfl ?_
      refine V_cvi 31 B (st := []) (As := []) (fun sz => mX12_hasNoDraft_1 l D Y (h0) (h1) (g0) (g1) (g2) (g3) (g4) sz) glV_RX12_125 ⟨rfl, rfl⟩ ⟨(Nat.le_of_ble_eq_true rfl), (Nat.le_of_ble_eq_true rfl)⟩ ⟨(Nat.le_of_ble_eq_true rfl), (Nat.le_of_ble_eq_true rfl)⟩ [0, 0] rfl 13 0 rfl rfl rfl rfl (Nat.le_of_ble_eq_true rfl) rfl (fun _ _ _ => rfl) dX12_look_31 (fun r5 u5 w5 => ?_)
      obtain rfl := w5
      refine V_ws [(h0, oC 13 [.ref h1, .ref g0, .int 0, .ref g1, .ref g2, .int 0, .int 0, .int 0, .int (-1), .int 0, .int 0, .int 0, .long 0, .ref g3, .ref g4, .int 0, .int 0]), (h1, aI Y 3640 (clB 0 (fun _ => 0)))] rfl ?_
      refine V_if_eq_f 34 B 42 dX12_look_34 (by decide) (by decide +kernel) ?_
      refine V_bipush 37 B (v := (-4)) dX12_look_37 (by decide +kernel) ?_
      refine V_goto 39 B 50 dX12_look_39 (by decide) ?_
      exact V_iret 50 B dX12_look_50 0 (Or.inl ⟨rfl, rfl, rfl⟩) rfl
    ·
      refine V_ws [(h0, oC 13 [.ref h1, .ref g0, .int 0, .ref g1, .ref g2, .int 0, .int 0, .int 0, .int (-1), .int 0, .int 0, .int 0, .long 0, .ref g3, .ref g4, .int 0, .int 0]), (h1, aI Y 3640 (clB 0 (fun _ => 0)))] rfl ?_
      refine V_if_ne_f 11 B 18 dX12_look_11 (by decide) (by decide +kernel) ?_
      refine V_iconst 14 B (v := 1) dX12_look_14 (by decide +kernel) ?_
      refine V_goto 15 B 19 dX12_look_15 (by decide) ?_
      refine V_iconst 19 B (v := 1) dX12_look_19 (by decide +kernel) ?_
      refine V_cvi 20 B (st := []) (As := [.int 1, .int 1]) (fun sz => mX12_throwsIf_1 l D Y (h0) (h1) (g0) (g1) (g2) (g3) (g4) sz) glV_RX12_69 ⟨rfl, rfl⟩ ⟨(Nat.le_of_ble_eq_true rfl), (Nat.le_of_ble_eq_true rfl)⟩ ⟨(Nat.le_of_ble_eq_true rfl), (Nat.le_of_ble_eq_true rfl)⟩ [0] rfl 13 0 rfl rfl rfl rfl (Nat.le_of_ble_eq_true rfl) rfl (fun _ _ _ => rfl) dX12_look_20 (fun r6 u6 w6 => ?_)
      obtain rfl := w6
      refine V_ws [(h0, oC 13 [.ref h1, .ref g0, .int 1, .ref g1, .ref g2, .int 0, .int 0, .int 0, .int (-1), .int 0, .int 0, .int 0, .long 0, .ref g3, .ref g4, .int 0, .int 0]), (h1, aI Y 3640 (clB 0 (fun _ => 0)))] rfl ?_
      refine V_if_eq_f 23 B 30 dX12_look_23 (by decide) (by decide +kernel) ?_
      refine V_iconst 26 B (v := 0) dX12_look_26 (by decide +kernel) ?_
      refine V_goto 27 B 50 dX12_look_27 (by decide) ?_
      exact V_iret 50 B dX12_look_50 1 (Or.inr (Or.inl ⟨rfl, k2, rfl⟩)) rfl
    ·
      refine V_ws [(h0, oC 13 [.ref h1, .ref g0, .int 0, .ref g1, .ref g2, .int 0, .int 0, .int 0, .int (-1), .int 0, .int 0, .int 0, .long 0, .ref g3, .ref g4, .int 0, .int 0]), (h1, aI Y 3640 (clB 0 (fun _ => 0)))] rfl ?_
      refine V_if_ne_f 11 B 18 dX12_look_11 (by decide) (by decide +kernel) ?_
      refine V_iconst 14 B (v := 1) dX12_look_14 (by decide +kernel) ?_
      refine V_goto 15 B 19 dX12_look_15 (by decide) ?_
      refine V_iconst 19 B (v := 1) dX12_look_19 (by decide +kernel) ?_
      refine V_cvi 20 B (st := []) (As := [.int 1, .int 1]) (fun sz => mX12_throwsIf_1 l D Y (h0) (h1) (g0) (g1) (g2) (g3) (g4) sz) glV_RX12_69 ⟨rfl, rfl⟩ ⟨(Nat.le_of_ble_eq_true rfl), (Nat.le_of_ble_eq_true rfl)⟩ ⟨(Nat.le_of_ble_eq_true rfl), (Nat.le_of_ble_eq_true rfl)⟩ [0] rfl 13 0 rfl rfl rfl rfl (Nat.le_of_ble_eq_true rfl) rfl (fun _ _ _ => rfl) dX12_look_20 (fun r7 u7 w7 => ?_)
      obtain rfl := w7
      refine V_ws [(h0, oC 13 [.ref h1, .ref g0, .int 1, .ref g1, .ref g2, .int 0, .int 0, .int 0, .int (-1), .int 0, .int 0, .int 0, .long 0, .ref g3, .ref g4, .int 0, .int 0]), (h1, aI Y 3640 (clB 0 (fun _ => 0)))] rfl ?_
      refine V_if_eq_f 23 B 30 dX12_look_23 (by decide) (by decide +kernel) ?_
      refine V_iconst 26 B (v := 0) dX12_look_26 (by decide +kernel) ?_
      refine V_goto 27 B 50 dX12_look_27 (by decide) ?_
      exact V_iret 50 B dX12_look_50 2 (Or.inr (Or.inr ⟨rfl, k3, rfl⟩)) rfl)
theorem dX12_continued_0 : decode cX12_continued 0 = .ok (.iconst 0, 1) := by decide +kernel
theorem dX12_continued_1 : decode cX12_continued 1 = .ok (.istore_n 3, 1) := by decide +kernel
theorem dX12_continued_2 : decode cX12_continued 2 = .ok (.iconst 0, 1) := by decide +kernel
theorem dX12_continued_3 : decode cX12_continued 3 = .ok (.istore 4, 2) := by decide +kernel
theorem dX12_continued_5 : decode cX12_continued 5 = .ok (.iload 4, 2) := by decide +kernel
theorem dX12_continued_7 : decode cX12_continued 7 = .ok (.aload_n 0, 1) := by decide +kernel
theorem dX12_continued_8 : decode cX12_continued 8 = .ok (.getfield 9, 3) := by decide +kernel
theorem dX12_continued_11 : decode cX12_continued 11 = .ok (.iconst 3, 1) := by decide +kernel
theorem dX12_continued_12 : decode cX12_continued 12 = .ok (.iaload, 1) := by decide +kernel
theorem dX12_continued_13 : decode cX12_continued 13 = .ok (.if_icmp .ge 40, 3) := by decide +kernel
theorem dX12_continued_53 : decode cX12_continued 53 = .ok (.iload_n 3, 1) := by decide +kernel
theorem dX12_continued_54 : decode cX12_continued 54 = .ok (.ireturn, 1) := by decide +kernel
set_option maxRecDepth 100000 in
set_option maxHeartbeats 4000000 in
theorem mX12_continued_1 (l : Launch) (D : va_G) (Y : Nat → ClassId) (h0 : Nat) (h1 : Nat) (g0 : Nat) (g1 : Nat) (g2 : Nat) (g3 : Nat) (g4 : Nat) (sz : Nat) : Met l yX12_continued (WSm yX12_continued cX12_continued 5 (some .int)) (mkR 0 0 0 0) (PreC D Y [.ref h0, .int 0, .int 3624] [(h0, oC 13 [.ref h1, .ref g0, .int 0, .ref g1, .ref g2, .int 0, .int 0, .int 0, .int (-1), .int 0, .int 0, .int 0, .long 0, .ref g3, .ref g4, .int 0, .int 0]), (h1, aI Y 3640 (clB 0 (fun _ => 0)))] sz) (QI D (fun (r : Int32) (u : Unit) => 0 = r) (fun (_ : Unit) => [(h0, oC 13 [.ref h1, .ref g0, .int 0, .ref g1, .ref g2, .int 0, .int 0, .int 0, .int (-1), .int 0, .int 0, .int 0, .long 0, .ref g3, .ref g4, .int 0, .int 0]), (h1, aI Y 3640 (clB 0 (fun _ => 0)))]) (va_A [(h0, oC 13 [.ref h1, .ref g0, .int 0, .ref g1, .ref g2, .int 0, .int 0, .int 0, .int (-1), .int 0, .int 0, .int 0, .long 0, .ref g3, .ref g4, .int 0, .int 0]), (h1, aI Y 3640 (clB 0 (fun _ => 0)))] sz)) 0 0 (va_A [(h0, oC 13 [.ref h1, .ref g0, .int 0, .ref g1, .ref g2, .int 0, .int 0, .int 0, .int (-1), .int 0, .int 0, .int 0, .long 0, .ref g3, .ref g4, .int 0, .int 0]), (h1, aI Y 3640 (clB 0 (fun _ => 0)))] sz) :=
  met_of (by decide +kernel) (Nat.le_of_ble_eq_true rfl) (fun p e s m args below meth c B hin hsz => by
    have B : VB p s m args meth c D Y (va_A [(h0, oC 13 [.ref h1, .ref g0, .int 0, .ref g1, .ref g2, .int 0, .int 0, .int 0, .int (-1), .int 0, .int 0, .int 0, .long 0, .ref g3, .ref g4, .int 0, .int 0]), (h1, aI Y 3640 (clB 0 (fun _ => 0)))] sz) cX12_continued 5 RX12 (some .int) := B
    refine V_iconst 0 B (v := 0) dX12_continued_0 (by decide +kernel) ?_
    refine V_istore_n 1 B (lv2 := [(3, .int 0), (0, .ref h0), (1, .int 0), (2, .int 3624)]) dX12_continued_1 (by decide) rfl ?_
    refine V_iconst 2 B (v := 0) dX12_continued_2 (by decide +kernel) ?_
    refine V_istore 3 B (lv2 := [(4, .int 0), (3, .int 0), (0, .ref h0), (1, .int 0), (2, .int 3624)]) dX12_continued_3 (by decide) rfl ?_
    refine V_iload 5 B dX12_continued_5 0 rfl ?_
    refine V_aload_n 7 B dX12_continued_7 2 rfl ?_
    refine V_get 8 B gf_RX12_9 0 rfl rfl dX12_continued_8 ?_
    refine V_iconst 11 B (v := 3) dX12_continued_11 (by decide +kernel) ?_
    refine V_iald 12 B (v := 0) 1 rfl (vpin _ _ (by decide +kernel)) dX12_continued_12 rfl ?_
    refine V_icmp_ge_t 13 B 53 dX12_continued_13 (by decide) (by decide +kernel) ?_
    refine V_iload_n 53 B dX12_continued_53 1 rfl ?_
    exact V_iret 54 B dX12_continued_54 () rfl rfl)
theorem dX12_continuations_0 : decode cX12_continuations 0 = .ok (.aload_n 0, 1) := by decide +kernel
theorem dX12_continuations_1 : decode cX12_continuations 1 = .ok (.iconst 0, 1) := by decide +kernel
theorem dX12_continuations_2 : decode cX12_continuations 2 = .ok (.putfield 38, 3) := by decide +kernel
theorem dX12_continuations_5 : decode cX12_continuations 5 = .ok (.aload_n 0, 1) := by decide +kernel
theorem dX12_continuations_6 : decode cX12_continuations 6 = .ok (.aload_n 0, 1) := by decide +kernel
theorem dX12_continuations_7 : decode cX12_continuations 7 = .ok (.iload_n 1, 1) := by decide +kernel
theorem dX12_continuations_8 : decode cX12_continuations 8 = .ok (.invokevirtual 91, 3) := by decide +kernel
theorem dX12_continuations_11 : decode cX12_continuations 11 = .ok (.ifCond .ne 7, 3) := by decide +kernel
theorem dX12_continuations_18 : decode cX12_continuations 18 = .ok (.iconst 0, 1) := by decide +kernel
theorem dX12_continuations_19 : decode cX12_continuations 19 = .ok (.iconst 1, 1) := by decide +kernel
theorem dX12_continuations_20 : decode cX12_continuations 20 = .ok (.invokevirtual 69, 3) := by decide +kernel
theorem dX12_continuations_23 : decode cX12_continuations 23 = .ok (.ifCond .eq 7, 3) := by decide +kernel
theorem dX12_continuations_30 : decode cX12_continuations 30 = .ok (.aload_n 0, 1) := by decide +kernel
theorem dX12_continuations_31 : decode cX12_continuations 31 = .ok (.iload_n 1, 1) := by decide +kernel
theorem dX12_continuations_32 : decode cX12_continuations 32 = .ok (.sipush 3624, 3) := by decide +kernel
theorem dX12_continuations_35 : decode cX12_continuations 35 = .ok (.invokevirtual 160, 3) := by decide +kernel
theorem glV_RX12_160 : GLV RX12 160 yX12_continued RX12 cX12_continued 5 (some .int) 2 := ⟨⟨(mT8 188 rfl rfl), (mT8 190 rfl rfl), (mTs 55 rfl rfl), (mT1 13 rfl rfl), (mT8 191 rfl rfl)⟩, by decide +kernel⟩
theorem dX12_continuations_38 : decode cX12_continuations 38 = .ok (.ireturn, 1) := by decide +kernel
theorem dX12_continuations_14 : decode cX12_continuations 14 = .ok (.iconst 1, 1) := by decide +kernel
theorem dX12_continuations_15 : decode cX12_continuations 15 = .ok (.goto 4, 3) := by decide +kernel
theorem dX12_continuations_26 : decode cX12_continuations 26 = .ok (.iconst 0, 1) := by decide +kernel
theorem dX12_continuations_27 : decode cX12_continuations 27 = .ok (.goto 11, 3) := by decide +kernel
set_option maxRecDepth 100000 in
set_option maxHeartbeats 4000000 in
theorem mX12_continuations_1 (l : Launch) (D : va_G) (Y : Nat → ClassId) (h0 : Nat) (h1 : Nat) (g0 : Nat) (g1 : Nat) (g2 : Nat) (g3 : Nat) (g4 : Nat) (p0 : Int32) (sz : Nat) : Met l yX12_continuations (WSm yX12_continuations cX12_continuations 2 (some .int)) (mkR 2 0 0 46) (PreC D Y [.ref h0, .int p0] [(h0, oC 13 [.ref h1, .ref g0, .int 0, .ref g1, .ref g2, .int 0, .int 0, .int 0, .int (-1), .int 0, .int 0, .int 0, .long 0, .ref g3, .ref g4, .int 0, .int 0]), (h1, aI Y 3640 (clB 0 (fun _ => 0)))] sz) (QI D (fun (r : Int32) (u : Nat) => (u = 0 ∧ p0 = 0 ∧ 0 = r) ∨ (u = 1 ∧ p0 < 0 ∧ 0 = r) ∨ (u = 2 ∧ 0 < p0 ∧ 0 = r)) (fun (u : Nat) => match u with | 0 => [(h0, oC 13 [.ref h1, .ref g0, .int 0, .ref g1, .ref g2, .int 0, .int 0, .int 0, .int (-1), .int 0, .int 0, .int 0, .long 0, .ref g3, .ref g4, .int 0, .int 0]), (h1, aI Y 3640 (clB 0 (fun _ => 0)))] | 1 => [(h0, oC 13 [.ref h1, .ref g0, .int 1, .ref g1, .ref g2, .int 0, .int 0, .int 0, .int (-1), .int 0, .int 0, .int 0, .long 0, .ref g3, .ref g4, .int 0, .int 0]), (h1, aI Y 3640 (clB 0 (fun _ => 0)))] | _ => [(h0, oC 13 [.ref h1, .ref g0, .int 1, .ref g1, .ref g2, .int 0, .int 0, .int 0, .int (-1), .int 0, .int 0, .int 0, .long 0, .ref g3, .ref g4, .int 0, .int 0]), (h1, aI Y 3640 (clB 0 (fun _ => 0)))]) (va_A [(h0, oC 13 [.ref h1, .ref g0, .int 0, .ref g1, .ref g2, .int 0, .int 0, .int 0, .int (-1), .int 0, .int 0, .int 0, .long 0, .ref g3, .ref g4, .int 0, .int 0]), (h1, aI Y 3640 (clB 0 (fun _ => 0)))] sz)) 0 0 (va_A [(h0, oC 13 [.ref h1, .ref g0, .int 0, .ref g1, .ref g2, .int 0, .int 0, .int 0, .int (-1), .int 0, .int 0, .int 0, .long 0, .ref g3, .ref g4, .int 0, .int 0]), (h1, aI Y 3640 (clB 0 (fun _ => 0)))] sz) :=
  met_of (by decide +kernel) (Nat.le_of_ble_eq_true rfl) (fun p e s m args below meth c B hin hsz => by
    have B : VB p s m args meth c D Y (va_A [(h0, oC 13 [.ref h1, .ref g0, .int 0, .ref g1, .ref g2, .int 0, .int 0, .int 0, .int (-1), .int 0, .int 0, .int 0, .long 0, .ref g3, .ref g4, .int 0, .int 0]), (h1, aI Y 3640 (clB 0 (fun _ => 0)))] sz) cX12_continuations 2 RX12 (some .int) := B
    refine V_aload_n 0 B dX12_continuations_0 0 rfl ?_
    refine V_iconst 1 B (v := 0) dX12_continuations_1 (by decide +kernel) ?_
    refine V_put 2 B gp_RX12_38 0 rfl (Nat.le_of_ble_eq_true rfl) rfl rfl dX12_continuations_2 [(h0, oC 13 [.ref h1, .ref g0, .int 0, .ref g1, .ref g2, .int 0, .int 0, .int 0, .int (-1), .int 0, .int 0, .int 0, .long 0, .ref g3, .ref g4, .int 0, .int 0]), (h1, aI Y 3640 (clB 0 (fun _ => 0)))] rfl ?_
    refine V_aload_n 5 B dX12_continuations_5 0 rfl ?_
    refine V_aload_n 6 B dX12_continuations_6 0 rfl ?_
    refine V_iload_n 7 B dX12_continuations_7 1 rfl ?_
    refine V_cvi 8 B (st := [.ref h0]) (As := [.int p0]) (fun sz => mX12_isMode_1 l D Y (h0) (h1) (g0) (g1) (g2) (g3) (g4) (p0) sz) glV_RX12_91 ⟨rfl, rfl⟩ ⟨(Nat.le_of_ble_eq_true rfl), (Nat.le_of_ble_eq_true rfl)⟩ ⟨(Nat.le_of_ble_eq_true rfl), (Nat.le_of_ble_eq_true rfl)⟩ [0, 0] rfl 13 0 rfl rfl rfl rfl (Nat.le_of_ble_eq_true rfl) rfl (fun _ _ _ => rfl) dX12_continuations_8 (fun r0 u0 w0 => ?_)
    rcases w0 with ⟨k1, rfl⟩ | ⟨k2, rfl⟩ | ⟨k3, rfl⟩
    ·
      refine V_ws [(h0, oC 13 [.ref h1, .ref g0, .int 0, .ref g1, .ref g2, .int 0, .int 0, .int 0, .int (-1), .int 0, .int 0, .int 0, .long 0, .ref g3, .ref g4, .int 0, .int 0]), (h1, aI Y 3640 (clB 0 (fun _ => 0)))] rfl ?_
      obtain rfl : p0 = 0 := k1
      refine V_if_ne_t 11 B 18 dX12_continuations_11 (by decide) (by decide +kernel) ?_
      refine V_iconst 18 B (v := 0) dX12_continuations_18 (by decide +kernel) ?_
      refine V_iconst 19 B (v := 1) dX12_continuations_19 (by decide +kernel) ?_
      refine V_cvi 20 B (st := []) (As := [.int 0, .int 1]) (fun sz => mX12_throwsIf_2 l D Y (h0) (h1) (g0) (g1) (g2) (g3) (g4) sz) glV_RX12_69 ⟨rfl, rfl⟩ ⟨(Nat.le_of_ble_eq_true rfl), (Nat.le_of_ble_eq_true rfl)⟩ ⟨(Nat.le_of_ble_eq_true rfl), (Nat.le_of_ble_eq_true rfl)⟩ [0] rfl 13 0 rfl rfl rfl rfl (Nat.le_of_ble_eq_true rfl) rfl (fun _ _ _ => rfl) dX12_continuations_20 (fun r4 u4 w4 => ?_)
      obtain rfl := w4
      refine V_ws [(h0, oC 13 [.ref h1, .ref g0, .int 0, .ref g1, .ref g2, .int 0, .int 0, .int 0, .int (-1), .int 0, .int 0, .int 0, .long 0, .ref g3, .ref g4, .int 0, .int 0]), (h1, aI Y 3640 (clB 0 (fun _ => 0)))] rfl ?_
      refine V_if_eq_t 23 B 30 dX12_continuations_23 (by decide) (by decide +kernel) ?_
      refine V_aload_n 30 B dX12_continuations_30 0 rfl ?_
      refine V_iload_n 31 B dX12_continuations_31 1 rfl ?_
      refine V_sipush 32 B (v := 3624) dX12_continuations_32 (by decide +kernel) ?_
      refine V_cvi 35 B (st := []) (As := [.int 0, .int 3624]) (fun sz => mX12_continued_1 l D Y (h0) (h1) (g0) (g1) (g2) (g3) (g4) sz) glV_RX12_160 ⟨rfl, rfl⟩ ⟨(Nat.le_of_ble_eq_true rfl), (Nat.le_of_ble_eq_true rfl)⟩ ⟨(Nat.le_of_ble_eq_true rfl), (Nat.le_of_ble_eq_true rfl)⟩ [0, 0] rfl 13 0 rfl rfl rfl rfl (Nat.le_of_ble_eq_true rfl) rfl (fun _ _ _ => rfl) dX12_continuations_35 (fun r5 u5 w5 => ?_)
      obtain rfl := w5
      refine V_ws [(h0, oC 13 [.ref h1, .ref g0, .int 0, .ref g1, .ref g2, .int 0, .int 0, .int 0, .int (-1), .int 0, .int 0, .int 0, .long 0, .ref g3, .ref g4, .int 0, .int 0]), (h1, aI Y 3640 (clB 0 (fun _ => 0)))] rfl ?_
      exact V_iret 38 B dX12_continuations_38 0 (Or.inl ⟨rfl, rfl, rfl⟩) rfl
    ·
      refine V_ws [(h0, oC 13 [.ref h1, .ref g0, .int 0, .ref g1, .ref g2, .int 0, .int 0, .int 0, .int (-1), .int 0, .int 0, .int 0, .long 0, .ref g3, .ref g4, .int 0, .int 0]), (h1, aI Y 3640 (clB 0 (fun _ => 0)))] rfl ?_
      refine V_if_ne_f 11 B 18 dX12_continuations_11 (by decide) (by decide +kernel) ?_
      refine V_iconst 14 B (v := 1) dX12_continuations_14 (by decide +kernel) ?_
      refine V_goto 15 B 19 dX12_continuations_15 (by decide) ?_
      refine V_iconst 19 B (v := 1) dX12_continuations_19 (by decide +kernel) ?_
      refine V_cvi 20 B (st := []) (As := [.int 1, .int 1]) (fun sz => mX12_throwsIf_1 l D Y (h0) (h1) (g0) (g1) (g2) (g3) (g4) sz) glV_RX12_69 ⟨rfl, rfl⟩ ⟨(Nat.le_of_ble_eq_true rfl), (Nat.le_of_ble_eq_true rfl)⟩ ⟨(Nat.le_of_ble_eq_true rfl), (Nat.le_of_ble_eq_true rfl)⟩ [0] rfl 13 0 rfl rfl rfl rfl (Nat.le_of_ble_eq_true rfl) rfl (fun _ _ _ => rfl) dX12_continuations_20 (fun r6 u6 w6 => ?_)
      obtain rfl := w6
      refine V_ws [(h0, oC 13 [.ref h1, .ref g0, .int 1, .ref g1, .ref g2, .int 0, .int 0, .int 0, .int (-1), .int 0, .int 0, .int 0, .long 0, .ref g3, .ref g4, .int 0, .int 0]), (h1, aI Y 3640 (clB 0 (fun _ => 0)))] rfl ?_
      refine V_if_eq_f 23 B 30 dX12_continuations_23 (by decide) (by decide +kernel) ?_
      refine V_iconst 26 B (v := 0) dX12_continuations_26 (by decide +kernel) ?_
      refine V_goto 27 B 38 dX12_continuations_27 (by decide) ?_
      exact V_iret 38 B dX12_continuations_38 1 (Or.inr (Or.inl ⟨rfl, k2, rfl⟩)) rfl
    ·
      refine V_ws [(h0, oC 13 [.ref h1, .ref g0, .int 0, .ref g1, .ref g2, .int 0, .int 0, .int 0, .int (-1), .int 0, .int 0, .int 0, .long 0, .ref g3, .ref g4, .int 0, .int 0]), (h1, aI Y 3640 (clB 0 (fun _ => 0)))] rfl ?_
      refine V_if_ne_f 11 B 18 dX12_continuations_11 (by decide) (by decide +kernel) ?_
      refine V_iconst 14 B (v := 1) dX12_continuations_14 (by decide +kernel) ?_
      refine V_goto 15 B 19 dX12_continuations_15 (by decide) ?_
      refine V_iconst 19 B (v := 1) dX12_continuations_19 (by decide +kernel) ?_
      refine V_cvi 20 B (st := []) (As := [.int 1, .int 1]) (fun sz => mX12_throwsIf_1 l D Y (h0) (h1) (g0) (g1) (g2) (g3) (g4) sz) glV_RX12_69 ⟨rfl, rfl⟩ ⟨(Nat.le_of_ble_eq_true rfl), (Nat.le_of_ble_eq_true rfl)⟩ ⟨(Nat.le_of_ble_eq_true rfl), (Nat.le_of_ble_eq_true rfl)⟩ [0] rfl 13 0 rfl rfl rfl rfl (Nat.le_of_ble_eq_true rfl) rfl (fun _ _ _ => rfl) dX12_continuations_20 (fun r7 u7 w7 => ?_)
      obtain rfl := w7
      refine V_ws [(h0, oC 13 [.ref h1, .ref g0, .int 1, .ref g1, .ref g2, .int 0, .int 0, .int 0, .int (-1), .int 0, .int 0, .int 0, .long 0, .ref g3, .ref g4, .int 0, .int 0]), (h1, aI Y 3640 (clB 0 (fun _ => 0)))] rfl ?_
      refine V_if_eq_f 23 B 30 dX12_continuations_23 (by decide) (by decide +kernel) ?_
      refine V_iconst 26 B (v := 0) dX12_continuations_26 (by decide +kernel) ?_
      refine V_goto 27 B 38 dX12_continuations_27 (by decide) ?_
      exact V_iret 38 B dX12_continuations_38 2 (Or.inr (Or.inr ⟨rfl, k3, rfl⟩)) rfl)
theorem dX12_visibleCount_0 : decode cX12_visibleCount 0 = .ok (.iconst 0, 1) := by decide +kernel
theorem dX12_visibleCount_1 : decode cX12_visibleCount 1 = .ok (.istore_n 2, 1) := by decide +kernel
theorem dX12_visibleCount_2 : decode cX12_visibleCount 2 = .ok (.iconst 0, 1) := by decide +kernel
theorem dX12_visibleCount_3 : decode cX12_visibleCount 3 = .ok (.istore_n 3, 1) := by decide +kernel
theorem dX12_visibleCount_4 : decode cX12_visibleCount 4 = .ok (.iload_n 3, 1) := by decide +kernel
theorem dX12_visibleCount_5 : decode cX12_visibleCount 5 = .ok (.aload_n 0, 1) := by decide +kernel
theorem dX12_visibleCount_6 : decode cX12_visibleCount 6 = .ok (.getfield 9, 3) := by decide +kernel
theorem dX12_visibleCount_9 : decode cX12_visibleCount 9 = .ok (.iconst 3, 1) := by decide +kernel
theorem dX12_visibleCount_10 : decode cX12_visibleCount 10 = .ok (.iaload, 1) := by decide +kernel
theorem dX12_visibleCount_11 : decode cX12_visibleCount 11 = .ok (.if_icmp .ge 26, 3) := by decide +kernel
theorem dX12_visibleCount_37 : decode cX12_visibleCount 37 = .ok (.iload_n 2, 1) := by decide +kernel
theorem dX12_visibleCount_38 : decode cX12_visibleCount 38 = .ok (.ireturn, 1) := by decide +kernel
set_option maxRecDepth 100000 in
set_option maxHeartbeats 4000000 in
theorem mX12_visibleCount_1 (l : Launch) (D : va_G) (Y : Nat → ClassId) (h0 : Nat) (h1 : Nat) (g0 : Nat) (g1 : Nat) (g2 : Nat) (g3 : Nat) (g4 : Nat) (sz : Nat) : Met l yX12_visibleCount (WSm yX12_visibleCount cX12_visibleCount 4 (some .int)) (mkR 0 0 0 0) (PreC D Y [.ref h0, .int 0] [(h0, oC 13 [.ref h1, .ref g0, .int 0, .ref g1, .ref g2, .int 0, .int 0, .int 0, .int (-1), .int 0, .int 0, .int 0, .long 0, .ref g3, .ref g4, .int 0, .int 0]), (h1, aI Y 3640 (clB 0 (fun _ => 0)))] sz) (QI D (fun (r : Int32) (u : Unit) => 0 = r) (fun (_ : Unit) => [(h0, oC 13 [.ref h1, .ref g0, .int 0, .ref g1, .ref g2, .int 0, .int 0, .int 0, .int (-1), .int 0, .int 0, .int 0, .long 0, .ref g3, .ref g4, .int 0, .int 0]), (h1, aI Y 3640 (clB 0 (fun _ => 0)))]) (va_A [(h0, oC 13 [.ref h1, .ref g0, .int 0, .ref g1, .ref g2, .int 0, .int 0, .int 0, .int (-1), .int 0, .int 0, .int 0, .long 0, .ref g3, .ref g4, .int 0, .int 0]), (h1, aI Y 3640 (clB 0 (fun _ => 0)))] sz)) 0 0 (va_A [(h0, oC 13 [.ref h1, .ref g0, .int 0, .ref g1, .ref g2, .int 0, .int 0, .int 0, .int (-1), .int 0, .int 0, .int 0, .long 0, .ref g3, .ref g4, .int 0, .int 0]), (h1, aI Y 3640 (clB 0 (fun _ => 0)))] sz) :=
  met_of (by decide +kernel) (Nat.le_of_ble_eq_true rfl) (fun p e s m args below meth c B hin hsz => by
    have B : VB p s m args meth c D Y (va_A [(h0, oC 13 [.ref h1, .ref g0, .int 0, .ref g1, .ref g2, .int 0, .int 0, .int 0, .int (-1), .int 0, .int 0, .int 0, .long 0, .ref g3, .ref g4, .int 0, .int 0]), (h1, aI Y 3640 (clB 0 (fun _ => 0)))] sz) cX12_visibleCount 4 RX12 (some .int) := B
    refine V_iconst 0 B (v := 0) dX12_visibleCount_0 (by decide +kernel) ?_
    refine V_istore_n 1 B (lv2 := [(2, .int 0), (0, .ref h0), (1, .int 0)]) dX12_visibleCount_1 (by decide) rfl ?_
    refine V_iconst 2 B (v := 0) dX12_visibleCount_2 (by decide +kernel) ?_
    refine V_istore_n 3 B (lv2 := [(3, .int 0), (2, .int 0), (0, .ref h0), (1, .int 0)]) dX12_visibleCount_3 (by decide) rfl ?_
    refine V_iload_n 4 B dX12_visibleCount_4 0 rfl ?_
    refine V_aload_n 5 B dX12_visibleCount_5 2 rfl ?_
    refine V_get 6 B gf_RX12_9 0 rfl rfl dX12_visibleCount_6 ?_
    refine V_iconst 9 B (v := 3) dX12_visibleCount_9 (by decide +kernel) ?_
    refine V_iald 10 B (v := 0) 1 rfl (vpin _ _ (by decide +kernel)) dX12_visibleCount_10 rfl ?_
    refine V_icmp_ge_t 11 B 37 dX12_visibleCount_11 (by decide) (by decide +kernel) ?_
    refine V_iload_n 37 B dX12_visibleCount_37 1 rfl ?_
    exact V_iret 38 B dX12_visibleCount_38 () rfl rfl)
theorem dX12_visible_0 : decode cX12_visible 0 = .ok (.aload_n 0, 1) := by decide +kernel
theorem dX12_visible_1 : decode cX12_visible 1 = .ok (.iconst 0, 1) := by decide +kernel
theorem dX12_visible_2 : decode cX12_visible 2 = .ok (.putfield 38, 3) := by decide +kernel
theorem dX12_visible_5 : decode cX12_visible 5 = .ok (.aload_n 0, 1) := by decide +kernel
theorem dX12_visible_6 : decode cX12_visible 6 = .ok (.aload_n 0, 1) := by decide +kernel
theorem dX12_visible_7 : decode cX12_visible 7 = .ok (.iload_n 1, 1) := by decide +kernel
theorem dX12_visible_8 : decode cX12_visible 8 = .ok (.invokevirtual 91, 3) := by decide +kernel
theorem dX12_visible_11 : decode cX12_visible 11 = .ok (.ifCond .ne 7, 3) := by decide +kernel
theorem dX12_visible_18 : decode cX12_visible 18 = .ok (.iconst 0, 1) := by decide +kernel
theorem dX12_visible_19 : decode cX12_visible 19 = .ok (.iconst 1, 1) := by decide +kernel
theorem dX12_visible_20 : decode cX12_visible 20 = .ok (.invokevirtual 69, 3) := by decide +kernel
theorem dX12_visible_23 : decode cX12_visible 23 = .ok (.ifCond .eq 7, 3) := by decide +kernel
theorem dX12_visible_30 : decode cX12_visible 30 = .ok (.aload_n 0, 1) := by decide +kernel
theorem dX12_visible_31 : decode cX12_visible 31 = .ok (.iload_n 1, 1) := by decide +kernel
theorem dX12_visible_32 : decode cX12_visible 32 = .ok (.invokevirtual 163, 3) := by decide +kernel
theorem glV_RX12_163 : GLV RX12 163 yX12_visibleCount RX12 cX12_visibleCount 4 (some .int) 1 := ⟨⟨(mT8 196 rfl rfl), (mT8 198 rfl rfl), (mTs 56 rfl rfl), (mT1 13 rfl rfl), (mT8 199 rfl rfl)⟩, by decide +kernel⟩
theorem dX12_visible_35 : decode cX12_visible 35 = .ok (.ireturn, 1) := by decide +kernel
theorem dX12_visible_14 : decode cX12_visible 14 = .ok (.iconst 1, 1) := by decide +kernel
theorem dX12_visible_15 : decode cX12_visible 15 = .ok (.goto 4, 3) := by decide +kernel
theorem dX12_visible_26 : decode cX12_visible 26 = .ok (.iconst 0, 1) := by decide +kernel
theorem dX12_visible_27 : decode cX12_visible 27 = .ok (.goto 8, 3) := by decide +kernel
set_option maxRecDepth 100000 in
set_option maxHeartbeats 4000000 in
theorem mX12_visible_1 (l : Launch) (D : va_G) (Y : Nat → ClassId) (h0 : Nat) (h1 : Nat) (g0 : Nat) (g1 : Nat) (g2 : Nat) (g3 : Nat) (g4 : Nat) (p0 : Int32) (sz : Nat) : Met l yX12_visible (WSm yX12_visible cX12_visible 2 (some .int)) (mkR 2 0 0 46) (PreC D Y [.ref h0, .int p0] [(h0, oC 13 [.ref h1, .ref g0, .int 0, .ref g1, .ref g2, .int 0, .int 0, .int 0, .int (-1), .int 0, .int 0, .int 0, .long 0, .ref g3, .ref g4, .int 0, .int 0]), (h1, aI Y 3640 (clB 0 (fun _ => 0)))] sz) (QI D (fun (r : Int32) (u : Nat) => (u = 0 ∧ p0 = 0 ∧ 0 = r) ∨ (u = 1 ∧ p0 < 0 ∧ 0 = r) ∨ (u = 2 ∧ 0 < p0 ∧ 0 = r)) (fun (u : Nat) => match u with | 0 => [(h0, oC 13 [.ref h1, .ref g0, .int 0, .ref g1, .ref g2, .int 0, .int 0, .int 0, .int (-1), .int 0, .int 0, .int 0, .long 0, .ref g3, .ref g4, .int 0, .int 0]), (h1, aI Y 3640 (clB 0 (fun _ => 0)))] | 1 => [(h0, oC 13 [.ref h1, .ref g0, .int 1, .ref g1, .ref g2, .int 0, .int 0, .int 0, .int (-1), .int 0, .int 0, .int 0, .long 0, .ref g3, .ref g4, .int 0, .int 0]), (h1, aI Y 3640 (clB 0 (fun _ => 0)))] | _ => [(h0, oC 13 [.ref h1, .ref g0, .int 1, .ref g1, .ref g2, .int 0, .int 0, .int 0, .int (-1), .int 0, .int 0, .int 0, .long 0, .ref g3, .ref g4, .int 0, .int 0]), (h1, aI Y 3640 (clB 0 (fun _ => 0)))]) (va_A [(h0, oC 13 [.ref h1, .ref g0, .int 0, .ref g1, .ref g2, .int 0, .int 0, .int 0, .int (-1), .int 0, .int 0, .int 0, .long 0, .ref g3, .ref g4, .int 0, .int 0]), (h1, aI Y 3640 (clB 0 (fun _ => 0)))] sz)) 0 0 (va_A [(h0, oC 13 [.ref h1, .ref g0, .int 0, .ref g1, .ref g2, .int 0, .int 0, .int 0, .int (-1), .int 0, .int 0, .int 0, .long 0, .ref g3, .ref g4, .int 0, .int 0]), (h1, aI Y 3640 (clB 0 (fun _ => 0)))] sz) :=
  met_of (by decide +kernel) (Nat.le_of_ble_eq_true rfl) (fun p e s m args below meth c B hin hsz => by
    have B : VB p s m args meth c D Y (va_A [(h0, oC 13 [.ref h1, .ref g0, .int 0, .ref g1, .ref g2, .int 0, .int 0, .int 0, .int (-1), .int 0, .int 0, .int 0, .long 0, .ref g3, .ref g4, .int 0, .int 0]), (h1, aI Y 3640 (clB 0 (fun _ => 0)))] sz) cX12_visible 2 RX12 (some .int) := B
    refine V_aload_n 0 B dX12_visible_0 0 rfl ?_
    refine V_iconst 1 B (v := 0) dX12_visible_1 (by decide +kernel) ?_
    refine V_put 2 B gp_RX12_38 0 rfl (Nat.le_of_ble_eq_true rfl) rfl rfl dX12_visible_2 [(h0, oC 13 [.ref h1, .ref g0, .int 0, .ref g1, .ref g2, .int 0, .int 0, .int 0, .int (-1), .int 0, .int 0, .int 0, .long 0, .ref g3, .ref g4, .int 0, .int 0]), (h1, aI Y 3640 (clB 0 (fun _ => 0)))] rfl ?_
    refine V_aload_n 5 B dX12_visible_5 0 rfl ?_
    refine V_aload_n 6 B dX12_visible_6 0 rfl ?_
    refine V_iload_n 7 B dX12_visible_7 1 rfl ?_
    refine V_cvi 8 B (st := [.ref h0]) (As := [.int p0]) (fun sz => mX12_isMode_1 l D Y (h0) (h1) (g0) (g1) (g2) (g3) (g4) (p0) sz) glV_RX12_91 ⟨rfl, rfl⟩ ⟨(Nat.le_of_ble_eq_true rfl), (Nat.le_of_ble_eq_true rfl)⟩ ⟨(Nat.le_of_ble_eq_true rfl), (Nat.le_of_ble_eq_true rfl)⟩ [0, 0] rfl 13 0 rfl rfl rfl rfl (Nat.le_of_ble_eq_true rfl) rfl (fun _ _ _ => rfl) dX12_visible_8 (fun r0 u0 w0 => ?_)
    rcases w0 with ⟨k1, rfl⟩ | ⟨k2, rfl⟩ | ⟨k3, rfl⟩
    ·
      refine V_ws [(h0, oC 13 [.ref h1, .ref g0, .int 0, .ref g1, .ref g2, .int 0, .int 0, .int 0, .int (-1), .int 0, .int 0, .int 0, .long 0, .ref g3, .ref g4, .int 0, .int 0]), (h1, aI Y 3640 (clB 0 (fun _ => 0)))] rfl ?_
      obtain rfl : p0 = 0 := k1
      refine V_if_ne_t 11 B 18 dX12_visible_11 (by decide) (by decide +kernel) ?_
      refine V_iconst 18 B (v := 0) dX12_visible_18 (by decide +kernel) ?_
      refine V_iconst 19 B (v := 1) dX12_visible_19 (by decide +kernel) ?_
      refine V_cvi 20 B (st := []) (As := [.int 0, .int 1]) (fun sz => mX12_throwsIf_2 l D Y (h0) (h1) (g0) (g1) (g2) (g3) (g4) sz) glV_RX12_69 ⟨rfl, rfl⟩ ⟨(Nat.le_of_ble_eq_true rfl), (Nat.le_of_ble_eq_true rfl)⟩ ⟨(Nat.le_of_ble_eq_true rfl), (Nat.le_of_ble_eq_true rfl)⟩ [0] rfl 13 0 rfl rfl rfl rfl (Nat.le_of_ble_eq_true rfl) rfl (fun _ _ _ => rfl) dX12_visible_20 (fun r4 u4 w4 => ?_)
      obtain rfl := w4
      refine V_ws [(h0, oC 13 [.ref h1, .ref g0, .int 0, .ref g1, .ref g2, .int 0, .int 0, .int 0, .int (-1), .int 0, .int 0, .int 0, .long 0, .ref g3, .ref g4, .int 0, .int 0]), (h1, aI Y 3640 (clB 0 (fun _ => 0)))] rfl ?_
      refine V_if_eq_t 23 B 30 dX12_visible_23 (by decide) (by decide +kernel) ?_
      refine V_aload_n 30 B dX12_visible_30 0 rfl ?_
      refine V_iload_n 31 B dX12_visible_31 1 rfl ?_
      refine V_cvi 32 B (st := []) (As := [.int 0]) (fun sz => mX12_visibleCount_1 l D Y (h0) (h1) (g0) (g1) (g2) (g3) (g4) sz) glV_RX12_163 ⟨rfl, rfl⟩ ⟨(Nat.le_of_ble_eq_true rfl), (Nat.le_of_ble_eq_true rfl)⟩ ⟨(Nat.le_of_ble_eq_true rfl), (Nat.le_of_ble_eq_true rfl)⟩ [0, 0] rfl 13 0 rfl rfl rfl rfl (Nat.le_of_ble_eq_true rfl) rfl (fun _ _ _ => rfl) dX12_visible_32 (fun r5 u5 w5 => ?_)
      obtain rfl := w5
      refine V_ws [(h0, oC 13 [.ref h1, .ref g0, .int 0, .ref g1, .ref g2, .int 0, .int 0, .int 0, .int (-1), .int 0, .int 0, .int 0, .long 0, .ref g3, .ref g4, .int 0, .int 0]), (h1, aI Y 3640 (clB 0 (fun _ => 0)))] rfl ?_
      exact V_iret 35 B dX12_visible_35 0 (Or.inl ⟨rfl, rfl, rfl⟩) rfl
    ·
      refine V_ws [(h0, oC 13 [.ref h1, .ref g0, .int 0, .ref g1, .ref g2, .int 0, .int 0, .int 0, .int (-1), .int 0, .int 0, .int 0, .long 0, .ref g3, .ref g4, .int 0, .int 0]), (h1, aI Y 3640 (clB 0 (fun _ => 0)))] rfl ?_
      refine V_if_ne_f 11 B 18 dX12_visible_11 (by decide) (by decide +kernel) ?_
      refine V_iconst 14 B (v := 1) dX12_visible_14 (by decide +kernel) ?_
      refine V_goto 15 B 19 dX12_visible_15 (by decide) ?_
      refine V_iconst 19 B (v := 1) dX12_visible_19 (by decide +kernel) ?_
      refine V_cvi 20 B (st := []) (As := [.int 1, .int 1]) (fun sz => mX12_throwsIf_1 l D Y (h0) (h1) (g0) (g1) (g2) (g3) (g4) sz) glV_RX12_69 ⟨rfl, rfl⟩ ⟨(Nat.le_of_ble_eq_true rfl), (Nat.le_of_ble_eq_true rfl)⟩ ⟨(Nat.le_of_ble_eq_true rfl), (Nat.le_of_ble_eq_true rfl)⟩ [0] rfl 13 0 rfl rfl rfl rfl (Nat.le_of_ble_eq_true rfl) rfl (fun _ _ _ => rfl) dX12_visible_20 (fun r6 u6 w6 => ?_)
      obtain rfl := w6
      refine V_ws [(h0, oC 13 [.ref h1, .ref g0, .int 1, .ref g1, .ref g2, .int 0, .int 0, .int 0, .int (-1), .int 0, .int 0, .int 0, .long 0, .ref g3, .ref g4, .int 0, .int 0]), (h1, aI Y 3640 (clB 0 (fun _ => 0)))] rfl ?_
      refine V_if_eq_f 23 B 30 dX12_visible_23 (by decide) (by decide +kernel) ?_
      refine V_iconst 26 B (v := 0) dX12_visible_26 (by decide +kernel) ?_
      refine V_goto 27 B 35 dX12_visible_27 (by decide) ?_
      exact V_iret 35 B dX12_visible_35 1 (Or.inr (Or.inl ⟨rfl, k2, rfl⟩)) rfl
    ·
      refine V_ws [(h0, oC 13 [.ref h1, .ref g0, .int 0, .ref g1, .ref g2, .int 0, .int 0, .int 0, .int (-1), .int 0, .int 0, .int 0, .long 0, .ref g3, .ref g4, .int 0, .int 0]), (h1, aI Y 3640 (clB 0 (fun _ => 0)))] rfl ?_
      refine V_if_ne_f 11 B 18 dX12_visible_11 (by decide) (by decide +kernel) ?_
      refine V_iconst 14 B (v := 1) dX12_visible_14 (by decide +kernel) ?_
      refine V_goto 15 B 19 dX12_visible_15 (by decide) ?_
      refine V_iconst 19 B (v := 1) dX12_visible_19 (by decide +kernel) ?_
      refine V_cvi 20 B (st := []) (As := [.int 1, .int 1]) (fun sz => mX12_throwsIf_1 l D Y (h0) (h1) (g0) (g1) (g2) (g3) (g4) sz) glV_RX12_69 ⟨rfl, rfl⟩ ⟨(Nat.le_of_ble_eq_true rfl), (Nat.le_of_ble_eq_true rfl)⟩ ⟨(Nat.le_of_ble_eq_true rfl), (Nat.le_of_ble_eq_true rfl)⟩ [0] rfl 13 0 rfl rfl rfl rfl (Nat.le_of_ble_eq_true rfl) rfl (fun _ _ _ => rfl) dX12_visible_20 (fun r7 u7 w7 => ?_)
      obtain rfl := w7
      refine V_ws [(h0, oC 13 [.ref h1, .ref g0, .int 1, .ref g1, .ref g2, .int 0, .int 0, .int 0, .int (-1), .int 0, .int 0, .int 0, .long 0, .ref g3, .ref g4, .int 0, .int 0]), (h1, aI Y 3640 (clB 0 (fun _ => 0)))] rfl ?_
      refine V_if_eq_f 23 B 30 dX12_visible_23 (by decide) (by decide +kernel) ?_
      refine V_iconst 26 B (v := 0) dX12_visible_26 (by decide +kernel) ?_
      refine V_goto 27 B 35 dX12_visible_27 (by decide) ?_
      exact V_iret 35 B dX12_visible_35 2 (Or.inr (Or.inr ⟨rfl, k3, rfl⟩)) rfl)
theorem dX12_visibleAt_0 : decode cX12_visibleAt 0 = .ok (.aload_n 0, 1) := by decide +kernel
theorem dX12_visibleAt_1 : decode cX12_visibleAt 1 = .ok (.iconst 0, 1) := by decide +kernel
theorem dX12_visibleAt_2 : decode cX12_visibleAt 2 = .ok (.putfield 38, 3) := by decide +kernel
theorem dX12_visibleAt_5 : decode cX12_visibleAt 5 = .ok (.aload_n 0, 1) := by decide +kernel
theorem dX12_visibleAt_6 : decode cX12_visibleAt 6 = .ok (.aload_n 0, 1) := by decide +kernel
theorem dX12_visibleAt_7 : decode cX12_visibleAt 7 = .ok (.iload_n 1, 1) := by decide +kernel
theorem dX12_visibleAt_8 : decode cX12_visibleAt 8 = .ok (.invokevirtual 91, 3) := by decide +kernel
theorem dX12_visibleAt_11 : decode cX12_visibleAt 11 = .ok (.ifCond .ne 7, 3) := by decide +kernel
theorem dX12_visibleAt_18 : decode cX12_visibleAt 18 = .ok (.iconst 0, 1) := by decide +kernel
theorem dX12_visibleAt_19 : decode cX12_visibleAt 19 = .ok (.iconst 1, 1) := by decide +kernel
theorem dX12_visibleAt_20 : decode cX12_visibleAt 20 = .ok (.invokevirtual 69, 3) := by decide +kernel
theorem dX12_visibleAt_23 : decode cX12_visibleAt 23 = .ok (.ifCond .eq 5, 3) := by decide +kernel
theorem dX12_visibleAt_28 : decode cX12_visibleAt 28 = .ok (.iconst 0, 1) := by decide +kernel
theorem dX12_visibleAt_29 : decode cX12_visibleAt 29 = .ok (.istore_n 3, 1) := by decide +kernel
theorem dX12_visibleAt_30 : decode cX12_visibleAt 30 = .ok (.iload_n 3, 1) := by decide +kernel
theorem dX12_visibleAt_31 : decode cX12_visibleAt 31 = .ok (.aload_n 0, 1) := by decide +kernel
theorem dX12_visibleAt_32 : decode cX12_visibleAt 32 = .ok (.getfield 9, 3) := by decide +kernel
theorem dX12_visibleAt_35 : decode cX12_visibleAt 35 = .ok (.iconst 3, 1) := by decide +kernel
theorem dX12_visibleAt_36 : decode cX12_visibleAt 36 = .ok (.iaload, 1) := by decide +kernel
theorem dX12_visibleAt_37 : decode cX12_visibleAt 37 = .ok (.if_icmp .ge 88, 3) := by decide +kernel
theorem dX12_visibleAt_125 : decode cX12_visibleAt 125 = .ok (.iconst (-1), 1) := by decide +kernel
theorem dX12_visibleAt_126 : decode cX12_visibleAt 126 = .ok (.ireturn, 1) := by decide +kernel
theorem dX12_visibleAt_14 : decode cX12_visibleAt 14 = .ok (.iconst 1, 1) := by decide +kernel
theorem dX12_visibleAt_15 : decode cX12_visibleAt 15 = .ok (.goto 4, 3) := by decide +kernel
theorem dX12_visibleAt_26 : decode cX12_visibleAt 26 = .ok (.iconst 0, 1) := by decide +kernel
theorem dX12_visibleAt_27 : decode cX12_visibleAt 27 = .ok (.ireturn, 1) := by decide +kernel
set_option maxRecDepth 100000 in
set_option maxHeartbeats 4000000 in
theorem mX12_visibleAt_1 (l : Launch) (D : va_G) (Y : Nat → ClassId) (h0 : Nat) (h1 : Nat) (g0 : Nat) (g1 : Nat) (g2 : Nat) (g3 : Nat) (g4 : Nat) (p0 : Int32) (p1 : Int32) (sz : Nat) : Met l yX12_visibleAt (WSm yX12_visibleAt cX12_visibleAt 6 (some .int)) (mkR 2 0 0 46) (PreC D Y [.ref h0, .int p0, .int p1] [(h0, oC 13 [.ref h1, .ref g0, .int 0, .ref g1, .ref g2, .int 0, .int 0, .int 0, .int (-1), .int 0, .int 0, .int 0, .long 0, .ref g3, .ref g4, .int 0, .int 0]), (h1, aI Y 3640 (clB 0 (fun _ => 0)))] sz) (QI D (fun (r : Int32) (u : Nat) => (u = 0 ∧ p0 = 0 ∧ (-1) = r) ∨ (u = 1 ∧ p0 < 0 ∧ 0 = r) ∨ (u = 2 ∧ 0 < p0 ∧ 0 = r)) (fun (u : Nat) => match u with | 0 => [(h0, oC 13 [.ref h1, .ref g0, .int 0, .ref g1, .ref g2, .int 0, .int 0, .int 0, .int (-1), .int 0, .int 0, .int 0, .long 0, .ref g3, .ref g4, .int 0, .int 0]), (h1, aI Y 3640 (clB 0 (fun _ => 0)))] | 1 => [(h0, oC 13 [.ref h1, .ref g0, .int 1, .ref g1, .ref g2, .int 0, .int 0, .int 0, .int (-1), .int 0, .int 0, .int 0, .long 0, .ref g3, .ref g4, .int 0, .int 0]), (h1, aI Y 3640 (clB 0 (fun _ => 0)))] | _ => [(h0, oC 13 [.ref h1, .ref g0, .int 1, .ref g1, .ref g2, .int 0, .int 0, .int 0, .int (-1), .int 0, .int 0, .int 0, .long 0, .ref g3, .ref g4, .int 0, .int 0]), (h1, aI Y 3640 (clB 0 (fun _ => 0)))]) (va_A [(h0, oC 13 [.ref h1, .ref g0, .int 0, .ref g1, .ref g2, .int 0, .int 0, .int 0, .int (-1), .int 0, .int 0, .int 0, .long 0, .ref g3, .ref g4, .int 0, .int 0]), (h1, aI Y 3640 (clB 0 (fun _ => 0)))] sz)) 0 0 (va_A [(h0, oC 13 [.ref h1, .ref g0, .int 0, .ref g1, .ref g2, .int 0, .int 0, .int 0, .int (-1), .int 0, .int 0, .int 0, .long 0, .ref g3, .ref g4, .int 0, .int 0]), (h1, aI Y 3640 (clB 0 (fun _ => 0)))] sz) :=
  met_of (by decide +kernel) (Nat.le_of_ble_eq_true rfl) (fun p e s m args below meth c B hin hsz => by
    have B : VB p s m args meth c D Y (va_A [(h0, oC 13 [.ref h1, .ref g0, .int 0, .ref g1, .ref g2, .int 0, .int 0, .int 0, .int (-1), .int 0, .int 0, .int 0, .long 0, .ref g3, .ref g4, .int 0, .int 0]), (h1, aI Y 3640 (clB 0 (fun _ => 0)))] sz) cX12_visibleAt 6 RX12 (some .int) := B
    refine V_aload_n 0 B dX12_visibleAt_0 0 rfl ?_
    refine V_iconst 1 B (v := 0) dX12_visibleAt_1 (by decide +kernel) ?_
    refine V_put 2 B gp_RX12_38 0 rfl (Nat.le_of_ble_eq_true rfl) rfl rfl dX12_visibleAt_2 [(h0, oC 13 [.ref h1, .ref g0, .int 0, .ref g1, .ref g2, .int 0, .int 0, .int 0, .int (-1), .int 0, .int 0, .int 0, .long 0, .ref g3, .ref g4, .int 0, .int 0]), (h1, aI Y 3640 (clB 0 (fun _ => 0)))] rfl ?_
    refine V_aload_n 5 B dX12_visibleAt_5 0 rfl ?_
    refine V_aload_n 6 B dX12_visibleAt_6 0 rfl ?_
    refine V_iload_n 7 B dX12_visibleAt_7 1 rfl ?_
    refine V_cvi 8 B (st := [.ref h0]) (As := [.int p0]) (fun sz => mX12_isMode_1 l D Y (h0) (h1) (g0) (g1) (g2) (g3) (g4) (p0) sz) glV_RX12_91 ⟨rfl, rfl⟩ ⟨(Nat.le_of_ble_eq_true rfl), (Nat.le_of_ble_eq_true rfl)⟩ ⟨(Nat.le_of_ble_eq_true rfl), (Nat.le_of_ble_eq_true rfl)⟩ [0, 0] rfl 13 0 rfl rfl rfl rfl (Nat.le_of_ble_eq_true rfl) rfl (fun _ _ _ => rfl) dX12_visibleAt_8 (fun r0 u0 w0 => ?_)
    rcases w0 with ⟨k1, rfl⟩ | ⟨k2, rfl⟩ | ⟨k3, rfl⟩
    ·
      refine V_ws [(h0, oC 13 [.ref h1, .ref g0, .int 0, .ref g1, .ref g2, .int 0, .int 0, .int 0, .int (-1), .int 0, .int 0, .int 0, .long 0, .ref g3, .ref g4, .int 0, .int 0]), (h1, aI Y 3640 (clB 0 (fun _ => 0)))] rfl ?_
      obtain rfl : p0 = 0 := k1
      refine V_if_ne_t 11 B 18 dX12_visibleAt_11 (by decide) (by decide +kernel) ?_
      refine V_iconst 18 B (v := 0) dX12_visibleAt_18 (by decide +kernel) ?_
      refine V_iconst 19 B (v := 1) dX12_visibleAt_19 (by decide +kernel) ?_
      refine V_cvi 20 B (st := []) (As := [.int 0, .int 1]) (fun sz => mX12_throwsIf_2 l D Y (h0) (h1) (g0) (g1) (g2) (g3) (g4) sz) glV_RX12_69 ⟨rfl, rfl⟩ ⟨(Nat.le_of_ble_eq_true rfl), (Nat.le_of_ble_eq_true rfl)⟩ ⟨(Nat.le_of_ble_eq_true rfl), (Nat.le_of_ble_eq_true rfl)⟩ [0] rfl 13 0 rfl rfl rfl rfl (Nat.le_of_ble_eq_true rfl) rfl (fun _ _ _ => rfl) dX12_visibleAt_20 (fun r4 u4 w4 => ?_)
      obtain rfl := w4
      refine V_ws [(h0, oC 13 [.ref h1, .ref g0, .int 0, .ref g1, .ref g2, .int 0, .int 0, .int 0, .int (-1), .int 0, .int 0, .int 0, .long 0, .ref g3, .ref g4, .int 0, .int 0]), (h1, aI Y 3640 (clB 0 (fun _ => 0)))] rfl ?_
      refine V_if_eq_t 23 B 28 dX12_visibleAt_23 (by decide) (by decide +kernel) ?_
      refine V_iconst 28 B (v := 0) dX12_visibleAt_28 (by decide +kernel) ?_
      refine V_istore_n 29 B (lv2 := [(3, .int 0), (0, .ref h0), (1, .int 0), (2, .int p1)]) dX12_visibleAt_29 (by decide) rfl ?_
      refine V_iload_n 30 B dX12_visibleAt_30 0 rfl ?_
      refine V_aload_n 31 B dX12_visibleAt_31 1 rfl ?_
      refine V_get 32 B gf_RX12_9 0 rfl rfl dX12_visibleAt_32 ?_
      refine V_iconst 35 B (v := 3) dX12_visibleAt_35 (by decide +kernel) ?_
      refine V_iald 36 B (v := 0) 1 rfl (vpin _ _ (by decide +kernel)) dX12_visibleAt_36 rfl ?_
      refine V_icmp_ge_t 37 B 125 dX12_visibleAt_37 (by decide) (by decide +kernel) ?_
      refine V_iconst 125 B (v := (-1)) dX12_visibleAt_125 (by decide +kernel) ?_
      exact V_iret 126 B dX12_visibleAt_126 0 (Or.inl ⟨rfl, rfl, rfl⟩) rfl
    ·
      refine V_ws [(h0, oC 13 [.ref h1, .ref g0, .int 0, .ref g1, .ref g2, .int 0, .int 0, .int 0, .int (-1), .int 0, .int 0, .int 0, .long 0, .ref g3, .ref g4, .int 0, .int 0]), (h1, aI Y 3640 (clB 0 (fun _ => 0)))] rfl ?_
      refine V_if_ne_f 11 B 18 dX12_visibleAt_11 (by decide) (by decide +kernel) ?_
      refine V_iconst 14 B (v := 1) dX12_visibleAt_14 (by decide +kernel) ?_
      refine V_goto 15 B 19 dX12_visibleAt_15 (by decide) ?_
      refine V_iconst 19 B (v := 1) dX12_visibleAt_19 (by decide +kernel) ?_
      refine V_cvi 20 B (st := []) (As := [.int 1, .int 1]) (fun sz => mX12_throwsIf_1 l D Y (h0) (h1) (g0) (g1) (g2) (g3) (g4) sz) glV_RX12_69 ⟨rfl, rfl⟩ ⟨(Nat.le_of_ble_eq_true rfl), (Nat.le_of_ble_eq_true rfl)⟩ ⟨(Nat.le_of_ble_eq_true rfl), (Nat.le_of_ble_eq_true rfl)⟩ [0] rfl 13 0 rfl rfl rfl rfl (Nat.le_of_ble_eq_true rfl) rfl (fun _ _ _ => rfl) dX12_visibleAt_20 (fun r5 u5 w5 => ?_)
      obtain rfl := w5
      refine V_ws [(h0, oC 13 [.ref h1, .ref g0, .int 1, .ref g1, .ref g2, .int 0, .int 0, .int 0, .int (-1), .int 0, .int 0, .int 0, .long 0, .ref g3, .ref g4, .int 0, .int 0]), (h1, aI Y 3640 (clB 0 (fun _ => 0)))] rfl ?_
      refine V_if_eq_f 23 B 28 dX12_visibleAt_23 (by decide) (by decide +kernel) ?_
      refine V_iconst 26 B (v := 0) dX12_visibleAt_26 (by decide +kernel) ?_
      exact V_iret 27 B dX12_visibleAt_27 1 (Or.inr (Or.inl ⟨rfl, k2, rfl⟩)) rfl
    ·
      refine V_ws [(h0, oC 13 [.ref h1, .ref g0, .int 0, .ref g1, .ref g2, .int 0, .int 0, .int 0, .int (-1), .int 0, .int 0, .int 0, .long 0, .ref g3, .ref g4, .int 0, .int 0]), (h1, aI Y 3640 (clB 0 (fun _ => 0)))] rfl ?_
      refine V_if_ne_f 11 B 18 dX12_visibleAt_11 (by decide) (by decide +kernel) ?_
      refine V_iconst 14 B (v := 1) dX12_visibleAt_14 (by decide +kernel) ?_
      refine V_goto 15 B 19 dX12_visibleAt_15 (by decide) ?_
      refine V_iconst 19 B (v := 1) dX12_visibleAt_19 (by decide +kernel) ?_
      refine V_cvi 20 B (st := []) (As := [.int 1, .int 1]) (fun sz => mX12_throwsIf_1 l D Y (h0) (h1) (g0) (g1) (g2) (g3) (g4) sz) glV_RX12_69 ⟨rfl, rfl⟩ ⟨(Nat.le_of_ble_eq_true rfl), (Nat.le_of_ble_eq_true rfl)⟩ ⟨(Nat.le_of_ble_eq_true rfl), (Nat.le_of_ble_eq_true rfl)⟩ [0] rfl 13 0 rfl rfl rfl rfl (Nat.le_of_ble_eq_true rfl) rfl (fun _ _ _ => rfl) dX12_visibleAt_20 (fun r6 u6 w6 => ?_)
      obtain rfl := w6
      refine V_ws [(h0, oC 13 [.ref h1, .ref g0, .int 1, .ref g1, .ref g2, .int 0, .int 0, .int 0, .int (-1), .int 0, .int 0, .int 0, .long 0, .ref g3, .ref g4, .int 0, .int 0]), (h1, aI Y 3640 (clB 0 (fun _ => 0)))] rfl ?_
      refine V_if_eq_f 23 B 28 dX12_visibleAt_23 (by decide) (by decide +kernel) ?_
      refine V_iconst 26 B (v := 0) dX12_visibleAt_26 (by decide +kernel) ?_
      exact V_iret 27 B dX12_visibleAt_27 2 (Or.inr (Or.inr ⟨rfl, k3, rfl⟩)) rfl)
theorem dX12_shadowOf_0 : decode cX12_shadowOf 0 = .ok (.aload_n 0, 1) := by decide +kernel
theorem dX12_shadowOf_1 : decode cX12_shadowOf 1 = .ok (.iconst 0, 1) := by decide +kernel
theorem dX12_shadowOf_2 : decode cX12_shadowOf 2 = .ok (.putfield 38, 3) := by decide +kernel
theorem dX12_shadowOf_5 : decode cX12_shadowOf 5 = .ok (.aload_n 0, 1) := by decide +kernel
theorem dX12_shadowOf_6 : decode cX12_shadowOf 6 = .ok (.aload_n 0, 1) := by decide +kernel
theorem dX12_shadowOf_7 : decode cX12_shadowOf 7 = .ok (.iload_n 1, 1) := by decide +kernel
theorem dX12_shadowOf_8 : decode cX12_shadowOf 8 = .ok (.invokevirtual 91, 3) := by decide +kernel
theorem dX12_shadowOf_11 : decode cX12_shadowOf 11 = .ok (.ifCond .eq 11, 3) := by decide +kernel
theorem dX12_shadowOf_14 : decode cX12_shadowOf 14 = .ok (.aload_n 0, 1) := by decide +kernel
theorem dX12_shadowOf_15 : decode cX12_shadowOf 15 = .ok (.iload_n 2, 1) := by decide +kernel
theorem dX12_shadowOf_16 : decode cX12_shadowOf 16 = .ok (.invokevirtual 82, 3) := by decide +kernel
theorem dX12_shadowOf_19 : decode cX12_shadowOf 19 = .ok (.ifCond .ne 7, 3) := by decide +kernel
theorem dX12_shadowOf_22 : decode cX12_shadowOf 22 = .ok (.iconst 1, 1) := by decide +kernel
theorem dX12_shadowOf_23 : decode cX12_shadowOf 23 = .ok (.goto 4, 3) := by decide +kernel
theorem dX12_shadowOf_27 : decode cX12_shadowOf 27 = .ok (.iconst 1, 1) := by decide +kernel
theorem dX12_shadowOf_28 : decode cX12_shadowOf 28 = .ok (.invokevirtual 69, 3) := by decide +kernel
theorem dX12_shadowOf_31 : decode cX12_shadowOf 31 = .ok (.ifCond .eq 5, 3) := by decide +kernel
theorem dX12_shadowOf_34 : decode cX12_shadowOf 34 = .ok (.iconst 0, 1) := by decide +kernel
theorem dX12_shadowOf_35 : decode cX12_shadowOf 35 = .ok (.ireturn, 1) := by decide +kernel
set_option maxRecDepth 100000 in
set_option maxHeartbeats 4000000 in
theorem mX12_shadowOf_1 (l : Launch) (D : va_G) (Y : Nat → ClassId) (h0 : Nat) (h1 : Nat) (g0 : Nat) (g1 : Nat) (g2 : Nat) (g3 : Nat) (g4 : Nat) (p0 : Int32) (p1 : Int32) (sz : Nat) : Met l yX12_shadowOf (WSm yX12_shadowOf cX12_shadowOf 6 (some .int)) (mkR 2 0 0 46) (PreC D Y [.ref h0, .int p0, .int p1] [(h0, oC 13 [.ref h1, .ref g0, .int 0, .ref g1, .ref g2, .int 0, .int 0, .int 0, .int (-1), .int 0, .int 0, .int 0, .long 0, .ref g3, .ref g4, .int 0, .int 0]), (h1, aI Y 3640 (clB 0 (fun _ => 0)))] sz) (QI D (fun (r : Int32) (u : Unit) => (p0 = 0 ∧ p1 < 0 ∧ 0 = r) ∨ (p0 = 0 ∧ (-1) < p1 ∧ 0 = r) ∨ (p0 < 0 ∧ 0 = r) ∨ (0 < p0 ∧ 0 = r)) (fun (_ : Unit) => [(h0, oC 13 [.ref h1, .ref g0, .int 1, .ref g1, .ref g2, .int 0, .int 0, .int 0, .int (-1), .int 0, .int 0, .int 0, .long 0, .ref g3, .ref g4, .int 0, .int 0]), (h1, aI Y 3640 (clB 0 (fun _ => 0)))]) (va_A [(h0, oC 13 [.ref h1, .ref g0, .int 0, .ref g1, .ref g2, .int 0, .int 0, .int 0, .int (-1), .int 0, .int 0, .int 0, .long 0, .ref g3, .ref g4, .int 0, .int 0]), (h1, aI Y 3640 (clB 0 (fun _ => 0)))] sz)) 0 0 (va_A [(h0, oC 13 [.ref h1, .ref g0, .int 0, .ref g1, .ref g2, .int 0, .int 0, .int 0, .int (-1), .int 0, .int 0, .int 0, .long 0, .ref g3, .ref g4, .int 0, .int 0]), (h1, aI Y 3640 (clB 0 (fun _ => 0)))] sz) :=
  met_of (by decide +kernel) (Nat.le_of_ble_eq_true rfl) (fun p e s m args below meth c B hin hsz => by
    have B : VB p s m args meth c D Y (va_A [(h0, oC 13 [.ref h1, .ref g0, .int 0, .ref g1, .ref g2, .int 0, .int 0, .int 0, .int (-1), .int 0, .int 0, .int 0, .long 0, .ref g3, .ref g4, .int 0, .int 0]), (h1, aI Y 3640 (clB 0 (fun _ => 0)))] sz) cX12_shadowOf 6 RX12 (some .int) := B
    refine V_aload_n 0 B dX12_shadowOf_0 0 rfl ?_
    refine V_iconst 1 B (v := 0) dX12_shadowOf_1 (by decide +kernel) ?_
    refine V_put 2 B gp_RX12_38 0 rfl (Nat.le_of_ble_eq_true rfl) rfl rfl dX12_shadowOf_2 [(h0, oC 13 [.ref h1, .ref g0, .int 0, .ref g1, .ref g2, .int 0, .int 0, .int 0, .int (-1), .int 0, .int 0, .int 0, .long 0, .ref g3, .ref g4, .int 0, .int 0]), (h1, aI Y 3640 (clB 0 (fun _ => 0)))] rfl ?_
    refine V_aload_n 5 B dX12_shadowOf_5 0 rfl ?_
    refine V_aload_n 6 B dX12_shadowOf_6 0 rfl ?_
    refine V_iload_n 7 B dX12_shadowOf_7 1 rfl ?_
    refine V_cvi 8 B (st := [.ref h0]) (As := [.int p0]) (fun sz => mX12_isMode_1 l D Y (h0) (h1) (g0) (g1) (g2) (g3) (g4) (p0) sz) glV_RX12_91 ⟨rfl, rfl⟩ ⟨(Nat.le_of_ble_eq_true rfl), (Nat.le_of_ble_eq_true rfl)⟩ ⟨(Nat.le_of_ble_eq_true rfl), (Nat.le_of_ble_eq_true rfl)⟩ [0, 0] rfl 13 0 rfl rfl rfl rfl (Nat.le_of_ble_eq_true rfl) rfl (fun _ _ _ => rfl) dX12_shadowOf_8 (fun r0 u0 w0 => ?_)
    rcases w0 with ⟨k1, rfl⟩ | ⟨k2, rfl⟩ | ⟨k3, rfl⟩
    ·
      refine V_ws [(h0, oC 13 [.ref h1, .ref g0, .int 0, .ref g1, .ref g2, .int 0, .int 0, .int 0, .int (-1), .int 0, .int 0, .int 0, .long 0, .ref g3, .ref g4, .int 0, .int 0]), (h1, aI Y 3640 (clB 0 (fun _ => 0)))] rfl ?_
      obtain rfl : p0 = 0 := k1
      refine V_if_eq_f 11 B 22 dX12_shadowOf_11 (by decide) (by decide +kernel) ?_
      refine V_aload_n 14 B dX12_shadowOf_14 0 rfl ?_
      refine V_iload_n 15 B dX12_shadowOf_15 2 rfl ?_
      refine V_cvi 16 B (st := [.ref h0]) (As := [.int p1]) (fun sz => mX12_isBinding_1 l D Y (h0) (h1) (g0) (g1) (g2) (g3) (g4) (p1) sz) glV_RX12_82 ⟨rfl, rfl⟩ ⟨(Nat.le_of_ble_eq_true rfl), (Nat.le_of_ble_eq_true rfl)⟩ ⟨(Nat.le_of_ble_eq_true rfl), (Nat.le_of_ble_eq_true rfl)⟩ [0, 0] rfl 13 0 rfl rfl rfl rfl (Nat.le_of_ble_eq_true rfl) rfl (fun _ _ _ => rfl) dX12_shadowOf_16 (fun r4 u4 w4 => ?_)
      rcases w4 with ⟨k5, rfl⟩ | ⟨k6, rfl⟩
      ·
        refine V_ws [(h0, oC 13 [.ref h1, .ref g0, .int 0, .ref g1, .ref g2, .int 0, .int 0, .int 0, .int (-1), .int 0, .int 0, .int 0, .long 0, .ref g3, .ref g4, .int 0, .int 0]), (h1, aI Y 3640 (clB 0 (fun _ => 0)))] rfl ?_
        refine V_if_ne_f 19 B 26 dX12_shadowOf_19 (by decide) (by decide +kernel) ?_
        refine V_iconst 22 B (v := 1) dX12_shadowOf_22 (by decide +kernel) ?_
        refine V_goto 23 B 27 dX12_shadowOf_23 (by decide) ?_
        refine V_iconst 27 B (v := 1) dX12_shadowOf_27 (by decide +kernel) ?_
        refine V_cvi 28 B (st := []) (As := [.int 1, .int 1]) (fun sz => mX12_throwsIf_1 l D Y (h0) (h1) (g0) (g1) (g2) (g3) (g4) sz) glV_RX12_69 ⟨rfl, rfl⟩ ⟨(Nat.le_of_ble_eq_true rfl), (Nat.le_of_ble_eq_true rfl)⟩ ⟨(Nat.le_of_ble_eq_true rfl), (Nat.le_of_ble_eq_true rfl)⟩ [0] rfl 13 0 rfl rfl rfl rfl (Nat.le_of_ble_eq_true rfl) rfl (fun _ _ _ => rfl) dX12_shadowOf_28 (fun r7 u7 w7 => ?_)
        obtain rfl := w7
        refine V_ws [(h0, oC 13 [.ref h1, .ref g0, .int 1, .ref g1, .ref g2, .int 0, .int 0, .int 0, .int (-1), .int 0, .int 0, .int 0, .long 0, .ref g3, .ref g4, .int 0, .int 0]), (h1, aI Y 3640 (clB 0 (fun _ => 0)))] rfl ?_
        refine V_if_eq_f 31 B 36 dX12_shadowOf_31 (by decide) (by decide +kernel) ?_
        refine V_iconst 34 B (v := 0) dX12_shadowOf_34 (by decide +kernel) ?_
        exact V_iret 35 B dX12_shadowOf_35 () (Or.inl ⟨rfl, k5, rfl⟩) rfl
      ·
        refine V_ws [(h0, oC 13 [.ref h1, .ref g0, .int 0, .ref g1, .ref g2, .int 0, .int 0, .int 0, .int (-1), .int 0, .int 0, .int 0, .long 0, .ref g3, .ref g4, .int 0, .int 0]), (h1, aI Y 3640 (clB 0 (fun _ => 0)))] rfl ?_
        refine V_if_ne_f 19 B 26 dX12_shadowOf_19 (by decide) (by decide +kernel) ?_
        refine V_iconst 22 B (v := 1) dX12_shadowOf_22 (by decide +kernel) ?_
        refine V_goto 23 B 27 dX12_shadowOf_23 (by decide) ?_
        refine V_iconst 27 B (v := 1) dX12_shadowOf_27 (by decide +kernel) ?_
        refine V_cvi 28 B (st := []) (As := [.int 1, .int 1]) (fun sz => mX12_throwsIf_1 l D Y (h0) (h1) (g0) (g1) (g2) (g3) (g4) sz) glV_RX12_69 ⟨rfl, rfl⟩ ⟨(Nat.le_of_ble_eq_true rfl), (Nat.le_of_ble_eq_true rfl)⟩ ⟨(Nat.le_of_ble_eq_true rfl), (Nat.le_of_ble_eq_true rfl)⟩ [0] rfl 13 0 rfl rfl rfl rfl (Nat.le_of_ble_eq_true rfl) rfl (fun _ _ _ => rfl) dX12_shadowOf_28 (fun r8 u8 w8 => ?_)
        obtain rfl := w8
        refine V_ws [(h0, oC 13 [.ref h1, .ref g0, .int 1, .ref g1, .ref g2, .int 0, .int 0, .int 0, .int (-1), .int 0, .int 0, .int 0, .long 0, .ref g3, .ref g4, .int 0, .int 0]), (h1, aI Y 3640 (clB 0 (fun _ => 0)))] rfl ?_
        refine V_if_eq_f 31 B 36 dX12_shadowOf_31 (by decide) (by decide +kernel) ?_
        refine V_iconst 34 B (v := 0) dX12_shadowOf_34 (by decide +kernel) ?_
        exact V_iret 35 B dX12_shadowOf_35 () (Or.inr (Or.inl ⟨rfl, k6, rfl⟩)) rfl
    ·
      refine V_ws [(h0, oC 13 [.ref h1, .ref g0, .int 0, .ref g1, .ref g2, .int 0, .int 0, .int 0, .int (-1), .int 0, .int 0, .int 0, .long 0, .ref g3, .ref g4, .int 0, .int 0]), (h1, aI Y 3640 (clB 0 (fun _ => 0)))] rfl ?_
      refine V_if_eq_t 11 B 22 dX12_shadowOf_11 (by decide) (by decide +kernel) ?_
      refine V_iconst 22 B (v := 1) dX12_shadowOf_22 (by decide +kernel) ?_
      refine V_goto 23 B 27 dX12_shadowOf_23 (by decide) ?_
      refine V_iconst 27 B (v := 1) dX12_shadowOf_27 (by decide +kernel) ?_
      refine V_cvi 28 B (st := []) (As := [.int 1, .int 1]) (fun sz => mX12_throwsIf_1 l D Y (h0) (h1) (g0) (g1) (g2) (g3) (g4) sz) glV_RX12_69 ⟨rfl, rfl⟩ ⟨(Nat.le_of_ble_eq_true rfl), (Nat.le_of_ble_eq_true rfl)⟩ ⟨(Nat.le_of_ble_eq_true rfl), (Nat.le_of_ble_eq_true rfl)⟩ [0] rfl 13 0 rfl rfl rfl rfl (Nat.le_of_ble_eq_true rfl) rfl (fun _ _ _ => rfl) dX12_shadowOf_28 (fun r9 u9 w9 => ?_)
      obtain rfl := w9
      refine V_ws [(h0, oC 13 [.ref h1, .ref g0, .int 1, .ref g1, .ref g2, .int 0, .int 0, .int 0, .int (-1), .int 0, .int 0, .int 0, .long 0, .ref g3, .ref g4, .int 0, .int 0]), (h1, aI Y 3640 (clB 0 (fun _ => 0)))] rfl ?_
      refine V_if_eq_f 31 B 36 dX12_shadowOf_31 (by decide) (by decide +kernel) ?_
      refine V_iconst 34 B (v := 0) dX12_shadowOf_34 (by decide +kernel) ?_
      exact V_iret 35 B dX12_shadowOf_35 () (Or.inr (Or.inr (Or.inl ⟨k2, rfl⟩))) rfl
    ·
      refine V_ws [(h0, oC 13 [.ref h1, .ref g0, .int 0, .ref g1, .ref g2, .int 0, .int 0, .int 0, .int (-1), .int 0, .int 0, .int 0, .long 0, .ref g3, .ref g4, .int 0, .int 0]), (h1, aI Y 3640 (clB 0 (fun _ => 0)))] rfl ?_
      refine V_if_eq_t 11 B 22 dX12_shadowOf_11 (by decide) (by decide +kernel) ?_
      refine V_iconst 22 B (v := 1) dX12_shadowOf_22 (by decide +kernel) ?_
      refine V_goto 23 B 27 dX12_shadowOf_23 (by decide) ?_
      refine V_iconst 27 B (v := 1) dX12_shadowOf_27 (by decide +kernel) ?_
      refine V_cvi 28 B (st := []) (As := [.int 1, .int 1]) (fun sz => mX12_throwsIf_1 l D Y (h0) (h1) (g0) (g1) (g2) (g3) (g4) sz) glV_RX12_69 ⟨rfl, rfl⟩ ⟨(Nat.le_of_ble_eq_true rfl), (Nat.le_of_ble_eq_true rfl)⟩ ⟨(Nat.le_of_ble_eq_true rfl), (Nat.le_of_ble_eq_true rfl)⟩ [0] rfl 13 0 rfl rfl rfl rfl (Nat.le_of_ble_eq_true rfl) rfl (fun _ _ _ => rfl) dX12_shadowOf_28 (fun r10 u10 w10 => ?_)
      obtain rfl := w10
      refine V_ws [(h0, oC 13 [.ref h1, .ref g0, .int 1, .ref g1, .ref g2, .int 0, .int 0, .int 0, .int (-1), .int 0, .int 0, .int 0, .long 0, .ref g3, .ref g4, .int 0, .int 0]), (h1, aI Y 3640 (clB 0 (fun _ => 0)))] rfl ?_
      refine V_if_eq_f 31 B 36 dX12_shadowOf_31 (by decide) (by decide +kernel) ?_
      refine V_iconst 34 B (v := 0) dX12_shadowOf_34 (by decide +kernel) ?_
      exact V_iret 35 B dX12_shadowOf_35 () (Or.inr (Or.inr (Or.inr ⟨k3, rfl⟩))) rfl)
theorem dX12_reachable_0 : decode cX12_reachable 0 = .ok (.aload_n 0, 1) := by decide +kernel
theorem dX12_reachable_1 : decode cX12_reachable 1 = .ok (.iconst 0, 1) := by decide +kernel
theorem dX12_reachable_2 : decode cX12_reachable 2 = .ok (.putfield 38, 3) := by decide +kernel
theorem dX12_reachable_5 : decode cX12_reachable 5 = .ok (.aload_n 0, 1) := by decide +kernel
theorem dX12_reachable_6 : decode cX12_reachable 6 = .ok (.aload_n 0, 1) := by decide +kernel
theorem dX12_reachable_7 : decode cX12_reachable 7 = .ok (.iload_n 1, 1) := by decide +kernel
theorem dX12_reachable_8 : decode cX12_reachable 8 = .ok (.invokevirtual 91, 3) := by decide +kernel
theorem dX12_reachable_11 : decode cX12_reachable 11 = .ok (.ifCond .ne 7, 3) := by decide +kernel
theorem dX12_reachable_18 : decode cX12_reachable 18 = .ok (.iconst 0, 1) := by decide +kernel
theorem dX12_reachable_19 : decode cX12_reachable 19 = .ok (.iconst 1, 1) := by decide +kernel
theorem dX12_reachable_20 : decode cX12_reachable 20 = .ok (.invokevirtual 69, 3) := by decide +kernel
theorem dX12_reachable_23 : decode cX12_reachable 23 = .ok (.ifCond .eq 5, 3) := by decide +kernel
theorem dX12_reachable_28 : decode cX12_reachable 28 = .ok (.iconst 0, 1) := by decide +kernel
theorem dX12_reachable_29 : decode cX12_reachable 29 = .ok (.istore_n 2, 1) := by decide +kernel
theorem dX12_reachable_30 : decode cX12_reachable 30 = .ok (.iconst 0, 1) := by decide +kernel
theorem dX12_reachable_31 : decode cX12_reachable 31 = .ok (.istore_n 3, 1) := by decide +kernel
theorem dX12_reachable_32 : decode cX12_reachable 32 = .ok (.iload_n 3, 1) := by decide +kernel
theorem dX12_reachable_33 : decode cX12_reachable 33 = .ok (.aload_n 0, 1) := by decide +kernel
theorem dX12_reachable_34 : decode cX12_reachable 34 = .ok (.getfield 9, 3) := by decide +kernel
theorem dX12_reachable_37 : decode cX12_reachable 37 = .ok (.iconst 1, 1) := by decide +kernel
theorem dX12_reachable_38 : decode cX12_reachable 38 = .ok (.iaload, 1) := by decide +kernel
theorem dX12_reachable_39 : decode cX12_reachable 39 = .ok (.if_icmp .ge 26, 3) := by decide +kernel
theorem dX12_reachable_65 : decode cX12_reachable 65 = .ok (.iload_n 2, 1) := by decide +kernel
theorem dX12_reachable_66 : decode cX12_reachable 66 = .ok (.ireturn, 1) := by decide +kernel
theorem dX12_reachable_14 : decode cX12_reachable 14 = .ok (.iconst 1, 1) := by decide +kernel
theorem dX12_reachable_15 : decode cX12_reachable 15 = .ok (.goto 4, 3) := by decide +kernel
theorem dX12_reachable_26 : decode cX12_reachable 26 = .ok (.iconst 0, 1) := by decide +kernel
theorem dX12_reachable_27 : decode cX12_reachable 27 = .ok (.ireturn, 1) := by decide +kernel
set_option maxRecDepth 100000 in
set_option maxHeartbeats 4000000 in
theorem mX12_reachable_1 (l : Launch) (D : va_G) (Y : Nat → ClassId) (h0 : Nat) (h1 : Nat) (g0 : Nat) (g1 : Nat) (g2 : Nat) (g3 : Nat) (g4 : Nat) (p0 : Int32) (sz : Nat) : Met l yX12_reachable (WSm yX12_reachable cX12_reachable 4 (some .int)) (mkR 2 0 0 46) (PreC D Y [.ref h0, .int p0] [(h0, oC 13 [.ref h1, .ref g0, .int 0, .ref g1, .ref g2, .int 0, .int 0, .int 0, .int (-1), .int 0, .int 0, .int 0, .long 0, .ref g3, .ref g4, .int 0, .int 0]), (h1, aI Y 3640 (clB 0 (fun _ => 0)))] sz) (QI D (fun (r : Int32) (u : Nat) => (u = 0 ∧ p0 = 0 ∧ 0 = r) ∨ (u = 1 ∧ p0 < 0 ∧ 0 = r) ∨ (u = 2 ∧ 0 < p0 ∧ 0 = r)) (fun (u : Nat) => match u with | 0 => [(h0, oC 13 [.ref h1, .ref g0, .int 0, .ref g1, .ref g2, .int 0, .int 0, .int 0, .int (-1), .int 0, .int 0, .int 0, .long 0, .ref g3, .ref g4, .int 0, .int 0]), (h1, aI Y 3640 (clB 0 (fun _ => 0)))] | 1 => [(h0, oC 13 [.ref h1, .ref g0, .int 1, .ref g1, .ref g2, .int 0, .int 0, .int 0, .int (-1), .int 0, .int 0, .int 0, .long 0, .ref g3, .ref g4, .int 0, .int 0]), (h1, aI Y 3640 (clB 0 (fun _ => 0)))] | _ => [(h0, oC 13 [.ref h1, .ref g0, .int 1, .ref g1, .ref g2, .int 0, .int 0, .int 0, .int (-1), .int 0, .int 0, .int 0, .long 0, .ref g3, .ref g4, .int 0, .int 0]), (h1, aI Y 3640 (clB 0 (fun _ => 0)))]) (va_A [(h0, oC 13 [.ref h1, .ref g0, .int 0, .ref g1, .ref g2, .int 0, .int 0, .int 0, .int (-1), .int 0, .int 0, .int 0, .long 0, .ref g3, .ref g4, .int 0, .int 0]), (h1, aI Y 3640 (clB 0 (fun _ => 0)))] sz)) 0 0 (va_A [(h0, oC 13 [.ref h1, .ref g0, .int 0, .ref g1, .ref g2, .int 0, .int 0, .int 0, .int (-1), .int 0, .int 0, .int 0, .long 0, .ref g3, .ref g4, .int 0, .int 0]), (h1, aI Y 3640 (clB 0 (fun _ => 0)))] sz) :=
  met_of (by decide +kernel) (Nat.le_of_ble_eq_true rfl) (fun p e s m args below meth c B hin hsz => by
    have B : VB p s m args meth c D Y (va_A [(h0, oC 13 [.ref h1, .ref g0, .int 0, .ref g1, .ref g2, .int 0, .int 0, .int 0, .int (-1), .int 0, .int 0, .int 0, .long 0, .ref g3, .ref g4, .int 0, .int 0]), (h1, aI Y 3640 (clB 0 (fun _ => 0)))] sz) cX12_reachable 4 RX12 (some .int) := B
    refine V_aload_n 0 B dX12_reachable_0 0 rfl ?_
    refine V_iconst 1 B (v := 0) dX12_reachable_1 (by decide +kernel) ?_
    refine V_put 2 B gp_RX12_38 0 rfl (Nat.le_of_ble_eq_true rfl) rfl rfl dX12_reachable_2 [(h0, oC 13 [.ref h1, .ref g0, .int 0, .ref g1, .ref g2, .int 0, .int 0, .int 0, .int (-1), .int 0, .int 0, .int 0, .long 0, .ref g3, .ref g4, .int 0, .int 0]), (h1, aI Y 3640 (clB 0 (fun _ => 0)))] rfl ?_
    refine V_aload_n 5 B dX12_reachable_5 0 rfl ?_
    refine V_aload_n 6 B dX12_reachable_6 0 rfl ?_
    refine V_iload_n 7 B dX12_reachable_7 1 rfl ?_
    refine V_cvi 8 B (st := [.ref h0]) (As := [.int p0]) (fun sz => mX12_isMode_1 l D Y (h0) (h1) (g0) (g1) (g2) (g3) (g4) (p0) sz) glV_RX12_91 ⟨rfl, rfl⟩ ⟨(Nat.le_of_ble_eq_true rfl), (Nat.le_of_ble_eq_true rfl)⟩ ⟨(Nat.le_of_ble_eq_true rfl), (Nat.le_of_ble_eq_true rfl)⟩ [0, 0] rfl 13 0 rfl rfl rfl rfl (Nat.le_of_ble_eq_true rfl) rfl (fun _ _ _ => rfl) dX12_reachable_8 (fun r0 u0 w0 => ?_)
    rcases w0 with ⟨k1, rfl⟩ | ⟨k2, rfl⟩ | ⟨k3, rfl⟩
    ·
      refine V_ws [(h0, oC 13 [.ref h1, .ref g0, .int 0, .ref g1, .ref g2, .int 0, .int 0, .int 0, .int (-1), .int 0, .int 0, .int 0, .long 0, .ref g3, .ref g4, .int 0, .int 0]), (h1, aI Y 3640 (clB 0 (fun _ => 0)))] rfl ?_
      obtain rfl : p0 = 0 := k1
      refine V_if_ne_t 11 B 18 dX12_reachable_11 (by decide) (by decide +kernel) ?_
      refine V_iconst 18 B (v := 0) dX12_reachable_18 (by decide +kernel) ?_
      refine V_iconst 19 B (v := 1) dX12_reachable_19 (by decide +kernel) ?_
      refine V_cvi 20 B (st := []) (As := [.int 0, .int 1]) (fun sz => mX12_throwsIf_2 l D Y (h0) (h1) (g0) (g1) (g2) (g3) (g4) sz) glV_RX12_69 ⟨rfl, rfl⟩ ⟨(Nat.le_of_ble_eq_true rfl), (Nat.le_of_ble_eq_true rfl)⟩ ⟨(Nat.le_of_ble_eq_true rfl), (Nat.le_of_ble_eq_true rfl)⟩ [0] rfl 13 0 rfl rfl rfl rfl (Nat.le_of_ble_eq_true rfl) rfl (fun _ _ _ => rfl) dX12_reachable_20 (fun r4 u4 w4 => ?_)
      obtain rfl := w4
      refine V_ws [(h0, oC 13 [.ref h1, .ref g0, .int 0, .ref g1, .ref g2, .int 0, .int 0, .int 0, .int (-1), .int 0, .int 0, .int 0, .long 0, .ref g3, .ref g4, .int 0, .int 0]), (h1, aI Y 3640 (clB 0 (fun _ => 0)))] rfl ?_
      refine V_if_eq_t 23 B 28 dX12_reachable_23 (by decide) (by decide +kernel) ?_
      refine V_iconst 28 B (v := 0) dX12_reachable_28 (by decide +kernel) ?_
      refine V_istore_n 29 B (lv2 := [(2, .int 0), (0, .ref h0), (1, .int 0)]) dX12_reachable_29 (by decide) rfl ?_
      refine V_iconst 30 B (v := 0) dX12_reachable_30 (by decide +kernel) ?_
      refine V_istore_n 31 B (lv2 := [(3, .int 0), (2, .int 0), (0, .ref h0), (1, .int 0)]) dX12_reachable_31 (by decide) rfl ?_
      refine V_iload_n 32 B dX12_reachable_32 0 rfl ?_
      refine V_aload_n 33 B dX12_reachable_33 2 rfl ?_
      refine V_get 34 B gf_RX12_9 0 rfl rfl dX12_reachable_34 ?_
      refine V_iconst 37 B (v := 1) dX12_reachable_37 (by decide +kernel) ?_
      refine V_iald 38 B (v := 0) 1 rfl (vpin _ _ (by decide +kernel)) dX12_reachable_38 rfl ?_
      refine V_icmp_ge_t 39 B 65 dX12_reachable_39 (by decide) (by decide +kernel) ?_
      refine V_iload_n 65 B dX12_reachable_65 1 rfl ?_
      exact V_iret 66 B dX12_reachable_66 0 (Or.inl ⟨rfl, rfl, rfl⟩) rfl
    ·
      refine V_ws [(h0, oC 13 [.ref h1, .ref g0, .int 0, .ref g1, .ref g2, .int 0, .int 0, .int 0, .int (-1), .int 0, .int 0, .int 0, .long 0, .ref g3, .ref g4, .int 0, .int 0]), (h1, aI Y 3640 (clB 0 (fun _ => 0)))] rfl ?_
      refine V_if_ne_f 11 B 18 dX12_reachable_11 (by decide) (by decide +kernel) ?_
      refine V_iconst 14 B (v := 1) dX12_reachable_14 (by decide +kernel) ?_
      refine V_goto 15 B 19 dX12_reachable_15 (by decide) ?_
      refine V_iconst 19 B (v := 1) dX12_reachable_19 (by decide +kernel) ?_
      refine V_cvi 20 B (st := []) (As := [.int 1, .int 1]) (fun sz => mX12_throwsIf_1 l D Y (h0) (h1) (g0) (g1) (g2) (g3) (g4) sz) glV_RX12_69 ⟨rfl, rfl⟩ ⟨(Nat.le_of_ble_eq_true rfl), (Nat.le_of_ble_eq_true rfl)⟩ ⟨(Nat.le_of_ble_eq_true rfl), (Nat.le_of_ble_eq_true rfl)⟩ [0] rfl 13 0 rfl rfl rfl rfl (Nat.le_of_ble_eq_true rfl) rfl (fun _ _ _ => rfl) dX12_reachable_20 (fun r5 u5 w5 => ?_)
      obtain rfl := w5
      refine V_ws [(h0, oC 13 [.ref h1, .ref g0, .int 1, .ref g1, .ref g2, .int 0, .int 0, .int 0, .int (-1), .int 0, .int 0, .int 0, .long 0, .ref g3, .ref g4, .int 0, .int 0]), (h1, aI Y 3640 (clB 0 (fun _ => 0)))] rfl ?_
      refine V_if_eq_f 23 B 28 dX12_reachable_23 (by decide) (by decide +kernel) ?_
      refine V_iconst 26 B (v := 0) dX12_reachable_26 (by decide +kernel) ?_
      exact V_iret 27 B dX12_reachable_27 1 (Or.inr (Or.inl ⟨rfl, k2, rfl⟩)) rfl
    ·
      refine V_ws [(h0, oC 13 [.ref h1, .ref g0, .int 0, .ref g1, .ref g2, .int 0, .int 0, .int 0, .int (-1), .int 0, .int 0, .int 0, .long 0, .ref g3, .ref g4, .int 0, .int 0]), (h1, aI Y 3640 (clB 0 (fun _ => 0)))] rfl ?_
      refine V_if_ne_f 11 B 18 dX12_reachable_11 (by decide) (by decide +kernel) ?_
      refine V_iconst 14 B (v := 1) dX12_reachable_14 (by decide +kernel) ?_
      refine V_goto 15 B 19 dX12_reachable_15 (by decide) ?_
      refine V_iconst 19 B (v := 1) dX12_reachable_19 (by decide +kernel) ?_
      refine V_cvi 20 B (st := []) (As := [.int 1, .int 1]) (fun sz => mX12_throwsIf_1 l D Y (h0) (h1) (g0) (g1) (g2) (g3) (g4) sz) glV_RX12_69 ⟨rfl, rfl⟩ ⟨(Nat.le_of_ble_eq_true rfl), (Nat.le_of_ble_eq_true rfl)⟩ ⟨(Nat.le_of_ble_eq_true rfl), (Nat.le_of_ble_eq_true rfl)⟩ [0] rfl 13 0 rfl rfl rfl rfl (Nat.le_of_ble_eq_true rfl) rfl (fun _ _ _ => rfl) dX12_reachable_20 (fun r6 u6 w6 => ?_)
      obtain rfl := w6
      refine V_ws [(h0, oC 13 [.ref h1, .ref g0, .int 1, .ref g1, .ref g2, .int 0, .int 0, .int 0, .int (-1), .int 0, .int 0, .int 0, .long 0, .ref g3, .ref g4, .int 0, .int 0]), (h1, aI Y 3640 (clB 0 (fun _ => 0)))] rfl ?_
      refine V_if_eq_f 23 B 28 dX12_reachable_23 (by decide) (by decide +kernel) ?_
      refine V_iconst 26 B (v := 0) dX12_reachable_26 (by decide +kernel) ?_
      exact V_iret 27 B dX12_reachable_27 2 (Or.inr (Or.inr ⟨rfl, k3, rfl⟩)) rfl)
theorem dX12_unreachable_0 : decode cX12_unreachable 0 = .ok (.aload_n 0, 1) := by decide +kernel
theorem dX12_unreachable_1 : decode cX12_unreachable 1 = .ok (.iconst 0, 1) := by decide +kernel
theorem dX12_unreachable_2 : decode cX12_unreachable 2 = .ok (.putfield 38, 3) := by decide +kernel
theorem dX12_unreachable_5 : decode cX12_unreachable 5 = .ok (.iconst 0, 1) := by decide +kernel
theorem dX12_unreachable_6 : decode cX12_unreachable 6 = .ok (.istore_n 1, 1) := by decide +kernel
theorem dX12_unreachable_7 : decode cX12_unreachable 7 = .ok (.iconst 0, 1) := by decide +kernel
theorem dX12_unreachable_8 : decode cX12_unreachable 8 = .ok (.istore_n 2, 1) := by decide +kernel
theorem dX12_unreachable_9 : decode cX12_unreachable 9 = .ok (.iload_n 2, 1) := by decide +kernel
theorem dX12_unreachable_10 : decode cX12_unreachable 10 = .ok (.aload_n 0, 1) := by decide +kernel
theorem dX12_unreachable_11 : decode cX12_unreachable 11 = .ok (.getfield 9, 3) := by decide +kernel
theorem dX12_unreachable_14 : decode cX12_unreachable 14 = .ok (.iconst 1, 1) := by decide +kernel
theorem dX12_unreachable_15 : decode cX12_unreachable 15 = .ok (.iaload, 1) := by decide +kernel
theorem dX12_unreachable_16 : decode cX12_unreachable 16 = .ok (.if_icmp .ge 53, 3) := by decide +kernel
theorem dX12_unreachable_69 : decode cX12_unreachable 69 = .ok (.iload_n 1, 1) := by decide +kernel
theorem dX12_unreachable_70 : decode cX12_unreachable 70 = .ok (.ireturn, 1) := by decide +kernel
set_option maxRecDepth 100000 in
set_option maxHeartbeats 4000000 in
theorem mX12_unreachable_1 (l : Launch) (D : va_G) (Y : Nat → ClassId) (h0 : Nat) (h1 : Nat) (g0 : Nat) (g1 : Nat) (g2 : Nat) (g3 : Nat) (g4 : Nat) (sz : Nat) : Met l yX12_unreachable (WSm yX12_unreachable cX12_unreachable 5 (some .int)) (mkR 0 0 0 0) (PreC D Y [.ref h0] [(h0, oC 13 [.ref h1, .ref g0, .int 0, .ref g1, .ref g2, .int 0, .int 0, .int 0, .int (-1), .int 0, .int 0, .int 0, .long 0, .ref g3, .ref g4, .int 0, .int 0]), (h1, aI Y 3640 (clB 0 (fun _ => 0)))] sz) (QI D (fun (r : Int32) (u : Unit) => 0 = r) (fun (_ : Unit) => [(h0, oC 13 [.ref h1, .ref g0, .int 0, .ref g1, .ref g2, .int 0, .int 0, .int 0, .int (-1), .int 0, .int 0, .int 0, .long 0, .ref g3, .ref g4, .int 0, .int 0]), (h1, aI Y 3640 (clB 0 (fun _ => 0)))]) (va_A [(h0, oC 13 [.ref h1, .ref g0, .int 0, .ref g1, .ref g2, .int 0, .int 0, .int 0, .int (-1), .int 0, .int 0, .int 0, .long 0, .ref g3, .ref g4, .int 0, .int 0]), (h1, aI Y 3640 (clB 0 (fun _ => 0)))] sz)) 0 0 (va_A [(h0, oC 13 [.ref h1, .ref g0, .int 0, .ref g1, .ref g2, .int 0, .int 0, .int 0, .int (-1), .int 0, .int 0, .int 0, .long 0, .ref g3, .ref g4, .int 0, .int 0]), (h1, aI Y 3640 (clB 0 (fun _ => 0)))] sz) :=
  met_of (by decide +kernel) (Nat.le_of_ble_eq_true rfl) (fun p e s m args below meth c B hin hsz => by
    have B : VB p s m args meth c D Y (va_A [(h0, oC 13 [.ref h1, .ref g0, .int 0, .ref g1, .ref g2, .int 0, .int 0, .int 0, .int (-1), .int 0, .int 0, .int 0, .long 0, .ref g3, .ref g4, .int 0, .int 0]), (h1, aI Y 3640 (clB 0 (fun _ => 0)))] sz) cX12_unreachable 5 RX12 (some .int) := B
    refine V_aload_n 0 B dX12_unreachable_0 0 rfl ?_
    refine V_iconst 1 B (v := 0) dX12_unreachable_1 (by decide +kernel) ?_
    refine V_put 2 B gp_RX12_38 0 rfl (Nat.le_of_ble_eq_true rfl) rfl rfl dX12_unreachable_2 [(h0, oC 13 [.ref h1, .ref g0, .int 0, .ref g1, .ref g2, .int 0, .int 0, .int 0, .int (-1), .int 0, .int 0, .int 0, .long 0, .ref g3, .ref g4, .int 0, .int 0]), (h1, aI Y 3640 (clB 0 (fun _ => 0)))] rfl ?_
    refine V_iconst 5 B (v := 0) dX12_unreachable_5 (by decide +kernel) ?_
    refine V_istore_n 6 B (lv2 := [(1, .int 0), (0, .ref h0)]) dX12_unreachable_6 (by decide) rfl ?_
    refine V_iconst 7 B (v := 0) dX12_unreachable_7 (by decide +kernel) ?_
    refine V_istore_n 8 B (lv2 := [(2, .int 0), (1, .int 0), (0, .ref h0)]) dX12_unreachable_8 (by decide) rfl ?_
    refine V_iload_n 9 B dX12_unreachable_9 0 rfl ?_
    refine V_aload_n 10 B dX12_unreachable_10 2 rfl ?_
    refine V_get 11 B gf_RX12_9 0 rfl rfl dX12_unreachable_11 ?_
    refine V_iconst 14 B (v := 1) dX12_unreachable_14 (by decide +kernel) ?_
    refine V_iald 15 B (v := 0) 1 rfl (vpin _ _ (by decide +kernel)) dX12_unreachable_15 rfl ?_
    refine V_icmp_ge_t 16 B 69 dX12_unreachable_16 (by decide) (by decide +kernel) ?_
    refine V_iload_n 69 B dX12_unreachable_69 1 rfl ?_
    exact V_iret 70 B dX12_unreachable_70 () rfl rfl)
theorem dX12_prefixes_0 : decode cX12_prefixes 0 = .ok (.aload_n 0, 1) := by decide +kernel
theorem dX12_prefixes_1 : decode cX12_prefixes 1 = .ok (.iconst 0, 1) := by decide +kernel
theorem dX12_prefixes_2 : decode cX12_prefixes 2 = .ok (.putfield 38, 3) := by decide +kernel
theorem dX12_prefixes_5 : decode cX12_prefixes 5 = .ok (.aload_n 0, 1) := by decide +kernel
theorem dX12_prefixes_6 : decode cX12_prefixes 6 = .ok (.aload_n 0, 1) := by decide +kernel
theorem dX12_prefixes_7 : decode cX12_prefixes 7 = .ok (.iload_n 1, 1) := by decide +kernel
theorem dX12_prefixes_8 : decode cX12_prefixes 8 = .ok (.invokevirtual 91, 3) := by decide +kernel
theorem dX12_prefixes_11 : decode cX12_prefixes 11 = .ok (.ifCond .ne 7, 3) := by decide +kernel
theorem dX12_prefixes_18 : decode cX12_prefixes 18 = .ok (.iconst 0, 1) := by decide +kernel
theorem dX12_prefixes_19 : decode cX12_prefixes 19 = .ok (.iconst 1, 1) := by decide +kernel
theorem dX12_prefixes_20 : decode cX12_prefixes 20 = .ok (.invokevirtual 69, 3) := by decide +kernel
theorem dX12_prefixes_23 : decode cX12_prefixes 23 = .ok (.ifCond .eq 5, 3) := by decide +kernel
theorem dX12_prefixes_28 : decode cX12_prefixes 28 = .ok (.iconst 0, 1) := by decide +kernel
theorem dX12_prefixes_29 : decode cX12_prefixes 29 = .ok (.istore_n 2, 1) := by decide +kernel
theorem dX12_prefixes_30 : decode cX12_prefixes 30 = .ok (.iconst 0, 1) := by decide +kernel
theorem dX12_prefixes_31 : decode cX12_prefixes 31 = .ok (.istore_n 3, 1) := by decide +kernel
theorem dX12_prefixes_32 : decode cX12_prefixes 32 = .ok (.iload_n 3, 1) := by decide +kernel
theorem dX12_prefixes_33 : decode cX12_prefixes 33 = .ok (.aload_n 0, 1) := by decide +kernel
theorem dX12_prefixes_34 : decode cX12_prefixes 34 = .ok (.getfield 9, 3) := by decide +kernel
theorem dX12_prefixes_37 : decode cX12_prefixes 37 = .ok (.iconst 3, 1) := by decide +kernel
theorem dX12_prefixes_38 : decode cX12_prefixes 38 = .ok (.iaload, 1) := by decide +kernel
theorem dX12_prefixes_39 : decode cX12_prefixes 39 = .ok (.if_icmp .ge 102, 3) := by decide +kernel
theorem dX12_prefixes_141 : decode cX12_prefixes 141 = .ok (.iload_n 2, 1) := by decide +kernel
theorem dX12_prefixes_142 : decode cX12_prefixes 142 = .ok (.ireturn, 1) := by decide +kernel
theorem dX12_prefixes_14 : decode cX12_prefixes 14 = .ok (.iconst 1, 1) := by decide +kernel
theorem dX12_prefixes_15 : decode cX12_prefixes 15 = .ok (.goto 4, 3) := by decide +kernel
theorem dX12_prefixes_26 : decode cX12_prefixes 26 = .ok (.iconst 0, 1) := by decide +kernel
theorem dX12_prefixes_27 : decode cX12_prefixes 27 = .ok (.ireturn, 1) := by decide +kernel
set_option maxRecDepth 100000 in
set_option maxHeartbeats 4000000 in
theorem mX12_prefixes_1 (l : Launch) (D : va_G) (Y : Nat → ClassId) (h0 : Nat) (h1 : Nat) (g0 : Nat) (g1 : Nat) (g2 : Nat) (g3 : Nat) (g4 : Nat) (p0 : Int32) (sz : Nat) : Met l yX12_prefixes (WSm yX12_prefixes cX12_prefixes 6 (some .int)) (mkR 2 0 0 46) (PreC D Y [.ref h0, .int p0] [(h0, oC 13 [.ref h1, .ref g0, .int 0, .ref g1, .ref g2, .int 0, .int 0, .int 0, .int (-1), .int 0, .int 0, .int 0, .long 0, .ref g3, .ref g4, .int 0, .int 0]), (h1, aI Y 3640 (clB 0 (fun _ => 0)))] sz) (QI D (fun (r : Int32) (u : Nat) => (u = 0 ∧ p0 = 0 ∧ 0 = r) ∨ (u = 1 ∧ p0 < 0 ∧ 0 = r) ∨ (u = 2 ∧ 0 < p0 ∧ 0 = r)) (fun (u : Nat) => match u with | 0 => [(h0, oC 13 [.ref h1, .ref g0, .int 0, .ref g1, .ref g2, .int 0, .int 0, .int 0, .int (-1), .int 0, .int 0, .int 0, .long 0, .ref g3, .ref g4, .int 0, .int 0]), (h1, aI Y 3640 (clB 0 (fun _ => 0)))] | 1 => [(h0, oC 13 [.ref h1, .ref g0, .int 1, .ref g1, .ref g2, .int 0, .int 0, .int 0, .int (-1), .int 0, .int 0, .int 0, .long 0, .ref g3, .ref g4, .int 0, .int 0]), (h1, aI Y 3640 (clB 0 (fun _ => 0)))] | _ => [(h0, oC 13 [.ref h1, .ref g0, .int 1, .ref g1, .ref g2, .int 0, .int 0, .int 0, .int (-1), .int 0, .int 0, .int 0, .long 0, .ref g3, .ref g4, .int 0, .int 0]), (h1, aI Y 3640 (clB 0 (fun _ => 0)))]) (va_A [(h0, oC 13 [.ref h1, .ref g0, .int 0, .ref g1, .ref g2, .int 0, .int 0, .int 0, .int (-1), .int 0, .int 0, .int 0, .long 0, .ref g3, .ref g4, .int 0, .int 0]), (h1, aI Y 3640 (clB 0 (fun _ => 0)))] sz)) 0 0 (va_A [(h0, oC 13 [.ref h1, .ref g0, .int 0, .ref g1, .ref g2, .int 0, .int 0, .int 0, .int (-1), .int 0, .int 0, .int 0, .long 0, .ref g3, .ref g4, .int 0, .int 0]), (h1, aI Y 3640 (clB 0 (fun _ => 0)))] sz) :=
  met_of (by decide +kernel) (Nat.le_of_ble_eq_true rfl) (fun p e s m args below meth c B hin hsz => by
    have B : VB p s m args meth c D Y (va_A [(h0, oC 13 [.ref h1, .ref g0, .int 0, .ref g1, .ref g2, .int 0, .int 0, .int 0, .int (-1), .int 0, .int 0, .int 0, .long 0, .ref g3, .ref g4, .int 0, .int 0]), (h1, aI Y 3640 (clB 0 (fun _ => 0)))] sz) cX12_prefixes 6 RX12 (some .int) := B
    refine V_aload_n 0 B dX12_prefixes_0 0 rfl ?_
    refine V_iconst 1 B (v := 0) dX12_prefixes_1 (by decide +kernel) ?_
    refine V_put 2 B gp_RX12_38 0 rfl (Nat.le_of_ble_eq_true rfl) rfl rfl dX12_prefixes_2 [(h0, oC 13 [.ref h1, .ref g0, .int 0, .ref g1, .ref g2, .int 0, .int 0, .int 0, .int (-1), .int 0, .int 0, .int 0, .long 0, .ref g3, .ref g4, .int 0, .int 0]), (h1, aI Y 3640 (clB 0 (fun _ => 0)))] rfl ?_
    refine V_aload_n 5 B dX12_prefixes_5 0 rfl ?_
    refine V_aload_n 6 B dX12_prefixes_6 0 rfl ?_
    refine V_iload_n 7 B dX12_prefixes_7 1 rfl ?_
    refine V_cvi 8 B (st := [.ref h0]) (As := [.int p0]) (fun sz => mX12_isMode_1 l D Y (h0) (h1) (g0) (g1) (g2) (g3) (g4) (p0) sz) glV_RX12_91 ⟨rfl, rfl⟩ ⟨(Nat.le_of_ble_eq_true rfl), (Nat.le_of_ble_eq_true rfl)⟩ ⟨(Nat.le_of_ble_eq_true rfl), (Nat.le_of_ble_eq_true rfl)⟩ [0, 0] rfl 13 0 rfl rfl rfl rfl (Nat.le_of_ble_eq_true rfl) rfl (fun _ _ _ => rfl) dX12_prefixes_8 (fun r0 u0 w0 => ?_)
    rcases w0 with ⟨k1, rfl⟩ | ⟨k2, rfl⟩ | ⟨k3, rfl⟩
    ·
      refine V_ws [(h0, oC 13 [.ref h1, .ref g0, .int 0, .ref g1, .ref g2, .int 0, .int 0, .int 0, .int (-1), .int 0, .int 0, .int 0, .long 0, .ref g3, .ref g4, .int 0, .int 0]), (h1, aI Y 3640 (clB 0 (fun _ => 0)))] rfl ?_
      obtain rfl : p0 = 0 := k1
      refine V_if_ne_t 11 B 18 dX12_prefixes_11 (by decide) (by decide +kernel) ?_
      refine V_iconst 18 B (v := 0) dX12_prefixes_18 (by decide +kernel) ?_
      refine V_iconst 19 B (v := 1) dX12_prefixes_19 (by decide +kernel) ?_
      refine V_cvi 20 B (st := []) (As := [.int 0, .int 1]) (fun sz => mX12_throwsIf_2 l D Y (h0) (h1) (g0) (g1) (g2) (g3) (g4) sz) glV_RX12_69 ⟨rfl, rfl⟩ ⟨(Nat.le_of_ble_eq_true rfl), (Nat.le_of_ble_eq_true rfl)⟩ ⟨(Nat.le_of_ble_eq_true rfl), (Nat.le_of_ble_eq_true rfl)⟩ [0] rfl 13 0 rfl rfl rfl rfl (Nat.le_of_ble_eq_true rfl) rfl (fun _ _ _ => rfl) dX12_prefixes_20 (fun r4 u4 w4 => ?_)
      obtain rfl := w4
      refine V_ws [(h0, oC 13 [.ref h1, .ref g0, .int 0, .ref g1, .ref g2, .int 0, .int 0, .int 0, .int (-1), .int 0, .int 0, .int 0, .long 0, .ref g3, .ref g4, .int 0, .int 0]), (h1, aI Y 3640 (clB 0 (fun _ => 0)))] rfl ?_
      refine V_if_eq_t 23 B 28 dX12_prefixes_23 (by decide) (by decide +kernel) ?_
      refine V_iconst 28 B (v := 0) dX12_prefixes_28 (by decide +kernel) ?_
      refine V_istore_n 29 B (lv2 := [(2, .int 0), (0, .ref h0), (1, .int 0)]) dX12_prefixes_29 (by decide) rfl ?_
      refine V_iconst 30 B (v := 0) dX12_prefixes_30 (by decide +kernel) ?_
      refine V_istore_n 31 B (lv2 := [(3, .int 0), (2, .int 0), (0, .ref h0), (1, .int 0)]) dX12_prefixes_31 (by decide) rfl ?_
      refine V_iload_n 32 B dX12_prefixes_32 0 rfl ?_
      refine V_aload_n 33 B dX12_prefixes_33 2 rfl ?_
      refine V_get 34 B gf_RX12_9 0 rfl rfl dX12_prefixes_34 ?_
      refine V_iconst 37 B (v := 3) dX12_prefixes_37 (by decide +kernel) ?_
      refine V_iald 38 B (v := 0) 1 rfl (vpin _ _ (by decide +kernel)) dX12_prefixes_38 rfl ?_
      refine V_icmp_ge_t 39 B 141 dX12_prefixes_39 (by decide) (by decide +kernel) ?_
      refine V_iload_n 141 B dX12_prefixes_141 1 rfl ?_
      exact V_iret 142 B dX12_prefixes_142 0 (Or.inl ⟨rfl, rfl, rfl⟩) rfl
    ·
      refine V_ws [(h0, oC 13 [.ref h1, .ref g0, .int 0, .ref g1, .ref g2, .int 0, .int 0, .int 0, .int (-1), .int 0, .int 0, .int 0, .long 0, .ref g3, .ref g4, .int 0, .int 0]), (h1, aI Y 3640 (clB 0 (fun _ => 0)))] rfl ?_
      refine V_if_ne_f 11 B 18 dX12_prefixes_11 (by decide) (by decide +kernel) ?_
      refine V_iconst 14 B (v := 1) dX12_prefixes_14 (by decide +kernel) ?_
      refine V_goto 15 B 19 dX12_prefixes_15 (by decide) ?_
      refine V_iconst 19 B (v := 1) dX12_prefixes_19 (by decide +kernel) ?_
      refine V_cvi 20 B (st := []) (As := [.int 1, .int 1]) (fun sz => mX12_throwsIf_1 l D Y (h0) (h1) (g0) (g1) (g2) (g3) (g4) sz) glV_RX12_69 ⟨rfl, rfl⟩ ⟨(Nat.le_of_ble_eq_true rfl), (Nat.le_of_ble_eq_true rfl)⟩ ⟨(Nat.le_of_ble_eq_true rfl), (Nat.le_of_ble_eq_true rfl)⟩ [0] rfl 13 0 rfl rfl rfl rfl (Nat.le_of_ble_eq_true rfl) rfl (fun _ _ _ => rfl) dX12_prefixes_20 (fun r5 u5 w5 => ?_)
      obtain rfl := w5
      refine V_ws [(h0, oC 13 [.ref h1, .ref g0, .int 1, .ref g1, .ref g2, .int 0, .int 0, .int 0, .int (-1), .int 0, .int 0, .int 0, .long 0, .ref g3, .ref g4, .int 0, .int 0]), (h1, aI Y 3640 (clB 0 (fun _ => 0)))] rfl ?_
      refine V_if_eq_f 23 B 28 dX12_prefixes_23 (by decide) (by decide +kernel) ?_
      refine V_iconst 26 B (v := 0) dX12_prefixes_26 (by decide +kernel) ?_
      exact V_iret 27 B dX12_prefixes_27 1 (Or.inr (Or.inl ⟨rfl, k2, rfl⟩)) rfl
    ·
      refine V_ws [(h0, oC 13 [.ref h1, .ref g0, .int 0, .ref g1, .ref g2, .int 0, .int 0, .int 0, .int (-1), .int 0, .int 0, .int 0, .long 0, .ref g3, .ref g4, .int 0, .int 0]), (h1, aI Y 3640 (clB 0 (fun _ => 0)))] rfl ?_
      refine V_if_ne_f 11 B 18 dX12_prefixes_11 (by decide) (by decide +kernel) ?_
      refine V_iconst 14 B (v := 1) dX12_prefixes_14 (by decide +kernel) ?_
      refine V_goto 15 B 19 dX12_prefixes_15 (by decide) ?_
      refine V_iconst 19 B (v := 1) dX12_prefixes_19 (by decide +kernel) ?_
      refine V_cvi 20 B (st := []) (As := [.int 1, .int 1]) (fun sz => mX12_throwsIf_1 l D Y (h0) (h1) (g0) (g1) (g2) (g3) (g4) sz) glV_RX12_69 ⟨rfl, rfl⟩ ⟨(Nat.le_of_ble_eq_true rfl), (Nat.le_of_ble_eq_true rfl)⟩ ⟨(Nat.le_of_ble_eq_true rfl), (Nat.le_of_ble_eq_true rfl)⟩ [0] rfl 13 0 rfl rfl rfl rfl (Nat.le_of_ble_eq_true rfl) rfl (fun _ _ _ => rfl) dX12_prefixes_20 (fun r6 u6 w6 => ?_)
      obtain rfl := w6
      refine V_ws [(h0, oC 13 [.ref h1, .ref g0, .int 1, .ref g1, .ref g2, .int 0, .int 0, .int 0, .int (-1), .int 0, .int 0, .int 0, .long 0, .ref g3, .ref g4, .int 0, .int 0]), (h1, aI Y 3640 (clB 0 (fun _ => 0)))] rfl ?_
      refine V_if_eq_f 23 B 28 dX12_prefixes_23 (by decide) (by decide +kernel) ?_
      refine V_iconst 26 B (v := 0) dX12_prefixes_26 (by decide +kernel) ?_
      exact V_iret 27 B dX12_prefixes_27 2 (Or.inr (Or.inr ⟨rfl, k3, rfl⟩)) rfl)
theorem dX12_bestFor_0 : decode cX12_bestFor 0 = .ok (.aload_n 0, 1) := by decide +kernel
theorem dX12_bestFor_1 : decode cX12_bestFor 1 = .ok (.iconst 0, 1) := by decide +kernel
theorem dX12_bestFor_2 : decode cX12_bestFor 2 = .ok (.putfield 38, 3) := by decide +kernel
theorem dX12_bestFor_5 : decode cX12_bestFor 5 = .ok (.aload_n 0, 1) := by decide +kernel
theorem dX12_bestFor_6 : decode cX12_bestFor 6 = .ok (.aload_n 0, 1) := by decide +kernel
theorem dX12_bestFor_7 : decode cX12_bestFor 7 = .ok (.iload_n 1, 1) := by decide +kernel
theorem dX12_bestFor_8 : decode cX12_bestFor 8 = .ok (.invokevirtual 91, 3) := by decide +kernel
theorem dX12_bestFor_11 : decode cX12_bestFor 11 = .ok (.ifCond .eq 11, 3) := by decide +kernel
theorem dX12_bestFor_14 : decode cX12_bestFor 14 = .ok (.aload_n 0, 1) := by decide +kernel
theorem dX12_bestFor_15 : decode cX12_bestFor 15 = .ok (.iload_n 2, 1) := by decide +kernel
theorem dX12_bestFor_16 : decode cX12_bestFor 16 = .ok (.invokevirtual 99, 3) := by decide +kernel
theorem dX12_bestFor_19 : decode cX12_bestFor 19 = .ok (.ifCond .ne 7, 3) := by decide +kernel
theorem dX12_bestFor_22 : decode cX12_bestFor 22 = .ok (.iconst 1, 1) := by decide +kernel
theorem dX12_bestFor_23 : decode cX12_bestFor 23 = .ok (.goto 4, 3) := by decide +kernel
theorem dX12_bestFor_27 : decode cX12_bestFor 27 = .ok (.iconst 1, 1) := by decide +kernel
theorem dX12_bestFor_28 : decode cX12_bestFor 28 = .ok (.invokevirtual 69, 3) := by decide +kernel
theorem dX12_bestFor_31 : decode cX12_bestFor 31 = .ok (.ifCond .eq 7, 3) := by decide +kernel
theorem dX12_bestFor_34 : decode cX12_bestFor 34 = .ok (.iconst 0, 1) := by decide +kernel
theorem dX12_bestFor_35 : decode cX12_bestFor 35 = .ok (.goto 9, 3) := by decide +kernel
theorem dX12_bestFor_44 : decode cX12_bestFor 44 = .ok (.ireturn, 1) := by decide +kernel
set_option maxRecDepth 100000 in
set_option maxHeartbeats 4000000 in
theorem mX12_bestFor_1 (l : Launch) (D : va_G) (Y : Nat → ClassId) (h0 : Nat) (h1 : Nat) (g0 : Nat) (g1 : Nat) (g2 : Nat) (g3 : Nat) (g4 : Nat) (p0 : Int32) (p1 : Int32) (sz : Nat) : Met l yX12_bestFor (WSm yX12_bestFor cX12_bestFor 3 (some .int)) (mkR 2 0 0 46) (PreC D Y [.ref h0, .int p0, .int p1] [(h0, oC 13 [.ref h1, .ref g0, .int 0, .ref g1, .ref g2, .int 0, .int 0, .int 0, .int (-1), .int 0, .int 0, .int 0, .long 0, .ref g3, .ref g4, .int 0, .int 0]), (h1, aI Y 3640 (clB 0 (fun _ => 0)))] sz) (QI D (fun (r : Int32) (u : Unit) => (p0 = 0 ∧ p1 < 0 ∧ 0 = r) ∨ (p0 = 0 ∧ (-1) < p1 ∧ 0 = r) ∨ (p0 < 0 ∧ 0 = r) ∨ (0 < p0 ∧ 0 = r)) (fun (_ : Unit) => [(h0, oC 13 [.ref h1, .ref g0, .int 1, .ref g1, .ref g2, .int 0, .int 0, .int 0, .int (-1), .int 0, .int 0, .int 0, .long 0, .ref g3, .ref g4, .int 0, .int 0]), (h1, aI Y 3640 (clB 0 (fun _ => 0)))]) (va_A [(h0, oC 13 [.ref h1, .ref g0, .int 0, .ref g1, .ref g2, .int 0, .int 0, .int 0, .int (-1), .int 0, .int 0, .int 0, .long 0, .ref g3, .ref g4, .int 0, .int 0]), (h1, aI Y 3640 (clB 0 (fun _ => 0)))] sz)) 0 0 (va_A [(h0, oC 13 [.ref h1, .ref g0, .int 0, .ref g1, .ref g2, .int 0, .int 0, .int 0, .int (-1), .int 0, .int 0, .int 0, .long 0, .ref g3, .ref g4, .int 0, .int 0]), (h1, aI Y 3640 (clB 0 (fun _ => 0)))] sz) :=
  met_of (by decide +kernel) (Nat.le_of_ble_eq_true rfl) (fun p e s m args below meth c B hin hsz => by
    have B : VB p s m args meth c D Y (va_A [(h0, oC 13 [.ref h1, .ref g0, .int 0, .ref g1, .ref g2, .int 0, .int 0, .int 0, .int (-1), .int 0, .int 0, .int 0, .long 0, .ref g3, .ref g4, .int 0, .int 0]), (h1, aI Y 3640 (clB 0 (fun _ => 0)))] sz) cX12_bestFor 3 RX12 (some .int) := B
    refine V_aload_n 0 B dX12_bestFor_0 0 rfl ?_
    refine V_iconst 1 B (v := 0) dX12_bestFor_1 (by decide +kernel) ?_
    refine V_put 2 B gp_RX12_38 0 rfl (Nat.le_of_ble_eq_true rfl) rfl rfl dX12_bestFor_2 [(h0, oC 13 [.ref h1, .ref g0, .int 0, .ref g1, .ref g2, .int 0, .int 0, .int 0, .int (-1), .int 0, .int 0, .int 0, .long 0, .ref g3, .ref g4, .int 0, .int 0]), (h1, aI Y 3640 (clB 0 (fun _ => 0)))] rfl ?_
    refine V_aload_n 5 B dX12_bestFor_5 0 rfl ?_
    refine V_aload_n 6 B dX12_bestFor_6 0 rfl ?_
    refine V_iload_n 7 B dX12_bestFor_7 1 rfl ?_
    refine V_cvi 8 B (st := [.ref h0]) (As := [.int p0]) (fun sz => mX12_isMode_1 l D Y (h0) (h1) (g0) (g1) (g2) (g3) (g4) (p0) sz) glV_RX12_91 ⟨rfl, rfl⟩ ⟨(Nat.le_of_ble_eq_true rfl), (Nat.le_of_ble_eq_true rfl)⟩ ⟨(Nat.le_of_ble_eq_true rfl), (Nat.le_of_ble_eq_true rfl)⟩ [0, 0] rfl 13 0 rfl rfl rfl rfl (Nat.le_of_ble_eq_true rfl) rfl (fun _ _ _ => rfl) dX12_bestFor_8 (fun r0 u0 w0 => ?_)
    rcases w0 with ⟨k1, rfl⟩ | ⟨k2, rfl⟩ | ⟨k3, rfl⟩
    ·
      refine V_ws [(h0, oC 13 [.ref h1, .ref g0, .int 0, .ref g1, .ref g2, .int 0, .int 0, .int 0, .int (-1), .int 0, .int 0, .int 0, .long 0, .ref g3, .ref g4, .int 0, .int 0]), (h1, aI Y 3640 (clB 0 (fun _ => 0)))] rfl ?_
      obtain rfl : p0 = 0 := k1
      refine V_if_eq_f 11 B 22 dX12_bestFor_11 (by decide) (by decide +kernel) ?_
      refine V_aload_n 14 B dX12_bestFor_14 0 rfl ?_
      refine V_iload_n 15 B dX12_bestFor_15 2 rfl ?_
      refine V_cvi 16 B (st := [.ref h0]) (As := [.int p1]) (fun sz => mX12_isCommand_1 l D Y (h0) (h1) (g0) (g1) (g2) (g3) (g4) (p1) sz) glV_RX12_99 ⟨rfl, rfl⟩ ⟨(Nat.le_of_ble_eq_true rfl), (Nat.le_of_ble_eq_true rfl)⟩ ⟨(Nat.le_of_ble_eq_true rfl), (Nat.le_of_ble_eq_true rfl)⟩ [0, 0] rfl 13 0 rfl rfl rfl rfl (Nat.le_of_ble_eq_true rfl) rfl (fun _ _ _ => rfl) dX12_bestFor_16 (fun r4 u4 w4 => ?_)
      rcases w4 with ⟨k5, rfl⟩ | ⟨k6, rfl⟩
      ·
        refine V_ws [(h0, oC 13 [.ref h1, .ref g0, .int 0, .ref g1, .ref g2, .int 0, .int 0, .int 0, .int (-1), .int 0, .int 0, .int 0, .long 0, .ref g3, .ref g4, .int 0, .int 0]), (h1, aI Y 3640 (clB 0 (fun _ => 0)))] rfl ?_
        refine V_if_ne_f 19 B 26 dX12_bestFor_19 (by decide) (by decide +kernel) ?_
        refine V_iconst 22 B (v := 1) dX12_bestFor_22 (by decide +kernel) ?_
        refine V_goto 23 B 27 dX12_bestFor_23 (by decide) ?_
        refine V_iconst 27 B (v := 1) dX12_bestFor_27 (by decide +kernel) ?_
        refine V_cvi 28 B (st := []) (As := [.int 1, .int 1]) (fun sz => mX12_throwsIf_1 l D Y (h0) (h1) (g0) (g1) (g2) (g3) (g4) sz) glV_RX12_69 ⟨rfl, rfl⟩ ⟨(Nat.le_of_ble_eq_true rfl), (Nat.le_of_ble_eq_true rfl)⟩ ⟨(Nat.le_of_ble_eq_true rfl), (Nat.le_of_ble_eq_true rfl)⟩ [0] rfl 13 0 rfl rfl rfl rfl (Nat.le_of_ble_eq_true rfl) rfl (fun _ _ _ => rfl) dX12_bestFor_28 (fun r7 u7 w7 => ?_)
        obtain rfl := w7
        refine V_ws [(h0, oC 13 [.ref h1, .ref g0, .int 1, .ref g1, .ref g2, .int 0, .int 0, .int 0, .int (-1), .int 0, .int 0, .int 0, .long 0, .ref g3, .ref g4, .int 0, .int 0]), (h1, aI Y 3640 (clB 0 (fun _ => 0)))] rfl ?_
        refine V_if_eq_f 31 B 38 dX12_bestFor_31 (by decide) (by decide +kernel) ?_
        refine V_iconst 34 B (v := 0) dX12_bestFor_34 (by decide +kernel) ?_
        refine V_goto 35 B 44 dX12_bestFor_35 (by decide) ?_
        exact V_iret 44 B dX12_bestFor_44 () (Or.inl ⟨rfl, k5, rfl⟩) rfl
      ·
        refine V_ws [(h0, oC 13 [.ref h1, .ref g0, .int 0, .ref g1, .ref g2, .int 0, .int 0, .int 0, .int (-1), .int 0, .int 0, .int 0, .long 0, .ref g3, .ref g4, .int 0, .int 0]), (h1, aI Y 3640 (clB 0 (fun _ => 0)))] rfl ?_
        refine V_if_ne_f 19 B 26 dX12_bestFor_19 (by decide) (by decide +kernel) ?_
        refine V_iconst 22 B (v := 1) dX12_bestFor_22 (by decide +kernel) ?_
        refine V_goto 23 B 27 dX12_bestFor_23 (by decide) ?_
        refine V_iconst 27 B (v := 1) dX12_bestFor_27 (by decide +kernel) ?_
        refine V_cvi 28 B (st := []) (As := [.int 1, .int 1]) (fun sz => mX12_throwsIf_1 l D Y (h0) (h1) (g0) (g1) (g2) (g3) (g4) sz) glV_RX12_69 ⟨rfl, rfl⟩ ⟨(Nat.le_of_ble_eq_true rfl), (Nat.le_of_ble_eq_true rfl)⟩ ⟨(Nat.le_of_ble_eq_true rfl), (Nat.le_of_ble_eq_true rfl)⟩ [0] rfl 13 0 rfl rfl rfl rfl (Nat.le_of_ble_eq_true rfl) rfl (fun _ _ _ => rfl) dX12_bestFor_28 (fun r8 u8 w8 => ?_)
        obtain rfl := w8
        refine V_ws [(h0, oC 13 [.ref h1, .ref g0, .int 1, .ref g1, .ref g2, .int 0, .int 0, .int 0, .int (-1), .int 0, .int 0, .int 0, .long 0, .ref g3, .ref g4, .int 0, .int 0]), (h1, aI Y 3640 (clB 0 (fun _ => 0)))] rfl ?_
        refine V_if_eq_f 31 B 38 dX12_bestFor_31 (by decide) (by decide +kernel) ?_
        refine V_iconst 34 B (v := 0) dX12_bestFor_34 (by decide +kernel) ?_
        refine V_goto 35 B 44 dX12_bestFor_35 (by decide) ?_
        exact V_iret 44 B dX12_bestFor_44 () (Or.inr (Or.inl ⟨rfl, k6, rfl⟩)) rfl
    ·
      refine V_ws [(h0, oC 13 [.ref h1, .ref g0, .int 0, .ref g1, .ref g2, .int 0, .int 0, .int 0, .int (-1), .int 0, .int 0, .int 0, .long 0, .ref g3, .ref g4, .int 0, .int 0]), (h1, aI Y 3640 (clB 0 (fun _ => 0)))] rfl ?_
      refine V_if_eq_t 11 B 22 dX12_bestFor_11 (by decide) (by decide +kernel) ?_
      refine V_iconst 22 B (v := 1) dX12_bestFor_22 (by decide +kernel) ?_
      refine V_goto 23 B 27 dX12_bestFor_23 (by decide) ?_
      refine V_iconst 27 B (v := 1) dX12_bestFor_27 (by decide +kernel) ?_
      refine V_cvi 28 B (st := []) (As := [.int 1, .int 1]) (fun sz => mX12_throwsIf_1 l D Y (h0) (h1) (g0) (g1) (g2) (g3) (g4) sz) glV_RX12_69 ⟨rfl, rfl⟩ ⟨(Nat.le_of_ble_eq_true rfl), (Nat.le_of_ble_eq_true rfl)⟩ ⟨(Nat.le_of_ble_eq_true rfl), (Nat.le_of_ble_eq_true rfl)⟩ [0] rfl 13 0 rfl rfl rfl rfl (Nat.le_of_ble_eq_true rfl) rfl (fun _ _ _ => rfl) dX12_bestFor_28 (fun r9 u9 w9 => ?_)
      obtain rfl := w9
      refine V_ws [(h0, oC 13 [.ref h1, .ref g0, .int 1, .ref g1, .ref g2, .int 0, .int 0, .int 0, .int (-1), .int 0, .int 0, .int 0, .long 0, .ref g3, .ref g4, .int 0, .int 0]), (h1, aI Y 3640 (clB 0 (fun _ => 0)))] rfl ?_
      refine V_if_eq_f 31 B 38 dX12_bestFor_31 (by decide) (by decide +kernel) ?_
      refine V_iconst 34 B (v := 0) dX12_bestFor_34 (by decide +kernel) ?_
      refine V_goto 35 B 44 dX12_bestFor_35 (by decide) ?_
      exact V_iret 44 B dX12_bestFor_44 () (Or.inr (Or.inr (Or.inl ⟨k2, rfl⟩))) rfl
    ·
      refine V_ws [(h0, oC 13 [.ref h1, .ref g0, .int 0, .ref g1, .ref g2, .int 0, .int 0, .int 0, .int (-1), .int 0, .int 0, .int 0, .long 0, .ref g3, .ref g4, .int 0, .int 0]), (h1, aI Y 3640 (clB 0 (fun _ => 0)))] rfl ?_
      refine V_if_eq_t 11 B 22 dX12_bestFor_11 (by decide) (by decide +kernel) ?_
      refine V_iconst 22 B (v := 1) dX12_bestFor_22 (by decide +kernel) ?_
      refine V_goto 23 B 27 dX12_bestFor_23 (by decide) ?_
      refine V_iconst 27 B (v := 1) dX12_bestFor_27 (by decide +kernel) ?_
      refine V_cvi 28 B (st := []) (As := [.int 1, .int 1]) (fun sz => mX12_throwsIf_1 l D Y (h0) (h1) (g0) (g1) (g2) (g3) (g4) sz) glV_RX12_69 ⟨rfl, rfl⟩ ⟨(Nat.le_of_ble_eq_true rfl), (Nat.le_of_ble_eq_true rfl)⟩ ⟨(Nat.le_of_ble_eq_true rfl), (Nat.le_of_ble_eq_true rfl)⟩ [0] rfl 13 0 rfl rfl rfl rfl (Nat.le_of_ble_eq_true rfl) rfl (fun _ _ _ => rfl) dX12_bestFor_28 (fun r10 u10 w10 => ?_)
      obtain rfl := w10
      refine V_ws [(h0, oC 13 [.ref h1, .ref g0, .int 1, .ref g1, .ref g2, .int 0, .int 0, .int 0, .int (-1), .int 0, .int 0, .int 0, .long 0, .ref g3, .ref g4, .int 0, .int 0]), (h1, aI Y 3640 (clB 0 (fun _ => 0)))] rfl ?_
      refine V_if_eq_f 31 B 38 dX12_bestFor_31 (by decide) (by decide +kernel) ?_
      refine V_iconst 34 B (v := 0) dX12_bestFor_34 (by decide +kernel) ?_
      refine V_goto 35 B 44 dX12_bestFor_35 (by decide) ?_
      exact V_iret 44 B dX12_bestFor_44 () (Or.inr (Or.inr (Or.inr ⟨k3, rfl⟩))) rfl)
theorem dX12_effort_0 : decode cX12_effort 0 = .ok (.aload_n 0, 1) := by decide +kernel
theorem dX12_effort_1 : decode cX12_effort 1 = .ok (.iconst 0, 1) := by decide +kernel
theorem dX12_effort_2 : decode cX12_effort 2 = .ok (.putfield 38, 3) := by decide +kernel
theorem dX12_effort_5 : decode cX12_effort 5 = .ok (.aload_n 0, 1) := by decide +kernel
theorem dX12_effort_6 : decode cX12_effort 6 = .ok (.aload_n 0, 1) := by decide +kernel
theorem dX12_effort_7 : decode cX12_effort 7 = .ok (.iload_n 1, 1) := by decide +kernel
theorem dX12_effort_8 : decode cX12_effort 8 = .ok (.invokevirtual 91, 3) := by decide +kernel
theorem dX12_effort_11 : decode cX12_effort 11 = .ok (.ifCond .ne 7, 3) := by decide +kernel
theorem dX12_effort_18 : decode cX12_effort 18 = .ok (.iconst 0, 1) := by decide +kernel
theorem dX12_effort_19 : decode cX12_effort 19 = .ok (.iconst 1, 1) := by decide +kernel
theorem dX12_effort_20 : decode cX12_effort 20 = .ok (.invokevirtual 69, 3) := by decide +kernel
theorem dX12_effort_23 : decode cX12_effort 23 = .ok (.ifCond .eq 5, 3) := by decide +kernel
theorem dX12_effort_28 : decode cX12_effort 28 = .ok (.lconst 0, 1) := by decide +kernel
theorem dX12_effort_29 : decode cX12_effort 29 = .ok (.lstore_n 2, 1) := by decide +kernel
theorem dX12_effort_30 : decode cX12_effort 30 = .ok (.iconst 0, 1) := by decide +kernel
theorem dX12_effort_31 : decode cX12_effort 31 = .ok (.istore 4, 2) := by decide +kernel
theorem dX12_effort_33 : decode cX12_effort 33 = .ok (.iload 4, 2) := by decide +kernel
theorem dX12_effort_35 : decode cX12_effort 35 = .ok (.aload_n 0, 1) := by decide +kernel
theorem dX12_effort_36 : decode cX12_effort 36 = .ok (.getfield 9, 3) := by decide +kernel
theorem dX12_effort_39 : decode cX12_effort 39 = .ok (.iconst 1, 1) := by decide +kernel
theorem dX12_effort_40 : decode cX12_effort 40 = .ok (.iaload, 1) := by decide +kernel
theorem dX12_effort_41 : decode cX12_effort 41 = .ok (.if_icmp .ge 46, 3) := by decide +kernel
theorem dX12_effort_87 : decode cX12_effort 87 = .ok (.lload_n 2, 1) := by decide +kernel
theorem dX12_effort_88 : decode cX12_effort 88 = .ok (.lreturn, 1) := by decide +kernel
theorem dX12_effort_14 : decode cX12_effort 14 = .ok (.iconst 1, 1) := by decide +kernel
theorem dX12_effort_15 : decode cX12_effort 15 = .ok (.goto 4, 3) := by decide +kernel
theorem dX12_effort_26 : decode cX12_effort 26 = .ok (.lconst 0, 1) := by decide +kernel
theorem dX12_effort_27 : decode cX12_effort 27 = .ok (.lreturn, 1) := by decide +kernel
set_option maxRecDepth 100000 in
set_option maxHeartbeats 4000000 in
theorem mX12_effort_1 (l : Launch) (D : va_G) (Y : Nat → ClassId) (h0 : Nat) (h1 : Nat) (g0 : Nat) (g1 : Nat) (g2 : Nat) (g3 : Nat) (g4 : Nat) (p0 : Int32) (sz : Nat) : Met l yX12_effort (WSm yX12_effort cX12_effort 6 (some .long)) (mkR 2 0 0 46) (PreC D Y [.ref h0, .int p0] [(h0, oC 13 [.ref h1, .ref g0, .int 0, .ref g1, .ref g2, .int 0, .int 0, .int 0, .int (-1), .int 0, .int 0, .int 0, .long 0, .ref g3, .ref g4, .int 0, .int 0]), (h1, aI Y 3640 (clB 0 (fun _ => 0)))] sz) (QJ D (fun (r : Int64) (u : Nat) => (u = 0 ∧ p0 = 0 ∧ 0 = r) ∨ (u = 1 ∧ p0 < 0 ∧ 0 = r) ∨ (u = 2 ∧ 0 < p0 ∧ 0 = r)) (fun (u : Nat) => match u with | 0 => [(h0, oC 13 [.ref h1, .ref g0, .int 0, .ref g1, .ref g2, .int 0, .int 0, .int 0, .int (-1), .int 0, .int 0, .int 0, .long 0, .ref g3, .ref g4, .int 0, .int 0]), (h1, aI Y 3640 (clB 0 (fun _ => 0)))] | 1 => [(h0, oC 13 [.ref h1, .ref g0, .int 1, .ref g1, .ref g2, .int 0, .int 0, .int 0, .int (-1), .int 0, .int 0, .int 0, .long 0, .ref g3, .ref g4, .int 0, .int 0]), (h1, aI Y 3640 (clB 0 (fun _ => 0)))] | _ => [(h0, oC 13 [.ref h1, .ref g0, .int 1, .ref g1, .ref g2, .int 0, .int 0, .int 0, .int (-1), .int 0, .int 0, .int 0, .long 0, .ref g3, .ref g4, .int 0, .int 0]), (h1, aI Y 3640 (clB 0 (fun _ => 0)))]) (va_A [(h0, oC 13 [.ref h1, .ref g0, .int 0, .ref g1, .ref g2, .int 0, .int 0, .int 0, .int (-1), .int 0, .int 0, .int 0, .long 0, .ref g3, .ref g4, .int 0, .int 0]), (h1, aI Y 3640 (clB 0 (fun _ => 0)))] sz)) 0 0 (va_A [(h0, oC 13 [.ref h1, .ref g0, .int 0, .ref g1, .ref g2, .int 0, .int 0, .int 0, .int (-1), .int 0, .int 0, .int 0, .long 0, .ref g3, .ref g4, .int 0, .int 0]), (h1, aI Y 3640 (clB 0 (fun _ => 0)))] sz) :=
  met_of (by decide +kernel) (Nat.le_of_ble_eq_true rfl) (fun p e s m args below meth c B hin hsz => by
    have B : VB p s m args meth c D Y (va_A [(h0, oC 13 [.ref h1, .ref g0, .int 0, .ref g1, .ref g2, .int 0, .int 0, .int 0, .int (-1), .int 0, .int 0, .int 0, .long 0, .ref g3, .ref g4, .int 0, .int 0]), (h1, aI Y 3640 (clB 0 (fun _ => 0)))] sz) cX12_effort 6 RX12 (some .long) := B
    refine V_aload_n 0 B dX12_effort_0 0 rfl ?_
    refine V_iconst 1 B (v := 0) dX12_effort_1 (by decide +kernel) ?_
    refine V_put 2 B gp_RX12_38 0 rfl (Nat.le_of_ble_eq_true rfl) rfl rfl dX12_effort_2 [(h0, oC 13 [.ref h1, .ref g0, .int 0, .ref g1, .ref g2, .int 0, .int 0, .int 0, .int (-1), .int 0, .int 0, .int 0, .long 0, .ref g3, .ref g4, .int 0, .int 0]), (h1, aI Y 3640 (clB 0 (fun _ => 0)))] rfl ?_
    refine V_aload_n 5 B dX12_effort_5 0 rfl ?_
    refine V_aload_n 6 B dX12_effort_6 0 rfl ?_
    refine V_iload_n 7 B dX12_effort_7 1 rfl ?_
    refine V_cvi 8 B (st := [.ref h0]) (As := [.int p0]) (fun sz => mX12_isMode_1 l D Y (h0) (h1) (g0) (g1) (g2) (g3) (g4) (p0) sz) glV_RX12_91 ⟨rfl, rfl⟩ ⟨(Nat.le_of_ble_eq_true rfl), (Nat.le_of_ble_eq_true rfl)⟩ ⟨(Nat.le_of_ble_eq_true rfl), (Nat.le_of_ble_eq_true rfl)⟩ [0, 0] rfl 13 0 rfl rfl rfl rfl (Nat.le_of_ble_eq_true rfl) rfl (fun _ _ _ => rfl) dX12_effort_8 (fun r0 u0 w0 => ?_)
    rcases w0 with ⟨k1, rfl⟩ | ⟨k2, rfl⟩ | ⟨k3, rfl⟩
    ·
      refine V_ws [(h0, oC 13 [.ref h1, .ref g0, .int 0, .ref g1, .ref g2, .int 0, .int 0, .int 0, .int (-1), .int 0, .int 0, .int 0, .long 0, .ref g3, .ref g4, .int 0, .int 0]), (h1, aI Y 3640 (clB 0 (fun _ => 0)))] rfl ?_
      obtain rfl : p0 = 0 := k1
      refine V_if_ne_t 11 B 18 dX12_effort_11 (by decide) (by decide +kernel) ?_
      refine V_iconst 18 B (v := 0) dX12_effort_18 (by decide +kernel) ?_
      refine V_iconst 19 B (v := 1) dX12_effort_19 (by decide +kernel) ?_
      refine V_cvi 20 B (st := []) (As := [.int 0, .int 1]) (fun sz => mX12_throwsIf_2 l D Y (h0) (h1) (g0) (g1) (g2) (g3) (g4) sz) glV_RX12_69 ⟨rfl, rfl⟩ ⟨(Nat.le_of_ble_eq_true rfl), (Nat.le_of_ble_eq_true rfl)⟩ ⟨(Nat.le_of_ble_eq_true rfl), (Nat.le_of_ble_eq_true rfl)⟩ [0] rfl 13 0 rfl rfl rfl rfl (Nat.le_of_ble_eq_true rfl) rfl (fun _ _ _ => rfl) dX12_effort_20 (fun r4 u4 w4 => ?_)
      obtain rfl := w4
      refine V_ws [(h0, oC 13 [.ref h1, .ref g0, .int 0, .ref g1, .ref g2, .int 0, .int 0, .int 0, .int (-1), .int 0, .int 0, .int 0, .long 0, .ref g3, .ref g4, .int 0, .int 0]), (h1, aI Y 3640 (clB 0 (fun _ => 0)))] rfl ?_
      refine V_if_eq_t 23 B 28 dX12_effort_23 (by decide) (by decide +kernel) ?_
      refine V_lconst 28 B (v := 0) dX12_effort_28 (by decide +kernel) ?_
      refine V_lstore_n 29 B (lv2 := [(2, .long 0), (0, .ref h0), (1, .int 0)]) dX12_effort_29 (by decide) rfl ?_
      refine V_iconst 30 B (v := 0) dX12_effort_30 (by decide +kernel) ?_
      refine V_istore 31 B (lv2 := [(4, .int 0), (2, .long 0), (0, .ref h0), (1, .int 0)]) dX12_effort_31 (by decide) rfl ?_
      refine V_iload 33 B dX12_effort_33 0 rfl ?_
      refine V_aload_n 35 B dX12_effort_35 2 rfl ?_
      refine V_get 36 B gf_RX12_9 0 rfl rfl dX12_effort_36 ?_
      refine V_iconst 39 B (v := 1) dX12_effort_39 (by decide +kernel) ?_
      refine V_iald 40 B (v := 0) 1 rfl (vpin _ _ (by decide +kernel)) dX12_effort_40 rfl ?_
      refine V_icmp_ge_t 41 B 87 dX12_effort_41 (by decide) (by decide +kernel) ?_
      refine V_lload_n 87 B dX12_effort_87 1 rfl ?_
      exact V_lret 88 B dX12_effort_88 0 (Or.inl ⟨rfl, rfl, rfl⟩) rfl
    ·
      refine V_ws [(h0, oC 13 [.ref h1, .ref g0, .int 0, .ref g1, .ref g2, .int 0, .int 0, .int 0, .int (-1), .int 0, .int 0, .int 0, .long 0, .ref g3, .ref g4, .int 0, .int 0]), (h1, aI Y 3640 (clB 0 (fun _ => 0)))] rfl ?_
      refine V_if_ne_f 11 B 18 dX12_effort_11 (by decide) (by decide +kernel) ?_
      refine V_iconst 14 B (v := 1) dX12_effort_14 (by decide +kernel) ?_
      refine V_goto 15 B 19 dX12_effort_15 (by decide) ?_
      refine V_iconst 19 B (v := 1) dX12_effort_19 (by decide +kernel) ?_
      refine V_cvi 20 B (st := []) (As := [.int 1, .int 1]) (fun sz => mX12_throwsIf_1 l D Y (h0) (h1) (g0) (g1) (g2) (g3) (g4) sz) glV_RX12_69 ⟨rfl, rfl⟩ ⟨(Nat.le_of_ble_eq_true rfl), (Nat.le_of_ble_eq_true rfl)⟩ ⟨(Nat.le_of_ble_eq_true rfl), (Nat.le_of_ble_eq_true rfl)⟩ [0] rfl 13 0 rfl rfl rfl rfl (Nat.le_of_ble_eq_true rfl) rfl (fun _ _ _ => rfl) dX12_effort_20 (fun r5 u5 w5 => ?_)
      obtain rfl := w5
      refine V_ws [(h0, oC 13 [.ref h1, .ref g0, .int 1, .ref g1, .ref g2, .int 0, .int 0, .int 0, .int (-1), .int 0, .int 0, .int 0, .long 0, .ref g3, .ref g4, .int 0, .int 0]), (h1, aI Y 3640 (clB 0 (fun _ => 0)))] rfl ?_
      refine V_if_eq_f 23 B 28 dX12_effort_23 (by decide) (by decide +kernel) ?_
      refine V_lconst 26 B (v := 0) dX12_effort_26 (by decide +kernel) ?_
      exact V_lret 27 B dX12_effort_27 1 (Or.inr (Or.inl ⟨rfl, k2, rfl⟩)) rfl
    ·
      refine V_ws [(h0, oC 13 [.ref h1, .ref g0, .int 0, .ref g1, .ref g2, .int 0, .int 0, .int 0, .int (-1), .int 0, .int 0, .int 0, .long 0, .ref g3, .ref g4, .int 0, .int 0]), (h1, aI Y 3640 (clB 0 (fun _ => 0)))] rfl ?_
      refine V_if_ne_f 11 B 18 dX12_effort_11 (by decide) (by decide +kernel) ?_
      refine V_iconst 14 B (v := 1) dX12_effort_14 (by decide +kernel) ?_
      refine V_goto 15 B 19 dX12_effort_15 (by decide) ?_
      refine V_iconst 19 B (v := 1) dX12_effort_19 (by decide +kernel) ?_
      refine V_cvi 20 B (st := []) (As := [.int 1, .int 1]) (fun sz => mX12_throwsIf_1 l D Y (h0) (h1) (g0) (g1) (g2) (g3) (g4) sz) glV_RX12_69 ⟨rfl, rfl⟩ ⟨(Nat.le_of_ble_eq_true rfl), (Nat.le_of_ble_eq_true rfl)⟩ ⟨(Nat.le_of_ble_eq_true rfl), (Nat.le_of_ble_eq_true rfl)⟩ [0] rfl 13 0 rfl rfl rfl rfl (Nat.le_of_ble_eq_true rfl) rfl (fun _ _ _ => rfl) dX12_effort_20 (fun r6 u6 w6 => ?_)
      obtain rfl := w6
      refine V_ws [(h0, oC 13 [.ref h1, .ref g0, .int 1, .ref g1, .ref g2, .int 0, .int 0, .int 0, .int (-1), .int 0, .int 0, .int 0, .long 0, .ref g3, .ref g4, .int 0, .int 0]), (h1, aI Y 3640 (clB 0 (fun _ => 0)))] rfl ?_
      refine V_if_eq_f 23 B 28 dX12_effort_23 (by decide) (by decide +kernel) ?_
      refine V_lconst 26 B (v := 0) dX12_effort_26 (by decide +kernel) ?_
      exact V_lret 27 B dX12_effort_27 2 (Or.inr (Or.inr ⟨rfl, k3, rfl⟩)) rfl)
theorem dX12_meanCostBits_0 : decode cX12_meanCostBits 0 = .ok (.aload_n 0, 1) := by decide +kernel
theorem dX12_meanCostBits_1 : decode cX12_meanCostBits 1 = .ok (.iconst 0, 1) := by decide +kernel
theorem dX12_meanCostBits_2 : decode cX12_meanCostBits 2 = .ok (.putfield 38, 3) := by decide +kernel
theorem dX12_meanCostBits_5 : decode cX12_meanCostBits 5 = .ok (.aload_n 0, 1) := by decide +kernel
theorem dX12_meanCostBits_6 : decode cX12_meanCostBits 6 = .ok (.aload_n 0, 1) := by decide +kernel
theorem dX12_meanCostBits_7 : decode cX12_meanCostBits 7 = .ok (.iload_n 1, 1) := by decide +kernel
theorem dX12_meanCostBits_8 : decode cX12_meanCostBits 8 = .ok (.invokevirtual 91, 3) := by decide +kernel
theorem dX12_meanCostBits_11 : decode cX12_meanCostBits 11 = .ok (.ifCond .ne 7, 3) := by decide +kernel
theorem dX12_meanCostBits_18 : decode cX12_meanCostBits 18 = .ok (.iconst 0, 1) := by decide +kernel
theorem dX12_meanCostBits_19 : decode cX12_meanCostBits 19 = .ok (.iconst 1, 1) := by decide +kernel
theorem dX12_meanCostBits_20 : decode cX12_meanCostBits 20 = .ok (.invokevirtual 69, 3) := by decide +kernel
theorem dX12_meanCostBits_23 : decode cX12_meanCostBits 23 = .ok (.ifCond .ne 24, 3) := by decide +kernel
theorem dX12_meanCostBits_26 : decode cX12_meanCostBits 26 = .ok (.aload_n 0, 1) := by decide +kernel
theorem dX12_meanCostBits_27 : decode cX12_meanCostBits 27 = .ok (.aload_n 0, 1) := by decide +kernel
theorem dX12_meanCostBits_28 : decode cX12_meanCostBits 28 = .ok (.iload_n 1, 1) := by decide +kernel
theorem dX12_meanCostBits_29 : decode cX12_meanCostBits 29 = .ok (.invokevirtual 163, 3) := by decide +kernel
theorem dX12_meanCostBits_32 : decode cX12_meanCostBits 32 = .ok (.ifCond .ne 7, 3) := by decide +kernel
theorem dX12_meanCostBits_35 : decode cX12_meanCostBits 35 = .ok (.iconst 1, 1) := by decide +kernel
theorem dX12_meanCostBits_36 : decode cX12_meanCostBits 36 = .ok (.goto 4, 3) := by decide +kernel
theorem dX12_meanCostBits_40 : decode cX12_meanCostBits 40 = .ok (.iconst 2, 1) := by decide +kernel
theorem dX12_meanCostBits_41 : decode cX12_meanCostBits 41 = .ok (.invokevirtual 69, 3) := by decide +kernel
theorem dX12_meanCostBits_44 : decode cX12_meanCostBits 44 = .ok (.ifCond .eq 5, 3) := by decide +kernel
theorem dX12_meanCostBits_47 : decode cX12_meanCostBits 47 = .ok (.iconst 0, 1) := by decide +kernel
theorem dX12_meanCostBits_48 : decode cX12_meanCostBits 48 = .ok (.ireturn, 1) := by decide +kernel
theorem dX12_meanCostBits_14 : decode cX12_meanCostBits 14 = .ok (.iconst 1, 1) := by decide +kernel
theorem dX12_meanCostBits_15 : decode cX12_meanCostBits 15 = .ok (.goto 4, 3) := by decide +kernel
set_option maxRecDepth 100000 in
set_option maxHeartbeats 4000000 in
theorem mX12_meanCostBits_1 (l : Launch) (D : va_G) (Y : Nat → ClassId) (h0 : Nat) (h1 : Nat) (g0 : Nat) (g1 : Nat) (g2 : Nat) (g3 : Nat) (g4 : Nat) (p0 : Int32) (sz : Nat) : Met l yX12_meanCostBits (WSm yX12_meanCostBits cX12_meanCostBits 4 (some .int)) (mkR 2 0 0 46) (PreC D Y [.ref h0, .int p0] [(h0, oC 13 [.ref h1, .ref g0, .int 0, .ref g1, .ref g2, .int 0, .int 0, .int 0, .int (-1), .int 0, .int 0, .int 0, .long 0, .ref g3, .ref g4, .int 0, .int 0]), (h1, aI Y 3640 (clB 0 (fun _ => 0)))] sz) (QI D (fun (r : Int32) (u : Nat) => (u = 0 ∧ p0 = 0 ∧ 0 = r) ∨ (u = 1 ∧ p0 < 0 ∧ 0 = r) ∨ (u = 2 ∧ 0 < p0 ∧ 0 = r)) (fun (u : Nat) => match u with | 0 => [(h0, oC 13 [.ref h1, .ref g0, .int 2, .ref g1, .ref g2, .int 0, .int 0, .int 0, .int (-1), .int 0, .int 0, .int 0, .long 0, .ref g3, .ref g4, .int 0, .int 0]), (h1, aI Y 3640 (clB 0 (fun _ => 0)))] | 1 => [(h0, oC 13 [.ref h1, .ref g0, .int 1, .ref g1, .ref g2, .int 0, .int 0, .int 0, .int (-1), .int 0, .int 0, .int 0, .long 0, .ref g3, .ref g4, .int 0, .int 0]), (h1, aI Y 3640 (clB 0 (fun _ => 0)))] | _ => [(h0, oC 13 [.ref h1, .ref g0, .int 1, .ref g1, .ref g2, .int 0, .int 0, .int 0, .int (-1), .int 0, .int 0, .int 0, .long 0, .ref g3, .ref g4, .int 0, .int 0]), (h1, aI Y 3640 (clB 0 (fun _ => 0)))]) (va_A [(h0, oC 13 [.ref h1, .ref g0, .int 0, .ref g1, .ref g2, .int 0, .int 0, .int 0, .int (-1), .int 0, .int 0, .int 0, .long 0, .ref g3, .ref g4, .int 0, .int 0]), (h1, aI Y 3640 (clB 0 (fun _ => 0)))] sz)) 0 0 (va_A [(h0, oC 13 [.ref h1, .ref g0, .int 0, .ref g1, .ref g2, .int 0, .int 0, .int 0, .int (-1), .int 0, .int 0, .int 0, .long 0, .ref g3, .ref g4, .int 0, .int 0]), (h1, aI Y 3640 (clB 0 (fun _ => 0)))] sz) :=
  met_of (by decide +kernel) (Nat.le_of_ble_eq_true rfl) (fun p e s m args below meth c B hin hsz => by
    have B : VB p s m args meth c D Y (va_A [(h0, oC 13 [.ref h1, .ref g0, .int 0, .ref g1, .ref g2, .int 0, .int 0, .int 0, .int (-1), .int 0, .int 0, .int 0, .long 0, .ref g3, .ref g4, .int 0, .int 0]), (h1, aI Y 3640 (clB 0 (fun _ => 0)))] sz) cX12_meanCostBits 4 RX12 (some .int) := B
    refine V_aload_n 0 B dX12_meanCostBits_0 0 rfl ?_
    refine V_iconst 1 B (v := 0) dX12_meanCostBits_1 (by decide +kernel) ?_
    refine V_put 2 B gp_RX12_38 0 rfl (Nat.le_of_ble_eq_true rfl) rfl rfl dX12_meanCostBits_2 [(h0, oC 13 [.ref h1, .ref g0, .int 0, .ref g1, .ref g2, .int 0, .int 0, .int 0, .int (-1), .int 0, .int 0, .int 0, .long 0, .ref g3, .ref g4, .int 0, .int 0]), (h1, aI Y 3640 (clB 0 (fun _ => 0)))] rfl ?_
    refine V_aload_n 5 B dX12_meanCostBits_5 0 rfl ?_
    refine V_aload_n 6 B dX12_meanCostBits_6 0 rfl ?_
    refine V_iload_n 7 B dX12_meanCostBits_7 1 rfl ?_
    refine V_cvi 8 B (st := [.ref h0]) (As := [.int p0]) (fun sz => mX12_isMode_1 l D Y (h0) (h1) (g0) (g1) (g2) (g3) (g4) (p0) sz) glV_RX12_91 ⟨rfl, rfl⟩ ⟨(Nat.le_of_ble_eq_true rfl), (Nat.le_of_ble_eq_true rfl)⟩ ⟨(Nat.le_of_ble_eq_true rfl), (Nat.le_of_ble_eq_true rfl)⟩ [0, 0] rfl 13 0 rfl rfl rfl rfl (Nat.le_of_ble_eq_true rfl) rfl (fun _ _ _ => rfl) dX12_meanCostBits_8 (fun r0 u0 w0 => ?_)
    rcases w0 with ⟨k1, rfl⟩ | ⟨k2, rfl⟩ | ⟨k3, rfl⟩
    ·
      refine V_ws [(h0, oC 13 [.ref h1, .ref g0, .int 0, .ref g1, .ref g2, .int 0, .int 0, .int 0, .int (-1), .int 0, .int 0, .int 0, .long 0, .ref g3, .ref g4, .int 0, .int 0]), (h1, aI Y 3640 (clB 0 (fun _ => 0)))] rfl ?_
      obtain rfl : p0 = 0 := k1
      refine V_if_ne_t 11 B 18 dX12_meanCostBits_11 (by decide) (by decide +kernel) ?_
      refine V_iconst 18 B (v := 0) dX12_meanCostBits_18 (by decide +kernel) ?_
      refine V_iconst 19 B (v := 1) dX12_meanCostBits_19 (by decide +kernel) ?_
      refine V_cvi 20 B (st := []) (As := [.int 0, .int 1]) (fun sz => mX12_throwsIf_2 l D Y (h0) (h1) (g0) (g1) (g2) (g3) (g4) sz) glV_RX12_69 ⟨rfl, rfl⟩ ⟨(Nat.le_of_ble_eq_true rfl), (Nat.le_of_ble_eq_true rfl)⟩ ⟨(Nat.le_of_ble_eq_true rfl), (Nat.le_of_ble_eq_true rfl)⟩ [0] rfl 13 0 rfl rfl rfl rfl (Nat.le_of_ble_eq_true rfl) rfl (fun _ _ _ => rfl) dX12_meanCostBits_20 (fun r4 u4 w4 => ?_)
      obtain rfl := w4
      refine V_ws [(h0, oC 13 [.ref h1, .ref g0, .int 0, .ref g1, .ref g2, .int 0, .int 0, .int 0, .int (-1), .int 0, .int 0, .int 0, .long 0, .ref g3, .ref g4, .int 0, .int 0]), (h1, aI Y 3640 (clB 0 (fun _ => 0)))] rfl ?_
      refine V_if_ne_f 23 B 47 dX12_meanCostBits_23 (by decide) (by decide +kernel) ?_
      refine V_aload_n 26 B dX12_meanCostBits_26 0 rfl ?_
      refine V_aload_n 27 B dX12_meanCostBits_27 0 rfl ?_
      refine V_iload_n 28 B dX12_meanCostBits_28 1 rfl ?_
      refine V_cvi 29 B (st := [.ref h0]) (As := [.int 0]) (fun sz => mX12_visibleCount_1 l D Y (h0) (h1) (g0) (g1) (g2) (g3) (g4) sz) glV_RX12_163 ⟨rfl, rfl⟩ ⟨(Nat.le_of_ble_eq_true rfl), (Nat.le_of_ble_eq_true rfl)⟩ ⟨(Nat.le_of_ble_eq_true rfl), (Nat.le_of_ble_eq_true rfl)⟩ [0, 0] rfl 13 0 rfl rfl rfl rfl (Nat.le_of_ble_eq_true rfl) rfl (fun _ _ _ => rfl) dX12_meanCostBits_29 (fun r5 u5 w5 => ?_)
      obtain rfl := w5
      refine V_ws [(h0, oC 13 [.ref h1, .ref g0, .int 0, .ref g1, .ref g2, .int 0, .int 0, .int 0, .int (-1), .int 0, .int 0, .int 0, .long 0, .ref g3, .ref g4, .int 0, .int 0]), (h1, aI Y 3640 (clB 0 (fun _ => 0)))] rfl ?_
      refine V_if_ne_f 32 B 39 dX12_meanCostBits_32 (by decide) (by decide +kernel) ?_
      refine V_iconst 35 B (v := 1) dX12_meanCostBits_35 (by decide +kernel) ?_
      refine V_goto 36 B 40 dX12_meanCostBits_36 (by decide) ?_
      refine V_iconst 40 B (v := 2) dX12_meanCostBits_40 (by decide +kernel) ?_
      refine V_cvi 41 B (st := []) (As := [.int 1, .int 2]) (fun sz => mX12_throwsIf_4 l D Y (h0) (h1) (g0) (g1) (g2) (g3) (g4) sz) glV_RX12_69 ⟨rfl, rfl⟩ ⟨(Nat.le_of_ble_eq_true rfl), (Nat.le_of_ble_eq_true rfl)⟩ ⟨(Nat.le_of_ble_eq_true rfl), (Nat.le_of_ble_eq_true rfl)⟩ [0] rfl 13 0 rfl rfl rfl rfl (Nat.le_of_ble_eq_true rfl) rfl (fun _ _ _ => rfl) dX12_meanCostBits_41 (fun r6 u6 w6 => ?_)
      obtain rfl := w6
      refine V_ws [(h0, oC 13 [.ref h1, .ref g0, .int 2, .ref g1, .ref g2, .int 0, .int 0, .int 0, .int (-1), .int 0, .int 0, .int 0, .long 0, .ref g3, .ref g4, .int 0, .int 0]), (h1, aI Y 3640 (clB 0 (fun _ => 0)))] rfl ?_
      refine V_if_eq_f 44 B 49 dX12_meanCostBits_44 (by decide) (by decide +kernel) ?_
      refine V_iconst 47 B (v := 0) dX12_meanCostBits_47 (by decide +kernel) ?_
      exact V_iret 48 B dX12_meanCostBits_48 0 (Or.inl ⟨rfl, rfl, rfl⟩) rfl
    ·
      refine V_ws [(h0, oC 13 [.ref h1, .ref g0, .int 0, .ref g1, .ref g2, .int 0, .int 0, .int 0, .int (-1), .int 0, .int 0, .int 0, .long 0, .ref g3, .ref g4, .int 0, .int 0]), (h1, aI Y 3640 (clB 0 (fun _ => 0)))] rfl ?_
      refine V_if_ne_f 11 B 18 dX12_meanCostBits_11 (by decide) (by decide +kernel) ?_
      refine V_iconst 14 B (v := 1) dX12_meanCostBits_14 (by decide +kernel) ?_
      refine V_goto 15 B 19 dX12_meanCostBits_15 (by decide) ?_
      refine V_iconst 19 B (v := 1) dX12_meanCostBits_19 (by decide +kernel) ?_
      refine V_cvi 20 B (st := []) (As := [.int 1, .int 1]) (fun sz => mX12_throwsIf_1 l D Y (h0) (h1) (g0) (g1) (g2) (g3) (g4) sz) glV_RX12_69 ⟨rfl, rfl⟩ ⟨(Nat.le_of_ble_eq_true rfl), (Nat.le_of_ble_eq_true rfl)⟩ ⟨(Nat.le_of_ble_eq_true rfl), (Nat.le_of_ble_eq_true rfl)⟩ [0] rfl 13 0 rfl rfl rfl rfl (Nat.le_of_ble_eq_true rfl) rfl (fun _ _ _ => rfl) dX12_meanCostBits_20 (fun r7 u7 w7 => ?_)
      obtain rfl := w7
      refine V_ws [(h0, oC 13 [.ref h1, .ref g0, .int 1, .ref g1, .ref g2, .int 0, .int 0, .int 0, .int (-1), .int 0, .int 0, .int 0, .long 0, .ref g3, .ref g4, .int 0, .int 0]), (h1, aI Y 3640 (clB 0 (fun _ => 0)))] rfl ?_
      refine V_if_ne_t 23 B 47 dX12_meanCostBits_23 (by decide) (by decide +kernel) ?_
      refine V_iconst 47 B (v := 0) dX12_meanCostBits_47 (by decide +kernel) ?_
      exact V_iret 48 B dX12_meanCostBits_48 1 (Or.inr (Or.inl ⟨rfl, k2, rfl⟩)) rfl
    ·
      refine V_ws [(h0, oC 13 [.ref h1, .ref g0, .int 0, .ref g1, .ref g2, .int 0, .int 0, .int 0, .int (-1), .int 0, .int 0, .int 0, .long 0, .ref g3, .ref g4, .int 0, .int 0]), (h1, aI Y 3640 (clB 0 (fun _ => 0)))] rfl ?_
      refine V_if_ne_f 11 B 18 dX12_meanCostBits_11 (by decide) (by decide +kernel) ?_
      refine V_iconst 14 B (v := 1) dX12_meanCostBits_14 (by decide +kernel) ?_
      refine V_goto 15 B 19 dX12_meanCostBits_15 (by decide) ?_
      refine V_iconst 19 B (v := 1) dX12_meanCostBits_19 (by decide +kernel) ?_
      refine V_cvi 20 B (st := []) (As := [.int 1, .int 1]) (fun sz => mX12_throwsIf_1 l D Y (h0) (h1) (g0) (g1) (g2) (g3) (g4) sz) glV_RX12_69 ⟨rfl, rfl⟩ ⟨(Nat.le_of_ble_eq_true rfl), (Nat.le_of_ble_eq_true rfl)⟩ ⟨(Nat.le_of_ble_eq_true rfl), (Nat.le_of_ble_eq_true rfl)⟩ [0] rfl 13 0 rfl rfl rfl rfl (Nat.le_of_ble_eq_true rfl) rfl (fun _ _ _ => rfl) dX12_meanCostBits_20 (fun r8 u8 w8 => ?_)
      obtain rfl := w8
      refine V_ws [(h0, oC 13 [.ref h1, .ref g0, .int 1, .ref g1, .ref g2, .int 0, .int 0, .int 0, .int (-1), .int 0, .int 0, .int 0, .long 0, .ref g3, .ref g4, .int 0, .int 0]), (h1, aI Y 3640 (clB 0 (fun _ => 0)))] rfl ?_
      refine V_if_ne_t 23 B 47 dX12_meanCostBits_23 (by decide) (by decide +kernel) ?_
      refine V_iconst 47 B (v := 0) dX12_meanCostBits_47 (by decide +kernel) ?_
      exact V_iret 48 B dX12_meanCostBits_48 2 (Or.inr (Or.inr ⟨rfl, k3, rfl⟩)) rfl)
theorem dX12_clashPairs_0 : decode cX12_clashPairs 0 = .ok (.aload_n 0, 1) := by decide +kernel
theorem dX12_clashPairs_1 : decode cX12_clashPairs 1 = .ok (.iconst 0, 1) := by decide +kernel
theorem dX12_clashPairs_2 : decode cX12_clashPairs 2 = .ok (.putfield 38, 3) := by decide +kernel
theorem dX12_clashPairs_5 : decode cX12_clashPairs 5 = .ok (.aload_n 0, 1) := by decide +kernel
theorem dX12_clashPairs_6 : decode cX12_clashPairs 6 = .ok (.aload_n 0, 1) := by decide +kernel
