theorem dX12_clashPairs_7 : decode cX12_clashPairs 7 = .ok (.iload_n 1, 1) := by decide +kernel
theorem dX12_clashPairs_8 : decode cX12_clashPairs 8 = .ok (.invokevirtual 91, 3) := by decide +kernel
theorem dX12_clashPairs_11 : decode cX12_clashPairs 11 = .ok (.ifCond .eq 11, 3) := by decide +kernel
theorem dX12_clashPairs_14 : decode cX12_clashPairs 14 = .ok (.aload_n 0, 1) := by decide +kernel
theorem dX12_clashPairs_15 : decode cX12_clashPairs 15 = .ok (.iload_n 2, 1) := by decide +kernel
theorem dX12_clashPairs_16 : decode cX12_clashPairs 16 = .ok (.invokevirtual 91, 3) := by decide +kernel
theorem dX12_clashPairs_19 : decode cX12_clashPairs 19 = .ok (.ifCond .ne 7, 3) := by decide +kernel
theorem dX12_clashPairs_26 : decode cX12_clashPairs 26 = .ok (.iconst 0, 1) := by decide +kernel
theorem dX12_clashPairs_27 : decode cX12_clashPairs 27 = .ok (.iconst 1, 1) := by decide +kernel
theorem dX12_clashPairs_28 : decode cX12_clashPairs 28 = .ok (.invokevirtual 69, 3) := by decide +kernel
theorem dX12_clashPairs_31 : decode cX12_clashPairs 31 = .ok (.ifCond .ne 21, 3) := by decide +kernel
theorem dX12_clashPairs_34 : decode cX12_clashPairs 34 = .ok (.aload_n 0, 1) := by decide +kernel
theorem dX12_clashPairs_35 : decode cX12_clashPairs 35 = .ok (.iload_n 1, 1) := by decide +kernel
theorem dX12_clashPairs_36 : decode cX12_clashPairs 36 = .ok (.iload_n 2, 1) := by decide +kernel
theorem dX12_clashPairs_37 : decode cX12_clashPairs 37 = .ok (.if_icmp .ne 7, 3) := by decide +kernel
theorem dX12_clashPairs_40 : decode cX12_clashPairs 40 = .ok (.iconst 1, 1) := by decide +kernel
theorem dX12_clashPairs_41 : decode cX12_clashPairs 41 = .ok (.goto 4, 3) := by decide +kernel
theorem dX12_clashPairs_45 : decode cX12_clashPairs 45 = .ok (.iconst 2, 1) := by decide +kernel
theorem dX12_clashPairs_46 : decode cX12_clashPairs 46 = .ok (.invokevirtual 69, 3) := by decide +kernel
theorem dX12_clashPairs_49 : decode cX12_clashPairs 49 = .ok (.ifCond .eq 5, 3) := by decide +kernel
theorem dX12_clashPairs_52 : decode cX12_clashPairs 52 = .ok (.iconst 0, 1) := by decide +kernel
theorem dX12_clashPairs_53 : decode cX12_clashPairs 53 = .ok (.ireturn, 1) := by decide +kernel
theorem dX12_clashPairs_22 : decode cX12_clashPairs 22 = .ok (.iconst 1, 1) := by decide +kernel
theorem dX12_clashPairs_23 : decode cX12_clashPairs 23 = .ok (.goto 4, 3) := by decide +kernel
set_option maxRecDepth 100000 in
set_option maxHeartbeats 4000000 in
theorem mX12_clashPairs_1 (l : Launch) (D : va_G) (Y : Nat → ClassId) (h0 : Nat) (h1 : Nat) (g0 : Nat) (g1 : Nat) (g2 : Nat) (g3 : Nat) (g4 : Nat) (p0 : Int32) (p1 : Int32) (sz : Nat) : Met l yX12_clashPairs (WSm yX12_clashPairs cX12_clashPairs 5 (some .int)) (mkR 2 0 0 46) (PreC D Y [.ref h0, .int p0, .int p1] [(h0, oC 13 [.ref h1, .ref g0, .int 0, .ref g1, .ref g2, .int 0, .int 0, .int 0, .int (-1), .int 0, .int 0, .int 0, .long 0, .ref g3, .ref g4, .int 0, .int 0]), (h1, aI Y 3640 (clB 0 (fun _ => 0)))] sz) (QI D (fun (r : Int32) (u : Nat) => (u = 0 ∧ p0 = 0 ∧ p1 = 0 ∧ 0 = r) ∨ (u = 1 ∧ p0 = 0 ∧ p1 < 0 ∧ 0 = r) ∨ (u = 2 ∧ p0 = 0 ∧ 0 < p1 ∧ 0 = r) ∨ (u = 3 ∧ p0 < 0 ∧ 0 = r) ∨ (u = 4 ∧ 0 < p0 ∧ 0 = r)) (fun (u : Nat) => match u with | 0 => [(h0, oC 13 [.ref h1, .ref g0, .int 2, .ref g1, .ref g2, .int 0, .int 0, .int 0, .int (-1), .int 0, .int 0, .int 0, .long 0, .ref g3, .ref g4, .int 0, .int 0]), (h1, aI Y 3640 (clB 0 (fun _ => 0)))] | 1 => [(h0, oC 13 [.ref h1, .ref g0, .int 1, .ref g1, .ref g2, .int 0, .int 0, .int 0, .int (-1), .int 0, .int 0, .int 0, .long 0, .ref g3, .ref g4, .int 0, .int 0]), (h1, aI Y 3640 (clB 0 (fun _ => 0)))] | 2 => [(h0, oC 13 [.ref h1, .ref g0, .int 1, .ref g1, .ref g2, .int 0, .int 0, .int 0, .int (-1), .int 0, .int 0, .int 0, .long 0, .ref g3, .ref g4, .int 0, .int 0]), (h1, aI Y 3640 (clB 0 (fun _ => 0)))] | 3 => [(h0, oC 13 [.ref h1, .ref g0, .int 1, .ref g1, .ref g2, .int 0, .int 0, .int 0, .int (-1), .int 0, .int 0, .int 0, .long 0, .ref g3, .ref g4, .int 0, .int 0]), (h1, aI Y 3640 (clB 0 (fun _ => 0)))] | _ => [(h0, oC 13 [.ref h1, .ref g0, .int 1, .ref g1, .ref g2, .int 0, .int 0, .int 0, .int (-1), .int 0, .int 0, .int 0, .long 0, .ref g3, .ref g4, .int 0, .int 0]), (h1, aI Y 3640 (clB 0 (fun _ => 0)))]) (va_A [(h0, oC 13 [.ref h1, .ref g0, .int 0, .ref g1, .ref g2, .int 0, .int 0, .int 0, .int (-1), .int 0, .int 0, .int 0, .long 0, .ref g3, .ref g4, .int 0, .int 0]), (h1, aI Y 3640 (clB 0 (fun _ => 0)))] sz)) 0 0 (va_A [(h0, oC 13 [.ref h1, .ref g0, .int 0, .ref g1, .ref g2, .int 0, .int 0, .int 0, .int (-1), .int 0, .int 0, .int 0, .long 0, .ref g3, .ref g4, .int 0, .int 0]), (h1, aI Y 3640 (clB 0 (fun _ => 0)))] sz) :=
  met_of (by decide +kernel) (Nat.le_of_ble_eq_true rfl) (fun p e s m args below meth c B hin hsz => by
    have B : VB p s m args meth c D Y (va_A [(h0, oC 13 [.ref h1, .ref g0, .int 0, .ref g1, .ref g2, .int 0, .int 0, .int 0, .int (-1), .int 0, .int 0, .int 0, .long 0, .ref g3, .ref g4, .int 0, .int 0]), (h1, aI Y 3640 (clB 0 (fun _ => 0)))] sz) cX12_clashPairs 5 RX12 (some .int) := B
    refine V_aload_n 0 B dX12_clashPairs_0 0 rfl ?_
    refine V_iconst 1 B (v := 0) dX12_clashPairs_1 (by decide +kernel) ?_
    refine V_put 2 B gp_RX12_38 0 rfl (Nat.le_of_ble_eq_true rfl) rfl rfl dX12_clashPairs_2 [(h0, oC 13 [.ref h1, .ref g0, .int 0, .ref g1, .ref g2, .int 0, .int 0, .int 0, .int (-1), .int 0, .int 0, .int 0, .long 0, .ref g3, .ref g4, .int 0, .int 0]), (h1, aI Y 3640 (clB 0 (fun _ => 0)))] rfl ?_
    refine V_aload_n 5 B dX12_clashPairs_5 0 rfl ?_
    refine V_aload_n 6 B dX12_clashPairs_6 0 rfl ?_
    refine V_iload_n 7 B dX12_clashPairs_7 1 rfl ?_
    refine V_cvi 8 B (st := [.ref h0]) (As := [.int p0]) (fun sz => mX12_isMode_1 l D Y (h0) (h1) (g0) (g1) (g2) (g3) (g4) (p0) sz) glV_RX12_91 ⟨rfl, rfl⟩ ⟨(Nat.le_of_ble_eq_true rfl), (Nat.le_of_ble_eq_true rfl)⟩ ⟨(Nat.le_of_ble_eq_true rfl), (Nat.le_of_ble_eq_true rfl)⟩ [0, 0] rfl 13 0 rfl rfl rfl rfl (Nat.le_of_ble_eq_true rfl) rfl (fun _ _ _ => rfl) dX12_clashPairs_8 (fun r0 u0 w0 => ?_)
    rcases w0 with ⟨k1, rfl⟩ | ⟨k2, rfl⟩ | ⟨k3, rfl⟩
    ·
      refine V_ws [(h0, oC 13 [.ref h1, .ref g0, .int 0, .ref g1, .ref g2, .int 0, .int 0, .int 0, .int (-1), .int 0, .int 0, .int 0, .long 0, .ref g3, .ref g4, .int 0, .int 0]), (h1, aI Y 3640 (clB 0 (fun _ => 0)))] rfl ?_
      obtain rfl : p0 = 0 := k1
      refine V_if_eq_f 11 B 22 dX12_clashPairs_11 (by decide) (by decide +kernel) ?_
      refine V_aload_n 14 B dX12_clashPairs_14 0 rfl ?_
      refine V_iload_n 15 B dX12_clashPairs_15 2 rfl ?_
      refine V_cvi 16 B (st := [.ref h0]) (As := [.int p1]) (fun sz => mX12_isMode_1 l D Y (h0) (h1) (g0) (g1) (g2) (g3) (g4) (p1) sz) glV_RX12_91 ⟨rfl, rfl⟩ ⟨(Nat.le_of_ble_eq_true rfl), (Nat.le_of_ble_eq_true rfl)⟩ ⟨(Nat.le_of_ble_eq_true rfl), (Nat.le_of_ble_eq_true rfl)⟩ [0, 0] rfl 13 0 rfl rfl rfl rfl (Nat.le_of_ble_eq_true rfl) rfl (fun _ _ _ => rfl) dX12_clashPairs_16 (fun r4 u4 w4 => ?_)
      rcases w4 with ⟨k5, rfl⟩ | ⟨k6, rfl⟩ | ⟨k7, rfl⟩
      ·
        refine V_ws [(h0, oC 13 [.ref h1, .ref g0, .int 0, .ref g1, .ref g2, .int 0, .int 0, .int 0, .int (-1), .int 0, .int 0, .int 0, .long 0, .ref g3, .ref g4, .int 0, .int 0]), (h1, aI Y 3640 (clB 0 (fun _ => 0)))] rfl ?_
        obtain rfl : p1 = 0 := k5
        refine V_if_ne_t 19 B 26 dX12_clashPairs_19 (by decide) (by decide +kernel) ?_
        refine V_iconst 26 B (v := 0) dX12_clashPairs_26 (by decide +kernel) ?_
        refine V_iconst 27 B (v := 1) dX12_clashPairs_27 (by decide +kernel) ?_
        refine V_cvi 28 B (st := []) (As := [.int 0, .int 1]) (fun sz => mX12_throwsIf_2 l D Y (h0) (h1) (g0) (g1) (g2) (g3) (g4) sz) glV_RX12_69 ⟨rfl, rfl⟩ ⟨(Nat.le_of_ble_eq_true rfl), (Nat.le_of_ble_eq_true rfl)⟩ ⟨(Nat.le_of_ble_eq_true rfl), (Nat.le_of_ble_eq_true rfl)⟩ [0] rfl 13 0 rfl rfl rfl rfl (Nat.le_of_ble_eq_true rfl) rfl (fun _ _ _ => rfl) dX12_clashPairs_28 (fun r8 u8 w8 => ?_)
        obtain rfl := w8
        refine V_ws [(h0, oC 13 [.ref h1, .ref g0, .int 0, .ref g1, .ref g2, .int 0, .int 0, .int 0, .int (-1), .int 0, .int 0, .int 0, .long 0, .ref g3, .ref g4, .int 0, .int 0]), (h1, aI Y 3640 (clB 0 (fun _ => 0)))] rfl ?_
        refine V_if_ne_f 31 B 52 dX12_clashPairs_31 (by decide) (by decide +kernel) ?_
        refine V_aload_n 34 B dX12_clashPairs_34 0 rfl ?_
        refine V_iload_n 35 B dX12_clashPairs_35 1 rfl ?_
        refine V_iload_n 36 B dX12_clashPairs_36 2 rfl ?_
        refine V_icmp_ne_f 37 B 44 dX12_clashPairs_37 (by decide) (by decide +kernel) ?_
        refine V_iconst 40 B (v := 1) dX12_clashPairs_40 (by decide +kernel) ?_
        refine V_goto 41 B 45 dX12_clashPairs_41 (by decide) ?_
        refine V_iconst 45 B (v := 2) dX12_clashPairs_45 (by decide +kernel) ?_
        refine V_cvi 46 B (st := []) (As := [.int 1, .int 2]) (fun sz => mX12_throwsIf_4 l D Y (h0) (h1) (g0) (g1) (g2) (g3) (g4) sz) glV_RX12_69 ⟨rfl, rfl⟩ ⟨(Nat.le_of_ble_eq_true rfl), (Nat.le_of_ble_eq_true rfl)⟩ ⟨(Nat.le_of_ble_eq_true rfl), (Nat.le_of_ble_eq_true rfl)⟩ [0] rfl 13 0 rfl rfl rfl rfl (Nat.le_of_ble_eq_true rfl) rfl (fun _ _ _ => rfl) dX12_clashPairs_46 (fun r9 u9 w9 => ?_)
        obtain rfl := w9
        refine V_ws [(h0, oC 13 [.ref h1, .ref g0, .int 2, .ref g1, .ref g2, .int 0, .int 0, .int 0, .int (-1), .int 0, .int 0, .int 0, .long 0, .ref g3, .ref g4, .int 0, .int 0]), (h1, aI Y 3640 (clB 0 (fun _ => 0)))] rfl ?_
        refine V_if_eq_f 49 B 54 dX12_clashPairs_49 (by decide) (by decide +kernel) ?_
        refine V_iconst 52 B (v := 0) dX12_clashPairs_52 (by decide +kernel) ?_
        exact V_iret 53 B dX12_clashPairs_53 0 (Or.inl ⟨rfl, rfl, rfl, rfl⟩) rfl
      ·
        refine V_ws [(h0, oC 13 [.ref h1, .ref g0, .int 0, .ref g1, .ref g2, .int 0, .int 0, .int 0, .int (-1), .int 0, .int 0, .int 0, .long 0, .ref g3, .ref g4, .int 0, .int 0]), (h1, aI Y 3640 (clB 0 (fun _ => 0)))] rfl ?_
        refine V_if_ne_f 19 B 26 dX12_clashPairs_19 (by decide) (by decide +kernel) ?_
        refine V_iconst 22 B (v := 1) dX12_clashPairs_22 (by decide +kernel) ?_
        refine V_goto 23 B 27 dX12_clashPairs_23 (by decide) ?_
        refine V_iconst 27 B (v := 1) dX12_clashPairs_27 (by decide +kernel) ?_
        refine V_cvi 28 B (st := []) (As := [.int 1, .int 1]) (fun sz => mX12_throwsIf_1 l D Y (h0) (h1) (g0) (g1) (g2) (g3) (g4) sz) glV_RX12_69 ⟨rfl, rfl⟩ ⟨(Nat.le_of_ble_eq_true rfl), (Nat.le_of_ble_eq_true rfl)⟩ ⟨(Nat.le_of_ble_eq_true rfl), (Nat.le_of_ble_eq_true rfl)⟩ [0] rfl 13 0 rfl rfl rfl rfl (Nat.le_of_ble_eq_true rfl) rfl (fun _ _ _ => rfl) dX12_clashPairs_28 (fun r10 u10 w10 => ?_)
        obtain rfl := w10
        refine V_ws [(h0, oC 13 [.ref h1, .ref g0, .int 1, .ref g1, .ref g2, .int 0, .int 0, .int 0, .int (-1), .int 0, .int 0, .int 0, .long 0, .ref g3, .ref g4, .int 0, .int 0]), (h1, aI Y 3640 (clB 0 (fun _ => 0)))] rfl ?_
        refine V_if_ne_t 31 B 52 dX12_clashPairs_31 (by decide) (by decide +kernel) ?_
        refine V_iconst 52 B (v := 0) dX12_clashPairs_52 (by decide +kernel) ?_
        exact V_iret 53 B dX12_clashPairs_53 1 (Or.inr (Or.inl ⟨rfl, rfl, k6, rfl⟩)) rfl
      ·
        refine V_ws [(h0, oC 13 [.ref h1, .ref g0, .int 0, .ref g1, .ref g2, .int 0, .int 0, .int 0, .int (-1), .int 0, .int 0, .int 0, .long 0, .ref g3, .ref g4, .int 0, .int 0]), (h1, aI Y 3640 (clB 0 (fun _ => 0)))] rfl ?_
        refine V_if_ne_f 19 B 26 dX12_clashPairs_19 (by decide) (by decide +kernel) ?_
        refine V_iconst 22 B (v := 1) dX12_clashPairs_22 (by decide +kernel) ?_
        refine V_goto 23 B 27 dX12_clashPairs_23 (by decide) ?_
        refine V_iconst 27 B (v := 1) dX12_clashPairs_27 (by decide +kernel) ?_
        refine V_cvi 28 B (st := []) (As := [.int 1, .int 1]) (fun sz => mX12_throwsIf_1 l D Y (h0) (h1) (g0) (g1) (g2) (g3) (g4) sz) glV_RX12_69 ⟨rfl, rfl⟩ ⟨(Nat.le_of_ble_eq_true rfl), (Nat.le_of_ble_eq_true rfl)⟩ ⟨(Nat.le_of_ble_eq_true rfl), (Nat.le_of_ble_eq_true rfl)⟩ [0] rfl 13 0 rfl rfl rfl rfl (Nat.le_of_ble_eq_true rfl) rfl (fun _ _ _ => rfl) dX12_clashPairs_28 (fun r11 u11 w11 => ?_)
        obtain rfl := w11
        refine V_ws [(h0, oC 13 [.ref h1, .ref g0, .int 1, .ref g1, .ref g2, .int 0, .int 0, .int 0, .int (-1), .int 0, .int 0, .int 0, .long 0, .ref g3, .ref g4, .int 0, .int 0]), (h1, aI Y 3640 (clB 0 (fun _ => 0)))] rfl ?_
        refine V_if_ne_t 31 B 52 dX12_clashPairs_31 (by decide) (by decide +kernel) ?_
        refine V_iconst 52 B (v := 0) dX12_clashPairs_52 (by decide +kernel) ?_
        exact V_iret 53 B dX12_clashPairs_53 2 (Or.inr (Or.inr (Or.inl ⟨rfl, rfl, k7, rfl⟩))) rfl
    ·
      refine V_ws [(h0, oC 13 [.ref h1, .ref g0, .int 0, .ref g1, .ref g2, .int 0, .int 0, .int 0, .int (-1), .int 0, .int 0, .int 0, .long 0, .ref g3, .ref g4, .int 0, .int 0]), (h1, aI Y 3640 (clB 0 (fun _ => 0)))] rfl ?_
      refine V_if_eq_t 11 B 22 dX12_clashPairs_11 (by decide) (by decide +kernel) ?_
      refine V_iconst 22 B (v := 1) dX12_clashPairs_22 (by decide +kernel) ?_
      refine V_goto 23 B 27 dX12_clashPairs_23 (by decide) ?_
      refine V_iconst 27 B (v := 1) dX12_clashPairs_27 (by decide +kernel) ?_
      refine V_cvi 28 B (st := []) (As := [.int 1, .int 1]) (fun sz => mX12_throwsIf_1 l D Y (h0) (h1) (g0) (g1) (g2) (g3) (g4) sz) glV_RX12_69 ⟨rfl, rfl⟩ ⟨(Nat.le_of_ble_eq_true rfl), (Nat.le_of_ble_eq_true rfl)⟩ ⟨(Nat.le_of_ble_eq_true rfl), (Nat.le_of_ble_eq_true rfl)⟩ [0] rfl 13 0 rfl rfl rfl rfl (Nat.le_of_ble_eq_true rfl) rfl (fun _ _ _ => rfl) dX12_clashPairs_28 (fun r12 u12 w12 => ?_)
      obtain rfl := w12
      refine V_ws [(h0, oC 13 [.ref h1, .ref g0, .int 1, .ref g1, .ref g2, .int 0, .int 0, .int 0, .int (-1), .int 0, .int 0, .int 0, .long 0, .ref g3, .ref g4, .int 0, .int 0]), (h1, aI Y 3640 (clB 0 (fun _ => 0)))] rfl ?_
      refine V_if_ne_t 31 B 52 dX12_clashPairs_31 (by decide) (by decide +kernel) ?_
      refine V_iconst 52 B (v := 0) dX12_clashPairs_52 (by decide +kernel) ?_
      exact V_iret 53 B dX12_clashPairs_53 3 (Or.inr (Or.inr (Or.inr (Or.inl ⟨rfl, k2, rfl⟩)))) rfl
    ·
      refine V_ws [(h0, oC 13 [.ref h1, .ref g0, .int 0, .ref g1, .ref g2, .int 0, .int 0, .int 0, .int (-1), .int 0, .int 0, .int 0, .long 0, .ref g3, .ref g4, .int 0, .int 0]), (h1, aI Y 3640 (clB 0 (fun _ => 0)))] rfl ?_
      refine V_if_eq_t 11 B 22 dX12_clashPairs_11 (by decide) (by decide +kernel) ?_
      refine V_iconst 22 B (v := 1) dX12_clashPairs_22 (by decide +kernel) ?_
      refine V_goto 23 B 27 dX12_clashPairs_23 (by decide) ?_
      refine V_iconst 27 B (v := 1) dX12_clashPairs_27 (by decide +kernel) ?_
      refine V_cvi 28 B (st := []) (As := [.int 1, .int 1]) (fun sz => mX12_throwsIf_1 l D Y (h0) (h1) (g0) (g1) (g2) (g3) (g4) sz) glV_RX12_69 ⟨rfl, rfl⟩ ⟨(Nat.le_of_ble_eq_true rfl), (Nat.le_of_ble_eq_true rfl)⟩ ⟨(Nat.le_of_ble_eq_true rfl), (Nat.le_of_ble_eq_true rfl)⟩ [0] rfl 13 0 rfl rfl rfl rfl (Nat.le_of_ble_eq_true rfl) rfl (fun _ _ _ => rfl) dX12_clashPairs_28 (fun r13 u13 w13 => ?_)
      obtain rfl := w13
      refine V_ws [(h0, oC 13 [.ref h1, .ref g0, .int 1, .ref g1, .ref g2, .int 0, .int 0, .int 0, .int (-1), .int 0, .int 0, .int 0, .long 0, .ref g3, .ref g4, .int 0, .int 0]), (h1, aI Y 3640 (clB 0 (fun _ => 0)))] rfl ?_
      refine V_if_ne_t 31 B 52 dX12_clashPairs_31 (by decide) (by decide +kernel) ?_
      refine V_iconst 52 B (v := 0) dX12_clashPairs_52 (by decide +kernel) ?_
      exact V_iret 53 B dX12_clashPairs_53 4 (Or.inr (Or.inr (Or.inr (Or.inr ⟨rfl, k3, rfl⟩)))) rfl)
theorem dX12_packed_0 : decode cX12_packed 0 = .ok (.aload_n 0, 1) := by decide +kernel
theorem dX12_packed_1 : decode cX12_packed 1 = .ok (.iconst 0, 1) := by decide +kernel
theorem dX12_packed_2 : decode cX12_packed 2 = .ok (.putfield 38, 3) := by decide +kernel
theorem dX12_packed_5 : decode cX12_packed 5 = .ok (.aload_n 0, 1) := by decide +kernel
theorem dX12_packed_6 : decode cX12_packed 6 = .ok (.aload_n 0, 1) := by decide +kernel
theorem dX12_packed_7 : decode cX12_packed 7 = .ok (.iload_n 1, 1) := by decide +kernel
theorem dX12_packed_8 : decode cX12_packed 8 = .ok (.invokevirtual 82, 3) := by decide +kernel
theorem dX12_packed_11 : decode cX12_packed 11 = .ok (.ifCond .ne 7, 3) := by decide +kernel
theorem dX12_packed_14 : decode cX12_packed 14 = .ok (.iconst 1, 1) := by decide +kernel
theorem dX12_packed_15 : decode cX12_packed 15 = .ok (.goto 4, 3) := by decide +kernel
theorem dX12_packed_19 : decode cX12_packed 19 = .ok (.iconst 1, 1) := by decide +kernel
theorem dX12_packed_20 : decode cX12_packed 20 = .ok (.invokevirtual 69, 3) := by decide +kernel
theorem dX12_packed_23 : decode cX12_packed 23 = .ok (.ifCond .ne 28, 3) := by decide +kernel
theorem dX12_packed_51 : decode cX12_packed 51 = .ok (.iconst 0, 1) := by decide +kernel
theorem dX12_packed_52 : decode cX12_packed 52 = .ok (.ireturn, 1) := by decide +kernel
set_option maxRecDepth 100000 in
set_option maxHeartbeats 4000000 in
theorem mX12_packed_1 (l : Launch) (D : va_G) (Y : Nat → ClassId) (h0 : Nat) (h1 : Nat) (g0 : Nat) (g1 : Nat) (g2 : Nat) (g3 : Nat) (g4 : Nat) (p0 : Int32) (p1 : Int32) (sz : Nat) : Met l yX12_packed (WSm yX12_packed cX12_packed 6 (some .int)) (mkR 2 0 0 46) (PreC D Y [.ref h0, .int p0, .int p1] [(h0, oC 13 [.ref h1, .ref g0, .int 0, .ref g1, .ref g2, .int 0, .int 0, .int 0, .int (-1), .int 0, .int 0, .int 0, .long 0, .ref g3, .ref g4, .int 0, .int 0]), (h1, aI Y 3640 (clB 0 (fun _ => 0)))] sz) (QI D (fun (r : Int32) (u : Unit) => (p0 < 0 ∧ 0 = r) ∨ ((-1) < p0 ∧ 0 = r)) (fun (_ : Unit) => [(h0, oC 13 [.ref h1, .ref g0, .int 1, .ref g1, .ref g2, .int 0, .int 0, .int 0, .int (-1), .int 0, .int 0, .int 0, .long 0, .ref g3, .ref g4, .int 0, .int 0]), (h1, aI Y 3640 (clB 0 (fun _ => 0)))]) (va_A [(h0, oC 13 [.ref h1, .ref g0, .int 0, .ref g1, .ref g2, .int 0, .int 0, .int 0, .int (-1), .int 0, .int 0, .int 0, .long 0, .ref g3, .ref g4, .int 0, .int 0]), (h1, aI Y 3640 (clB 0 (fun _ => 0)))] sz)) 0 0 (va_A [(h0, oC 13 [.ref h1, .ref g0, .int 0, .ref g1, .ref g2, .int 0, .int 0, .int 0, .int (-1), .int 0, .int 0, .int 0, .long 0, .ref g3, .ref g4, .int 0, .int 0]), (h1, aI Y 3640 (clB 0 (fun _ => 0)))] sz) :=
  met_of (by decide +kernel) (Nat.le_of_ble_eq_true rfl) (fun p e s m args below meth c B hin hsz => by
    have B : VB p s m args meth c D Y (va_A [(h0, oC 13 [.ref h1, .ref g0, .int 0, .ref g1, .ref g2, .int 0, .int 0, .int 0, .int (-1), .int 0, .int 0, .int 0, .long 0, .ref g3, .ref g4, .int 0, .int 0]), (h1, aI Y 3640 (clB 0 (fun _ => 0)))] sz) cX12_packed 6 RX12 (some .int) := B
    refine V_aload_n 0 B dX12_packed_0 0 rfl ?_
    refine V_iconst 1 B (v := 0) dX12_packed_1 (by decide +kernel) ?_
    refine V_put 2 B gp_RX12_38 0 rfl (Nat.le_of_ble_eq_true rfl) rfl rfl dX12_packed_2 [(h0, oC 13 [.ref h1, .ref g0, .int 0, .ref g1, .ref g2, .int 0, .int 0, .int 0, .int (-1), .int 0, .int 0, .int 0, .long 0, .ref g3, .ref g4, .int 0, .int 0]), (h1, aI Y 3640 (clB 0 (fun _ => 0)))] rfl ?_
    refine V_aload_n 5 B dX12_packed_5 0 rfl ?_
    refine V_aload_n 6 B dX12_packed_6 0 rfl ?_
    refine V_iload_n 7 B dX12_packed_7 1 rfl ?_
    refine V_cvi 8 B (st := [.ref h0]) (As := [.int p0]) (fun sz => mX12_isBinding_1 l D Y (h0) (h1) (g0) (g1) (g2) (g3) (g4) (p0) sz) glV_RX12_82 ⟨rfl, rfl⟩ ⟨(Nat.le_of_ble_eq_true rfl), (Nat.le_of_ble_eq_true rfl)⟩ ⟨(Nat.le_of_ble_eq_true rfl), (Nat.le_of_ble_eq_true rfl)⟩ [0, 0] rfl 13 0 rfl rfl rfl rfl (Nat.le_of_ble_eq_true rfl) rfl (fun _ _ _ => rfl) dX12_packed_8 (fun r0 u0 w0 => ?_)
    rcases w0 with ⟨k1, rfl⟩ | ⟨k2, rfl⟩
    ·
      refine V_ws [(h0, oC 13 [.ref h1, .ref g0, .int 0, .ref g1, .ref g2, .int 0, .int 0, .int 0, .int (-1), .int 0, .int 0, .int 0, .long 0, .ref g3, .ref g4, .int 0, .int 0]), (h1, aI Y 3640 (clB 0 (fun _ => 0)))] rfl ?_
      refine V_if_ne_f 11 B 18 dX12_packed_11 (by decide) (by decide +kernel) ?_
      refine V_iconst 14 B (v := 1) dX12_packed_14 (by decide +kernel) ?_
      refine V_goto 15 B 19 dX12_packed_15 (by decide) ?_
      refine V_iconst 19 B (v := 1) dX12_packed_19 (by decide +kernel) ?_
      refine V_cvi 20 B (st := []) (As := [.int 1, .int 1]) (fun sz => mX12_throwsIf_1 l D Y (h0) (h1) (g0) (g1) (g2) (g3) (g4) sz) glV_RX12_69 ⟨rfl, rfl⟩ ⟨(Nat.le_of_ble_eq_true rfl), (Nat.le_of_ble_eq_true rfl)⟩ ⟨(Nat.le_of_ble_eq_true rfl), (Nat.le_of_ble_eq_true rfl)⟩ [0] rfl 13 0 rfl rfl rfl rfl (Nat.le_of_ble_eq_true rfl) rfl (fun _ _ _ => rfl) dX12_packed_20 (fun r3 u3 w3 => ?_)
      obtain rfl := w3
      refine V_ws [(h0, oC 13 [.ref h1, .ref g0, .int 1, .ref g1, .ref g2, .int 0, .int 0, .int 0, .int (-1), .int 0, .int 0, .int 0, .long 0, .ref g3, .ref g4, .int 0, .int 0]), (h1, aI Y 3640 (clB 0 (fun _ => 0)))] rfl ?_
      refine V_if_ne_t 23 B 51 dX12_packed_23 (by decide) (by decide +kernel) ?_
      refine V_iconst 51 B (v := 0) dX12_packed_51 (by decide +kernel) ?_
      exact V_iret 52 B dX12_packed_52 () (Or.inl ⟨k1, rfl⟩) rfl
    ·
      refine V_ws [(h0, oC 13 [.ref h1, .ref g0, .int 0, .ref g1, .ref g2, .int 0, .int 0, .int 0, .int (-1), .int 0, .int 0, .int 0, .long 0, .ref g3, .ref g4, .int 0, .int 0]), (h1, aI Y 3640 (clB 0 (fun _ => 0)))] rfl ?_
      refine V_if_ne_f 11 B 18 dX12_packed_11 (by decide) (by decide +kernel) ?_
      refine V_iconst 14 B (v := 1) dX12_packed_14 (by decide +kernel) ?_
      refine V_goto 15 B 19 dX12_packed_15 (by decide) ?_
      refine V_iconst 19 B (v := 1) dX12_packed_19 (by decide +kernel) ?_
      refine V_cvi 20 B (st := []) (As := [.int 1, .int 1]) (fun sz => mX12_throwsIf_1 l D Y (h0) (h1) (g0) (g1) (g2) (g3) (g4) sz) glV_RX12_69 ⟨rfl, rfl⟩ ⟨(Nat.le_of_ble_eq_true rfl), (Nat.le_of_ble_eq_true rfl)⟩ ⟨(Nat.le_of_ble_eq_true rfl), (Nat.le_of_ble_eq_true rfl)⟩ [0] rfl 13 0 rfl rfl rfl rfl (Nat.le_of_ble_eq_true rfl) rfl (fun _ _ _ => rfl) dX12_packed_20 (fun r4 u4 w4 => ?_)
      obtain rfl := w4
      refine V_ws [(h0, oC 13 [.ref h1, .ref g0, .int 1, .ref g1, .ref g2, .int 0, .int 0, .int 0, .int (-1), .int 0, .int 0, .int 0, .long 0, .ref g3, .ref g4, .int 0, .int 0]), (h1, aI Y 3640 (clB 0 (fun _ => 0)))] rfl ?_
      refine V_if_ne_t 23 B 51 dX12_packed_23 (by decide) (by decide +kernel) ?_
      refine V_iconst 51 B (v := 0) dX12_packed_51 (by decide +kernel) ?_
      exact V_iret 52 B dX12_packed_52 () (Or.inr ⟨k2, rfl⟩) rfl)
theorem dX12_common_0 : decode cX12_common 0 = .ok (.aload_n 0, 1) := by decide +kernel
theorem dX12_common_1 : decode cX12_common 1 = .ok (.iconst 0, 1) := by decide +kernel
theorem dX12_common_2 : decode cX12_common 2 = .ok (.putfield 38, 3) := by decide +kernel
theorem dX12_common_5 : decode cX12_common 5 = .ok (.aload_n 0, 1) := by decide +kernel
theorem dX12_common_6 : decode cX12_common 6 = .ok (.aload_n 0, 1) := by decide +kernel
theorem dX12_common_7 : decode cX12_common 7 = .ok (.iload_n 1, 1) := by decide +kernel
theorem dX12_common_8 : decode cX12_common 8 = .ok (.invokevirtual 82, 3) := by decide +kernel
theorem dX12_common_11 : decode cX12_common 11 = .ok (.ifCond .eq 11, 3) := by decide +kernel
theorem dX12_common_22 : decode cX12_common 22 = .ok (.iconst 1, 1) := by decide +kernel
theorem dX12_common_23 : decode cX12_common 23 = .ok (.goto 4, 3) := by decide +kernel
theorem dX12_common_27 : decode cX12_common 27 = .ok (.iconst 1, 1) := by decide +kernel
theorem dX12_common_28 : decode cX12_common 28 = .ok (.invokevirtual 69, 3) := by decide +kernel
theorem dX12_common_31 : decode cX12_common 31 = .ok (.ifCond .eq 7, 3) := by decide +kernel
theorem dX12_common_34 : decode cX12_common 34 = .ok (.iconst 0, 1) := by decide +kernel
theorem dX12_common_35 : decode cX12_common 35 = .ok (.goto 15, 3) := by decide +kernel
theorem dX12_common_50 : decode cX12_common 50 = .ok (.ireturn, 1) := by decide +kernel
set_option maxRecDepth 100000 in
set_option maxHeartbeats 4000000 in
theorem mX12_common_1 (l : Launch) (D : va_G) (Y : Nat → ClassId) (h0 : Nat) (h1 : Nat) (g0 : Nat) (g1 : Nat) (g2 : Nat) (g3 : Nat) (g4 : Nat) (p0 : Int32) (p1 : Int32) (sz : Nat) : Met l yX12_common (WSm yX12_common cX12_common 3 (some .int)) (mkR 2 0 0 46) (PreC D Y [.ref h0, .int p0, .int p1] [(h0, oC 13 [.ref h1, .ref g0, .int 0, .ref g1, .ref g2, .int 0, .int 0, .int 0, .int (-1), .int 0, .int 0, .int 0, .long 0, .ref g3, .ref g4, .int 0, .int 0]), (h1, aI Y 3640 (clB 0 (fun _ => 0)))] sz) (QI D (fun (r : Int32) (u : Unit) => (p0 < 0 ∧ 0 = r) ∨ ((-1) < p0 ∧ 0 = r)) (fun (_ : Unit) => [(h0, oC 13 [.ref h1, .ref g0, .int 1, .ref g1, .ref g2, .int 0, .int 0, .int 0, .int (-1), .int 0, .int 0, .int 0, .long 0, .ref g3, .ref g4, .int 0, .int 0]), (h1, aI Y 3640 (clB 0 (fun _ => 0)))]) (va_A [(h0, oC 13 [.ref h1, .ref g0, .int 0, .ref g1, .ref g2, .int 0, .int 0, .int 0, .int (-1), .int 0, .int 0, .int 0, .long 0, .ref g3, .ref g4, .int 0, .int 0]), (h1, aI Y 3640 (clB 0 (fun _ => 0)))] sz)) 0 0 (va_A [(h0, oC 13 [.ref h1, .ref g0, .int 0, .ref g1, .ref g2, .int 0, .int 0, .int 0, .int (-1), .int 0, .int 0, .int 0, .long 0, .ref g3, .ref g4, .int 0, .int 0]), (h1, aI Y 3640 (clB 0 (fun _ => 0)))] sz) :=
  met_of (by decide +kernel) (Nat.le_of_ble_eq_true rfl) (fun p e s m args below meth c B hin hsz => by
    have B : VB p s m args meth c D Y (va_A [(h0, oC 13 [.ref h1, .ref g0, .int 0, .ref g1, .ref g2, .int 0, .int 0, .int 0, .int (-1), .int 0, .int 0, .int 0, .long 0, .ref g3, .ref g4, .int 0, .int 0]), (h1, aI Y 3640 (clB 0 (fun _ => 0)))] sz) cX12_common 3 RX12 (some .int) := B
    refine V_aload_n 0 B dX12_common_0 0 rfl ?_
    refine V_iconst 1 B (v := 0) dX12_common_1 (by decide +kernel) ?_
    refine V_put 2 B gp_RX12_38 0 rfl (Nat.le_of_ble_eq_true rfl) rfl rfl dX12_common_2 [(h0, oC 13 [.ref h1, .ref g0, .int 0, .ref g1, .ref g2, .int 0, .int 0, .int 0, .int (-1), .int 0, .int 0, .int 0, .long 0, .ref g3, .ref g4, .int 0, .int 0]), (h1, aI Y 3640 (clB 0 (fun _ => 0)))] rfl ?_
    refine V_aload_n 5 B dX12_common_5 0 rfl ?_
    refine V_aload_n 6 B dX12_common_6 0 rfl ?_
    refine V_iload_n 7 B dX12_common_7 1 rfl ?_
    refine V_cvi 8 B (st := [.ref h0]) (As := [.int p0]) (fun sz => mX12_isBinding_1 l D Y (h0) (h1) (g0) (g1) (g2) (g3) (g4) (p0) sz) glV_RX12_82 ⟨rfl, rfl⟩ ⟨(Nat.le_of_ble_eq_true rfl), (Nat.le_of_ble_eq_true rfl)⟩ ⟨(Nat.le_of_ble_eq_true rfl), (Nat.le_of_ble_eq_true rfl)⟩ [0, 0] rfl 13 0 rfl rfl rfl rfl (Nat.le_of_ble_eq_true rfl) rfl (fun _ _ _ => rfl) dX12_common_8 (fun r0 u0 w0 => ?_)
    rcases w0 with ⟨k1, rfl⟩ | ⟨k2, rfl⟩
    ·
      refine V_ws [(h0, oC 13 [.ref h1, .ref g0, .int 0, .ref g1, .ref g2, .int 0, .int 0, .int 0, .int (-1), .int 0, .int 0, .int 0, .long 0, .ref g3, .ref g4, .int 0, .int 0]), (h1, aI Y 3640 (clB 0 (fun _ => 0)))] rfl ?_
      refine V_if_eq_t 11 B 22 dX12_common_11 (by decide) (by decide +kernel) ?_
      refine V_iconst 22 B (v := 1) dX12_common_22 (by decide +kernel) ?_
      refine V_goto 23 B 27 dX12_common_23 (by decide) ?_
      refine V_iconst 27 B (v := 1) dX12_common_27 (by decide +kernel) ?_
      refine V_cvi 28 B (st := []) (As := [.int 1, .int 1]) (fun sz => mX12_throwsIf_1 l D Y (h0) (h1) (g0) (g1) (g2) (g3) (g4) sz) glV_RX12_69 ⟨rfl, rfl⟩ ⟨(Nat.le_of_ble_eq_true rfl), (Nat.le_of_ble_eq_true rfl)⟩ ⟨(Nat.le_of_ble_eq_true rfl), (Nat.le_of_ble_eq_true rfl)⟩ [0] rfl 13 0 rfl rfl rfl rfl (Nat.le_of_ble_eq_true rfl) rfl (fun _ _ _ => rfl) dX12_common_28 (fun r3 u3 w3 => ?_)
      obtain rfl := w3
      refine V_ws [(h0, oC 13 [.ref h1, .ref g0, .int 1, .ref g1, .ref g2, .int 0, .int 0, .int 0, .int (-1), .int 0, .int 0, .int 0, .long 0, .ref g3, .ref g4, .int 0, .int 0]), (h1, aI Y 3640 (clB 0 (fun _ => 0)))] rfl ?_
      refine V_if_eq_f 31 B 38 dX12_common_31 (by decide) (by decide +kernel) ?_
      refine V_iconst 34 B (v := 0) dX12_common_34 (by decide +kernel) ?_
      refine V_goto 35 B 50 dX12_common_35 (by decide) ?_
      exact V_iret 50 B dX12_common_50 () (Or.inl ⟨k1, rfl⟩) rfl
    ·
      refine V_ws [(h0, oC 13 [.ref h1, .ref g0, .int 0, .ref g1, .ref g2, .int 0, .int 0, .int 0, .int (-1), .int 0, .int 0, .int 0, .long 0, .ref g3, .ref g4, .int 0, .int 0]), (h1, aI Y 3640 (clB 0 (fun _ => 0)))] rfl ?_
      refine V_if_eq_t 11 B 22 dX12_common_11 (by decide) (by decide +kernel) ?_
      refine V_iconst 22 B (v := 1) dX12_common_22 (by decide +kernel) ?_
      refine V_goto 23 B 27 dX12_common_23 (by decide) ?_
      refine V_iconst 27 B (v := 1) dX12_common_27 (by decide +kernel) ?_
      refine V_cvi 28 B (st := []) (As := [.int 1, .int 1]) (fun sz => mX12_throwsIf_1 l D Y (h0) (h1) (g0) (g1) (g2) (g3) (g4) sz) glV_RX12_69 ⟨rfl, rfl⟩ ⟨(Nat.le_of_ble_eq_true rfl), (Nat.le_of_ble_eq_true rfl)⟩ ⟨(Nat.le_of_ble_eq_true rfl), (Nat.le_of_ble_eq_true rfl)⟩ [0] rfl 13 0 rfl rfl rfl rfl (Nat.le_of_ble_eq_true rfl) rfl (fun _ _ _ => rfl) dX12_common_28 (fun r4 u4 w4 => ?_)
      obtain rfl := w4
      refine V_ws [(h0, oC 13 [.ref h1, .ref g0, .int 1, .ref g1, .ref g2, .int 0, .int 0, .int 0, .int (-1), .int 0, .int 0, .int 0, .long 0, .ref g3, .ref g4, .int 0, .int 0]), (h1, aI Y 3640 (clB 0 (fun _ => 0)))] rfl ?_
      refine V_if_eq_f 31 B 38 dX12_common_31 (by decide) (by decide +kernel) ?_
      refine V_iconst 34 B (v := 0) dX12_common_34 (by decide +kernel) ?_
      refine V_goto 35 B 50 dX12_common_35 (by decide) ?_
      exact V_iret 50 B dX12_common_50 () (Or.inr ⟨k2, rfl⟩) rfl)
theorem dX12_leadingSwitches_0 : decode cX12_leadingSwitches 0 = .ok (.aload_n 0, 1) := by decide +kernel
theorem dX12_leadingSwitches_1 : decode cX12_leadingSwitches 1 = .ok (.iconst 0, 1) := by decide +kernel
theorem dX12_leadingSwitches_2 : decode cX12_leadingSwitches 2 = .ok (.putfield 38, 3) := by decide +kernel
theorem dX12_leadingSwitches_5 : decode cX12_leadingSwitches 5 = .ok (.iconst 0, 1) := by decide +kernel
theorem dX12_leadingSwitches_6 : decode cX12_leadingSwitches 6 = .ok (.istore_n 1, 1) := by decide +kernel
theorem dX12_leadingSwitches_7 : decode cX12_leadingSwitches 7 = .ok (.iload_n 1, 1) := by decide +kernel
theorem dX12_leadingSwitches_8 : decode cX12_leadingSwitches 8 = .ok (.aload_n 0, 1) := by decide +kernel
theorem dX12_leadingSwitches_9 : decode cX12_leadingSwitches 9 = .ok (.getfield 9, 3) := by decide +kernel
theorem dX12_leadingSwitches_12 : decode cX12_leadingSwitches 12 = .ok (.iconst 3, 1) := by decide +kernel
theorem dX12_leadingSwitches_13 : decode cX12_leadingSwitches 13 = .ok (.iaload, 1) := by decide +kernel
theorem dX12_leadingSwitches_14 : decode cX12_leadingSwitches 14 = .ok (.if_icmp .ge 23, 3) := by decide +kernel
theorem dX12_leadingSwitches_37 : decode cX12_leadingSwitches 37 = .ok (.iload_n 1, 1) := by decide +kernel
theorem dX12_leadingSwitches_38 : decode cX12_leadingSwitches 38 = .ok (.ireturn, 1) := by decide +kernel
set_option maxRecDepth 100000 in
set_option maxHeartbeats 4000000 in
theorem mX12_leadingSwitches_1 (l : Launch) (D : va_G) (Y : Nat → ClassId) (h0 : Nat) (h1 : Nat) (g0 : Nat) (g1 : Nat) (g2 : Nat) (g3 : Nat) (g4 : Nat) (sz : Nat) : Met l yX12_leadingSwitches (WSm yX12_leadingSwitches cX12_leadingSwitches 2 (some .int)) (mkR 0 0 0 0) (PreC D Y [.ref h0] [(h0, oC 13 [.ref h1, .ref g0, .int 0, .ref g1, .ref g2, .int 0, .int 0, .int 0, .int (-1), .int 0, .int 0, .int 0, .long 0, .ref g3, .ref g4, .int 0, .int 0]), (h1, aI Y 3640 (clB 0 (fun _ => 0)))] sz) (QI D (fun (r : Int32) (u : Unit) => 0 = r) (fun (_ : Unit) => [(h0, oC 13 [.ref h1, .ref g0, .int 0, .ref g1, .ref g2, .int 0, .int 0, .int 0, .int (-1), .int 0, .int 0, .int 0, .long 0, .ref g3, .ref g4, .int 0, .int 0]), (h1, aI Y 3640 (clB 0 (fun _ => 0)))]) (va_A [(h0, oC 13 [.ref h1, .ref g0, .int 0, .ref g1, .ref g2, .int 0, .int 0, .int 0, .int (-1), .int 0, .int 0, .int 0, .long 0, .ref g3, .ref g4, .int 0, .int 0]), (h1, aI Y 3640 (clB 0 (fun _ => 0)))] sz)) 0 0 (va_A [(h0, oC 13 [.ref h1, .ref g0, .int 0, .ref g1, .ref g2, .int 0, .int 0, .int 0, .int (-1), .int 0, .int 0, .int 0, .long 0, .ref g3, .ref g4, .int 0, .int 0]), (h1, aI Y 3640 (clB 0 (fun _ => 0)))] sz) :=
  met_of (by decide +kernel) (Nat.le_of_ble_eq_true rfl) (fun p e s m args below meth c B hin hsz => by
    have B : VB p s m args meth c D Y (va_A [(h0, oC 13 [.ref h1, .ref g0, .int 0, .ref g1, .ref g2, .int 0, .int 0, .int 0, .int (-1), .int 0, .int 0, .int 0, .long 0, .ref g3, .ref g4, .int 0, .int 0]), (h1, aI Y 3640 (clB 0 (fun _ => 0)))] sz) cX12_leadingSwitches 2 RX12 (some .int) := B
    refine V_aload_n 0 B dX12_leadingSwitches_0 0 rfl ?_
    refine V_iconst 1 B (v := 0) dX12_leadingSwitches_1 (by decide +kernel) ?_
    refine V_put 2 B gp_RX12_38 0 rfl (Nat.le_of_ble_eq_true rfl) rfl rfl dX12_leadingSwitches_2 [(h0, oC 13 [.ref h1, .ref g0, .int 0, .ref g1, .ref g2, .int 0, .int 0, .int 0, .int (-1), .int 0, .int 0, .int 0, .long 0, .ref g3, .ref g4, .int 0, .int 0]), (h1, aI Y 3640 (clB 0 (fun _ => 0)))] rfl ?_
    refine V_iconst 5 B (v := 0) dX12_leadingSwitches_5 (by decide +kernel) ?_
    refine V_istore_n 6 B (lv2 := [(1, .int 0), (0, .ref h0)]) dX12_leadingSwitches_6 (by decide) rfl ?_
    refine V_iload_n 7 B dX12_leadingSwitches_7 0 rfl ?_
    refine V_aload_n 8 B dX12_leadingSwitches_8 1 rfl ?_
    refine V_get 9 B gf_RX12_9 0 rfl rfl dX12_leadingSwitches_9 ?_
    refine V_iconst 12 B (v := 3) dX12_leadingSwitches_12 (by decide +kernel) ?_
    refine V_iald 13 B (v := 0) 1 rfl (vpin _ _ (by decide +kernel)) dX12_leadingSwitches_13 rfl ?_
    refine V_icmp_ge_t 14 B 37 dX12_leadingSwitches_14 (by decide) (by decide +kernel) ?_
    refine V_iload_n 37 B dX12_leadingSwitches_37 0 rfl ?_
    exact V_iret 38 B dX12_leadingSwitches_38 () rfl rfl)
theorem dX12_digest_0 : decode cX12_digest 0 = .ok (.aload_n 0, 1) := by decide +kernel
theorem dX12_digest_1 : decode cX12_digest 1 = .ok (.iconst 0, 1) := by decide +kernel
theorem dX12_digest_2 : decode cX12_digest 2 = .ok (.putfield 38, 3) := by decide +kernel
theorem dX12_digest_5 : decode cX12_digest 5 = .ok (.bipush 7, 2) := by decide +kernel
theorem dX12_digest_7 : decode cX12_digest 7 = .ok (.istore_n 1, 1) := by decide +kernel
theorem dX12_digest_8 : decode cX12_digest 8 = .ok (.iconst 0, 1) := by decide +kernel
theorem dX12_digest_9 : decode cX12_digest 9 = .ok (.istore_n 2, 1) := by decide +kernel
theorem dX12_digest_10 : decode cX12_digest 10 = .ok (.iload_n 2, 1) := by decide +kernel
theorem dX12_digest_11 : decode cX12_digest 11 = .ok (.aload_n 0, 1) := by decide +kernel
theorem dX12_digest_12 : decode cX12_digest 12 = .ok (.getfield 9, 3) := by decide +kernel
theorem dX12_digest_15 : decode cX12_digest 15 = .ok (.iconst 3, 1) := by decide +kernel
theorem dX12_digest_16 : decode cX12_digest 16 = .ok (.iaload, 1) := by decide +kernel
theorem dX12_digest_17 : decode cX12_digest 17 = .ok (.if_icmp .ge 67, 3) := by decide +kernel
theorem dX12_digest_84 : decode cX12_digest 84 = .ok (.iload_n 1, 1) := by decide +kernel
theorem dX12_digest_85 : decode cX12_digest 85 = .ok (.ireturn, 1) := by decide +kernel
set_option maxRecDepth 100000 in
set_option maxHeartbeats 4000000 in
theorem mX12_digest_1 (l : Launch) (D : va_G) (Y : Nat → ClassId) (h0 : Nat) (h1 : Nat) (g0 : Nat) (g1 : Nat) (g2 : Nat) (g3 : Nat) (g4 : Nat) (sz : Nat) : Met l yX12_digest (WSm yX12_digest cX12_digest 4 (some .int)) (mkR 0 0 0 0) (PreC D Y [.ref h0] [(h0, oC 13 [.ref h1, .ref g0, .int 0, .ref g1, .ref g2, .int 0, .int 0, .int 0, .int (-1), .int 0, .int 0, .int 0, .long 0, .ref g3, .ref g4, .int 0, .int 0]), (h1, aI Y 3640 (clB 0 (fun _ => 0)))] sz) (QI D (fun (r : Int32) (u : Unit) => 7 = r) (fun (_ : Unit) => [(h0, oC 13 [.ref h1, .ref g0, .int 0, .ref g1, .ref g2, .int 0, .int 0, .int 0, .int (-1), .int 0, .int 0, .int 0, .long 0, .ref g3, .ref g4, .int 0, .int 0]), (h1, aI Y 3640 (clB 0 (fun _ => 0)))]) (va_A [(h0, oC 13 [.ref h1, .ref g0, .int 0, .ref g1, .ref g2, .int 0, .int 0, .int 0, .int (-1), .int 0, .int 0, .int 0, .long 0, .ref g3, .ref g4, .int 0, .int 0]), (h1, aI Y 3640 (clB 0 (fun _ => 0)))] sz)) 0 0 (va_A [(h0, oC 13 [.ref h1, .ref g0, .int 0, .ref g1, .ref g2, .int 0, .int 0, .int 0, .int (-1), .int 0, .int 0, .int 0, .long 0, .ref g3, .ref g4, .int 0, .int 0]), (h1, aI Y 3640 (clB 0 (fun _ => 0)))] sz) :=
  met_of (by decide +kernel) (Nat.le_of_ble_eq_true rfl) (fun p e s m args below meth c B hin hsz => by
    have B : VB p s m args meth c D Y (va_A [(h0, oC 13 [.ref h1, .ref g0, .int 0, .ref g1, .ref g2, .int 0, .int 0, .int 0, .int (-1), .int 0, .int 0, .int 0, .long 0, .ref g3, .ref g4, .int 0, .int 0]), (h1, aI Y 3640 (clB 0 (fun _ => 0)))] sz) cX12_digest 4 RX12 (some .int) := B
    refine V_aload_n 0 B dX12_digest_0 0 rfl ?_
    refine V_iconst 1 B (v := 0) dX12_digest_1 (by decide +kernel) ?_
    refine V_put 2 B gp_RX12_38 0 rfl (Nat.le_of_ble_eq_true rfl) rfl rfl dX12_digest_2 [(h0, oC 13 [.ref h1, .ref g0, .int 0, .ref g1, .ref g2, .int 0, .int 0, .int 0, .int (-1), .int 0, .int 0, .int 0, .long 0, .ref g3, .ref g4, .int 0, .int 0]), (h1, aI Y 3640 (clB 0 (fun _ => 0)))] rfl ?_
    refine V_bipush 5 B (v := 7) dX12_digest_5 (by decide +kernel) ?_
    refine V_istore_n 7 B (lv2 := [(1, .int 7), (0, .ref h0)]) dX12_digest_7 (by decide) rfl ?_
    refine V_iconst 8 B (v := 0) dX12_digest_8 (by decide +kernel) ?_
    refine V_istore_n 9 B (lv2 := [(2, .int 0), (1, .int 7), (0, .ref h0)]) dX12_digest_9 (by decide) rfl ?_
    refine V_iload_n 10 B dX12_digest_10 0 rfl ?_
    refine V_aload_n 11 B dX12_digest_11 2 rfl ?_
    refine V_get 12 B gf_RX12_9 0 rfl rfl dX12_digest_12 ?_
    refine V_iconst 15 B (v := 3) dX12_digest_15 (by decide +kernel) ?_
    refine V_iald 16 B (v := 0) 1 rfl (vpin _ _ (by decide +kernel)) dX12_digest_16 rfl ?_
    refine V_icmp_ge_t 17 B 84 dX12_digest_17 (by decide) (by decide +kernel) ?_
    refine V_iload_n 84 B dX12_digest_84 1 rfl ?_
    exact V_iret 85 B dX12_digest_85 () rfl rfl)
theorem dX12_isLayer_0 : decode cX12_isLayer 0 = .ok (.iload_n 1, 1) := by decide +kernel
theorem dX12_isLayer_1 : decode cX12_isLayer 1 = .ok (.i2l, 1) := by decide +kernel
theorem dX12_isLayer_2 : decode cX12_isLayer 2 = .ok (.lconst 0, 1) := by decide +kernel
theorem dX12_isLayer_3 : decode cX12_isLayer 3 = .ok (.aload_n 0, 1) := by decide +kernel
theorem dX12_isLayer_4 : decode cX12_isLayer 4 = .ok (.getfield 9, 3) := by decide +kernel
theorem dX12_isLayer_7 : decode cX12_isLayer 7 = .ok (.iconst 4, 1) := by decide +kernel
theorem dX12_isLayer_8 : decode cX12_isLayer 8 = .ok (.iaload, 1) := by decide +kernel
theorem dX12_isLayer_9 : decode cX12_isLayer 9 = .ok (.iconst 1, 1) := by decide +kernel
theorem dX12_isLayer_10 : decode cX12_isLayer 10 = .ok (.isub, 1) := by decide +kernel
theorem dX12_isLayer_11 : decode cX12_isLayer 11 = .ok (.i2l, 1) := by decide +kernel
theorem dX12_isLayer_12 : decode cX12_isLayer 12 = .ok (.invokestatic 41, 3) := by decide +kernel
theorem dX12_isLayer_15 : decode cX12_isLayer 15 = .ok (.ireturn, 1) := by decide +kernel
set_option maxRecDepth 100000 in
set_option maxHeartbeats 4000000 in
theorem mX12_isLayer_1 (l : Launch) (D : va_G) (Y : Nat → ClassId) (h0 : Nat) (h1 : Nat) (g0 : Nat) (g1 : Nat) (g2 : Nat) (g3 : Nat) (g4 : Nat) (p0 : Int32) (sz : Nat) : Met l yX12_isLayer (WSm yX12_isLayer cX12_isLayer 2 (some .boolean)) (mkR 1 0 0 25) (PreC D Y [.ref h0, .int p0] [(h0, oC 13 [.ref h1, .ref g0, .int 0, .ref g1, .ref g2, .int 0, .int 0, .int 0, .int (-1), .int 0, .int 0, .int 0, .long 0, .ref g3, .ref g4, .int 0, .int 0]), (h1, aI Y 3640 (clB 0 (fun _ => 0)))] sz) (QI D (fun (r : Int32) (u : Unit) => (p0 < 0 ∧ 0 = r) ∨ ((-1) < p0 ∧ 0 = r)) (fun (_ : Unit) => [(h0, oC 13 [.ref h1, .ref g0, .int 0, .ref g1, .ref g2, .int 0, .int 0, .int 0, .int (-1), .int 0, .int 0, .int 0, .long 0, .ref g3, .ref g4, .int 0, .int 0]), (h1, aI Y 3640 (clB 0 (fun _ => 0)))]) (va_A [(h0, oC 13 [.ref h1, .ref g0, .int 0, .ref g1, .ref g2, .int 0, .int 0, .int 0, .int (-1), .int 0, .int 0, .int 0, .long 0, .ref g3, .ref g4, .int 0, .int 0]), (h1, aI Y 3640 (clB 0 (fun _ => 0)))] sz)) 0 0 (va_A [(h0, oC 13 [.ref h1, .ref g0, .int 0, .ref g1, .ref g2, .int 0, .int 0, .int 0, .int (-1), .int 0, .int 0, .int 0, .long 0, .ref g3, .ref g4, .int 0, .int 0]), (h1, aI Y 3640 (clB 0 (fun _ => 0)))] sz) :=
  met_of (by decide +kernel) (Nat.le_of_ble_eq_true rfl) (fun p e s m args below meth c B hin hsz => by
    have B : VB p s m args meth c D Y (va_A [(h0, oC 13 [.ref h1, .ref g0, .int 0, .ref g1, .ref g2, .int 0, .int 0, .int 0, .int (-1), .int 0, .int 0, .int 0, .long 0, .ref g3, .ref g4, .int 0, .int 0]), (h1, aI Y 3640 (clB 0 (fun _ => 0)))] sz) cX12_isLayer 2 RX12 (some .boolean) := B
    refine V_iload_n 0 B dX12_isLayer_0 1 rfl ?_
    refine V_i2l 1 B dX12_isLayer_1 rfl ?_
    refine V_lconst 2 B (v := 0) dX12_isLayer_2 (by decide +kernel) ?_
    refine V_aload_n 3 B dX12_isLayer_3 0 rfl ?_
    refine V_get 4 B gf_RX12_9 0 rfl rfl dX12_isLayer_4 ?_
    refine V_iconst 7 B (v := 4) dX12_isLayer_7 (by decide +kernel) ?_
    refine V_iald 8 B (v := 0) 1 rfl (vpin _ _ (by decide +kernel)) dX12_isLayer_8 rfl ?_
    refine V_iconst 9 B (v := 1) dX12_isLayer_9 (by decide +kernel) ?_
    refine V_isub 10 B (v := (-1)) dX12_isLayer_10 (by decide +kernel) ?_
    refine V_i2l 11 B (v := (-1)) dX12_isLayer_11 (by decide +kernel) ?_
    refine V_csi 12 B (st := []) (As := [.long p0.toInt64, .long 0, .long (-1)]) (fun sz => mX12_inRange_m l D Y (p0) (0) ((-1)) (0) ((-1)) (by decide +kernel) (by decide +kernel) sz) glS_RX12_41 ⟨rfl, rfl⟩ ⟨(Nat.le_of_ble_eq_true rfl), (Nat.le_of_ble_eq_true rfl)⟩ ⟨(Nat.le_of_ble_eq_true rfl), (Nat.le_of_ble_eq_true rfl)⟩ [] rfl rfl (Nat.le_of_ble_eq_true rfl) rfl (fun _ _ _ => rfl) dX12_isLayer_12 (fun r0 u0 w0 => ?_)
    rcases w0 with ⟨k1, k2, rfl⟩ | ⟨k3, rfl⟩ | ⟨k4, rfl⟩
    ·
      refine V_ws [(h0, oC 13 [.ref h1, .ref g0, .int 0, .ref g1, .ref g2, .int 0, .int 0, .int 0, .int (-1), .int 0, .int 0, .int 0, .long 0, .ref g3, .ref g4, .int 0, .int 0]), (h1, aI Y 3640 (clB 0 (fun _ => 0)))] rfl ?_
      exact (q_abs (b_nlt k1 (n := 0) (by decide +kernel)) (b_ngt k2 (n := (-1)) (by decide +kernel)) (by decide +kernel)).elim
    ·
      refine V_ws [(h0, oC 13 [.ref h1, .ref g0, .int 0, .ref g1, .ref g2, .int 0, .int 0, .int 0, .int (-1), .int 0, .int 0, .int 0, .long 0, .ref g3, .ref g4, .int 0, .int 0]), (h1, aI Y 3640 (clB 0 (fun _ => 0)))] rfl ?_
      exact V_zret 15 B rfl dX12_isLayer_15 () (Or.inl ⟨k3, rfl⟩) rfl
    ·
      refine V_ws [(h0, oC 13 [.ref h1, .ref g0, .int 0, .ref g1, .ref g2, .int 0, .int 0, .int 0, .int (-1), .int 0, .int 0, .int 0, .long 0, .ref g3, .ref g4, .int 0, .int 0]), (h1, aI Y 3640 (clB 0 (fun _ => 0)))] rfl ?_
      exact V_zret 15 B rfl dX12_isLayer_15 () (Or.inr ⟨k4, rfl⟩) rfl)
theorem dX12_layer_0 : decode cX12_layer 0 = .ok (.aload_n 0, 1) := by decide +kernel
theorem dX12_layer_1 : decode cX12_layer 1 = .ok (.iconst 0, 1) := by decide +kernel
theorem dX12_layer_2 : decode cX12_layer 2 = .ok (.putfield 38, 3) := by decide +kernel
theorem dX12_layer_5 : decode cX12_layer 5 = .ok (.aload_n 0, 1) := by decide +kernel
theorem dX12_layer_6 : decode cX12_layer 6 = .ok (.aload_n 0, 1) := by decide +kernel
theorem dX12_layer_7 : decode cX12_layer 7 = .ok (.iload_n 1, 1) := by decide +kernel
theorem dX12_layer_8 : decode cX12_layer 8 = .ok (.invokevirtual 196, 3) := by decide +kernel
theorem glV_RX12_196 : GLV RX12 196 yX12_isLayer RX12 cX12_isLayer 2 (some .boolean) 1 := ⟨⟨(mT9 56 rfl rfl), (mT9 58 rfl rfl), (mTs 61 rfl rfl), (mT1 13 rfl rfl), (mT9 59 rfl rfl)⟩, by decide +kernel⟩
theorem dX12_layer_11 : decode cX12_layer 11 = .ok (.ifCond .ne 7, 3) := by decide +kernel
theorem dX12_layer_14 : decode cX12_layer 14 = .ok (.iconst 1, 1) := by decide +kernel
theorem dX12_layer_15 : decode cX12_layer 15 = .ok (.goto 4, 3) := by decide +kernel
theorem dX12_layer_19 : decode cX12_layer 19 = .ok (.iconst 1, 1) := by decide +kernel
theorem dX12_layer_20 : decode cX12_layer 20 = .ok (.invokevirtual 69, 3) := by decide +kernel
theorem dX12_layer_23 : decode cX12_layer 23 = .ok (.ifCond .eq 5, 3) := by decide +kernel
theorem dX12_layer_26 : decode cX12_layer 26 = .ok (.iconst 0, 1) := by decide +kernel
theorem dX12_layer_27 : decode cX12_layer 27 = .ok (.ireturn, 1) := by decide +kernel
set_option maxRecDepth 100000 in
set_option maxHeartbeats 4000000 in
theorem mX12_layer_1 (l : Launch) (D : va_G) (Y : Nat → ClassId) (h0 : Nat) (h1 : Nat) (g0 : Nat) (g1 : Nat) (g2 : Nat) (g3 : Nat) (g4 : Nat) (p0 : Int32) (p1 : Int32) (sz : Nat) : Met l yX12_layer (WSm yX12_layer cX12_layer 3 (some .int)) (mkR 2 0 0 46) (PreC D Y [.ref h0, .int p0, .int p1] [(h0, oC 13 [.ref h1, .ref g0, .int 0, .ref g1, .ref g2, .int 0, .int 0, .int 0, .int (-1), .int 0, .int 0, .int 0, .long 0, .ref g3, .ref g4, .int 0, .int 0]), (h1, aI Y 3640 (clB 0 (fun _ => 0)))] sz) (QI D (fun (r : Int32) (u : Unit) => (p0 < 0 ∧ 0 = r) ∨ ((-1) < p0 ∧ 0 = r)) (fun (_ : Unit) => [(h0, oC 13 [.ref h1, .ref g0, .int 1, .ref g1, .ref g2, .int 0, .int 0, .int 0, .int (-1), .int 0, .int 0, .int 0, .long 0, .ref g3, .ref g4, .int 0, .int 0]), (h1, aI Y 3640 (clB 0 (fun _ => 0)))]) (va_A [(h0, oC 13 [.ref h1, .ref g0, .int 0, .ref g1, .ref g2, .int 0, .int 0, .int 0, .int (-1), .int 0, .int 0, .int 0, .long 0, .ref g3, .ref g4, .int 0, .int 0]), (h1, aI Y 3640 (clB 0 (fun _ => 0)))] sz)) 0 0 (va_A [(h0, oC 13 [.ref h1, .ref g0, .int 0, .ref g1, .ref g2, .int 0, .int 0, .int 0, .int (-1), .int 0, .int 0, .int 0, .long 0, .ref g3, .ref g4, .int 0, .int 0]), (h1, aI Y 3640 (clB 0 (fun _ => 0)))] sz) :=
  met_of (by decide +kernel) (Nat.le_of_ble_eq_true rfl) (fun p e s m args below meth c B hin hsz => by
    have B : VB p s m args meth c D Y (va_A [(h0, oC 13 [.ref h1, .ref g0, .int 0, .ref g1, .ref g2, .int 0, .int 0, .int 0, .int (-1), .int 0, .int 0, .int 0, .long 0, .ref g3, .ref g4, .int 0, .int 0]), (h1, aI Y 3640 (clB 0 (fun _ => 0)))] sz) cX12_layer 3 RX12 (some .int) := B
    refine V_aload_n 0 B dX12_layer_0 0 rfl ?_
    refine V_iconst 1 B (v := 0) dX12_layer_1 (by decide +kernel) ?_
    refine V_put 2 B gp_RX12_38 0 rfl (Nat.le_of_ble_eq_true rfl) rfl rfl dX12_layer_2 [(h0, oC 13 [.ref h1, .ref g0, .int 0, .ref g1, .ref g2, .int 0, .int 0, .int 0, .int (-1), .int 0, .int 0, .int 0, .long 0, .ref g3, .ref g4, .int 0, .int 0]), (h1, aI Y 3640 (clB 0 (fun _ => 0)))] rfl ?_
    refine V_aload_n 5 B dX12_layer_5 0 rfl ?_
    refine V_aload_n 6 B dX12_layer_6 0 rfl ?_
    refine V_iload_n 7 B dX12_layer_7 1 rfl ?_
    refine V_cvi 8 B (st := [.ref h0]) (As := [.int p0]) (fun sz => mX12_isLayer_1 l D Y (h0) (h1) (g0) (g1) (g2) (g3) (g4) (p0) sz) glV_RX12_196 ⟨rfl, rfl⟩ ⟨(Nat.le_of_ble_eq_true rfl), (Nat.le_of_ble_eq_true rfl)⟩ ⟨(Nat.le_of_ble_eq_true rfl), (Nat.le_of_ble_eq_true rfl)⟩ [0, 0] rfl 13 0 rfl rfl rfl rfl (Nat.le_of_ble_eq_true rfl) rfl (fun _ _ _ => rfl) dX12_layer_8 (fun r0 u0 w0 => ?_)
    rcases w0 with ⟨k1, rfl⟩ | ⟨k2, rfl⟩
    ·
      refine V_ws [(h0, oC 13 [.ref h1, .ref g0, .int 0, .ref g1, .ref g2, .int 0, .int 0, .int 0, .int (-1), .int 0, .int 0, .int 0, .long 0, .ref g3, .ref g4, .int 0, .int 0]), (h1, aI Y 3640 (clB 0 (fun _ => 0)))] rfl ?_
      refine V_if_ne_f 11 B 18 dX12_layer_11 (by decide) (by decide +kernel) ?_
      refine V_iconst 14 B (v := 1) dX12_layer_14 (by decide +kernel) ?_
      refine V_goto 15 B 19 dX12_layer_15 (by decide) ?_
      refine V_iconst 19 B (v := 1) dX12_layer_19 (by decide +kernel) ?_
      refine V_cvi 20 B (st := []) (As := [.int 1, .int 1]) (fun sz => mX12_throwsIf_1 l D Y (h0) (h1) (g0) (g1) (g2) (g3) (g4) sz) glV_RX12_69 ⟨rfl, rfl⟩ ⟨(Nat.le_of_ble_eq_true rfl), (Nat.le_of_ble_eq_true rfl)⟩ ⟨(Nat.le_of_ble_eq_true rfl), (Nat.le_of_ble_eq_true rfl)⟩ [0] rfl 13 0 rfl rfl rfl rfl (Nat.le_of_ble_eq_true rfl) rfl (fun _ _ _ => rfl) dX12_layer_20 (fun r3 u3 w3 => ?_)
      obtain rfl := w3
      refine V_ws [(h0, oC 13 [.ref h1, .ref g0, .int 1, .ref g1, .ref g2, .int 0, .int 0, .int 0, .int (-1), .int 0, .int 0, .int 0, .long 0, .ref g3, .ref g4, .int 0, .int 0]), (h1, aI Y 3640 (clB 0 (fun _ => 0)))] rfl ?_
      refine V_if_eq_f 23 B 28 dX12_layer_23 (by decide) (by decide +kernel) ?_
      refine V_iconst 26 B (v := 0) dX12_layer_26 (by decide +kernel) ?_
      exact V_iret 27 B dX12_layer_27 () (Or.inl ⟨k1, rfl⟩) rfl
    ·
      refine V_ws [(h0, oC 13 [.ref h1, .ref g0, .int 0, .ref g1, .ref g2, .int 0, .int 0, .int 0, .int (-1), .int 0, .int 0, .int 0, .long 0, .ref g3, .ref g4, .int 0, .int 0]), (h1, aI Y 3640 (clB 0 (fun _ => 0)))] rfl ?_
      refine V_if_ne_f 11 B 18 dX12_layer_11 (by decide) (by decide +kernel) ?_
      refine V_iconst 14 B (v := 1) dX12_layer_14 (by decide +kernel) ?_
      refine V_goto 15 B 19 dX12_layer_15 (by decide) ?_
      refine V_iconst 19 B (v := 1) dX12_layer_19 (by decide +kernel) ?_
      refine V_cvi 20 B (st := []) (As := [.int 1, .int 1]) (fun sz => mX12_throwsIf_1 l D Y (h0) (h1) (g0) (g1) (g2) (g3) (g4) sz) glV_RX12_69 ⟨rfl, rfl⟩ ⟨(Nat.le_of_ble_eq_true rfl), (Nat.le_of_ble_eq_true rfl)⟩ ⟨(Nat.le_of_ble_eq_true rfl), (Nat.le_of_ble_eq_true rfl)⟩ [0] rfl 13 0 rfl rfl rfl rfl (Nat.le_of_ble_eq_true rfl) rfl (fun _ _ _ => rfl) dX12_layer_20 (fun r4 u4 w4 => ?_)
      obtain rfl := w4
      refine V_ws [(h0, oC 13 [.ref h1, .ref g0, .int 1, .ref g1, .ref g2, .int 0, .int 0, .int 0, .int (-1), .int 0, .int 0, .int 0, .long 0, .ref g3, .ref g4, .int 0, .int 0]), (h1, aI Y 3640 (clB 0 (fun _ => 0)))] rfl ?_
      refine V_if_eq_f 23 B 28 dX12_layer_23 (by decide) (by decide +kernel) ?_
      refine V_iconst 26 B (v := 0) dX12_layer_26 (by decide +kernel) ?_
      exact V_iret 27 B dX12_layer_27 () (Or.inr ⟨k2, rfl⟩) rfl)
theorem dX12_mapped_0 : decode cX12_mapped 0 = .ok (.aload_n 0, 1) := by decide +kernel
theorem dX12_mapped_1 : decode cX12_mapped 1 = .ok (.iconst 0, 1) := by decide +kernel
theorem dX12_mapped_2 : decode cX12_mapped 2 = .ok (.putfield 38, 3) := by decide +kernel
theorem dX12_mapped_5 : decode cX12_mapped 5 = .ok (.aload_n 0, 1) := by decide +kernel
theorem dX12_mapped_6 : decode cX12_mapped 6 = .ok (.aload_n 0, 1) := by decide +kernel
theorem dX12_mapped_7 : decode cX12_mapped 7 = .ok (.iload_n 1, 1) := by decide +kernel
theorem dX12_mapped_8 : decode cX12_mapped 8 = .ok (.invokevirtual 196, 3) := by decide +kernel
theorem dX12_mapped_11 : decode cX12_mapped 11 = .ok (.ifCond .ne 7, 3) := by decide +kernel
theorem dX12_mapped_14 : decode cX12_mapped 14 = .ok (.iconst 1, 1) := by decide +kernel
theorem dX12_mapped_15 : decode cX12_mapped 15 = .ok (.goto 4, 3) := by decide +kernel
theorem dX12_mapped_19 : decode cX12_mapped 19 = .ok (.iconst 1, 1) := by decide +kernel
theorem dX12_mapped_20 : decode cX12_mapped 20 = .ok (.invokevirtual 69, 3) := by decide +kernel
theorem dX12_mapped_23 : decode cX12_mapped 23 = .ok (.ifCond .ne 23, 3) := by decide +kernel
theorem dX12_mapped_46 : decode cX12_mapped 46 = .ok (.iconst 0, 1) := by decide +kernel
theorem dX12_mapped_47 : decode cX12_mapped 47 = .ok (.goto 13, 3) := by decide +kernel
theorem dX12_mapped_60 : decode cX12_mapped 60 = .ok (.ireturn, 1) := by decide +kernel
set_option maxRecDepth 100000 in
set_option maxHeartbeats 4000000 in
theorem mX12_mapped_1 (l : Launch) (D : va_G) (Y : Nat → ClassId) (h0 : Nat) (h1 : Nat) (g0 : Nat) (g1 : Nat) (g2 : Nat) (g3 : Nat) (g4 : Nat) (p0 : Int32) (p1 : Int32) (sz : Nat) : Met l yX12_mapped (WSm yX12_mapped cX12_mapped 3 (some .int)) (mkR 2 0 0 46) (PreC D Y [.ref h0, .int p0, .int p1] [(h0, oC 13 [.ref h1, .ref g0, .int 0, .ref g1, .ref g2, .int 0, .int 0, .int 0, .int (-1), .int 0, .int 0, .int 0, .long 0, .ref g3, .ref g4, .int 0, .int 0]), (h1, aI Y 3640 (clB 0 (fun _ => 0)))] sz) (QI D (fun (r : Int32) (u : Unit) => (p0 < 0 ∧ 0 = r) ∨ ((-1) < p0 ∧ 0 = r)) (fun (_ : Unit) => [(h0, oC 13 [.ref h1, .ref g0, .int 1, .ref g1, .ref g2, .int 0, .int 0, .int 0, .int (-1), .int 0, .int 0, .int 0, .long 0, .ref g3, .ref g4, .int 0, .int 0]), (h1, aI Y 3640 (clB 0 (fun _ => 0)))]) (va_A [(h0, oC 13 [.ref h1, .ref g0, .int 0, .ref g1, .ref g2, .int 0, .int 0, .int 0, .int (-1), .int 0, .int 0, .int 0, .long 0, .ref g3, .ref g4, .int 0, .int 0]), (h1, aI Y 3640 (clB 0 (fun _ => 0)))] sz)) 0 0 (va_A [(h0, oC 13 [.ref h1, .ref g0, .int 0, .ref g1, .ref g2, .int 0, .int 0, .int 0, .int (-1), .int 0, .int 0, .int 0, .long 0, .ref g3, .ref g4, .int 0, .int 0]), (h1, aI Y 3640 (clB 0 (fun _ => 0)))] sz) :=
  met_of (by decide +kernel) (Nat.le_of_ble_eq_true rfl) (fun p e s m args below meth c B hin hsz => by
    have B : VB p s m args meth c D Y (va_A [(h0, oC 13 [.ref h1, .ref g0, .int 0, .ref g1, .ref g2, .int 0, .int 0, .int 0, .int (-1), .int 0, .int 0, .int 0, .long 0, .ref g3, .ref g4, .int 0, .int 0]), (h1, aI Y 3640 (clB 0 (fun _ => 0)))] sz) cX12_mapped 3 RX12 (some .int) := B
    refine V_aload_n 0 B dX12_mapped_0 0 rfl ?_
    refine V_iconst 1 B (v := 0) dX12_mapped_1 (by decide +kernel) ?_
    refine V_put 2 B gp_RX12_38 0 rfl (Nat.le_of_ble_eq_true rfl) rfl rfl dX12_mapped_2 [(h0, oC 13 [.ref h1, .ref g0, .int 0, .ref g1, .ref g2, .int 0, .int 0, .int 0, .int (-1), .int 0, .int 0, .int 0, .long 0, .ref g3, .ref g4, .int 0, .int 0]), (h1, aI Y 3640 (clB 0 (fun _ => 0)))] rfl ?_
    refine V_aload_n 5 B dX12_mapped_5 0 rfl ?_
    refine V_aload_n 6 B dX12_mapped_6 0 rfl ?_
    refine V_iload_n 7 B dX12_mapped_7 1 rfl ?_
    refine V_cvi 8 B (st := [.ref h0]) (As := [.int p0]) (fun sz => mX12_isLayer_1 l D Y (h0) (h1) (g0) (g1) (g2) (g3) (g4) (p0) sz) glV_RX12_196 ⟨rfl, rfl⟩ ⟨(Nat.le_of_ble_eq_true rfl), (Nat.le_of_ble_eq_true rfl)⟩ ⟨(Nat.le_of_ble_eq_true rfl), (Nat.le_of_ble_eq_true rfl)⟩ [0, 0] rfl 13 0 rfl rfl rfl rfl (Nat.le_of_ble_eq_true rfl) rfl (fun _ _ _ => rfl) dX12_mapped_8 (fun r0 u0 w0 => ?_)
    rcases w0 with ⟨k1, rfl⟩ | ⟨k2, rfl⟩
    ·
      refine V_ws [(h0, oC 13 [.ref h1, .ref g0, .int 0, .ref g1, .ref g2, .int 0, .int 0, .int 0, .int (-1), .int 0, .int 0, .int 0, .long 0, .ref g3, .ref g4, .int 0, .int 0]), (h1, aI Y 3640 (clB 0 (fun _ => 0)))] rfl ?_
      refine V_if_ne_f 11 B 18 dX12_mapped_11 (by decide) (by decide +kernel) ?_
      refine V_iconst 14 B (v := 1) dX12_mapped_14 (by decide +kernel) ?_
      refine V_goto 15 B 19 dX12_mapped_15 (by decide) ?_
      refine V_iconst 19 B (v := 1) dX12_mapped_19 (by decide +kernel) ?_
      refine V_cvi 20 B (st := []) (As := [.int 1, .int 1]) (fun sz => mX12_throwsIf_1 l D Y (h0) (h1) (g0) (g1) (g2) (g3) (g4) sz) glV_RX12_69 ⟨rfl, rfl⟩ ⟨(Nat.le_of_ble_eq_true rfl), (Nat.le_of_ble_eq_true rfl)⟩ ⟨(Nat.le_of_ble_eq_true rfl), (Nat.le_of_ble_eq_true rfl)⟩ [0] rfl 13 0 rfl rfl rfl rfl (Nat.le_of_ble_eq_true rfl) rfl (fun _ _ _ => rfl) dX12_mapped_20 (fun r3 u3 w3 => ?_)
      obtain rfl := w3
      refine V_ws [(h0, oC 13 [.ref h1, .ref g0, .int 1, .ref g1, .ref g2, .int 0, .int 0, .int 0, .int (-1), .int 0, .int 0, .int 0, .long 0, .ref g3, .ref g4, .int 0, .int 0]), (h1, aI Y 3640 (clB 0 (fun _ => 0)))] rfl ?_
      refine V_if_ne_t 23 B 46 dX12_mapped_23 (by decide) (by decide +kernel) ?_
      refine V_iconst 46 B (v := 0) dX12_mapped_46 (by decide +kernel) ?_
      refine V_goto 47 B 60 dX12_mapped_47 (by decide) ?_
      exact V_iret 60 B dX12_mapped_60 () (Or.inl ⟨k1, rfl⟩) rfl
    ·
      refine V_ws [(h0, oC 13 [.ref h1, .ref g0, .int 0, .ref g1, .ref g2, .int 0, .int 0, .int 0, .int (-1), .int 0, .int 0, .int 0, .long 0, .ref g3, .ref g4, .int 0, .int 0]), (h1, aI Y 3640 (clB 0 (fun _ => 0)))] rfl ?_
      refine V_if_ne_f 11 B 18 dX12_mapped_11 (by decide) (by decide +kernel) ?_
      refine V_iconst 14 B (v := 1) dX12_mapped_14 (by decide +kernel) ?_
      refine V_goto 15 B 19 dX12_mapped_15 (by decide) ?_
      refine V_iconst 19 B (v := 1) dX12_mapped_19 (by decide +kernel) ?_
      refine V_cvi 20 B (st := []) (As := [.int 1, .int 1]) (fun sz => mX12_throwsIf_1 l D Y (h0) (h1) (g0) (g1) (g2) (g3) (g4) sz) glV_RX12_69 ⟨rfl, rfl⟩ ⟨(Nat.le_of_ble_eq_true rfl), (Nat.le_of_ble_eq_true rfl)⟩ ⟨(Nat.le_of_ble_eq_true rfl), (Nat.le_of_ble_eq_true rfl)⟩ [0] rfl 13 0 rfl rfl rfl rfl (Nat.le_of_ble_eq_true rfl) rfl (fun _ _ _ => rfl) dX12_mapped_20 (fun r4 u4 w4 => ?_)
      obtain rfl := w4
      refine V_ws [(h0, oC 13 [.ref h1, .ref g0, .int 1, .ref g1, .ref g2, .int 0, .int 0, .int 0, .int (-1), .int 0, .int 0, .int 0, .long 0, .ref g3, .ref g4, .int 0, .int 0]), (h1, aI Y 3640 (clB 0 (fun _ => 0)))] rfl ?_
      refine V_if_ne_t 23 B 46 dX12_mapped_23 (by decide) (by decide +kernel) ?_
      refine V_iconst 46 B (v := 0) dX12_mapped_46 (by decide +kernel) ?_
      refine V_goto 47 B 60 dX12_mapped_47 (by decide) ?_
      exact V_iret 60 B dX12_mapped_60 () (Or.inr ⟨k2, rfl⟩) rfl)
theorem dX12_hold_0 : decode cX12_hold 0 = .ok (.aload_n 0, 1) := by decide +kernel
theorem dX12_hold_1 : decode cX12_hold 1 = .ok (.iconst 0, 1) := by decide +kernel
theorem dX12_hold_2 : decode cX12_hold 2 = .ok (.putfield 38, 3) := by decide +kernel
theorem dX12_hold_5 : decode cX12_hold 5 = .ok (.aload_n 0, 1) := by decide +kernel
theorem dX12_hold_6 : decode cX12_hold 6 = .ok (.iload_n 1, 1) := by decide +kernel
theorem dX12_hold_7 : decode cX12_hold 7 = .ok (.i2l, 1) := by decide +kernel
theorem dX12_hold_8 : decode cX12_hold 8 = .ok (.lconst 0, 1) := by decide +kernel
theorem dX12_hold_9 : decode cX12_hold 9 = .ok (.ldc2_w 207, 3) := by decide +kernel
theorem dX12_hold_12 : decode cX12_hold 12 = .ok (.invokestatic 41, 3) := by decide +kernel
theorem dX12_hold_15 : decode cX12_hold 15 = .ok (.ifCond .ne 7, 3) := by decide +kernel
theorem dX12_hold_22 : decode cX12_hold 22 = .ok (.iconst 0, 1) := by decide +kernel
theorem dX12_hold_23 : decode cX12_hold 23 = .ok (.iconst 1, 1) := by decide +kernel
theorem dX12_hold_24 : decode cX12_hold 24 = .ok (.invokevirtual 69, 3) := by decide +kernel
theorem dX12_hold_27 : decode cX12_hold 27 = .ok (.ifCond .eq 5, 3) := by decide +kernel
theorem dX12_hold_32 : decode cX12_hold 32 = .ok (.aload_n 0, 1) := by decide +kernel
theorem dX12_hold_33 : decode cX12_hold 33 = .ok (.getfield 9, 3) := by decide +kernel
theorem dX12_hold_36 : decode cX12_hold 36 = .ok (.bipush 14, 2) := by decide +kernel
theorem dX12_hold_38 : decode cX12_hold 38 = .ok (.iaload, 1) := by decide +kernel
theorem dX12_hold_39 : decode cX12_hold 39 = .ok (.istore_n 2, 1) := by decide +kernel
theorem dX12_hold_40 : decode cX12_hold 40 = .ok (.aload_n 0, 1) := by decide +kernel
theorem dX12_hold_41 : decode cX12_hold 41 = .ok (.getfield 9, 3) := by decide +kernel
theorem dX12_hold_44 : decode cX12_hold 44 = .ok (.bipush 14, 2) := by decide +kernel
theorem dX12_hold_46 : decode cX12_hold 46 = .ok (.iload_n 1, 1) := by decide +kernel
theorem dX12_hold_47 : decode cX12_hold 47 = .ok (.iastore, 1) := by decide +kernel
theorem dX12_hold_48 : decode cX12_hold 48 = .ok (.iload_n 2, 1) := by decide +kernel
theorem dX12_hold_49 : decode cX12_hold 49 = .ok (.ireturn, 1) := by decide +kernel
theorem dX12_hold_18 : decode cX12_hold 18 = .ok (.iconst 1, 1) := by decide +kernel
theorem dX12_hold_19 : decode cX12_hold 19 = .ok (.goto 4, 3) := by decide +kernel
theorem dX12_hold_30 : decode cX12_hold 30 = .ok (.iconst 0, 1) := by decide +kernel
theorem dX12_hold_31 : decode cX12_hold 31 = .ok (.ireturn, 1) := by decide +kernel
set_option maxRecDepth 100000 in
set_option maxHeartbeats 4000000 in
theorem mX12_hold_1 (l : Launch) (D : va_G) (Y : Nat → ClassId) (h0 : Nat) (h1 : Nat) (g0 : Nat) (g1 : Nat) (g2 : Nat) (g3 : Nat) (g4 : Nat) (p0 : Int32) (sz : Nat) : Met l yX12_hold (WSm yX12_hold cX12_hold 3 (some .int)) (mkR 1 0 0 25) (PreC D Y [.ref h0, .int p0] [(h0, oC 13 [.ref h1, .ref g0, .int 0, .ref g1, .ref g2, .int 0, .int 0, .int 0, .int (-1), .int 0, .int 0, .int 0, .long 0, .ref g3, .ref g4, .int 0, .int 0]), (h1, aI Y 3640 (clB 0 (fun _ => 0)))] sz) (QI D (fun (r : Int32) (u : Nat) => (u = 0 ∧ ¬ p0 < 0 ∧ ¬ 15 < p0 ∧ 0 = r) ∨ (u = 1 ∧ p0 < 0 ∧ 0 = r) ∨ (u = 2 ∧ 15 < p0 ∧ 0 = r)) (fun (u : Nat) => match u with | 0 => [(h0, oC 13 [.ref h1, .ref g0, .int 0, .ref g1, .ref g2, .int 0, .int 0, .int 0, .int (-1), .int 0, .int 0, .int 0, .long 0, .ref g3, .ref g4, .int 0, .int 0]), (h1, aI Y 3640 (upd (clB 0 (fun _ => 0)) 14 p0))] | 1 => [(h0, oC 13 [.ref h1, .ref g0, .int 1, .ref g1, .ref g2, .int 0, .int 0, .int 0, .int (-1), .int 0, .int 0, .int 0, .long 0, .ref g3, .ref g4, .int 0, .int 0]), (h1, aI Y 3640 (clB 0 (fun _ => 0)))] | _ => [(h0, oC 13 [.ref h1, .ref g0, .int 1, .ref g1, .ref g2, .int 0, .int 0, .int 0, .int (-1), .int 0, .int 0, .int 0, .long 0, .ref g3, .ref g4, .int 0, .int 0]), (h1, aI Y 3640 (clB 0 (fun _ => 0)))]) (va_A [(h0, oC 13 [.ref h1, .ref g0, .int 0, .ref g1, .ref g2, .int 0, .int 0, .int 0, .int (-1), .int 0, .int 0, .int 0, .long 0, .ref g3, .ref g4, .int 0, .int 0]), (h1, aI Y 3640 (clB 0 (fun _ => 0)))] sz)) 0 0 (va_A [(h0, oC 13 [.ref h1, .ref g0, .int 0, .ref g1, .ref g2, .int 0, .int 0, .int 0, .int (-1), .int 0, .int 0, .int 0, .long 0, .ref g3, .ref g4, .int 0, .int 0]), (h1, aI Y 3640 (clB 0 (fun _ => 0)))] sz) :=
  met_of (by decide +kernel) (Nat.le_of_ble_eq_true rfl) (fun p e s m args below meth c B hin hsz => by
    have B : VB p s m args meth c D Y (va_A [(h0, oC 13 [.ref h1, .ref g0, .int 0, .ref g1, .ref g2, .int 0, .int 0, .int 0, .int (-1), .int 0, .int 0, .int 0, .long 0, .ref g3, .ref g4, .int 0, .int 0]), (h1, aI Y 3640 (clB 0 (fun _ => 0)))] sz) cX12_hold 3 RX12 (some .int) := B
    refine V_aload_n 0 B dX12_hold_0 0 rfl ?_
    refine V_iconst 1 B (v := 0) dX12_hold_1 (by decide +kernel) ?_
    refine V_put 2 B gp_RX12_38 0 rfl (Nat.le_of_ble_eq_true rfl) rfl rfl dX12_hold_2 [(h0, oC 13 [.ref h1, .ref g0, .int 0, .ref g1, .ref g2, .int 0, .int 0, .int 0, .int (-1), .int 0, .int 0, .int 0, .long 0, .ref g3, .ref g4, .int 0, .int 0]), (h1, aI Y 3640 (clB 0 (fun _ => 0)))] rfl ?_
    refine V_aload_n 5 B dX12_hold_5 0 rfl ?_
    refine V_iload_n 6 B dX12_hold_6 1 rfl ?_
    refine V_i2l 7 B dX12_hold_7 rfl ?_
    refine V_lconst 8 B (v := 0) dX12_hold_8 (by decide +kernel) ?_
    refine V_ldc2 9 B (v := 15) dX12_hold_9 (mT9 80 rfl rfl) ?_
    refine V_csi 12 B (st := [.ref h0]) (As := [.long p0.toInt64, .long 0, .long 15]) (fun sz => mX12_inRange_m l D Y (p0) (0) (15) (0) (15) (by decide +kernel) (by decide +kernel) sz) glS_RX12_41 ⟨rfl, rfl⟩ ⟨(Nat.le_of_ble_eq_true rfl), (Nat.le_of_ble_eq_true rfl)⟩ ⟨(Nat.le_of_ble_eq_true rfl), (Nat.le_of_ble_eq_true rfl)⟩ [] rfl rfl (Nat.le_of_ble_eq_true rfl) rfl (fun _ _ _ => rfl) dX12_hold_12 (fun r0 u0 w0 => ?_)
    rcases w0 with ⟨k1, k2, rfl⟩ | ⟨k3, rfl⟩ | ⟨k4, rfl⟩
    ·
      refine V_ws [(h0, oC 13 [.ref h1, .ref g0, .int 0, .ref g1, .ref g2, .int 0, .int 0, .int 0, .int (-1), .int 0, .int 0, .int 0, .long 0, .ref g3, .ref g4, .int 0, .int 0]), (h1, aI Y 3640 (clB 0 (fun _ => 0)))] rfl ?_
      refine V_if_ne_t 15 B 22 dX12_hold_15 (by decide) (by decide +kernel) ?_
      refine V_iconst 22 B (v := 0) dX12_hold_22 (by decide +kernel) ?_
      refine V_iconst 23 B (v := 1) dX12_hold_23 (by decide +kernel) ?_
      refine V_cvi 24 B (st := []) (As := [.int 0, .int 1]) (fun sz => mX12_throwsIf_2 l D Y (h0) (h1) (g0) (g1) (g2) (g3) (g4) sz) glV_RX12_69 ⟨rfl, rfl⟩ ⟨(Nat.le_of_ble_eq_true rfl), (Nat.le_of_ble_eq_true rfl)⟩ ⟨(Nat.le_of_ble_eq_true rfl), (Nat.le_of_ble_eq_true rfl)⟩ [0] rfl 13 0 rfl rfl rfl rfl (Nat.le_of_ble_eq_true rfl) rfl (fun _ _ _ => rfl) dX12_hold_24 (fun r5 u5 w5 => ?_)
      obtain rfl := w5
      refine V_ws [(h0, oC 13 [.ref h1, .ref g0, .int 0, .ref g1, .ref g2, .int 0, .int 0, .int 0, .int (-1), .int 0, .int 0, .int 0, .long 0, .ref g3, .ref g4, .int 0, .int 0]), (h1, aI Y 3640 (clB 0 (fun _ => 0)))] rfl ?_
      refine V_if_eq_t 27 B 32 dX12_hold_27 (by decide) (by decide +kernel) ?_
      refine V_aload_n 32 B dX12_hold_32 0 rfl ?_
      refine V_get 33 B gf_RX12_9 0 rfl rfl dX12_hold_33 ?_
      refine V_bipush 36 B (v := 14) dX12_hold_36 (by decide +kernel) ?_
      refine V_iald 38 B (v := 0) 1 rfl (vpin _ _ (by decide +kernel)) dX12_hold_38 rfl ?_
      refine V_istore_n 39 B (lv2 := [(2, .int 0), (0, .ref h0), (1, .int p0)]) dX12_hold_39 (by decide) rfl ?_
      refine V_aload_n 40 B dX12_hold_40 1 rfl ?_
      refine V_get 41 B gf_RX12_9 0 rfl rfl dX12_hold_41 ?_
      refine V_bipush 44 B (v := 14) dX12_hold_44 (by decide +kernel) ?_
      refine V_iload_n 46 B dX12_hold_46 2 rfl ?_
      refine V_iast 47 B 1 rfl (vpin _ _ (by decide +kernel)) dX12_hold_47 [(h0, oC 13 [.ref h1, .ref g0, .int 0, .ref g1, .ref g2, .int 0, .int 0, .int 0, .int (-1), .int 0, .int 0, .int 0, .long 0, .ref g3, .ref g4, .int 0, .int 0]), (h1, aI Y 3640 (upd (clB 0 (fun _ => 0)) 14 p0))] rfl ?_
      refine V_iload_n 48 B dX12_hold_48 0 rfl ?_
      exact V_iret 49 B dX12_hold_49 0 (Or.inl ⟨rfl, k1, k2, rfl⟩) rfl
    ·
      refine V_ws [(h0, oC 13 [.ref h1, .ref g0, .int 0, .ref g1, .ref g2, .int 0, .int 0, .int 0, .int (-1), .int 0, .int 0, .int 0, .long 0, .ref g3, .ref g4, .int 0, .int 0]), (h1, aI Y 3640 (clB 0 (fun _ => 0)))] rfl ?_
      refine V_if_ne_f 15 B 22 dX12_hold_15 (by decide) (by decide +kernel) ?_
      refine V_iconst 18 B (v := 1) dX12_hold_18 (by decide +kernel) ?_
      refine V_goto 19 B 23 dX12_hold_19 (by decide) ?_
      refine V_iconst 23 B (v := 1) dX12_hold_23 (by decide +kernel) ?_
      refine V_cvi 24 B (st := []) (As := [.int 1, .int 1]) (fun sz => mX12_throwsIf_1 l D Y (h0) (h1) (g0) (g1) (g2) (g3) (g4) sz) glV_RX12_69 ⟨rfl, rfl⟩ ⟨(Nat.le_of_ble_eq_true rfl), (Nat.le_of_ble_eq_true rfl)⟩ ⟨(Nat.le_of_ble_eq_true rfl), (Nat.le_of_ble_eq_true rfl)⟩ [0] rfl 13 0 rfl rfl rfl rfl (Nat.le_of_ble_eq_true rfl) rfl (fun _ _ _ => rfl) dX12_hold_24 (fun r6 u6 w6 => ?_)
      obtain rfl := w6
      refine V_ws [(h0, oC 13 [.ref h1, .ref g0, .int 1, .ref g1, .ref g2, .int 0, .int 0, .int 0, .int (-1), .int 0, .int 0, .int 0, .long 0, .ref g3, .ref g4, .int 0, .int 0]), (h1, aI Y 3640 (clB 0 (fun _ => 0)))] rfl ?_
      refine V_if_eq_f 27 B 32 dX12_hold_27 (by decide) (by decide +kernel) ?_
      refine V_iconst 30 B (v := 0) dX12_hold_30 (by decide +kernel) ?_
      exact V_iret 31 B dX12_hold_31 1 (Or.inr (Or.inl ⟨rfl, k3, rfl⟩)) rfl
    ·
      refine V_ws [(h0, oC 13 [.ref h1, .ref g0, .int 0, .ref g1, .ref g2, .int 0, .int 0, .int 0, .int (-1), .int 0, .int 0, .int 0, .long 0, .ref g3, .ref g4, .int 0, .int 0]), (h1, aI Y 3640 (clB 0 (fun _ => 0)))] rfl ?_
      refine V_if_ne_f 15 B 22 dX12_hold_15 (by decide) (by decide +kernel) ?_
      refine V_iconst 18 B (v := 1) dX12_hold_18 (by decide +kernel) ?_
      refine V_goto 19 B 23 dX12_hold_19 (by decide) ?_
      refine V_iconst 23 B (v := 1) dX12_hold_23 (by decide +kernel) ?_
      refine V_cvi 24 B (st := []) (As := [.int 1, .int 1]) (fun sz => mX12_throwsIf_1 l D Y (h0) (h1) (g0) (g1) (g2) (g3) (g4) sz) glV_RX12_69 ⟨rfl, rfl⟩ ⟨(Nat.le_of_ble_eq_true rfl), (Nat.le_of_ble_eq_true rfl)⟩ ⟨(Nat.le_of_ble_eq_true rfl), (Nat.le_of_ble_eq_true rfl)⟩ [0] rfl 13 0 rfl rfl rfl rfl (Nat.le_of_ble_eq_true rfl) rfl (fun _ _ _ => rfl) dX12_hold_24 (fun r7 u7 w7 => ?_)
      obtain rfl := w7
      refine V_ws [(h0, oC 13 [.ref h1, .ref g0, .int 1, .ref g1, .ref g2, .int 0, .int 0, .int 0, .int (-1), .int 0, .int 0, .int 0, .long 0, .ref g3, .ref g4, .int 0, .int 0]), (h1, aI Y 3640 (clB 0 (fun _ => 0)))] rfl ?_
      refine V_if_eq_f 27 B 32 dX12_hold_27 (by decide) (by decide +kernel) ?_
      refine V_iconst 30 B (v := 0) dX12_hold_30 (by decide +kernel) ?_
      exact V_iret 31 B dX12_hold_31 2 (Or.inr (Or.inr ⟨rfl, k4, rfl⟩)) rfl)
theorem dX12_isKey_0 : decode cX12_isKey 0 = .ok (.iload_n 0, 1) := by decide +kernel
theorem dX12_isKey_1 : decode cX12_isKey 1 = .ok (.i2l, 1) := by decide +kernel
theorem dX12_isKey_2 : decode cX12_isKey 2 = .ok (.lconst 0, 1) := by decide +kernel
theorem dX12_isKey_3 : decode cX12_isKey 3 = .ok (.ldc2_w 202, 3) := by decide +kernel
theorem dX12_isKey_6 : decode cX12_isKey 6 = .ok (.invokestatic 41, 3) := by decide +kernel
theorem dX12_isKey_9 : decode cX12_isKey 9 = .ok (.ireturn, 1) := by decide +kernel
set_option maxRecDepth 100000 in
set_option maxHeartbeats 4000000 in
theorem mX12_isKey_1 (l : Launch) (D : va_G) (Y : Nat → ClassId) (p0 : Int32) (sz : Nat) : Met l yX12_isKey (WSm yX12_isKey cX12_isKey 1 (some .boolean)) (mkR 1 0 0 25) (PreC D Y [.int p0] [] sz) (QI D (fun (r : Int32) (u : Unit) => (¬ p0 < 0 ∧ ¬ 25 < p0 ∧ 1 = r) ∨ (p0 < 0 ∧ 0 = r) ∨ (25 < p0 ∧ 0 = r)) (fun (_ : Unit) => []) (va_A [] sz)) 0 0 (va_A [] sz) :=
  met_of (by decide +kernel) (Nat.le_of_ble_eq_true rfl) (fun p e s m args below meth c B hin hsz => by
    have B : VB p s m args meth c D Y (va_A [] sz) cX12_isKey 1 RX12 (some .boolean) := B
    refine V_iload_n 0 B dX12_isKey_0 0 rfl ?_
    refine V_i2l 1 B dX12_isKey_1 rfl ?_
    refine V_lconst 2 B (v := 0) dX12_isKey_2 (by decide +kernel) ?_
    refine V_ldc2 3 B (v := 25) dX12_isKey_3 (mT9 75 rfl rfl) ?_
    refine V_csi 6 B (st := []) (As := [.long p0.toInt64, .long 0, .long 25]) (fun sz => mX12_inRange_m l D Y (p0) (0) (25) (0) (25) (by decide +kernel) (by decide +kernel) sz) glS_RX12_41 ⟨rfl, rfl⟩ ⟨(Nat.le_of_ble_eq_true rfl), (Nat.le_of_ble_eq_true rfl)⟩ ⟨(Nat.le_of_ble_eq_true rfl), (Nat.le_of_ble_eq_true rfl)⟩ [] rfl rfl (Nat.le_of_ble_eq_true rfl) rfl (fun _ _ _ => rfl) dX12_isKey_6 (fun r0 u0 w0 => ?_)
    rcases w0 with ⟨k1, k2, rfl⟩ | ⟨k3, rfl⟩ | ⟨k4, rfl⟩
    ·
      refine V_ws [] rfl ?_
      exact V_zret 9 B rfl dX12_isKey_9 () (Or.inl ⟨k1, k2, rfl⟩) rfl
    ·
      refine V_ws [] rfl ?_
      exact V_zret 9 B rfl dX12_isKey_9 () (Or.inr (Or.inl ⟨k3, rfl⟩)) rfl
    ·
      refine V_ws [] rfl ?_
      exact V_zret 9 B rfl dX12_isKey_9 () (Or.inr (Or.inr ⟨k4, rfl⟩)) rfl)
theorem dX12_layerOf_0 : decode cX12_layerOf 0 = .ok (.iconst 0, 1) := by decide +kernel
theorem dX12_layerOf_1 : decode cX12_layerOf 1 = .ok (.istore_n 2, 1) := by decide +kernel
theorem dX12_layerOf_2 : decode cX12_layerOf 2 = .ok (.iload_n 2, 1) := by decide +kernel
theorem dX12_layerOf_3 : decode cX12_layerOf 3 = .ok (.aload_n 0, 1) := by decide +kernel
theorem dX12_layerOf_4 : decode cX12_layerOf 4 = .ok (.getfield 9, 3) := by decide +kernel
theorem dX12_layerOf_7 : decode cX12_layerOf 7 = .ok (.iconst 4, 1) := by decide +kernel
theorem dX12_layerOf_8 : decode cX12_layerOf 8 = .ok (.iaload, 1) := by decide +kernel
theorem dX12_layerOf_9 : decode cX12_layerOf 9 = .ok (.if_icmp .ge 21, 3) := by decide +kernel
theorem dX12_layerOf_30 : decode cX12_layerOf 30 = .ok (.iconst (-1), 1) := by decide +kernel
theorem dX12_layerOf_31 : decode cX12_layerOf 31 = .ok (.ireturn, 1) := by decide +kernel
set_option maxRecDepth 100000 in
set_option maxHeartbeats 4000000 in
theorem mX12_layerOf_1 (l : Launch) (D : va_G) (Y : Nat → ClassId) (h0 : Nat) (h1 : Nat) (g0 : Nat) (g1 : Nat) (g2 : Nat) (g3 : Nat) (g4 : Nat) (p0 : Int32) (sz : Nat) : Met l yX12_layerOf (WSm yX12_layerOf cX12_layerOf 3 (some .int)) (mkR 0 0 0 0) (PreC D Y [.ref h0, .int p0] [(h0, oC 13 [.ref h1, .ref g0, .int 0, .ref g1, .ref g2, .int 0, .int 0, .int 0, .int (-1), .int 0, .int 0, .int 0, .long 0, .ref g3, .ref g4, .int 0, .int 0]), (h1, aI Y 3640 (clB 0 (fun _ => 0)))] sz) (QI D (fun (r : Int32) (u : Unit) => (-1) = r) (fun (_ : Unit) => [(h0, oC 13 [.ref h1, .ref g0, .int 0, .ref g1, .ref g2, .int 0, .int 0, .int 0, .int (-1), .int 0, .int 0, .int 0, .long 0, .ref g3, .ref g4, .int 0, .int 0]), (h1, aI Y 3640 (clB 0 (fun _ => 0)))]) (va_A [(h0, oC 13 [.ref h1, .ref g0, .int 0, .ref g1, .ref g2, .int 0, .int 0, .int 0, .int (-1), .int 0, .int 0, .int 0, .long 0, .ref g3, .ref g4, .int 0, .int 0]), (h1, aI Y 3640 (clB 0 (fun _ => 0)))] sz)) 0 0 (va_A [(h0, oC 13 [.ref h1, .ref g0, .int 0, .ref g1, .ref g2, .int 0, .int 0, .int 0, .int (-1), .int 0, .int 0, .int 0, .long 0, .ref g3, .ref g4, .int 0, .int 0]), (h1, aI Y 3640 (clB 0 (fun _ => 0)))] sz) :=
  met_of (by decide +kernel) (Nat.le_of_ble_eq_true rfl) (fun p e s m args below meth c B hin hsz => by
    have B : VB p s m args meth c D Y (va_A [(h0, oC 13 [.ref h1, .ref g0, .int 0, .ref g1, .ref g2, .int 0, .int 0, .int 0, .int (-1), .int 0, .int 0, .int 0, .long 0, .ref g3, .ref g4, .int 0, .int 0]), (h1, aI Y 3640 (clB 0 (fun _ => 0)))] sz) cX12_layerOf 3 RX12 (some .int) := B
    refine V_iconst 0 B (v := 0) dX12_layerOf_0 (by decide +kernel) ?_
    refine V_istore_n 1 B (lv2 := [(2, .int 0), (0, .ref h0), (1, .int p0)]) dX12_layerOf_1 (by decide) rfl ?_
    refine V_iload_n 2 B dX12_layerOf_2 0 rfl ?_
    refine V_aload_n 3 B dX12_layerOf_3 1 rfl ?_
    refine V_get 4 B gf_RX12_9 0 rfl rfl dX12_layerOf_4 ?_
    refine V_iconst 7 B (v := 4) dX12_layerOf_7 (by decide +kernel) ?_
    refine V_iald 8 B (v := 0) 1 rfl (vpin _ _ (by decide +kernel)) dX12_layerOf_8 rfl ?_
    refine V_icmp_ge_t 9 B 30 dX12_layerOf_9 (by decide) (by decide +kernel) ?_
    refine V_iconst 30 B (v := (-1)) dX12_layerOf_30 (by decide +kernel) ?_
    exact V_iret 31 B dX12_layerOf_31 () rfl rfl)
theorem dX12_madeBy_0 : decode cX12_madeBy 0 = .ok (.iload_n 1, 1) := by decide +kernel
theorem dX12_madeBy_1 : decode cX12_madeBy 1 = .ok (.istore_n 2, 1) := by decide +kernel
theorem dX12_madeBy_2 : decode cX12_madeBy 2 = .ok (.iconst 0, 1) := by decide +kernel
theorem dX12_madeBy_3 : decode cX12_madeBy 3 = .ok (.istore_n 3, 1) := by decide +kernel
theorem dX12_madeBy_4 : decode cX12_madeBy 4 = .ok (.iload_n 3, 1) := by decide +kernel
theorem dX12_madeBy_5 : decode cX12_madeBy 5 = .ok (.aload_n 0, 1) := by decide +kernel
theorem dX12_madeBy_6 : decode cX12_madeBy 6 = .ok (.getfield 9, 3) := by decide +kernel
theorem dX12_madeBy_9 : decode cX12_madeBy 9 = .ok (.iconst 4, 1) := by decide +kernel
theorem dX12_madeBy_10 : decode cX12_madeBy 10 = .ok (.iaload, 1) := by decide +kernel
theorem dX12_madeBy_11 : decode cX12_madeBy 11 = .ok (.if_icmp .ge 41, 3) := by decide +kernel
theorem dX12_madeBy_52 : decode cX12_madeBy 52 = .ok (.bipush 32, 2) := by decide +kernel
theorem dX12_madeBy_54 : decode cX12_madeBy 54 = .ok (.aload_n 0, 1) := by decide +kernel
theorem dX12_madeBy_55 : decode cX12_madeBy 55 = .ok (.getfield 9, 3) := by decide +kernel
theorem dX12_madeBy_58 : decode cX12_madeBy 58 = .ok (.bipush 14, 2) := by decide +kernel
theorem dX12_madeBy_60 : decode cX12_madeBy 60 = .ok (.iaload, 1) := by decide +kernel
theorem dX12_madeBy_61 : decode cX12_madeBy 61 = .ok (.imul, 1) := by decide +kernel
theorem dX12_madeBy_62 : decode cX12_madeBy 62 = .ok (.iload_n 2, 1) := by decide +kernel
theorem dX12_madeBy_63 : decode cX12_madeBy 63 = .ok (.iadd, 1) := by decide +kernel
theorem dX12_madeBy_64 : decode cX12_madeBy 64 = .ok (.ireturn, 1) := by decide +kernel
set_option maxRecDepth 100000 in
set_option maxHeartbeats 4000000 in
theorem mX12_madeBy_1 (l : Launch) (D : va_G) (Y : Nat → ClassId) (h0 : Nat) (h1 : Nat) (g0 : Nat) (g1 : Nat) (g2 : Nat) (g3 : Nat) (g4 : Nat) (p0 : Int32) (sz : Nat) : Met l yX12_madeBy (WSm yX12_madeBy cX12_madeBy 4 (some .int)) (mkR 0 0 0 0) (PreC D Y [.ref h0, .int p0] [(h0, oC 13 [.ref h1, .ref g0, .int 0, .ref g1, .ref g2, .int 0, .int 0, .int 0, .int (-1), .int 0, .int 0, .int 0, .long 0, .ref g3, .ref g4, .int 0, .int 0]), (h1, aI Y 3640 (clB 0 (fun _ => 0)))] sz) (QI D (fun (r : Int32) (u : Unit) => p0 = r) (fun (_ : Unit) => [(h0, oC 13 [.ref h1, .ref g0, .int 0, .ref g1, .ref g2, .int 0, .int 0, .int 0, .int (-1), .int 0, .int 0, .int 0, .long 0, .ref g3, .ref g4, .int 0, .int 0]), (h1, aI Y 3640 (clB 0 (fun _ => 0)))]) (va_A [(h0, oC 13 [.ref h1, .ref g0, .int 0, .ref g1, .ref g2, .int 0, .int 0, .int 0, .int (-1), .int 0, .int 0, .int 0, .long 0, .ref g3, .ref g4, .int 0, .int 0]), (h1, aI Y 3640 (clB 0 (fun _ => 0)))] sz)) 0 0 (va_A [(h0, oC 13 [.ref h1, .ref g0, .int 0, .ref g1, .ref g2, .int 0, .int 0, .int 0, .int (-1), .int 0, .int 0, .int 0, .long 0, .ref g3, .ref g4, .int 0, .int 0]), (h1, aI Y 3640 (clB 0 (fun _ => 0)))] sz) :=
  met_of (by decide +kernel) (Nat.le_of_ble_eq_true rfl) (fun p e s m args below meth c B hin hsz => by
    have B : VB p s m args meth c D Y (va_A [(h0, oC 13 [.ref h1, .ref g0, .int 0, .ref g1, .ref g2, .int 0, .int 0, .int 0, .int (-1), .int 0, .int 0, .int 0, .long 0, .ref g3, .ref g4, .int 0, .int 0]), (h1, aI Y 3640 (clB 0 (fun _ => 0)))] sz) cX12_madeBy 4 RX12 (some .int) := B
    refine V_iload_n 0 B dX12_madeBy_0 1 rfl ?_
    refine V_istore_n 1 B (lv2 := [(2, .int p0), (0, .ref h0), (1, .int p0)]) dX12_madeBy_1 (by decide) rfl ?_
    refine V_iconst 2 B (v := 0) dX12_madeBy_2 (by decide +kernel) ?_
    refine V_istore_n 3 B (lv2 := [(3, .int 0), (2, .int p0), (0, .ref h0), (1, .int p0)]) dX12_madeBy_3 (by decide) rfl ?_
    refine V_iload_n 4 B dX12_madeBy_4 0 rfl ?_
    refine V_aload_n 5 B dX12_madeBy_5 2 rfl ?_
    refine V_get 6 B gf_RX12_9 0 rfl rfl dX12_madeBy_6 ?_
    refine V_iconst 9 B (v := 4) dX12_madeBy_9 (by decide +kernel) ?_
    refine V_iald 10 B (v := 0) 1 rfl (vpin _ _ (by decide +kernel)) dX12_madeBy_10 rfl ?_
    refine V_icmp_ge_t 11 B 52 dX12_madeBy_11 (by decide) (by decide +kernel) ?_
    refine V_bipush 52 B (v := 32) dX12_madeBy_52 (by decide +kernel) ?_
    refine V_aload_n 54 B dX12_madeBy_54 2 rfl ?_
    refine V_get 55 B gf_RX12_9 0 rfl rfl dX12_madeBy_55 ?_
    refine V_bipush 58 B (v := 14) dX12_madeBy_58 (by decide +kernel) ?_
    refine V_iald 60 B (v := 0) 1 rfl (vpin _ _ (by decide +kernel)) dX12_madeBy_60 rfl ?_
    refine V_imul 61 B (v := 0) dX12_madeBy_61 (by decide +kernel) ?_
    refine V_iload_n 62 B dX12_madeBy_62 1 rfl ?_
    refine V_iadd 63 B dX12_madeBy_63 (Int32.zero_add _) ?_
    exact V_iret 64 B dX12_madeBy_64 () rfl rfl)
theorem dX12_strokeOf_0 : decode cX12_strokeOf 0 = .ok (.aload_n 0, 1) := by decide +kernel
theorem dX12_strokeOf_1 : decode cX12_strokeOf 1 = .ok (.iconst 0, 1) := by decide +kernel
theorem dX12_strokeOf_2 : decode cX12_strokeOf 2 = .ok (.putfield 38, 3) := by decide +kernel
theorem dX12_strokeOf_5 : decode cX12_strokeOf 5 = .ok (.aload_n 0, 1) := by decide +kernel
theorem dX12_strokeOf_6 : decode cX12_strokeOf 6 = .ok (.iload_n 1, 1) := by decide +kernel
theorem dX12_strokeOf_7 : decode cX12_strokeOf 7 = .ok (.invokestatic 204, 3) := by decide +kernel
theorem glS_RX12_204 : GLS RX12 204 yX12_isKey cX12_isKey 1 (some .boolean) 1 := ⟨⟨(mT9 72 rfl rfl), (mT9 73 rfl rfl), (mT1 13 rfl rfl), (mT9 74 rfl rfl)⟩, by decide +kernel⟩
theorem dX12_strokeOf_10 : decode cX12_strokeOf 10 = .ok (.ifCond .ne 7, 3) := by decide +kernel
theorem dX12_strokeOf_17 : decode cX12_strokeOf 17 = .ok (.iconst 0, 1) := by decide +kernel
theorem dX12_strokeOf_18 : decode cX12_strokeOf 18 = .ok (.iconst 1, 1) := by decide +kernel
theorem dX12_strokeOf_19 : decode cX12_strokeOf 19 = .ok (.invokevirtual 69, 3) := by decide +kernel
theorem dX12_strokeOf_22 : decode cX12_strokeOf 22 = .ok (.ifCond .eq 7, 3) := by decide +kernel
theorem dX12_strokeOf_29 : decode cX12_strokeOf 29 = .ok (.aload_n 0, 1) := by decide +kernel
theorem dX12_strokeOf_30 : decode cX12_strokeOf 30 = .ok (.iload_n 1, 1) := by decide +kernel
theorem dX12_strokeOf_31 : decode cX12_strokeOf 31 = .ok (.invokevirtual 209, 3) := by decide +kernel
theorem glV_RX12_209 : GLV RX12 209 yX12_layerOf RX12 cX12_layerOf 3 (some .int) 1 := ⟨⟨(mT9 85 rfl rfl), (mT9 87 rfl rfl), (mTs 64 rfl rfl), (mT1 13 rfl rfl), (mT9 88 rfl rfl)⟩, by decide +kernel⟩
theorem dX12_strokeOf_34 : decode cX12_strokeOf 34 = .ok (.iconst (-1), 1) := by decide +kernel
theorem dX12_strokeOf_35 : decode cX12_strokeOf 35 = .ok (.if_icmp .ne 11, 3) := by decide +kernel
theorem dX12_strokeOf_38 : decode cX12_strokeOf 38 = .ok (.aload_n 0, 1) := by decide +kernel
theorem dX12_strokeOf_39 : decode cX12_strokeOf 39 = .ok (.iload_n 1, 1) := by decide +kernel
theorem dX12_strokeOf_40 : decode cX12_strokeOf 40 = .ok (.invokevirtual 212, 3) := by decide +kernel
theorem glV_RX12_212 : GLV RX12 212 yX12_madeBy RX12 cX12_madeBy 4 (some .int) 1 := ⟨⟨(mT9 89 rfl rfl), (mT9 91 rfl rfl), (mTs 65 rfl rfl), (mT1 13 rfl rfl), (mT9 92 rfl rfl)⟩, by decide +kernel⟩
theorem dX12_strokeOf_43 : decode cX12_strokeOf 43 = .ok (.goto 4, 3) := by decide +kernel
theorem dX12_strokeOf_47 : decode cX12_strokeOf 47 = .ok (.ireturn, 1) := by decide +kernel
theorem dX12_strokeOf_13 : decode cX12_strokeOf 13 = .ok (.iconst 1, 1) := by decide +kernel
theorem dX12_strokeOf_14 : decode cX12_strokeOf 14 = .ok (.goto 4, 3) := by decide +kernel
theorem dX12_strokeOf_25 : decode cX12_strokeOf 25 = .ok (.iconst 0, 1) := by decide +kernel
theorem dX12_strokeOf_26 : decode cX12_strokeOf 26 = .ok (.goto 21, 3) := by decide +kernel
set_option maxRecDepth 100000 in
set_option maxHeartbeats 4000000 in
theorem mX12_strokeOf_1 (l : Launch) (D : va_G) (Y : Nat → ClassId) (h0 : Nat) (h1 : Nat) (g0 : Nat) (g1 : Nat) (g2 : Nat) (g3 : Nat) (g4 : Nat) (p0 : Int32) (sz : Nat) : Met l yX12_strokeOf (WSm yX12_strokeOf cX12_strokeOf 2 (some .int)) (mkR 2 0 0 45) (PreC D Y [.ref h0, .int p0] [(h0, oC 13 [.ref h1, .ref g0, .int 0, .ref g1, .ref g2, .int 0, .int 0, .int 0, .int (-1), .int 0, .int 0, .int 0, .long 0, .ref g3, .ref g4, .int 0, .int 0]), (h1, aI Y 3640 (clB 0 (fun _ => 0)))] sz) (QI D (fun (r : Int32) (u : Nat) => (u = 0 ∧ ¬ p0 < 0 ∧ ¬ 25 < p0 ∧ p0 = r) ∨ (u = 1 ∧ p0 < 0 ∧ 0 = r) ∨ (u = 2 ∧ 25 < p0 ∧ 0 = r)) (fun (u : Nat) => match u with | 0 => [(h0, oC 13 [.ref h1, .ref g0, .int 0, .ref g1, .ref g2, .int 0, .int 0, .int 0, .int (-1), .int 0, .int 0, .int 0, .long 0, .ref g3, .ref g4, .int 0, .int 0]), (h1, aI Y 3640 (clB 0 (fun _ => 0)))] | 1 => [(h0, oC 13 [.ref h1, .ref g0, .int 1, .ref g1, .ref g2, .int 0, .int 0, .int 0, .int (-1), .int 0, .int 0, .int 0, .long 0, .ref g3, .ref g4, .int 0, .int 0]), (h1, aI Y 3640 (clB 0 (fun _ => 0)))] | _ => [(h0, oC 13 [.ref h1, .ref g0, .int 1, .ref g1, .ref g2, .int 0, .int 0, .int 0, .int (-1), .int 0, .int 0, .int 0, .long 0, .ref g3, .ref g4, .int 0, .int 0]), (h1, aI Y 3640 (clB 0 (fun _ => 0)))]) (va_A [(h0, oC 13 [.ref h1, .ref g0, .int 0, .ref g1, .ref g2, .int 0, .int 0, .int 0, .int (-1), .int 0, .int 0, .int 0, .long 0, .ref g3, .ref g4, .int 0, .int 0]), (h1, aI Y 3640 (clB 0 (fun _ => 0)))] sz)) 0 0 (va_A [(h0, oC 13 [.ref h1, .ref g0, .int 0, .ref g1, .ref g2, .int 0, .int 0, .int 0, .int (-1), .int 0, .int 0, .int 0, .long 0, .ref g3, .ref g4, .int 0, .int 0]), (h1, aI Y 3640 (clB 0 (fun _ => 0)))] sz) :=
  met_of (by decide +kernel) (Nat.le_of_ble_eq_true rfl) (fun p e s m args below meth c B hin hsz => by
    have B : VB p s m args meth c D Y (va_A [(h0, oC 13 [.ref h1, .ref g0, .int 0, .ref g1, .ref g2, .int 0, .int 0, .int 0, .int (-1), .int 0, .int 0, .int 0, .long 0, .ref g3, .ref g4, .int 0, .int 0]), (h1, aI Y 3640 (clB 0 (fun _ => 0)))] sz) cX12_strokeOf 2 RX12 (some .int) := B
    refine V_aload_n 0 B dX12_strokeOf_0 0 rfl ?_
    refine V_iconst 1 B (v := 0) dX12_strokeOf_1 (by decide +kernel) ?_
    refine V_put 2 B gp_RX12_38 0 rfl (Nat.le_of_ble_eq_true rfl) rfl rfl dX12_strokeOf_2 [(h0, oC 13 [.ref h1, .ref g0, .int 0, .ref g1, .ref g2, .int 0, .int 0, .int 0, .int (-1), .int 0, .int 0, .int 0, .long 0, .ref g3, .ref g4, .int 0, .int 0]), (h1, aI Y 3640 (clB 0 (fun _ => 0)))] rfl ?_
    refine V_aload_n 5 B dX12_strokeOf_5 0 rfl ?_
    refine V_iload_n 6 B dX12_strokeOf_6 1 rfl ?_
    refine V_csi 7 B (st := [.ref h0]) (As := [.int p0]) (fun sz => mX12_isKey_1 l D Y (p0) sz) glS_RX12_204 ⟨rfl, rfl⟩ ⟨(Nat.le_of_ble_eq_true rfl), (Nat.le_of_ble_eq_true rfl)⟩ ⟨(Nat.le_of_ble_eq_true rfl), (Nat.le_of_ble_eq_true rfl)⟩ [] rfl rfl (Nat.le_of_ble_eq_true rfl) rfl (fun _ _ _ => rfl) dX12_strokeOf_7 (fun r0 u0 w0 => ?_)
    rcases w0 with ⟨k1, k2, rfl⟩ | ⟨k3, rfl⟩ | ⟨k4, rfl⟩
    ·
      refine V_ws [(h0, oC 13 [.ref h1, .ref g0, .int 0, .ref g1, .ref g2, .int 0, .int 0, .int 0, .int (-1), .int 0, .int 0, .int 0, .long 0, .ref g3, .ref g4, .int 0, .int 0]), (h1, aI Y 3640 (clB 0 (fun _ => 0)))] rfl ?_
      refine V_if_ne_t 10 B 17 dX12_strokeOf_10 (by decide) (by decide +kernel) ?_
      refine V_iconst 17 B (v := 0) dX12_strokeOf_17 (by decide +kernel) ?_
      refine V_iconst 18 B (v := 1) dX12_strokeOf_18 (by decide +kernel) ?_
      refine V_cvi 19 B (st := []) (As := [.int 0, .int 1]) (fun sz => mX12_throwsIf_2 l D Y (h0) (h1) (g0) (g1) (g2) (g3) (g4) sz) glV_RX12_69 ⟨rfl, rfl⟩ ⟨(Nat.le_of_ble_eq_true rfl), (Nat.le_of_ble_eq_true rfl)⟩ ⟨(Nat.le_of_ble_eq_true rfl), (Nat.le_of_ble_eq_true rfl)⟩ [0] rfl 13 0 rfl rfl rfl rfl (Nat.le_of_ble_eq_true rfl) rfl (fun _ _ _ => rfl) dX12_strokeOf_19 (fun r5 u5 w5 => ?_)
      obtain rfl := w5
      refine V_ws [(h0, oC 13 [.ref h1, .ref g0, .int 0, .ref g1, .ref g2, .int 0, .int 0, .int 0, .int (-1), .int 0, .int 0, .int 0, .long 0, .ref g3, .ref g4, .int 0, .int 0]), (h1, aI Y 3640 (clB 0 (fun _ => 0)))] rfl ?_
      refine V_if_eq_t 22 B 29 dX12_strokeOf_22 (by decide) (by decide +kernel) ?_
      refine V_aload_n 29 B dX12_strokeOf_29 0 rfl ?_
      refine V_iload_n 30 B dX12_strokeOf_30 1 rfl ?_
      refine V_cvi 31 B (st := []) (As := [.int p0]) (fun sz => mX12_layerOf_1 l D Y (h0) (h1) (g0) (g1) (g2) (g3) (g4) (p0) sz) glV_RX12_209 ⟨rfl, rfl⟩ ⟨(Nat.le_of_ble_eq_true rfl), (Nat.le_of_ble_eq_true rfl)⟩ ⟨(Nat.le_of_ble_eq_true rfl), (Nat.le_of_ble_eq_true rfl)⟩ [0, 0] rfl 13 0 rfl rfl rfl rfl (Nat.le_of_ble_eq_true rfl) rfl (fun _ _ _ => rfl) dX12_strokeOf_31 (fun r6 u6 w6 => ?_)
      obtain rfl := w6
      refine V_ws [(h0, oC 13 [.ref h1, .ref g0, .int 0, .ref g1, .ref g2, .int 0, .int 0, .int 0, .int (-1), .int 0, .int 0, .int 0, .long 0, .ref g3, .ref g4, .int 0, .int 0]), (h1, aI Y 3640 (clB 0 (fun _ => 0)))] rfl ?_
      refine V_iconst 34 B (v := (-1)) dX12_strokeOf_34 (by decide +kernel) ?_
      refine V_icmp_ne_f 35 B 46 dX12_strokeOf_35 (by decide) (by decide +kernel) ?_
      refine V_aload_n 38 B dX12_strokeOf_38 0 rfl ?_
      refine V_iload_n 39 B dX12_strokeOf_39 1 rfl ?_
      refine V_cvi 40 B (st := []) (As := [.int p0]) (fun sz => mX12_madeBy_1 l D Y (h0) (h1) (g0) (g1) (g2) (g3) (g4) (p0) sz) glV_RX12_212 ⟨rfl, rfl⟩ ⟨(Nat.le_of_ble_eq_true rfl), (Nat.le_of_ble_eq_true rfl)⟩ ⟨(Nat.le_of_ble_eq_true rfl), (Nat.le_of_ble_eq_true rfl)⟩ [0, 0] rfl 13 0 rfl rfl rfl rfl (Nat.le_of_ble_eq_true rfl) rfl (fun _ _ _ => rfl) dX12_strokeOf_40 (fun r7 u7 w7 => ?_)
      obtain rfl := w7
      refine V_ws [(h0, oC 13 [.ref h1, .ref g0, .int 0, .ref g1, .ref g2, .int 0, .int 0, .int 0, .int (-1), .int 0, .int 0, .int 0, .long 0, .ref g3, .ref g4, .int 0, .int 0]), (h1, aI Y 3640 (clB 0 (fun _ => 0)))] rfl ?_
      refine V_goto 43 B 47 dX12_strokeOf_43 (by decide) ?_
      exact V_iret 47 B dX12_strokeOf_47 0 (Or.inl ⟨rfl, k1, k2, rfl⟩) rfl
    ·
      refine V_ws [(h0, oC 13 [.ref h1, .ref g0, .int 0, .ref g1, .ref g2, .int 0, .int 0, .int 0, .int (-1), .int 0, .int 0, .int 0, .long 0, .ref g3, .ref g4, .int 0, .int 0]), (h1, aI Y 3640 (clB 0 (fun _ => 0)))] rfl ?_
      refine V_if_ne_f 10 B 17 dX12_strokeOf_10 (by decide) (by decide +kernel) ?_
      refine V_iconst 13 B (v := 1) dX12_strokeOf_13 (by decide +kernel) ?_
      refine V_goto 14 B 18 dX12_strokeOf_14 (by decide) ?_
      refine V_iconst 18 B (v := 1) dX12_strokeOf_18 (by decide +kernel) ?_
      refine V_cvi 19 B (st := []) (As := [.int 1, .int 1]) (fun sz => mX12_throwsIf_1 l D Y (h0) (h1) (g0) (g1) (g2) (g3) (g4) sz) glV_RX12_69 ⟨rfl, rfl⟩ ⟨(Nat.le_of_ble_eq_true rfl), (Nat.le_of_ble_eq_true rfl)⟩ ⟨(Nat.le_of_ble_eq_true rfl), (Nat.le_of_ble_eq_true rfl)⟩ [0] rfl 13 0 rfl rfl rfl rfl (Nat.le_of_ble_eq_true rfl) rfl (fun _ _ _ => rfl) dX12_strokeOf_19 (fun r8 u8 w8 => ?_)
      obtain rfl := w8
      refine V_ws [(h0, oC 13 [.ref h1, .ref g0, .int 1, .ref g1, .ref g2, .int 0, .int 0, .int 0, .int (-1), .int 0, .int 0, .int 0, .long 0, .ref g3, .ref g4, .int 0, .int 0]), (h1, aI Y 3640 (clB 0 (fun _ => 0)))] rfl ?_
      refine V_if_eq_f 22 B 29 dX12_strokeOf_22 (by decide) (by decide +kernel) ?_
      refine V_iconst 25 B (v := 0) dX12_strokeOf_25 (by decide +kernel) ?_
      refine V_goto 26 B 47 dX12_strokeOf_26 (by decide) ?_
      exact V_iret 47 B dX12_strokeOf_47 1 (Or.inr (Or.inl ⟨rfl, k3, rfl⟩)) rfl
    ·
      refine V_ws [(h0, oC 13 [.ref h1, .ref g0, .int 0, .ref g1, .ref g2, .int 0, .int 0, .int 0, .int (-1), .int 0, .int 0, .int 0, .long 0, .ref g3, .ref g4, .int 0, .int 0]), (h1, aI Y 3640 (clB 0 (fun _ => 0)))] rfl ?_
      refine V_if_ne_f 10 B 17 dX12_strokeOf_10 (by decide) (by decide +kernel) ?_
      refine V_iconst 13 B (v := 1) dX12_strokeOf_13 (by decide +kernel) ?_
      refine V_goto 14 B 18 dX12_strokeOf_14 (by decide) ?_
      refine V_iconst 18 B (v := 1) dX12_strokeOf_18 (by decide +kernel) ?_
      refine V_cvi 19 B (st := []) (As := [.int 1, .int 1]) (fun sz => mX12_throwsIf_1 l D Y (h0) (h1) (g0) (g1) (g2) (g3) (g4) sz) glV_RX12_69 ⟨rfl, rfl⟩ ⟨(Nat.le_of_ble_eq_true rfl), (Nat.le_of_ble_eq_true rfl)⟩ ⟨(Nat.le_of_ble_eq_true rfl), (Nat.le_of_ble_eq_true rfl)⟩ [0] rfl 13 0 rfl rfl rfl rfl (Nat.le_of_ble_eq_true rfl) rfl (fun _ _ _ => rfl) dX12_strokeOf_19 (fun r9 u9 w9 => ?_)
      obtain rfl := w9
      refine V_ws [(h0, oC 13 [.ref h1, .ref g0, .int 1, .ref g1, .ref g2, .int 0, .int 0, .int 0, .int (-1), .int 0, .int 0, .int 0, .long 0, .ref g3, .ref g4, .int 0, .int 0]), (h1, aI Y 3640 (clB 0 (fun _ => 0)))] rfl ?_
      refine V_if_eq_f 22 B 29 dX12_strokeOf_22 (by decide) (by decide +kernel) ?_
      refine V_iconst 25 B (v := 0) dX12_strokeOf_25 (by decide +kernel) ?_
      refine V_goto 26 B 47 dX12_strokeOf_26 (by decide) ?_
      exact V_iret 47 B dX12_strokeOf_47 2 (Or.inr (Or.inr ⟨rfl, k4, rfl⟩)) rfl)
theorem dX12_visibleWith_0 : decode cX12_visibleWith 0 = .ok (.iconst 0, 1) := by decide +kernel
theorem dX12_visibleWith_1 : decode cX12_visibleWith 1 = .ok (.istore_n 3, 1) := by decide +kernel
theorem dX12_visibleWith_2 : decode cX12_visibleWith 2 = .ok (.iload_n 3, 1) := by decide +kernel
theorem dX12_visibleWith_3 : decode cX12_visibleWith 3 = .ok (.aload_n 0, 1) := by decide +kernel
theorem dX12_visibleWith_4 : decode cX12_visibleWith 4 = .ok (.getfield 9, 3) := by decide +kernel
theorem dX12_visibleWith_7 : decode cX12_visibleWith 7 = .ok (.iconst 3, 1) := by decide +kernel
theorem dX12_visibleWith_8 : decode cX12_visibleWith 8 = .ok (.iaload, 1) := by decide +kernel
theorem dX12_visibleWith_9 : decode cX12_visibleWith 9 = .ok (.if_icmp .ge 32, 3) := by decide +kernel
theorem dX12_visibleWith_41 : decode cX12_visibleWith 41 = .ok (.iconst (-1), 1) := by decide +kernel
theorem dX12_visibleWith_42 : decode cX12_visibleWith 42 = .ok (.ireturn, 1) := by decide +kernel
set_option maxRecDepth 100000 in
set_option maxHeartbeats 4000000 in
theorem mX12_visibleWith_1 (l : Launch) (D : va_G) (Y : Nat → ClassId) (h0 : Nat) (h1 : Nat) (g0 : Nat) (g1 : Nat) (g2 : Nat) (g3 : Nat) (g4 : Nat) (p0 : Int32) (sz : Nat) : Met l yX12_visibleWith (WSm yX12_visibleWith cX12_visibleWith 4 (some .int)) (mkR 0 0 0 0) (PreC D Y [.ref h0, .int 0, .int 3629] [(h0, oC 13 [.ref h1, .ref g0, .int 0, .ref g1, .ref g2, .int 0, .int 0, .int 0, .int (-1), .int 0, .int 0, .int 0, .long 0, .ref g3, .ref g4, .int 0, .int 0]), (h1, aI Y 3640 (upd (upd (upd (upd (clB 0 (fun _ => 0)) 13 1) 10 0) 3629 1) 3630 p0))] sz) (QI D (fun (r : Int32) (u : Unit) => (-1) = r) (fun (_ : Unit) => [(h0, oC 13 [.ref h1, .ref g0, .int 0, .ref g1, .ref g2, .int 0, .int 0, .int 0, .int (-1), .int 0, .int 0, .int 0, .long 0, .ref g3, .ref g4, .int 0, .int 0]), (h1, aI Y 3640 (upd (upd (upd (upd (clB 0 (fun _ => 0)) 13 1) 10 0) 3629 1) 3630 p0))]) (va_A [(h0, oC 13 [.ref h1, .ref g0, .int 0, .ref g1, .ref g2, .int 0, .int 0, .int 0, .int (-1), .int 0, .int 0, .int 0, .long 0, .ref g3, .ref g4, .int 0, .int 0]), (h1, aI Y 3640 (upd (upd (upd (upd (clB 0 (fun _ => 0)) 13 1) 10 0) 3629 1) 3630 p0))] sz)) 0 0 (va_A [(h0, oC 13 [.ref h1, .ref g0, .int 0, .ref g1, .ref g2, .int 0, .int 0, .int 0, .int (-1), .int 0, .int 0, .int 0, .long 0, .ref g3, .ref g4, .int 0, .int 0]), (h1, aI Y 3640 (upd (upd (upd (upd (clB 0 (fun _ => 0)) 13 1) 10 0) 3629 1) 3630 p0))] sz) :=
  met_of (by decide +kernel) (Nat.le_of_ble_eq_true rfl) (fun p e s m args below meth c B hin hsz => by
    have B : VB p s m args meth c D Y (va_A [(h0, oC 13 [.ref h1, .ref g0, .int 0, .ref g1, .ref g2, .int 0, .int 0, .int 0, .int (-1), .int 0, .int 0, .int 0, .long 0, .ref g3, .ref g4, .int 0, .int 0]), (h1, aI Y 3640 (upd (upd (upd (upd (clB 0 (fun _ => 0)) 13 1) 10 0) 3629 1) 3630 p0))] sz) cX12_visibleWith 4 RX12 (some .int) := B
    refine V_iconst 0 B (v := 0) dX12_visibleWith_0 (by decide +kernel) ?_
    refine V_istore_n 1 B (lv2 := [(3, .int 0), (0, .ref h0), (1, .int 0), (2, .int 3629)]) dX12_visibleWith_1 (by decide) rfl ?_
    refine V_iload_n 2 B dX12_visibleWith_2 0 rfl ?_
    refine V_aload_n 3 B dX12_visibleWith_3 1 rfl ?_
    refine V_get 4 B gf_RX12_9 0 rfl rfl dX12_visibleWith_4 ?_
    refine V_iconst 7 B (v := 3) dX12_visibleWith_7 (by decide +kernel) ?_
    refine V_iald 8 B (v := 0) 1 rfl (vpin _ _ (by decide +kernel)) dX12_visibleWith_8 rfl ?_
    refine V_icmp_ge_t 9 B 41 dX12_visibleWith_9 (by decide) (by decide +kernel) ?_
    refine V_iconst 41 B (v := (-1)) dX12_visibleWith_41 (by decide +kernel) ?_
    exact V_iret 42 B dX12_visibleWith_42 () rfl rfl)
set_option maxRecDepth 100000 in
set_option maxHeartbeats 4000000 in
theorem mX12_continued_2 (l : Launch) (D : va_G) (Y : Nat → ClassId) (h0 : Nat) (h1 : Nat) (g0 : Nat) (g1 : Nat) (g2 : Nat) (g3 : Nat) (g4 : Nat) (p0 : Int32) (sz : Nat) : Met l yX12_continued (WSm yX12_continued cX12_continued 5 (some .int)) (mkR 0 0 0 0) (PreC D Y [.ref h0, .int 0, .int 3629] [(h0, oC 13 [.ref h1, .ref g0, .int 0, .ref g1, .ref g2, .int 0, .int 0, .int 0, .int (-1), .int 0, .int 0, .int 0, .long 0, .ref g3, .ref g4, .int 0, .int 0]), (h1, aI Y 3640 (upd (upd (upd (upd (clB 0 (fun _ => 0)) 13 1) 10 0) 3629 1) 3630 p0))] sz) (QI D (fun (r : Int32) (u : Unit) => 0 = r) (fun (_ : Unit) => [(h0, oC 13 [.ref h1, .ref g0, .int 0, .ref g1, .ref g2, .int 0, .int 0, .int 0, .int (-1), .int 0, .int 0, .int 0, .long 0, .ref g3, .ref g4, .int 0, .int 0]), (h1, aI Y 3640 (upd (upd (upd (upd (clB 0 (fun _ => 0)) 13 1) 10 0) 3629 1) 3630 p0))]) (va_A [(h0, oC 13 [.ref h1, .ref g0, .int 0, .ref g1, .ref g2, .int 0, .int 0, .int 0, .int (-1), .int 0, .int 0, .int 0, .long 0, .ref g3, .ref g4, .int 0, .int 0]), (h1, aI Y 3640 (upd (upd (upd (upd (clB 0 (fun _ => 0)) 13 1) 10 0) 3629 1) 3630 p0))] sz)) 0 0 (va_A [(h0, oC 13 [.ref h1, .ref g0, .int 0, .ref g1, .ref g2, .int 0, .int 0, .int 0, .int (-1), .int 0, .int 0, .int 0, .long 0, .ref g3, .ref g4, .int 0, .int 0]), (h1, aI Y 3640 (upd (upd (upd (upd (clB 0 (fun _ => 0)) 13 1) 10 0) 3629 1) 3630 p0))] sz) :=
  met_of (by decide +kernel) (Nat.le_of_ble_eq_true rfl) (fun p e s m args below meth c B hin hsz => by
    have B : VB p s m args meth c D Y (va_A [(h0, oC 13 [.ref h1, .ref g0, .int 0, .ref g1, .ref g2, .int 0, .int 0, .int 0, .int (-1), .int 0, .int 0, .int 0, .long 0, .ref g3, .ref g4, .int 0, .int 0]), (h1, aI Y 3640 (upd (upd (upd (upd (clB 0 (fun _ => 0)) 13 1) 10 0) 3629 1) 3630 p0))] sz) cX12_continued 5 RX12 (some .int) := B
    refine V_iconst 0 B (v := 0) dX12_continued_0 (by decide +kernel) ?_
    refine V_istore_n 1 B (lv2 := [(3, .int 0), (0, .ref h0), (1, .int 0), (2, .int 3629)]) dX12_continued_1 (by decide) rfl ?_
    refine V_iconst 2 B (v := 0) dX12_continued_2 (by decide +kernel) ?_
    refine V_istore 3 B (lv2 := [(4, .int 0), (3, .int 0), (0, .ref h0), (1, .int 0), (2, .int 3629)]) dX12_continued_3 (by decide) rfl ?_
    refine V_iload 5 B dX12_continued_5 0 rfl ?_
    refine V_aload_n 7 B dX12_continued_7 2 rfl ?_
    refine V_get 8 B gf_RX12_9 0 rfl rfl dX12_continued_8 ?_
    refine V_iconst 11 B (v := 3) dX12_continued_11 (by decide +kernel) ?_
    refine V_iald 12 B (v := 0) 1 rfl (vpin _ _ (by decide +kernel)) dX12_continued_12 rfl ?_
    refine V_icmp_ge_t 13 B 53 dX12_continued_13 (by decide) (by decide +kernel) ?_
    refine V_iload_n 53 B dX12_continued_53 1 rfl ?_
    exact V_iret 54 B dX12_continued_54 () rfl rfl)
theorem dX12_makes_0 : decode cX12_makes 0 = .ok (.iconst 1, 1) := by decide +kernel
theorem dX12_makes_1 : decode cX12_makes 1 = .ok (.istore_n 2, 1) := by decide +kernel
theorem dX12_makes_2 : decode cX12_makes 2 = .ok (.iload_n 2, 1) := by decide +kernel
theorem dX12_makes_3 : decode cX12_makes 3 = .ok (.ifCond .eq 229, 3) := by decide +kernel
theorem dX12_makes_6 : decode cX12_makes 6 = .ok (.aload_n 0, 1) := by decide +kernel
theorem dX12_makes_7 : decode cX12_makes 7 = .ok (.getfield 9, 3) := by decide +kernel
theorem dX12_makes_10 : decode cX12_makes 10 = .ok (.bipush 13, 2) := by decide +kernel
theorem dX12_makes_12 : decode cX12_makes 12 = .ok (.dup2, 1) := by decide +kernel
theorem dX12_makes_13 : decode cX12_makes 13 = .ok (.iaload, 1) := by decide +kernel
theorem dX12_makes_14 : decode cX12_makes 14 = .ok (.iconst 1, 1) := by decide +kernel
theorem dX12_makes_15 : decode cX12_makes 15 = .ok (.iadd, 1) := by decide +kernel
theorem dX12_makes_16 : decode cX12_makes 16 = .ok (.iastore, 1) := by decide +kernel
theorem dX12_makes_17 : decode cX12_makes 17 = .ok (.aload_n 0, 1) := by decide +kernel
theorem dX12_makes_18 : decode cX12_makes 18 = .ok (.getfield 9, 3) := by decide +kernel
theorem dX12_makes_21 : decode cX12_makes 21 = .ok (.bipush 10, 2) := by decide +kernel
theorem dX12_makes_23 : decode cX12_makes 23 = .ok (.aload_n 0, 1) := by decide +kernel
theorem dX12_makes_24 : decode cX12_makes 24 = .ok (.getfield 9, 3) := by decide +kernel
theorem dX12_makes_27 : decode cX12_makes 27 = .ok (.bipush 9, 2) := by decide +kernel
theorem dX12_makes_29 : decode cX12_makes 29 = .ok (.iaload, 1) := by decide +kernel
theorem dX12_makes_30 : decode cX12_makes 30 = .ok (.iastore, 1) := by decide +kernel
theorem dX12_makes_31 : decode cX12_makes 31 = .ok (.aload_n 0, 1) := by decide +kernel
theorem dX12_makes_32 : decode cX12_makes 32 = .ok (.getfield 9, 3) := by decide +kernel
theorem dX12_makes_35 : decode cX12_makes 35 = .ok (.sipush 3629, 3) := by decide +kernel
theorem dX12_makes_38 : decode cX12_makes 38 = .ok (.aload_n 0, 1) := by decide +kernel
theorem dX12_makes_39 : decode cX12_makes 39 = .ok (.getfield 9, 3) := by decide +kernel
theorem dX12_makes_42 : decode cX12_makes 42 = .ok (.bipush 8, 2) := by decide +kernel
theorem dX12_makes_44 : decode cX12_makes 44 = .ok (.iaload, 1) := by decide +kernel
theorem dX12_makes_45 : decode cX12_makes 45 = .ok (.iconst 1, 1) := by decide +kernel
theorem dX12_makes_46 : decode cX12_makes 46 = .ok (.iadd, 1) := by decide +kernel
theorem dX12_makes_47 : decode cX12_makes 47 = .ok (.iastore, 1) := by decide +kernel
theorem dX12_makes_48 : decode cX12_makes 48 = .ok (.iconst 0, 1) := by decide +kernel
theorem dX12_makes_49 : decode cX12_makes 49 = .ok (.istore_n 3, 1) := by decide +kernel
theorem dX12_makes_50 : decode cX12_makes 50 = .ok (.iload_n 3, 1) := by decide +kernel
theorem dX12_makes_51 : decode cX12_makes 51 = .ok (.aload_n 0, 1) := by decide +kernel
theorem dX12_makes_52 : decode cX12_makes 52 = .ok (.getfield 9, 3) := by decide +kernel
theorem dX12_makes_55 : decode cX12_makes 55 = .ok (.bipush 8, 2) := by decide +kernel
theorem dX12_makes_57 : decode cX12_makes 57 = .ok (.iaload, 1) := by decide +kernel
theorem dX12_makes_58 : decode cX12_makes 58 = .ok (.if_icmp .ge 28, 3) := by decide +kernel
theorem dX12_makes_86 : decode cX12_makes 86 = .ok (.aload_n 0, 1) := by decide +kernel
theorem dX12_makes_87 : decode cX12_makes 87 = .ok (.getfield 9, 3) := by decide +kernel
theorem dX12_makes_90 : decode cX12_makes 90 = .ok (.sipush 3629, 3) := by decide +kernel
theorem dX12_makes_93 : decode cX12_makes 93 = .ok (.aload_n 0, 1) := by decide +kernel
theorem dX12_makes_94 : decode cX12_makes 94 = .ok (.getfield 9, 3) := by decide +kernel
theorem dX12_makes_97 : decode cX12_makes 97 = .ok (.sipush 3629, 3) := by decide +kernel
theorem dX12_makes_100 : decode cX12_makes 100 = .ok (.iaload, 1) := by decide +kernel
theorem dX12_makes_101 : decode cX12_makes 101 = .ok (.iadd, 1) := by decide +kernel
theorem dX12_makes_102 : decode cX12_makes 102 = .ok (.iload_n 1, 1) := by decide +kernel
theorem dX12_makes_103 : decode cX12_makes 103 = .ok (.iastore, 1) := by decide +kernel
theorem dX12_makes_104 : decode cX12_makes 104 = .ok (.aload_n 0, 1) := by decide +kernel
theorem dX12_makes_105 : decode cX12_makes 105 = .ok (.aload_n 0, 1) := by decide +kernel
theorem dX12_makes_106 : decode cX12_makes 106 = .ok (.getfield 9, 3) := by decide +kernel
theorem dX12_makes_109 : decode cX12_makes 109 = .ok (.bipush 6, 2) := by decide +kernel
theorem dX12_makes_111 : decode cX12_makes 111 = .ok (.iaload, 1) := by decide +kernel
theorem dX12_makes_112 : decode cX12_makes 112 = .ok (.sipush 3629, 3) := by decide +kernel
theorem dX12_makes_115 : decode cX12_makes 115 = .ok (.invokevirtual 157, 3) := by decide +kernel
theorem glV_RX12_157 : GLV RX12 157 yX12_visibleWith RX12 cX12_visibleWith 4 (some .int) 2 := ⟨⟨(mT8 176 rfl rfl), (mT8 178 rfl rfl), (mTs 53 rfl rfl), (mT1 13 rfl rfl), (mT8 179 rfl rfl)⟩, by decide +kernel⟩
theorem dX12_makes_118 : decode cX12_makes 118 = .ok (.istore_n 3, 1) := by decide +kernel
theorem dX12_makes_119 : decode cX12_makes 119 = .ok (.iload_n 3, 1) := by decide +kernel
theorem dX12_makes_120 : decode cX12_makes 120 = .ok (.iconst (-1), 1) := by decide +kernel
theorem dX12_makes_121 : decode cX12_makes 121 = .ok (.if_icmp .eq 27, 3) := by decide +kernel
theorem dX12_makes_148 : decode cX12_makes 148 = .ok (.aload_n 0, 1) := by decide +kernel
theorem dX12_makes_149 : decode cX12_makes 149 = .ok (.aload_n 0, 1) := by decide +kernel
theorem dX12_makes_150 : decode cX12_makes 150 = .ok (.getfield 9, 3) := by decide +kernel
theorem dX12_makes_153 : decode cX12_makes 153 = .ok (.bipush 6, 2) := by decide +kernel
theorem dX12_makes_155 : decode cX12_makes 155 = .ok (.iaload, 1) := by decide +kernel
theorem dX12_makes_156 : decode cX12_makes 156 = .ok (.sipush 3629, 3) := by decide +kernel
theorem dX12_makes_159 : decode cX12_makes 159 = .ok (.invokevirtual 160, 3) := by decide +kernel
theorem dX12_makes_162 : decode cX12_makes 162 = .ok (.ifCond .le 32, 3) := by decide +kernel
theorem dX12_makes_194 : decode cX12_makes 194 = .ok (.aload_n 0, 1) := by decide +kernel
theorem dX12_makes_195 : decode cX12_makes 195 = .ok (.getfield 9, 3) := by decide +kernel
theorem dX12_makes_198 : decode cX12_makes 198 = .ok (.bipush 12, 2) := by decide +kernel
theorem dX12_makes_200 : decode cX12_makes 200 = .ok (.dup2, 1) := by decide +kernel
theorem dX12_makes_201 : decode cX12_makes 201 = .ok (.iaload, 1) := by decide +kernel
theorem dX12_makes_202 : decode cX12_makes 202 = .ok (.iconst 1, 1) := by decide +kernel
theorem dX12_makes_203 : decode cX12_makes 203 = .ok (.iadd, 1) := by decide +kernel
theorem dX12_makes_204 : decode cX12_makes 204 = .ok (.iastore, 1) := by decide +kernel
theorem dX12_makes_205 : decode cX12_makes 205 = .ok (.aload_n 0, 1) := by decide +kernel
theorem dX12_makes_206 : decode cX12_makes 206 = .ok (.getfield 9, 3) := by decide +kernel
theorem dX12_makes_209 : decode cX12_makes 209 = .ok (.bipush 8, 2) := by decide +kernel
theorem dX12_makes_211 : decode cX12_makes 211 = .ok (.iaload, 1) := by decide +kernel
theorem dX12_makes_212 : decode cX12_makes 212 = .ok (.ifCond .le 7, 3) := by decide +kernel
theorem dX12_makes_219 : decode cX12_makes 219 = .ok (.iconst 0, 1) := by decide +kernel
theorem dX12_makes_220 : decode cX12_makes 220 = .ok (.istore_n 2, 1) := by decide +kernel
theorem dX12_makes_221 : decode cX12_makes 221 = .ok (.aload_n 0, 1) := by decide +kernel
theorem dX12_makes_222 : decode cX12_makes 222 = .ok (.getfield 9, 3) := by decide +kernel
theorem dX12_makes_225 : decode cX12_makes 225 = .ok (.bipush 8, 2) := by decide +kernel
theorem dX12_makes_227 : decode cX12_makes 227 = .ok (.iconst 0, 1) := by decide +kernel
theorem dX12_makes_228 : decode cX12_makes 228 = .ok (.iastore, 1) := by decide +kernel
theorem dX12_makes_229 : decode cX12_makes 229 = .ok (.goto (-227), 3) := by decide +kernel
theorem dX12_makes_232 : decode cX12_makes 232 = .ok (.iconst (-1), 1) := by decide +kernel
theorem dX12_makes_233 : decode cX12_makes 233 = .ok (.ireturn, 1) := by decide +kernel
set_option maxRecDepth 100000 in
set_option maxHeartbeats 4000000 in
theorem mX12_makes_1 (l : Launch) (D : va_G) (Y : Nat → ClassId) (h0 : Nat) (h1 : Nat) (g0 : Nat) (g1 : Nat) (g2 : Nat) (g3 : Nat) (g4 : Nat) (p0 : Int32) (sz : Nat) : Met l yX12_makes (WSm yX12_makes cX12_makes 5 (some .int)) (mkR 1 0 0 24) (PreC D Y [.ref h0, .int p0] [(h0, oC 13 [.ref h1, .ref g0, .int 0, .ref g1, .ref g2, .int 0, .int 0, .int 0, .int (-1), .int 0, .int 0, .int 0, .long 0, .ref g3, .ref g4, .int 0, .int 0]), (h1, aI Y 3640 (clB 0 (fun _ => 0)))] sz) (QI D (fun (r : Int32) (u : Unit) => (-1) = r) (fun (_ : Unit) => [(h0, oC 13 [.ref h1, .ref g0, .int 0, .ref g1, .ref g2, .int 0, .int 0, .int 0, .int (-1), .int 0, .int 0, .int 0, .long 0, .ref g3, .ref g4, .int 0, .int 0]), (h1, aI Y 3640 (upd (upd (upd (upd (upd (upd (clB 0 (fun _ => 0)) 13 1) 10 0) 3629 1) 3630 p0) 12 1) 8 0))]) (va_A [(h0, oC 13 [.ref h1, .ref g0, .int 0, .ref g1, .ref g2, .int 0, .int 0, .int 0, .int (-1), .int 0, .int 0, .int 0, .long 0, .ref g3, .ref g4, .int 0, .int 0]), (h1, aI Y 3640 (clB 0 (fun _ => 0)))] sz)) 0 0 (va_A [(h0, oC 13 [.ref h1, .ref g0, .int 0, .ref g1, .ref g2, .int 0, .int 0, .int 0, .int (-1), .int 0, .int 0, .int 0, .long 0, .ref g3, .ref g4, .int 0, .int 0]), (h1, aI Y 3640 (clB 0 (fun _ => 0)))] sz) :=
  met_of (by decide +kernel) (Nat.le_of_ble_eq_true rfl) (fun p e s m args below meth c B hin hsz => by
    have B : VB p s m args meth c D Y (va_A [(h0, oC 13 [.ref h1, .ref g0, .int 0, .ref g1, .ref g2, .int 0, .int 0, .int 0, .int (-1), .int 0, .int 0, .int 0, .long 0, .ref g3, .ref g4, .int 0, .int 0]), (h1, aI Y 3640 (clB 0 (fun _ => 0)))] sz) cX12_makes 5 RX12 (some .int) := B
    refine V_iconst 0 B (v := 1) dX12_makes_0 (by decide +kernel) ?_
    refine V_istore_n 1 B (lv2 := [(2, .int 1), (0, .ref h0), (1, .int p0)]) dX12_makes_1 (by decide) rfl ?_
    refine V_iload_n 2 B dX12_makes_2 0 rfl ?_
    refine V_if_eq_f 3 B 232 dX12_makes_3 (by decide) (by decide +kernel) ?_
    refine V_aload_n 6 B dX12_makes_6 1 rfl ?_
    refine V_get 7 B gf_RX12_9 0 rfl rfl dX12_makes_7 ?_
    refine V_bipush 10 B (v := 13) dX12_makes_10 (by decide +kernel) ?_
    refine V_dup2_11 12 B dX12_makes_12 rfl rfl ?_
    refine V_iald 13 B (v := 0) 1 rfl (vpin _ _ (by decide +kernel)) dX12_makes_13 rfl ?_
    refine V_iconst 14 B (v := 1) dX12_makes_14 (by decide +kernel) ?_
    refine V_iadd 15 B (v := 1) dX12_makes_15 (by decide +kernel) ?_
    refine V_iast 16 B 1 rfl (vpin _ _ (by decide +kernel)) dX12_makes_16 [(h0, oC 13 [.ref h1, .ref g0, .int 0, .ref g1, .ref g2, .int 0, .int 0, .int 0, .int (-1), .int 0, .int 0, .int 0, .long 0, .ref g3, .ref g4, .int 0, .int 0]), (h1, aI Y 3640 (upd (clB 0 (fun _ => 0)) 13 1))] rfl ?_
    refine V_aload_n 17 B dX12_makes_17 1 rfl ?_
    refine V_get 18 B gf_RX12_9 0 rfl rfl dX12_makes_18 ?_
    refine V_bipush 21 B (v := 10) dX12_makes_21 (by decide +kernel) ?_
    refine V_aload_n 23 B dX12_makes_23 1 rfl ?_
    refine V_get 24 B gf_RX12_9 0 rfl rfl dX12_makes_24 ?_
    refine V_bipush 27 B (v := 9) dX12_makes_27 (by decide +kernel) ?_
    refine V_iald 29 B (v := 0) 1 rfl (vpin _ _ (by decide +kernel)) dX12_makes_29 rfl ?_
    refine V_iast 30 B 1 rfl (vpin _ _ (by decide +kernel)) dX12_makes_30 [(h0, oC 13 [.ref h1, .ref g0, .int 0, .ref g1, .ref g2, .int 0, .int 0, .int 0, .int (-1), .int 0, .int 0, .int 0, .long 0, .ref g3, .ref g4, .int 0, .int 0]), (h1, aI Y 3640 (upd (upd (clB 0 (fun _ => 0)) 13 1) 10 0))] rfl ?_
    refine V_aload_n 31 B dX12_makes_31 1 rfl ?_
    refine V_get 32 B gf_RX12_9 0 rfl rfl dX12_makes_32 ?_
    refine V_sipush 35 B (v := 3629) dX12_makes_35 (by decide +kernel) ?_
    refine V_aload_n 38 B dX12_makes_38 1 rfl ?_
    refine V_get 39 B gf_RX12_9 0 rfl rfl dX12_makes_39 ?_
    refine V_bipush 42 B (v := 8) dX12_makes_42 (by decide +kernel) ?_
    refine V_iald 44 B (v := 0) 1 rfl (vpin _ _ (by decide +kernel)) dX12_makes_44 rfl ?_
    refine V_iconst 45 B (v := 1) dX12_makes_45 (by decide +kernel) ?_
    refine V_iadd 46 B (v := 1) dX12_makes_46 (by decide +kernel) ?_
    refine V_iast 47 B 1 rfl (vpin _ _ (by decide +kernel)) dX12_makes_47 [(h0, oC 13 [.ref h1, .ref g0, .int 0, .ref g1, .ref g2, .int 0, .int 0, .int 0, .int (-1), .int 0, .int 0, .int 0, .long 0, .ref g3, .ref g4, .int 0, .int 0]), (h1, aI Y 3640 (upd (upd (upd (clB 0 (fun _ => 0)) 13 1) 10 0) 3629 1))] rfl ?_
    refine V_iconst 48 B (v := 0) dX12_makes_48 (by decide +kernel) ?_
    refine V_istore_n 49 B (lv2 := [(3, .int 0), (2, .int 1), (0, .ref h0), (1, .int p0)]) dX12_makes_49 (by decide) rfl ?_
    refine V_iload_n 50 B dX12_makes_50 0 rfl ?_
    refine V_aload_n 51 B dX12_makes_51 2 rfl ?_
    refine V_get 52 B gf_RX12_9 0 rfl rfl dX12_makes_52 ?_
    refine V_bipush 55 B (v := 8) dX12_makes_55 (by decide +kernel) ?_
    refine V_iald 57 B (v := 0) 1 rfl (vpin _ _ (by decide +kernel)) dX12_makes_57 rfl ?_
    refine V_icmp_ge_t 58 B 86 dX12_makes_58 (by decide) (by decide +kernel) ?_
    refine V_aload_n 86 B dX12_makes_86 2 rfl ?_
    refine V_get 87 B gf_RX12_9 0 rfl rfl dX12_makes_87 ?_
    refine V_sipush 90 B (v := 3629) dX12_makes_90 (by decide +kernel) ?_
    refine V_aload_n 93 B dX12_makes_93 2 rfl ?_
    refine V_get 94 B gf_RX12_9 0 rfl rfl dX12_makes_94 ?_
    refine V_sipush 97 B (v := 3629) dX12_makes_97 (by decide +kernel) ?_
    refine V_iald 100 B (v := 1) 1 rfl (vpin _ _ (by decide +kernel)) dX12_makes_100 rfl ?_
    refine V_iadd 101 B (v := 3630) dX12_makes_101 (by decide +kernel) ?_
    refine V_iload_n 102 B dX12_makes_102 3 rfl ?_
    refine V_iast 103 B 1 rfl (vpin _ _ (by decide +kernel)) dX12_makes_103 [(h0, oC 13 [.ref h1, .ref g0, .int 0, .ref g1, .ref g2, .int 0, .int 0, .int 0, .int (-1), .int 0, .int 0, .int 0, .long 0, .ref g3, .ref g4, .int 0, .int 0]), (h1, aI Y 3640 (upd (upd (upd (upd (clB 0 (fun _ => 0)) 13 1) 10 0) 3629 1) 3630 p0))] rfl ?_
    refine V_aload_n 104 B dX12_makes_104 2 rfl ?_
    refine V_aload_n 105 B dX12_makes_105 2 rfl ?_
    refine V_get 106 B gf_RX12_9 0 rfl rfl dX12_makes_106 ?_
    refine V_bipush 109 B (v := 6) dX12_makes_109 (by decide +kernel) ?_
    refine V_iald 111 B (v := 0) 1 rfl (vpin _ _ (by decide +kernel)) dX12_makes_111 rfl ?_
    refine V_sipush 112 B (v := 3629) dX12_makes_112 (by decide +kernel) ?_
    refine V_cvi 115 B (st := []) (As := [.int 0, .int 3629]) (fun sz => mX12_visibleWith_1 l D Y (h0) (h1) (g0) (g1) (g2) (g3) (g4) (p0) sz) glV_RX12_157 ⟨rfl, rfl⟩ ⟨(Nat.le_of_ble_eq_true rfl), (Nat.le_of_ble_eq_true rfl)⟩ ⟨(Nat.le_of_ble_eq_true rfl), (Nat.le_of_ble_eq_true rfl)⟩ [0, 0] rfl 13 0 rfl rfl rfl rfl (Nat.le_of_ble_eq_true rfl) rfl (fun _ _ _ => rfl) dX12_makes_115 (fun r0 u0 w0 => ?_)
    obtain rfl := w0
    refine V_ws [(h0, oC 13 [.ref h1, .ref g0, .int 0, .ref g1, .ref g2, .int 0, .int 0, .int 0, .int (-1), .int 0, .int 0, .int 0, .long 0, .ref g3, .ref g4, .int 0, .int 0]), (h1, aI Y 3640 (upd (upd (upd (upd (clB 0 (fun _ => 0)) 13 1) 10 0) 3629 1) 3630 p0))] rfl ?_
    refine V_istore_n 118 B (lv2 := [(3, .int (-1)), (2, .int 1), (0, .ref h0), (1, .int p0)]) dX12_makes_118 (by decide) rfl ?_
    refine V_iload_n 119 B dX12_makes_119 0 rfl ?_
    refine V_iconst 120 B (v := (-1)) dX12_makes_120 (by decide +kernel) ?_
    refine V_icmp_eq_t 121 B 148 dX12_makes_121 (by decide) (by decide +kernel) ?_
    refine V_aload_n 148 B dX12_makes_148 2 rfl ?_
    refine V_aload_n 149 B dX12_makes_149 2 rfl ?_
    refine V_get 150 B gf_RX12_9 0 rfl rfl dX12_makes_150 ?_
    refine V_bipush 153 B (v := 6) dX12_makes_153 (by decide +kernel) ?_
    refine V_iald 155 B (v := 0) 1 rfl (vpin _ _ (by decide +kernel)) dX12_makes_155 rfl ?_
    refine V_sipush 156 B (v := 3629) dX12_makes_156 (by decide +kernel) ?_
    refine V_cvi 159 B (st := []) (As := [.int 0, .int 3629]) (fun sz => mX12_continued_2 l D Y (h0) (h1) (g0) (g1) (g2) (g3) (g4) (p0) sz) glV_RX12_160 ⟨rfl, rfl⟩ ⟨(Nat.le_of_ble_eq_true rfl), (Nat.le_of_ble_eq_true rfl)⟩ ⟨(Nat.le_of_ble_eq_true rfl), (Nat.le_of_ble_eq_true rfl)⟩ [0, 0] rfl 13 0 rfl rfl rfl rfl (Nat.le_of_ble_eq_true rfl) rfl (fun _ _ _ => rfl) dX12_makes_159 (fun r1 u1 w1 => ?_)
    obtain rfl := w1
    refine V_ws [(h0, oC 13 [.ref h1, .ref g0, .int 0, .ref g1, .ref g2, .int 0, .int 0, .int 0, .int (-1), .int 0, .int 0, .int 0, .long 0, .ref g3, .ref g4, .int 0, .int 0]), (h1, aI Y 3640 (upd (upd (upd (upd (clB 0 (fun _ => 0)) 13 1) 10 0) 3629 1) 3630 p0))] rfl ?_
    refine V_if_le_t 162 B 194 dX12_makes_162 (by decide) (by decide +kernel) ?_
    refine V_aload_n 194 B dX12_makes_194 2 rfl ?_
    refine V_get 195 B gf_RX12_9 0 rfl rfl dX12_makes_195 ?_
    refine V_bipush 198 B (v := 12) dX12_makes_198 (by decide +kernel) ?_
    refine V_dup2_11 200 B dX12_makes_200 rfl rfl ?_
    refine V_iald 201 B (v := 0) 1 rfl (vpin _ _ (by decide +kernel)) dX12_makes_201 rfl ?_
    refine V_iconst 202 B (v := 1) dX12_makes_202 (by decide +kernel) ?_
    refine V_iadd 203 B (v := 1) dX12_makes_203 (by decide +kernel) ?_
    refine V_iast 204 B 1 rfl (vpin _ _ (by decide +kernel)) dX12_makes_204 [(h0, oC 13 [.ref h1, .ref g0, .int 0, .ref g1, .ref g2, .int 0, .int 0, .int 0, .int (-1), .int 0, .int 0, .int 0, .long 0, .ref g3, .ref g4, .int 0, .int 0]), (h1, aI Y 3640 (upd (upd (upd (upd (upd (clB 0 (fun _ => 0)) 13 1) 10 0) 3629 1) 3630 p0) 12 1))] rfl ?_
    refine V_aload_n 205 B dX12_makes_205 2 rfl ?_
    refine V_get 206 B gf_RX12_9 0 rfl rfl dX12_makes_206 ?_
    refine V_bipush 209 B (v := 8) dX12_makes_209 (by decide +kernel) ?_
    refine V_iald 211 B (v := 0) 1 rfl (vpin _ _ (by decide +kernel)) dX12_makes_211 rfl ?_
    refine V_if_le_t 212 B 219 dX12_makes_212 (by decide) (by decide +kernel) ?_
    refine V_iconst 219 B (v := 0) dX12_makes_219 (by decide +kernel) ?_
    refine V_istore_n 220 B (lv2 := [(2, .int 0), (3, .int (-1)), (0, .ref h0), (1, .int p0)]) dX12_makes_220 (by decide) rfl ?_
    refine V_aload_n 221 B dX12_makes_221 2 rfl ?_
    refine V_get 222 B gf_RX12_9 0 rfl rfl dX12_makes_222 ?_
    refine V_bipush 225 B (v := 8) dX12_makes_225 (by decide +kernel) ?_
    refine V_iconst 227 B (v := 0) dX12_makes_227 (by decide +kernel) ?_
    refine V_iast 228 B 1 rfl (vpin _ _ (by decide +kernel)) dX12_makes_228 [(h0, oC 13 [.ref h1, .ref g0, .int 0, .ref g1, .ref g2, .int 0, .int 0, .int 0, .int (-1), .int 0, .int 0, .int 0, .long 0, .ref g3, .ref g4, .int 0, .int 0]), (h1, aI Y 3640 (upd (upd (upd (upd (upd (upd (clB 0 (fun _ => 0)) 13 1) 10 0) 3629 1) 3630 p0) 12 1) 8 0))] rfl ?_
    refine V_goto 229 B 2 dX12_makes_229 (by decide) ?_
    refine V_iload_n 2 B dX12_makes_2 0 rfl ?_
    refine V_if_eq_t 3 B 232 dX12_makes_3 (by decide) (by decide +kernel) ?_
    refine V_iconst 232 B (v := (-1)) dX12_makes_232 (by decide +kernel) ?_
    exact V_iret 233 B dX12_makes_233 () rfl rfl)
theorem dX12_pressed_0 : decode cX12_pressed 0 = .ok (.aload_n 0, 1) := by decide +kernel
theorem dX12_pressed_1 : decode cX12_pressed 1 = .ok (.iload_n 1, 1) := by decide +kernel
theorem dX12_pressed_2 : decode cX12_pressed 2 = .ok (.invokevirtual 209, 3) := by decide +kernel
theorem dX12_pressed_5 : decode cX12_pressed 5 = .ok (.istore_n 2, 1) := by decide +kernel
theorem dX12_pressed_6 : decode cX12_pressed 6 = .ok (.iload_n 2, 1) := by decide +kernel
theorem dX12_pressed_7 : decode cX12_pressed 7 = .ok (.iconst (-1), 1) := by decide +kernel
theorem dX12_pressed_8 : decode cX12_pressed 8 = .ok (.if_icmp .ne 13, 3) := by decide +kernel
theorem dX12_pressed_11 : decode cX12_pressed 11 = .ok (.aload_n 0, 1) := by decide +kernel
theorem dX12_pressed_12 : decode cX12_pressed 12 = .ok (.aload_n 0, 1) := by decide +kernel
theorem dX12_pressed_13 : decode cX12_pressed 13 = .ok (.iload_n 1, 1) := by decide +kernel
theorem dX12_pressed_14 : decode cX12_pressed 14 = .ok (.invokevirtual 212, 3) := by decide +kernel
theorem dX12_pressed_17 : decode cX12_pressed 17 = .ok (.invokevirtual 218, 3) := by decide +kernel
theorem glV_RX12_218 : GLV RX12 218 yX12_makes RX12 cX12_makes 5 (some .int) 1 := ⟨⟨(mT9 101 rfl rfl), (mT9 103 rfl rfl), (mTs 67 rfl rfl), (mT1 13 rfl rfl), (mT9 104 rfl rfl)⟩, by decide +kernel⟩
theorem dX12_pressed_20 : decode cX12_pressed 20 = .ok (.ireturn, 1) := by decide +kernel
set_option maxRecDepth 100000 in
set_option maxHeartbeats 4000000 in
theorem mX12_pressed_1 (l : Launch) (D : va_G) (Y : Nat → ClassId) (h0 : Nat) (h1 : Nat) (g0 : Nat) (g1 : Nat) (g2 : Nat) (g3 : Nat) (g4 : Nat) (p0 : Int32) (sz : Nat) : Met l yX12_pressed (WSm yX12_pressed cX12_pressed 3 (some .int)) (mkR 2 0 0 48) (PreC D Y [.ref h0, .int p0] [(h0, oC 13 [.ref h1, .ref g0, .int 0, .ref g1, .ref g2, .int 0, .int 0, .int 0, .int (-1), .int 0, .int 0, .int 0, .long 0, .ref g3, .ref g4, .int 0, .int 0]), (h1, aI Y 3640 (clB 0 (fun _ => 0)))] sz) (QI D (fun (r : Int32) (u : Unit) => (-1) = r) (fun (_ : Unit) => [(h0, oC 13 [.ref h1, .ref g0, .int 0, .ref g1, .ref g2, .int 0, .int 0, .int 0, .int (-1), .int 0, .int 0, .int 0, .long 0, .ref g3, .ref g4, .int 0, .int 0]), (h1, aI Y 3640 (upd (upd (upd (upd (upd (upd (clB 0 (fun _ => 0)) 13 1) 10 0) 3629 1) 3630 p0) 12 1) 8 0))]) (va_A [(h0, oC 13 [.ref h1, .ref g0, .int 0, .ref g1, .ref g2, .int 0, .int 0, .int 0, .int (-1), .int 0, .int 0, .int 0, .long 0, .ref g3, .ref g4, .int 0, .int 0]), (h1, aI Y 3640 (clB 0 (fun _ => 0)))] sz)) 0 0 (va_A [(h0, oC 13 [.ref h1, .ref g0, .int 0, .ref g1, .ref g2, .int 0, .int 0, .int 0, .int (-1), .int 0, .int 0, .int 0, .long 0, .ref g3, .ref g4, .int 0, .int 0]), (h1, aI Y 3640 (clB 0 (fun _ => 0)))] sz) :=
  met_of (by decide +kernel) (Nat.le_of_ble_eq_true rfl) (fun p e s m args below meth c B hin hsz => by
    have B : VB p s m args meth c D Y (va_A [(h0, oC 13 [.ref h1, .ref g0, .int 0, .ref g1, .ref g2, .int 0, .int 0, .int 0, .int (-1), .int 0, .int 0, .int 0, .long 0, .ref g3, .ref g4, .int 0, .int 0]), (h1, aI Y 3640 (clB 0 (fun _ => 0)))] sz) cX12_pressed 3 RX12 (some .int) := B
    refine V_aload_n 0 B dX12_pressed_0 0 rfl ?_
    refine V_iload_n 1 B dX12_pressed_1 1 rfl ?_
    refine V_cvi 2 B (st := []) (As := [.int p0]) (fun sz => mX12_layerOf_1 l D Y (h0) (h1) (g0) (g1) (g2) (g3) (g4) (p0) sz) glV_RX12_209 ⟨rfl, rfl⟩ ⟨(Nat.le_of_ble_eq_true rfl), (Nat.le_of_ble_eq_true rfl)⟩ ⟨(Nat.le_of_ble_eq_true rfl), (Nat.le_of_ble_eq_true rfl)⟩ [0, 0] rfl 13 0 rfl rfl rfl rfl (Nat.le_of_ble_eq_true rfl) rfl (fun _ _ _ => rfl) dX12_pressed_2 (fun r0 u0 w0 => ?_)
    obtain rfl := w0
    refine V_ws [(h0, oC 13 [.ref h1, .ref g0, .int 0, .ref g1, .ref g2, .int 0, .int 0, .int 0, .int (-1), .int 0, .int 0, .int 0, .long 0, .ref g3, .ref g4, .int 0, .int 0]), (h1, aI Y 3640 (clB 0 (fun _ => 0)))] rfl ?_
    refine V_istore_n 5 B (lv2 := [(2, .int (-1)), (0, .ref h0), (1, .int p0)]) dX12_pressed_5 (by decide) rfl ?_
    refine V_iload_n 6 B dX12_pressed_6 0 rfl ?_
    refine V_iconst 7 B (v := (-1)) dX12_pressed_7 (by decide +kernel) ?_
    refine V_icmp_ne_f 8 B 21 dX12_pressed_8 (by decide) (by decide +kernel) ?_
    refine V_aload_n 11 B dX12_pressed_11 1 rfl ?_
    refine V_aload_n 12 B dX12_pressed_12 1 rfl ?_
    refine V_iload_n 13 B dX12_pressed_13 2 rfl ?_
    refine V_cvi 14 B (st := [.ref h0]) (As := [.int p0]) (fun sz => mX12_madeBy_1 l D Y (h0) (h1) (g0) (g1) (g2) (g3) (g4) (p0) sz) glV_RX12_212 ⟨rfl, rfl⟩ ⟨(Nat.le_of_ble_eq_true rfl), (Nat.le_of_ble_eq_true rfl)⟩ ⟨(Nat.le_of_ble_eq_true rfl), (Nat.le_of_ble_eq_true rfl)⟩ [0, 0] rfl 13 0 rfl rfl rfl rfl (Nat.le_of_ble_eq_true rfl) rfl (fun _ _ _ => rfl) dX12_pressed_14 (fun r1 u1 w1 => ?_)
    obtain rfl := w1
    refine V_ws [(h0, oC 13 [.ref h1, .ref g0, .int 0, .ref g1, .ref g2, .int 0, .int 0, .int 0, .int (-1), .int 0, .int 0, .int 0, .long 0, .ref g3, .ref g4, .int 0, .int 0]), (h1, aI Y 3640 (clB 0 (fun _ => 0)))] rfl ?_
    refine V_cvi 17 B (st := []) (As := [.int p0]) (fun sz => mX12_makes_1 l D Y (h0) (h1) (g0) (g1) (g2) (g3) (g4) (p0) sz) glV_RX12_218 ⟨rfl, rfl⟩ ⟨(Nat.le_of_ble_eq_true rfl), (Nat.le_of_ble_eq_true rfl)⟩ ⟨(Nat.le_of_ble_eq_true rfl), (Nat.le_of_ble_eq_true rfl)⟩ [0, 0] rfl 13 0 rfl rfl rfl rfl (Nat.le_of_ble_eq_true rfl) rfl (fun _ _ _ => rfl) dX12_pressed_17 (fun r2 u2 w2 => ?_)
    obtain rfl := w2
    refine V_ws [(h0, oC 13 [.ref h1, .ref g0, .int 0, .ref g1, .ref g2, .int 0, .int 0, .int 0, .int (-1), .int 0, .int 0, .int 0, .long 0, .ref g3, .ref g4, .int 0, .int 0]), (h1, aI Y 3640 (upd (upd (upd (upd (upd (upd (clB 0 (fun _ => 0)) 13 1) 10 0) 3629 1) 3630 p0) 12 1) 8 0))] rfl ?_
    exact V_iret 20 B dX12_pressed_20 () rfl rfl)
theorem dX12_press_0 : decode cX12_press 0 = .ok (.aload_n 0, 1) := by decide +kernel
theorem dX12_press_1 : decode cX12_press 1 = .ok (.iconst 0, 1) := by decide +kernel
theorem dX12_press_2 : decode cX12_press 2 = .ok (.putfield 38, 3) := by decide +kernel
theorem dX12_press_5 : decode cX12_press 5 = .ok (.aload_n 0, 1) := by decide +kernel
theorem dX12_press_6 : decode cX12_press 6 = .ok (.iload_n 1, 1) := by decide +kernel
theorem dX12_press_7 : decode cX12_press 7 = .ok (.invokestatic 204, 3) := by decide +kernel
theorem dX12_press_10 : decode cX12_press 10 = .ok (.ifCond .ne 7, 3) := by decide +kernel
theorem dX12_press_17 : decode cX12_press 17 = .ok (.iconst 0, 1) := by decide +kernel
theorem dX12_press_18 : decode cX12_press 18 = .ok (.iconst 1, 1) := by decide +kernel
theorem dX12_press_19 : decode cX12_press 19 = .ok (.invokevirtual 69, 3) := by decide +kernel
theorem dX12_press_22 : decode cX12_press 22 = .ok (.ifCond .eq 7, 3) := by decide +kernel
theorem dX12_press_29 : decode cX12_press 29 = .ok (.aload_n 0, 1) := by decide +kernel
theorem dX12_press_30 : decode cX12_press 30 = .ok (.iload_n 1, 1) := by decide +kernel
theorem dX12_press_31 : decode cX12_press 31 = .ok (.invokevirtual 221, 3) := by decide +kernel
theorem glV_RX12_221 : GLV RX12 221 yX12_pressed RX12 cX12_pressed 3 (some .int) 1 := ⟨⟨(mT9 97 rfl rfl), (mT9 99 rfl rfl), (mTs 66 rfl rfl), (mT1 13 rfl rfl), (mT9 100 rfl rfl)⟩, by decide +kernel⟩
theorem dX12_press_34 : decode cX12_press 34 = .ok (.ireturn, 1) := by decide +kernel
theorem dX12_press_13 : decode cX12_press 13 = .ok (.iconst 1, 1) := by decide +kernel
theorem dX12_press_14 : decode cX12_press 14 = .ok (.goto 4, 3) := by decide +kernel
theorem dX12_press_25 : decode cX12_press 25 = .ok (.iconst 0, 1) := by decide +kernel
theorem dX12_press_26 : decode cX12_press 26 = .ok (.goto 8, 3) := by decide +kernel
set_option maxRecDepth 100000 in
set_option maxHeartbeats 4000000 in
theorem mX12_press_1 (l : Launch) (D : va_G) (Y : Nat → ClassId) (h0 : Nat) (h1 : Nat) (g0 : Nat) (g1 : Nat) (g2 : Nat) (g3 : Nat) (g4 : Nat) (p0 : Int32) (sz : Nat) : Met l yX12_press (WSm yX12_press cX12_press 2 (some .int)) (mkR 3 0 0 70) (PreC D Y [.ref h0, .int p0] [(h0, oC 13 [.ref h1, .ref g0, .int 0, .ref g1, .ref g2, .int 0, .int 0, .int 0, .int (-1), .int 0, .int 0, .int 0, .long 0, .ref g3, .ref g4, .int 0, .int 0]), (h1, aI Y 3640 (clB 0 (fun _ => 0)))] sz) (QI D (fun (r : Int32) (u : Nat) => (u = 0 ∧ ¬ p0 < 0 ∧ ¬ 25 < p0 ∧ (-1) = r) ∨ (u = 1 ∧ p0 < 0 ∧ 0 = r) ∨ (u = 2 ∧ 25 < p0 ∧ 0 = r)) (fun (u : Nat) => match u with | 0 => [(h0, oC 13 [.ref h1, .ref g0, .int 0, .ref g1, .ref g2, .int 0, .int 0, .int 0, .int (-1), .int 0, .int 0, .int 0, .long 0, .ref g3, .ref g4, .int 0, .int 0]), (h1, aI Y 3640 (upd (upd (upd (upd (upd (upd (clB 0 (fun _ => 0)) 13 1) 10 0) 3629 1) 3630 p0) 12 1) 8 0))] | 1 => [(h0, oC 13 [.ref h1, .ref g0, .int 1, .ref g1, .ref g2, .int 0, .int 0, .int 0, .int (-1), .int 0, .int 0, .int 0, .long 0, .ref g3, .ref g4, .int 0, .int 0]), (h1, aI Y 3640 (clB 0 (fun _ => 0)))] | _ => [(h0, oC 13 [.ref h1, .ref g0, .int 1, .ref g1, .ref g2, .int 0, .int 0, .int 0, .int (-1), .int 0, .int 0, .int 0, .long 0, .ref g3, .ref g4, .int 0, .int 0]), (h1, aI Y 3640 (clB 0 (fun _ => 0)))]) (va_A [(h0, oC 13 [.ref h1, .ref g0, .int 0, .ref g1, .ref g2, .int 0, .int 0, .int 0, .int (-1), .int 0, .int 0, .int 0, .long 0, .ref g3, .ref g4, .int 0, .int 0]), (h1, aI Y 3640 (clB 0 (fun _ => 0)))] sz)) 0 0 (va_A [(h0, oC 13 [.ref h1, .ref g0, .int 0, .ref g1, .ref g2, .int 0, .int 0, .int 0, .int (-1), .int 0, .int 0, .int 0, .long 0, .ref g3, .ref g4, .int 0, .int 0]), (h1, aI Y 3640 (clB 0 (fun _ => 0)))] sz) :=
  met_of (by decide +kernel) (Nat.le_of_ble_eq_true rfl) (fun p e s m args below meth c B hin hsz => by
    have B : VB p s m args meth c D Y (va_A [(h0, oC 13 [.ref h1, .ref g0, .int 0, .ref g1, .ref g2, .int 0, .int 0, .int 0, .int (-1), .int 0, .int 0, .int 0, .long 0, .ref g3, .ref g4, .int 0, .int 0]), (h1, aI Y 3640 (clB 0 (fun _ => 0)))] sz) cX12_press 2 RX12 (some .int) := B
    refine V_aload_n 0 B dX12_press_0 0 rfl ?_
    refine V_iconst 1 B (v := 0) dX12_press_1 (by decide +kernel) ?_
    refine V_put 2 B gp_RX12_38 0 rfl (Nat.le_of_ble_eq_true rfl) rfl rfl dX12_press_2 [(h0, oC 13 [.ref h1, .ref g0, .int 0, .ref g1, .ref g2, .int 0, .int 0, .int 0, .int (-1), .int 0, .int 0, .int 0, .long 0, .ref g3, .ref g4, .int 0, .int 0]), (h1, aI Y 3640 (clB 0 (fun _ => 0)))] rfl ?_
    refine V_aload_n 5 B dX12_press_5 0 rfl ?_
    refine V_iload_n 6 B dX12_press_6 1 rfl ?_
    refine V_csi 7 B (st := [.ref h0]) (As := [.int p0]) (fun sz => mX12_isKey_1 l D Y (p0) sz) glS_RX12_204 ⟨rfl, rfl⟩ ⟨(Nat.le_of_ble_eq_true rfl), (Nat.le_of_ble_eq_true rfl)⟩ ⟨(Nat.le_of_ble_eq_true rfl), (Nat.le_of_ble_eq_true rfl)⟩ [] rfl rfl (Nat.le_of_ble_eq_true rfl) rfl (fun _ _ _ => rfl) dX12_press_7 (fun r0 u0 w0 => ?_)
    rcases w0 with ⟨k1, k2, rfl⟩ | ⟨k3, rfl⟩ | ⟨k4, rfl⟩
    ·
      refine V_ws [(h0, oC 13 [.ref h1, .ref g0, .int 0, .ref g1, .ref g2, .int 0, .int 0, .int 0, .int (-1), .int 0, .int 0, .int 0, .long 0, .ref g3, .ref g4, .int 0, .int 0]), (h1, aI Y 3640 (clB 0 (fun _ => 0)))] rfl ?_
      refine V_if_ne_t 10 B 17 dX12_press_10 (by decide) (by decide +kernel) ?_
      refine V_iconst 17 B (v := 0) dX12_press_17 (by decide +kernel) ?_
      refine V_iconst 18 B (v := 1) dX12_press_18 (by decide +kernel) ?_
      refine V_cvi 19 B (st := []) (As := [.int 0, .int 1]) (fun sz => mX12_throwsIf_2 l D Y (h0) (h1) (g0) (g1) (g2) (g3) (g4) sz) glV_RX12_69 ⟨rfl, rfl⟩ ⟨(Nat.le_of_ble_eq_true rfl), (Nat.le_of_ble_eq_true rfl)⟩ ⟨(Nat.le_of_ble_eq_true rfl), (Nat.le_of_ble_eq_true rfl)⟩ [0] rfl 13 0 rfl rfl rfl rfl (Nat.le_of_ble_eq_true rfl) rfl (fun _ _ _ => rfl) dX12_press_19 (fun r5 u5 w5 => ?_)
      obtain rfl := w5
      refine V_ws [(h0, oC 13 [.ref h1, .ref g0, .int 0, .ref g1, .ref g2, .int 0, .int 0, .int 0, .int (-1), .int 0, .int 0, .int 0, .long 0, .ref g3, .ref g4, .int 0, .int 0]), (h1, aI Y 3640 (clB 0 (fun _ => 0)))] rfl ?_
      refine V_if_eq_t 22 B 29 dX12_press_22 (by decide) (by decide +kernel) ?_
      refine V_aload_n 29 B dX12_press_29 0 rfl ?_
      refine V_iload_n 30 B dX12_press_30 1 rfl ?_
      refine V_cvi 31 B (st := []) (As := [.int p0]) (fun sz => mX12_pressed_1 l D Y (h0) (h1) (g0) (g1) (g2) (g3) (g4) (p0) sz) glV_RX12_221 ⟨rfl, rfl⟩ ⟨(Nat.le_of_ble_eq_true rfl), (Nat.le_of_ble_eq_true rfl)⟩ ⟨(Nat.le_of_ble_eq_true rfl), (Nat.le_of_ble_eq_true rfl)⟩ [0, 0] rfl 13 0 rfl rfl rfl rfl (Nat.le_of_ble_eq_true rfl) rfl (fun _ _ _ => rfl) dX12_press_31 (fun r6 u6 w6 => ?_)
      obtain rfl := w6
      refine V_ws [(h0, oC 13 [.ref h1, .ref g0, .int 0, .ref g1, .ref g2, .int 0, .int 0, .int 0, .int (-1), .int 0, .int 0, .int 0, .long 0, .ref g3, .ref g4, .int 0, .int 0]), (h1, aI Y 3640 (upd (upd (upd (upd (upd (upd (clB 0 (fun _ => 0)) 13 1) 10 0) 3629 1) 3630 p0) 12 1) 8 0))] rfl ?_
      exact V_iret 34 B dX12_press_34 0 (Or.inl ⟨rfl, k1, k2, rfl⟩) rfl
    ·
      refine V_ws [(h0, oC 13 [.ref h1, .ref g0, .int 0, .ref g1, .ref g2, .int 0, .int 0, .int 0, .int (-1), .int 0, .int 0, .int 0, .long 0, .ref g3, .ref g4, .int 0, .int 0]), (h1, aI Y 3640 (clB 0 (fun _ => 0)))] rfl ?_
      refine V_if_ne_f 10 B 17 dX12_press_10 (by decide) (by decide +kernel) ?_
      refine V_iconst 13 B (v := 1) dX12_press_13 (by decide +kernel) ?_
      refine V_goto 14 B 18 dX12_press_14 (by decide) ?_
      refine V_iconst 18 B (v := 1) dX12_press_18 (by decide +kernel) ?_
      refine V_cvi 19 B (st := []) (As := [.int 1, .int 1]) (fun sz => mX12_throwsIf_1 l D Y (h0) (h1) (g0) (g1) (g2) (g3) (g4) sz) glV_RX12_69 ⟨rfl, rfl⟩ ⟨(Nat.le_of_ble_eq_true rfl), (Nat.le_of_ble_eq_true rfl)⟩ ⟨(Nat.le_of_ble_eq_true rfl), (Nat.le_of_ble_eq_true rfl)⟩ [0] rfl 13 0 rfl rfl rfl rfl (Nat.le_of_ble_eq_true rfl) rfl (fun _ _ _ => rfl) dX12_press_19 (fun r7 u7 w7 => ?_)
      obtain rfl := w7
      refine V_ws [(h0, oC 13 [.ref h1, .ref g0, .int 1, .ref g1, .ref g2, .int 0, .int 0, .int 0, .int (-1), .int 0, .int 0, .int 0, .long 0, .ref g3, .ref g4, .int 0, .int 0]), (h1, aI Y 3640 (clB 0 (fun _ => 0)))] rfl ?_
      refine V_if_eq_f 22 B 29 dX12_press_22 (by decide) (by decide +kernel) ?_
      refine V_iconst 25 B (v := 0) dX12_press_25 (by decide +kernel) ?_
      refine V_goto 26 B 34 dX12_press_26 (by decide) ?_
      exact V_iret 34 B dX12_press_34 1 (Or.inr (Or.inl ⟨rfl, k3, rfl⟩)) rfl
    ·
      refine V_ws [(h0, oC 13 [.ref h1, .ref g0, .int 0, .ref g1, .ref g2, .int 0, .int 0, .int 0, .int (-1), .int 0, .int 0, .int 0, .long 0, .ref g3, .ref g4, .int 0, .int 0]), (h1, aI Y 3640 (clB 0 (fun _ => 0)))] rfl ?_
      refine V_if_ne_f 10 B 17 dX12_press_10 (by decide) (by decide +kernel) ?_
      refine V_iconst 13 B (v := 1) dX12_press_13 (by decide +kernel) ?_
      refine V_goto 14 B 18 dX12_press_14 (by decide) ?_
      refine V_iconst 18 B (v := 1) dX12_press_18 (by decide +kernel) ?_
      refine V_cvi 19 B (st := []) (As := [.int 1, .int 1]) (fun sz => mX12_throwsIf_1 l D Y (h0) (h1) (g0) (g1) (g2) (g3) (g4) sz) glV_RX12_69 ⟨rfl, rfl⟩ ⟨(Nat.le_of_ble_eq_true rfl), (Nat.le_of_ble_eq_true rfl)⟩ ⟨(Nat.le_of_ble_eq_true rfl), (Nat.le_of_ble_eq_true rfl)⟩ [0] rfl 13 0 rfl rfl rfl rfl (Nat.le_of_ble_eq_true rfl) rfl (fun _ _ _ => rfl) dX12_press_19 (fun r8 u8 w8 => ?_)
      obtain rfl := w8
      refine V_ws [(h0, oC 13 [.ref h1, .ref g0, .int 1, .ref g1, .ref g2, .int 0, .int 0, .int 0, .int (-1), .int 0, .int 0, .int 0, .long 0, .ref g3, .ref g4, .int 0, .int 0]), (h1, aI Y 3640 (clB 0 (fun _ => 0)))] rfl ?_
      refine V_if_eq_f 22 B 29 dX12_press_22 (by decide) (by decide +kernel) ?_
      refine V_iconst 25 B (v := 0) dX12_press_25 (by decide +kernel) ?_
      refine V_goto 26 B 34 dX12_press_26 (by decide) ?_
      exact V_iret 34 B dX12_press_34 2 (Or.inr (Or.inr ⟨rfl, k4, rfl⟩)) rfl)
theorem dX12_release_0 : decode cX12_release 0 = .ok (.aload_n 0, 1) := by decide +kernel
theorem dX12_release_1 : decode cX12_release 1 = .ok (.iconst 0, 1) := by decide +kernel
theorem dX12_release_2 : decode cX12_release 2 = .ok (.putfield 38, 3) := by decide +kernel
theorem dX12_release_5 : decode cX12_release 5 = .ok (.aload_n 0, 1) := by decide +kernel
