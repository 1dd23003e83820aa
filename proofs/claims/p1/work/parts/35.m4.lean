theorem dX12_release_6 : decode cX12_release 6 = .ok (.iload_n 1, 1) := by decide +kernel
theorem dX12_release_7 : decode cX12_release 7 = .ok (.invokestatic 204, 3) := by decide +kernel
theorem dX12_release_10 : decode cX12_release 10 = .ok (.ifCond .ne 7, 3) := by decide +kernel
theorem dX12_release_17 : decode cX12_release 17 = .ok (.iconst 0, 1) := by decide +kernel
theorem dX12_release_18 : decode cX12_release 18 = .ok (.iconst 1, 1) := by decide +kernel
theorem dX12_release_19 : decode cX12_release 19 = .ok (.invokevirtual 69, 3) := by decide +kernel
theorem dX12_release_22 : decode cX12_release 22 = .ok (.ifCond .eq 5, 3) := by decide +kernel
theorem dX12_release_27 : decode cX12_release 27 = .ok (.aload_n 0, 1) := by decide +kernel
theorem dX12_release_28 : decode cX12_release 28 = .ok (.iload_n 1, 1) := by decide +kernel
theorem dX12_release_29 : decode cX12_release 29 = .ok (.invokevirtual 209, 3) := by decide +kernel
theorem dX12_release_32 : decode cX12_release 32 = .ok (.istore_n 2, 1) := by decide +kernel
theorem dX12_release_33 : decode cX12_release 33 = .ok (.iload_n 2, 1) := by decide +kernel
theorem dX12_release_34 : decode cX12_release 34 = .ok (.iconst (-1), 1) := by decide +kernel
theorem dX12_release_35 : decode cX12_release 35 = .ok (.if_icmp .eq 12, 3) := by decide +kernel
theorem dX12_release_47 : decode cX12_release 47 = .ok (.iconst 0, 1) := by decide +kernel
theorem dX12_release_48 : decode cX12_release 48 = .ok (.ireturn, 1) := by decide +kernel
theorem dX12_release_13 : decode cX12_release 13 = .ok (.iconst 1, 1) := by decide +kernel
theorem dX12_release_14 : decode cX12_release 14 = .ok (.goto 4, 3) := by decide +kernel
theorem dX12_release_25 : decode cX12_release 25 = .ok (.iconst 0, 1) := by decide +kernel
theorem dX12_release_26 : decode cX12_release 26 = .ok (.ireturn, 1) := by decide +kernel
set_option maxRecDepth 100000 in
set_option maxHeartbeats 4000000 in
theorem mX12_release_1 (l : Launch) (D : va_G) (Y : Nat → ClassId) (h0 : Nat) (h1 : Nat) (g0 : Nat) (g1 : Nat) (g2 : Nat) (g3 : Nat) (g4 : Nat) (p0 : Int32) (sz : Nat) : Met l yX12_release (WSm yX12_release cX12_release 3 (some .boolean)) (mkR 2 0 0 45) (PreC D Y [.ref h0, .int p0] [(h0, oC 13 [.ref h1, .ref g0, .int 0, .ref g1, .ref g2, .int 0, .int 0, .int 0, .int (-1), .int 0, .int 0, .int 0, .long 0, .ref g3, .ref g4, .int 0, .int 0]), (h1, aI Y 3640 (clB 0 (fun _ => 0)))] sz) (QI D (fun (r : Int32) (u : Nat) => (u = 0 ∧ ¬ p0 < 0 ∧ ¬ 25 < p0 ∧ 0 = r) ∨ (u = 1 ∧ p0 < 0 ∧ 0 = r) ∨ (u = 2 ∧ 25 < p0 ∧ 0 = r)) (fun (u : Nat) => match u with | 0 => [(h0, oC 13 [.ref h1, .ref g0, .int 0, .ref g1, .ref g2, .int 0, .int 0, .int 0, .int (-1), .int 0, .int 0, .int 0, .long 0, .ref g3, .ref g4, .int 0, .int 0]), (h1, aI Y 3640 (clB 0 (fun _ => 0)))] | 1 => [(h0, oC 13 [.ref h1, .ref g0, .int 1, .ref g1, .ref g2, .int 0, .int 0, .int 0, .int (-1), .int 0, .int 0, .int 0, .long 0, .ref g3, .ref g4, .int 0, .int 0]), (h1, aI Y 3640 (clB 0 (fun _ => 0)))] | _ => [(h0, oC 13 [.ref h1, .ref g0, .int 1, .ref g1, .ref g2, .int 0, .int 0, .int 0, .int (-1), .int 0, .int 0, .int 0, .long 0, .ref g3, .ref g4, .int 0, .int 0]), (h1, aI Y 3640 (clB 0 (fun _ => 0)))]) (va_A [(h0, oC 13 [.ref h1, .ref g0, .int 0, .ref g1, .ref g2, .int 0, .int 0, .int 0, .int (-1), .int 0, .int 0, .int 0, .long 0, .ref g3, .ref g4, .int 0, .int 0]), (h1, aI Y 3640 (clB 0 (fun _ => 0)))] sz)) 0 0 (va_A [(h0, oC 13 [.ref h1, .ref g0, .int 0, .ref g1, .ref g2, .int 0, .int 0, .int 0, .int (-1), .int 0, .int 0, .int 0, .long 0, .ref g3, .ref g4, .int 0, .int 0]), (h1, aI Y 3640 (clB 0 (fun _ => 0)))] sz) :=
  met_of (by decide +kernel) (Nat.le_of_ble_eq_true rfl) (fun p e s m args below meth c B hin hsz => by
    have B : VB p s m args meth c D Y (va_A [(h0, oC 13 [.ref h1, .ref g0, .int 0, .ref g1, .ref g2, .int 0, .int 0, .int 0, .int (-1), .int 0, .int 0, .int 0, .long 0, .ref g3, .ref g4, .int 0, .int 0]), (h1, aI Y 3640 (clB 0 (fun _ => 0)))] sz) cX12_release 3 RX12 (some .boolean) := B
    refine V_aload_n 0 B dX12_release_0 0 rfl ?_
    refine V_iconst 1 B (v := 0) dX12_release_1 (by decide +kernel) ?_
    refine V_put 2 B gp_RX12_38 0 rfl (Nat.le_of_ble_eq_true rfl) rfl rfl dX12_release_2 [(h0, oC 13 [.ref h1, .ref g0, .int 0, .ref g1, .ref g2, .int 0, .int 0, .int 0, .int (-1), .int 0, .int 0, .int 0, .long 0, .ref g3, .ref g4, .int 0, .int 0]), (h1, aI Y 3640 (clB 0 (fun _ => 0)))] rfl ?_
    refine V_aload_n 5 B dX12_release_5 0 rfl ?_
    refine V_iload_n 6 B dX12_release_6 1 rfl ?_
    refine V_csi 7 B (st := [.ref h0]) (As := [.int p0]) (fun sz => mX12_isKey_1 l D Y (p0) sz) glS_RX12_204 ⟨rfl, rfl⟩ ⟨(Nat.le_of_ble_eq_true rfl), (Nat.le_of_ble_eq_true rfl)⟩ ⟨(Nat.le_of_ble_eq_true rfl), (Nat.le_of_ble_eq_true rfl)⟩ [] rfl rfl (Nat.le_of_ble_eq_true rfl) rfl (fun _ _ _ => rfl) dX12_release_7 (fun r0 u0 w0 => ?_)
    rcases w0 with ⟨k1, k2, rfl⟩ | ⟨k3, rfl⟩ | ⟨k4, rfl⟩
    ·
      refine V_ws [(h0, oC 13 [.ref h1, .ref g0, .int 0, .ref g1, .ref g2, .int 0, .int 0, .int 0, .int (-1), .int 0, .int 0, .int 0, .long 0, .ref g3, .ref g4, .int 0, .int 0]), (h1, aI Y 3640 (clB 0 (fun _ => 0)))] rfl ?_
      refine V_if_ne_t 10 B 17 dX12_release_10 (by decide) (by decide +kernel) ?_
      refine V_iconst 17 B (v := 0) dX12_release_17 (by decide +kernel) ?_
      refine V_iconst 18 B (v := 1) dX12_release_18 (by decide +kernel) ?_
      refine V_cvi 19 B (st := []) (As := [.int 0, .int 1]) (fun sz => mX12_throwsIf_2 l D Y (h0) (h1) (g0) (g1) (g2) (g3) (g4) sz) glV_RX12_69 ⟨rfl, rfl⟩ ⟨(Nat.le_of_ble_eq_true rfl), (Nat.le_of_ble_eq_true rfl)⟩ ⟨(Nat.le_of_ble_eq_true rfl), (Nat.le_of_ble_eq_true rfl)⟩ [0] rfl 13 0 rfl rfl rfl rfl (Nat.le_of_ble_eq_true rfl) rfl (fun _ _ _ => rfl) dX12_release_19 (fun r5 u5 w5 => ?_)
      obtain rfl := w5
      refine V_ws [(h0, oC 13 [.ref h1, .ref g0, .int 0, .ref g1, .ref g2, .int 0, .int 0, .int 0, .int (-1), .int 0, .int 0, .int 0, .long 0, .ref g3, .ref g4, .int 0, .int 0]), (h1, aI Y 3640 (clB 0 (fun _ => 0)))] rfl ?_
      refine V_if_eq_t 22 B 27 dX12_release_22 (by decide) (by decide +kernel) ?_
      refine V_aload_n 27 B dX12_release_27 0 rfl ?_
      refine V_iload_n 28 B dX12_release_28 1 rfl ?_
      refine V_cvi 29 B (st := []) (As := [.int p0]) (fun sz => mX12_layerOf_1 l D Y (h0) (h1) (g0) (g1) (g2) (g3) (g4) (p0) sz) glV_RX12_209 ⟨rfl, rfl⟩ ⟨(Nat.le_of_ble_eq_true rfl), (Nat.le_of_ble_eq_true rfl)⟩ ⟨(Nat.le_of_ble_eq_true rfl), (Nat.le_of_ble_eq_true rfl)⟩ [0, 0] rfl 13 0 rfl rfl rfl rfl (Nat.le_of_ble_eq_true rfl) rfl (fun _ _ _ => rfl) dX12_release_29 (fun r6 u6 w6 => ?_)
      obtain rfl := w6
      refine V_ws [(h0, oC 13 [.ref h1, .ref g0, .int 0, .ref g1, .ref g2, .int 0, .int 0, .int 0, .int (-1), .int 0, .int 0, .int 0, .long 0, .ref g3, .ref g4, .int 0, .int 0]), (h1, aI Y 3640 (clB 0 (fun _ => 0)))] rfl ?_
      refine V_istore_n 32 B (lv2 := [(2, .int (-1)), (0, .ref h0), (1, .int p0)]) dX12_release_32 (by decide) rfl ?_
      refine V_iload_n 33 B dX12_release_33 0 rfl ?_
      refine V_iconst 34 B (v := (-1)) dX12_release_34 (by decide +kernel) ?_
      refine V_icmp_eq_t 35 B 47 dX12_release_35 (by decide) (by decide +kernel) ?_
      refine V_iconst 47 B (v := 0) dX12_release_47 (by decide +kernel) ?_
      exact V_zret 48 B rfl dX12_release_48 0 (Or.inl ⟨rfl, k1, k2, rfl⟩) rfl
    ·
      refine V_ws [(h0, oC 13 [.ref h1, .ref g0, .int 0, .ref g1, .ref g2, .int 0, .int 0, .int 0, .int (-1), .int 0, .int 0, .int 0, .long 0, .ref g3, .ref g4, .int 0, .int 0]), (h1, aI Y 3640 (clB 0 (fun _ => 0)))] rfl ?_
      refine V_if_ne_f 10 B 17 dX12_release_10 (by decide) (by decide +kernel) ?_
      refine V_iconst 13 B (v := 1) dX12_release_13 (by decide +kernel) ?_
      refine V_goto 14 B 18 dX12_release_14 (by decide) ?_
      refine V_iconst 18 B (v := 1) dX12_release_18 (by decide +kernel) ?_
      refine V_cvi 19 B (st := []) (As := [.int 1, .int 1]) (fun sz => mX12_throwsIf_1 l D Y (h0) (h1) (g0) (g1) (g2) (g3) (g4) sz) glV_RX12_69 ⟨rfl, rfl⟩ ⟨(Nat.le_of_ble_eq_true rfl), (Nat.le_of_ble_eq_true rfl)⟩ ⟨(Nat.le_of_ble_eq_true rfl), (Nat.le_of_ble_eq_true rfl)⟩ [0] rfl 13 0 rfl rfl rfl rfl (Nat.le_of_ble_eq_true rfl) rfl (fun _ _ _ => rfl) dX12_release_19 (fun r7 u7 w7 => ?_)
      obtain rfl := w7
      refine V_ws [(h0, oC 13 [.ref h1, .ref g0, .int 1, .ref g1, .ref g2, .int 0, .int 0, .int 0, .int (-1), .int 0, .int 0, .int 0, .long 0, .ref g3, .ref g4, .int 0, .int 0]), (h1, aI Y 3640 (clB 0 (fun _ => 0)))] rfl ?_
      refine V_if_eq_f 22 B 27 dX12_release_22 (by decide) (by decide +kernel) ?_
      refine V_iconst 25 B (v := 0) dX12_release_25 (by decide +kernel) ?_
      exact V_zret 26 B rfl dX12_release_26 1 (Or.inr (Or.inl ⟨rfl, k3, rfl⟩)) rfl
    ·
      refine V_ws [(h0, oC 13 [.ref h1, .ref g0, .int 0, .ref g1, .ref g2, .int 0, .int 0, .int 0, .int (-1), .int 0, .int 0, .int 0, .long 0, .ref g3, .ref g4, .int 0, .int 0]), (h1, aI Y 3640 (clB 0 (fun _ => 0)))] rfl ?_
      refine V_if_ne_f 10 B 17 dX12_release_10 (by decide) (by decide +kernel) ?_
      refine V_iconst 13 B (v := 1) dX12_release_13 (by decide +kernel) ?_
      refine V_goto 14 B 18 dX12_release_14 (by decide) ?_
      refine V_iconst 18 B (v := 1) dX12_release_18 (by decide +kernel) ?_
      refine V_cvi 19 B (st := []) (As := [.int 1, .int 1]) (fun sz => mX12_throwsIf_1 l D Y (h0) (h1) (g0) (g1) (g2) (g3) (g4) sz) glV_RX12_69 ⟨rfl, rfl⟩ ⟨(Nat.le_of_ble_eq_true rfl), (Nat.le_of_ble_eq_true rfl)⟩ ⟨(Nat.le_of_ble_eq_true rfl), (Nat.le_of_ble_eq_true rfl)⟩ [0] rfl 13 0 rfl rfl rfl rfl (Nat.le_of_ble_eq_true rfl) rfl (fun _ _ _ => rfl) dX12_release_19 (fun r8 u8 w8 => ?_)
      obtain rfl := w8
      refine V_ws [(h0, oC 13 [.ref h1, .ref g0, .int 1, .ref g1, .ref g2, .int 0, .int 0, .int 0, .int (-1), .int 0, .int 0, .int 0, .long 0, .ref g3, .ref g4, .int 0, .int 0]), (h1, aI Y 3640 (clB 0 (fun _ => 0)))] rfl ?_
      refine V_if_eq_f 22 B 27 dX12_release_22 (by decide) (by decide +kernel) ?_
      refine V_iconst 25 B (v := 0) dX12_release_25 (by decide +kernel) ?_
      exact V_zret 26 B rfl dX12_release_26 2 (Or.inr (Or.inr ⟨rfl, k4, rfl⟩)) rfl)
theorem dX12_type_0 : decode cX12_type 0 = .ok (.aload_n 0, 1) := by decide +kernel
theorem dX12_type_1 : decode cX12_type 1 = .ok (.iconst 0, 1) := by decide +kernel
theorem dX12_type_2 : decode cX12_type 2 = .ok (.putfield 38, 3) := by decide +kernel
theorem dX12_type_5 : decode cX12_type 5 = .ok (.aload_n 0, 1) := by decide +kernel
theorem dX12_type_6 : decode cX12_type 6 = .ok (.iload_n 1, 1) := by decide +kernel
theorem dX12_type_7 : decode cX12_type 7 = .ok (.invokestatic 65, 3) := by decide +kernel
theorem dX12_type_10 : decode cX12_type 10 = .ok (.ifCond .ne 7, 3) := by decide +kernel
theorem dX12_type_13 : decode cX12_type 13 = .ok (.iconst 1, 1) := by decide +kernel
theorem dX12_type_14 : decode cX12_type 14 = .ok (.goto 4, 3) := by decide +kernel
theorem dX12_type_18 : decode cX12_type 18 = .ok (.iconst 1, 1) := by decide +kernel
theorem dX12_type_19 : decode cX12_type 19 = .ok (.invokevirtual 69, 3) := by decide +kernel
theorem dX12_type_22 : decode cX12_type 22 = .ok (.ifCond .eq 7, 3) := by decide +kernel
theorem dX12_type_25 : decode cX12_type 25 = .ok (.iconst 0, 1) := by decide +kernel
theorem dX12_type_26 : decode cX12_type 26 = .ok (.goto 8, 3) := by decide +kernel
theorem dX12_type_34 : decode cX12_type 34 = .ok (.ireturn, 1) := by decide +kernel
theorem dX12_type_17 : decode cX12_type 17 = .ok (.iconst 0, 1) := by decide +kernel
theorem dX12_type_29 : decode cX12_type 29 = .ok (.aload_n 0, 1) := by decide +kernel
theorem dX12_type_30 : decode cX12_type 30 = .ok (.iload_n 1, 1) := by decide +kernel
theorem dX12_type_31 : decode cX12_type 31 = .ok (.invokevirtual 218, 3) := by decide +kernel
set_option maxRecDepth 100000 in
set_option maxHeartbeats 4000000 in
theorem mX12_type_1 (l : Launch) (D : va_G) (Y : Nat → ClassId) (h0 : Nat) (h1 : Nat) (g0 : Nat) (g1 : Nat) (g2 : Nat) (g3 : Nat) (g4 : Nat) (p0 : Int32) (sz : Nat) : Met l yX12_type (WSm yX12_type cX12_type 2 (some .int)) (mkR 2 0 0 48) (PreC D Y [.ref h0, .int p0] [(h0, oC 13 [.ref h1, .ref g0, .int 0, .ref g1, .ref g2, .int 0, .int 0, .int 0, .int (-1), .int 0, .int 0, .int 0, .long 0, .ref g3, .ref g4, .int 0, .int 0]), (h1, aI Y 3640 (clB 0 (fun _ => 0)))] sz) (QI D (fun (r : Int32) (u : Nat) => (u = 0 ∧ ¬ p0 < 0 ∧ ¬ 511 < p0 ∧ 26 ≤ (p0 - p0 / 32 * 32) ∧ 0 = r) ∨ (u = 1 ∧ ¬ p0 < 0 ∧ ¬ 511 < p0 ∧ ¬ 26 ≤ (p0 - p0 / 32 * 32) ∧ (-1) = r) ∨ (u = 2 ∧ p0 < 0 ∧ 0 = r) ∨ (u = 3 ∧ 511 < p0 ∧ 0 = r)) (fun (u : Nat) => match u with | 0 => [(h0, oC 13 [.ref h1, .ref g0, .int 1, .ref g1, .ref g2, .int 0, .int 0, .int 0, .int (-1), .int 0, .int 0, .int 0, .long 0, .ref g3, .ref g4, .int 0, .int 0]), (h1, aI Y 3640 (clB 0 (fun _ => 0)))] | 1 => [(h0, oC 13 [.ref h1, .ref g0, .int 0, .ref g1, .ref g2, .int 0, .int 0, .int 0, .int (-1), .int 0, .int 0, .int 0, .long 0, .ref g3, .ref g4, .int 0, .int 0]), (h1, aI Y 3640 (upd (upd (upd (upd (upd (upd (clB 0 (fun _ => 0)) 13 1) 10 0) 3629 1) 3630 p0) 12 1) 8 0))] | 2 => [(h0, oC 13 [.ref h1, .ref g0, .int 1, .ref g1, .ref g2, .int 0, .int 0, .int 0, .int (-1), .int 0, .int 0, .int 0, .long 0, .ref g3, .ref g4, .int 0, .int 0]), (h1, aI Y 3640 (clB 0 (fun _ => 0)))] | _ => [(h0, oC 13 [.ref h1, .ref g0, .int 1, .ref g1, .ref g2, .int 0, .int 0, .int 0, .int (-1), .int 0, .int 0, .int 0, .long 0, .ref g3, .ref g4, .int 0, .int 0]), (h1, aI Y 3640 (clB 0 (fun _ => 0)))]) (va_A [(h0, oC 13 [.ref h1, .ref g0, .int 0, .ref g1, .ref g2, .int 0, .int 0, .int 0, .int (-1), .int 0, .int 0, .int 0, .long 0, .ref g3, .ref g4, .int 0, .int 0]), (h1, aI Y 3640 (clB 0 (fun _ => 0)))] sz)) 0 0 (va_A [(h0, oC 13 [.ref h1, .ref g0, .int 0, .ref g1, .ref g2, .int 0, .int 0, .int 0, .int (-1), .int 0, .int 0, .int 0, .long 0, .ref g3, .ref g4, .int 0, .int 0]), (h1, aI Y 3640 (clB 0 (fun _ => 0)))] sz) :=
  met_of (by decide +kernel) (Nat.le_of_ble_eq_true rfl) (fun p e s m args below meth c B hin hsz => by
    have B : VB p s m args meth c D Y (va_A [(h0, oC 13 [.ref h1, .ref g0, .int 0, .ref g1, .ref g2, .int 0, .int 0, .int 0, .int (-1), .int 0, .int 0, .int 0, .long 0, .ref g3, .ref g4, .int 0, .int 0]), (h1, aI Y 3640 (clB 0 (fun _ => 0)))] sz) cX12_type 2 RX12 (some .int) := B
    refine V_aload_n 0 B dX12_type_0 0 rfl ?_
    refine V_iconst 1 B (v := 0) dX12_type_1 (by decide +kernel) ?_
    refine V_put 2 B gp_RX12_38 0 rfl (Nat.le_of_ble_eq_true rfl) rfl rfl dX12_type_2 [(h0, oC 13 [.ref h1, .ref g0, .int 0, .ref g1, .ref g2, .int 0, .int 0, .int 0, .int (-1), .int 0, .int 0, .int 0, .long 0, .ref g3, .ref g4, .int 0, .int 0]), (h1, aI Y 3640 (clB 0 (fun _ => 0)))] rfl ?_
    refine V_aload_n 5 B dX12_type_5 0 rfl ?_
    refine V_iload_n 6 B dX12_type_6 1 rfl ?_
    refine V_csi 7 B (st := [.ref h0]) (As := [.int p0]) (fun sz => mX12_isStroke_1 l D Y (p0) sz) glS_RX12_65 ⟨rfl, rfl⟩ ⟨(Nat.le_of_ble_eq_true rfl), (Nat.le_of_ble_eq_true rfl)⟩ ⟨(Nat.le_of_ble_eq_true rfl), (Nat.le_of_ble_eq_true rfl)⟩ [] rfl rfl (Nat.le_of_ble_eq_true rfl) rfl (fun _ _ _ => rfl) dX12_type_7 (fun r0 u0 w0 => ?_)
    rcases w0 with ⟨k1, k2, k3, rfl⟩ | ⟨k4, k5, k6, rfl⟩ | ⟨k7, rfl⟩ | ⟨k8, rfl⟩
    ·
      refine V_ws [(h0, oC 13 [.ref h1, .ref g0, .int 0, .ref g1, .ref g2, .int 0, .int 0, .int 0, .int (-1), .int 0, .int 0, .int 0, .long 0, .ref g3, .ref g4, .int 0, .int 0]), (h1, aI Y 3640 (clB 0 (fun _ => 0)))] rfl ?_
      refine V_if_ne_f 10 B 17 dX12_type_10 (by decide) (by decide +kernel) ?_
      refine V_iconst 13 B (v := 1) dX12_type_13 (by decide +kernel) ?_
      refine V_goto 14 B 18 dX12_type_14 (by decide) ?_
      refine V_iconst 18 B (v := 1) dX12_type_18 (by decide +kernel) ?_
      refine V_cvi 19 B (st := []) (As := [.int 1, .int 1]) (fun sz => mX12_throwsIf_1 l D Y (h0) (h1) (g0) (g1) (g2) (g3) (g4) sz) glV_RX12_69 ⟨rfl, rfl⟩ ⟨(Nat.le_of_ble_eq_true rfl), (Nat.le_of_ble_eq_true rfl)⟩ ⟨(Nat.le_of_ble_eq_true rfl), (Nat.le_of_ble_eq_true rfl)⟩ [0] rfl 13 0 rfl rfl rfl rfl (Nat.le_of_ble_eq_true rfl) rfl (fun _ _ _ => rfl) dX12_type_19 (fun r9 u9 w9 => ?_)
      obtain rfl := w9
      refine V_ws [(h0, oC 13 [.ref h1, .ref g0, .int 1, .ref g1, .ref g2, .int 0, .int 0, .int 0, .int (-1), .int 0, .int 0, .int 0, .long 0, .ref g3, .ref g4, .int 0, .int 0]), (h1, aI Y 3640 (clB 0 (fun _ => 0)))] rfl ?_
      refine V_if_eq_f 22 B 29 dX12_type_22 (by decide) (by decide +kernel) ?_
      refine V_iconst 25 B (v := 0) dX12_type_25 (by decide +kernel) ?_
      refine V_goto 26 B 34 dX12_type_26 (by decide) ?_
      exact V_iret 34 B dX12_type_34 0 (Or.inl ⟨rfl, k1, k2, k3, rfl⟩) rfl
    ·
      refine V_ws [(h0, oC 13 [.ref h1, .ref g0, .int 0, .ref g1, .ref g2, .int 0, .int 0, .int 0, .int (-1), .int 0, .int 0, .int 0, .long 0, .ref g3, .ref g4, .int 0, .int 0]), (h1, aI Y 3640 (clB 0 (fun _ => 0)))] rfl ?_
      refine V_if_ne_t 10 B 17 dX12_type_10 (by decide) (by decide +kernel) ?_
      refine V_iconst 17 B (v := 0) dX12_type_17 (by decide +kernel) ?_
      refine V_iconst 18 B (v := 1) dX12_type_18 (by decide +kernel) ?_
      refine V_cvi 19 B (st := []) (As := [.int 0, .int 1]) (fun sz => mX12_throwsIf_2 l D Y (h0) (h1) (g0) (g1) (g2) (g3) (g4) sz) glV_RX12_69 ⟨rfl, rfl⟩ ⟨(Nat.le_of_ble_eq_true rfl), (Nat.le_of_ble_eq_true rfl)⟩ ⟨(Nat.le_of_ble_eq_true rfl), (Nat.le_of_ble_eq_true rfl)⟩ [0] rfl 13 0 rfl rfl rfl rfl (Nat.le_of_ble_eq_true rfl) rfl (fun _ _ _ => rfl) dX12_type_19 (fun r10 u10 w10 => ?_)
      obtain rfl := w10
      refine V_ws [(h0, oC 13 [.ref h1, .ref g0, .int 0, .ref g1, .ref g2, .int 0, .int 0, .int 0, .int (-1), .int 0, .int 0, .int 0, .long 0, .ref g3, .ref g4, .int 0, .int 0]), (h1, aI Y 3640 (clB 0 (fun _ => 0)))] rfl ?_
      refine V_if_eq_t 22 B 29 dX12_type_22 (by decide) (by decide +kernel) ?_
      refine V_aload_n 29 B dX12_type_29 0 rfl ?_
      refine V_iload_n 30 B dX12_type_30 1 rfl ?_
      refine V_cvi 31 B (st := []) (As := [.int p0]) (fun sz => mX12_makes_1 l D Y (h0) (h1) (g0) (g1) (g2) (g3) (g4) (p0) sz) glV_RX12_218 ⟨rfl, rfl⟩ ⟨(Nat.le_of_ble_eq_true rfl), (Nat.le_of_ble_eq_true rfl)⟩ ⟨(Nat.le_of_ble_eq_true rfl), (Nat.le_of_ble_eq_true rfl)⟩ [0, 0] rfl 13 0 rfl rfl rfl rfl (Nat.le_of_ble_eq_true rfl) rfl (fun _ _ _ => rfl) dX12_type_31 (fun r11 u11 w11 => ?_)
      obtain rfl := w11
      refine V_ws [(h0, oC 13 [.ref h1, .ref g0, .int 0, .ref g1, .ref g2, .int 0, .int 0, .int 0, .int (-1), .int 0, .int 0, .int 0, .long 0, .ref g3, .ref g4, .int 0, .int 0]), (h1, aI Y 3640 (upd (upd (upd (upd (upd (upd (clB 0 (fun _ => 0)) 13 1) 10 0) 3629 1) 3630 p0) 12 1) 8 0))] rfl ?_
      exact V_iret 34 B dX12_type_34 1 (Or.inr (Or.inl ⟨rfl, k4, k5, k6, rfl⟩)) rfl
    ·
      refine V_ws [(h0, oC 13 [.ref h1, .ref g0, .int 0, .ref g1, .ref g2, .int 0, .int 0, .int 0, .int (-1), .int 0, .int 0, .int 0, .long 0, .ref g3, .ref g4, .int 0, .int 0]), (h1, aI Y 3640 (clB 0 (fun _ => 0)))] rfl ?_
      refine V_if_ne_f 10 B 17 dX12_type_10 (by decide) (by decide +kernel) ?_
      refine V_iconst 13 B (v := 1) dX12_type_13 (by decide +kernel) ?_
      refine V_goto 14 B 18 dX12_type_14 (by decide) ?_
      refine V_iconst 18 B (v := 1) dX12_type_18 (by decide +kernel) ?_
      refine V_cvi 19 B (st := []) (As := [.int 1, .int 1]) (fun sz => mX12_throwsIf_1 l D Y (h0) (h1) (g0) (g1) (g2) (g3) (g4) sz) glV_RX12_69 ⟨rfl, rfl⟩ ⟨(Nat.le_of_ble_eq_true rfl), (Nat.le_of_ble_eq_true rfl)⟩ ⟨(Nat.le_of_ble_eq_true rfl), (Nat.le_of_ble_eq_true rfl)⟩ [0] rfl 13 0 rfl rfl rfl rfl (Nat.le_of_ble_eq_true rfl) rfl (fun _ _ _ => rfl) dX12_type_19 (fun r12 u12 w12 => ?_)
      obtain rfl := w12
      refine V_ws [(h0, oC 13 [.ref h1, .ref g0, .int 1, .ref g1, .ref g2, .int 0, .int 0, .int 0, .int (-1), .int 0, .int 0, .int 0, .long 0, .ref g3, .ref g4, .int 0, .int 0]), (h1, aI Y 3640 (clB 0 (fun _ => 0)))] rfl ?_
      refine V_if_eq_f 22 B 29 dX12_type_22 (by decide) (by decide +kernel) ?_
      refine V_iconst 25 B (v := 0) dX12_type_25 (by decide +kernel) ?_
      refine V_goto 26 B 34 dX12_type_26 (by decide) ?_
      exact V_iret 34 B dX12_type_34 2 (Or.inr (Or.inr (Or.inl ⟨rfl, k7, rfl⟩))) rfl
    ·
      refine V_ws [(h0, oC 13 [.ref h1, .ref g0, .int 0, .ref g1, .ref g2, .int 0, .int 0, .int 0, .int (-1), .int 0, .int 0, .int 0, .long 0, .ref g3, .ref g4, .int 0, .int 0]), (h1, aI Y 3640 (clB 0 (fun _ => 0)))] rfl ?_
      refine V_if_ne_f 10 B 17 dX12_type_10 (by decide) (by decide +kernel) ?_
      refine V_iconst 13 B (v := 1) dX12_type_13 (by decide +kernel) ?_
      refine V_goto 14 B 18 dX12_type_14 (by decide) ?_
      refine V_iconst 18 B (v := 1) dX12_type_18 (by decide +kernel) ?_
      refine V_cvi 19 B (st := []) (As := [.int 1, .int 1]) (fun sz => mX12_throwsIf_1 l D Y (h0) (h1) (g0) (g1) (g2) (g3) (g4) sz) glV_RX12_69 ⟨rfl, rfl⟩ ⟨(Nat.le_of_ble_eq_true rfl), (Nat.le_of_ble_eq_true rfl)⟩ ⟨(Nat.le_of_ble_eq_true rfl), (Nat.le_of_ble_eq_true rfl)⟩ [0] rfl 13 0 rfl rfl rfl rfl (Nat.le_of_ble_eq_true rfl) rfl (fun _ _ _ => rfl) dX12_type_19 (fun r13 u13 w13 => ?_)
      obtain rfl := w13
      refine V_ws [(h0, oC 13 [.ref h1, .ref g0, .int 1, .ref g1, .ref g2, .int 0, .int 0, .int 0, .int (-1), .int 0, .int 0, .int 0, .long 0, .ref g3, .ref g4, .int 0, .int 0]), (h1, aI Y 3640 (clB 0 (fun _ => 0)))] rfl ?_
      refine V_if_eq_f 22 B 29 dX12_type_22 (by decide) (by decide +kernel) ?_
      refine V_iconst 25 B (v := 0) dX12_type_25 (by decide +kernel) ?_
      refine V_goto 26 B 34 dX12_type_26 (by decide) ?_
      exact V_iret 34 B dX12_type_34 3 (Or.inr (Or.inr (Or.inr ⟨rfl, k8, rfl⟩))) rfl)
theorem dX12_typeDraft_0 : decode cX12_typeDraft 0 = .ok (.aload_n 0, 1) := by decide +kernel
theorem dX12_typeDraft_1 : decode cX12_typeDraft 1 = .ok (.iconst 0, 1) := by decide +kernel
theorem dX12_typeDraft_2 : decode cX12_typeDraft 2 = .ok (.putfield 38, 3) := by decide +kernel
theorem dX12_typeDraft_5 : decode cX12_typeDraft 5 = .ok (.iconst 0, 1) := by decide +kernel
theorem dX12_typeDraft_6 : decode cX12_typeDraft 6 = .ok (.istore_n 1, 1) := by decide +kernel
theorem dX12_typeDraft_7 : decode cX12_typeDraft 7 = .ok (.iconst 1, 1) := by decide +kernel
theorem dX12_typeDraft_8 : decode cX12_typeDraft 8 = .ok (.istore_n 2, 1) := by decide +kernel
theorem dX12_typeDraft_9 : decode cX12_typeDraft 9 = .ok (.iload_n 2, 1) := by decide +kernel
theorem dX12_typeDraft_10 : decode cX12_typeDraft 10 = .ok (.aload_n 0, 1) := by decide +kernel
theorem dX12_typeDraft_11 : decode cX12_typeDraft 11 = .ok (.getfield 9, 3) := by decide +kernel
theorem dX12_typeDraft_14 : decode cX12_typeDraft 14 = .ok (.sipush 3624, 3) := by decide +kernel
theorem dX12_typeDraft_17 : decode cX12_typeDraft 17 = .ok (.iaload, 1) := by decide +kernel
theorem dX12_typeDraft_18 : decode cX12_typeDraft 18 = .ok (.if_icmp .gt 35, 3) := by decide +kernel
theorem dX12_typeDraft_53 : decode cX12_typeDraft 53 = .ok (.iload_n 1, 1) := by decide +kernel
theorem dX12_typeDraft_54 : decode cX12_typeDraft 54 = .ok (.ireturn, 1) := by decide +kernel
set_option maxRecDepth 100000 in
set_option maxHeartbeats 4000000 in
theorem mX12_typeDraft_1 (l : Launch) (D : va_G) (Y : Nat → ClassId) (h0 : Nat) (h1 : Nat) (g0 : Nat) (g1 : Nat) (g2 : Nat) (g3 : Nat) (g4 : Nat) (sz : Nat) : Met l yX12_typeDraft (WSm yX12_typeDraft cX12_typeDraft 3 (some .int)) (mkR 0 0 0 0) (PreC D Y [.ref h0] [(h0, oC 13 [.ref h1, .ref g0, .int 0, .ref g1, .ref g2, .int 0, .int 0, .int 0, .int (-1), .int 0, .int 0, .int 0, .long 0, .ref g3, .ref g4, .int 0, .int 0]), (h1, aI Y 3640 (clB 0 (fun _ => 0)))] sz) (QI D (fun (r : Int32) (u : Unit) => 0 = r) (fun (_ : Unit) => [(h0, oC 13 [.ref h1, .ref g0, .int 0, .ref g1, .ref g2, .int 0, .int 0, .int 0, .int (-1), .int 0, .int 0, .int 0, .long 0, .ref g3, .ref g4, .int 0, .int 0]), (h1, aI Y 3640 (clB 0 (fun _ => 0)))]) (va_A [(h0, oC 13 [.ref h1, .ref g0, .int 0, .ref g1, .ref g2, .int 0, .int 0, .int 0, .int (-1), .int 0, .int 0, .int 0, .long 0, .ref g3, .ref g4, .int 0, .int 0]), (h1, aI Y 3640 (clB 0 (fun _ => 0)))] sz)) 0 0 (va_A [(h0, oC 13 [.ref h1, .ref g0, .int 0, .ref g1, .ref g2, .int 0, .int 0, .int 0, .int (-1), .int 0, .int 0, .int 0, .long 0, .ref g3, .ref g4, .int 0, .int 0]), (h1, aI Y 3640 (clB 0 (fun _ => 0)))] sz) :=
  met_of (by decide +kernel) (Nat.le_of_ble_eq_true rfl) (fun p e s m args below meth c B hin hsz => by
    have B : VB p s m args meth c D Y (va_A [(h0, oC 13 [.ref h1, .ref g0, .int 0, .ref g1, .ref g2, .int 0, .int 0, .int 0, .int (-1), .int 0, .int 0, .int 0, .long 0, .ref g3, .ref g4, .int 0, .int 0]), (h1, aI Y 3640 (clB 0 (fun _ => 0)))] sz) cX12_typeDraft 3 RX12 (some .int) := B
    refine V_aload_n 0 B dX12_typeDraft_0 0 rfl ?_
    refine V_iconst 1 B (v := 0) dX12_typeDraft_1 (by decide +kernel) ?_
    refine V_put 2 B gp_RX12_38 0 rfl (Nat.le_of_ble_eq_true rfl) rfl rfl dX12_typeDraft_2 [(h0, oC 13 [.ref h1, .ref g0, .int 0, .ref g1, .ref g2, .int 0, .int 0, .int 0, .int (-1), .int 0, .int 0, .int 0, .long 0, .ref g3, .ref g4, .int 0, .int 0]), (h1, aI Y 3640 (clB 0 (fun _ => 0)))] rfl ?_
    refine V_iconst 5 B (v := 0) dX12_typeDraft_5 (by decide +kernel) ?_
    refine V_istore_n 6 B (lv2 := [(1, .int 0), (0, .ref h0)]) dX12_typeDraft_6 (by decide) rfl ?_
    refine V_iconst 7 B (v := 1) dX12_typeDraft_7 (by decide +kernel) ?_
    refine V_istore_n 8 B (lv2 := [(2, .int 1), (1, .int 0), (0, .ref h0)]) dX12_typeDraft_8 (by decide) rfl ?_
    refine V_iload_n 9 B dX12_typeDraft_9 0 rfl ?_
    refine V_aload_n 10 B dX12_typeDraft_10 2 rfl ?_
    refine V_get 11 B gf_RX12_9 0 rfl rfl dX12_typeDraft_11 ?_
    refine V_sipush 14 B (v := 3624) dX12_typeDraft_14 (by decide +kernel) ?_
    refine V_iald 17 B (v := 0) 1 rfl (vpin _ _ (by decide +kernel)) dX12_typeDraft_17 rfl ?_
    refine V_icmp_gt_t 18 B 53 dX12_typeDraft_18 (by decide) (by decide +kernel) ?_
    refine V_iload_n 53 B dX12_typeDraft_53 1 rfl ?_
    exact V_iret 54 B dX12_typeDraft_54 () rfl rfl)
theorem dX12_dropLate_0 : decode cX12_dropLate 0 = .ok (.aload_n 0, 1) := by decide +kernel
theorem dX12_dropLate_1 : decode cX12_dropLate 1 = .ok (.getfield 9, 3) := by decide +kernel
theorem dX12_dropLate_4 : decode cX12_dropLate 4 = .ok (.bipush 8, 2) := by decide +kernel
theorem dX12_dropLate_6 : decode cX12_dropLate 6 = .ok (.iaload, 1) := by decide +kernel
theorem dX12_dropLate_7 : decode cX12_dropLate 7 = .ok (.ifCond .eq 36, 3) := by decide +kernel
theorem dX12_dropLate_43 : decode cX12_dropLate 43 = .ok (.return_, 1) := by decide +kernel
set_option maxRecDepth 100000 in
set_option maxHeartbeats 4000000 in
theorem mX12_dropLate_1 (l : Launch) (D : va_G) (Y : Nat → ClassId) (h0 : Nat) (h1 : Nat) (g0 : Nat) (g1 : Nat) (g2 : Nat) (g3 : Nat) (g4 : Nat) (p0 : Int32) (sz : Nat) : Met l yX12_dropLate (WSm yX12_dropLate cX12_dropLate 1 none) (mkR 0 0 0 0) (PreC D Y [.ref h0] [(h0, oC 13 [.ref h1, .ref g0, .int 0, .ref g1, .ref g2, .int 0, .int 0, .int 0, .int (-1), .int 0, .int 0, .int 0, .long 0, .ref g3, .ref g4, .int 0, .int 0]), (h1, aI Y 3640 (upd (clB 0 (fun _ => 0)) 9 p0))] sz) (QV D (fun (u : Unit) => True) (fun (_ : Unit) => [(h0, oC 13 [.ref h1, .ref g0, .int 0, .ref g1, .ref g2, .int 0, .int 0, .int 0, .int (-1), .int 0, .int 0, .int 0, .long 0, .ref g3, .ref g4, .int 0, .int 0]), (h1, aI Y 3640 (upd (clB 0 (fun _ => 0)) 9 p0))]) (va_A [(h0, oC 13 [.ref h1, .ref g0, .int 0, .ref g1, .ref g2, .int 0, .int 0, .int 0, .int (-1), .int 0, .int 0, .int 0, .long 0, .ref g3, .ref g4, .int 0, .int 0]), (h1, aI Y 3640 (upd (clB 0 (fun _ => 0)) 9 p0))] sz)) 0 0 (va_A [(h0, oC 13 [.ref h1, .ref g0, .int 0, .ref g1, .ref g2, .int 0, .int 0, .int 0, .int (-1), .int 0, .int 0, .int 0, .long 0, .ref g3, .ref g4, .int 0, .int 0]), (h1, aI Y 3640 (upd (clB 0 (fun _ => 0)) 9 p0))] sz) :=
  met_of (by decide +kernel) (Nat.le_of_ble_eq_true rfl) (fun p e s m args below meth c B hin hsz => by
    have B : VB p s m args meth c D Y (va_A [(h0, oC 13 [.ref h1, .ref g0, .int 0, .ref g1, .ref g2, .int 0, .int 0, .int 0, .int (-1), .int 0, .int 0, .int 0, .long 0, .ref g3, .ref g4, .int 0, .int 0]), (h1, aI Y 3640 (upd (clB 0 (fun _ => 0)) 9 p0))] sz) cX12_dropLate 1 RX12 none := B
    refine V_aload_n 0 B dX12_dropLate_0 0 rfl ?_
    refine V_get 1 B gf_RX12_9 0 rfl rfl dX12_dropLate_1 ?_
    refine V_bipush 4 B (v := 8) dX12_dropLate_4 (by decide +kernel) ?_
    refine V_iald 6 B (v := 0) 1 rfl (vpin _ _ (by decide +kernel)) dX12_dropLate_6 rfl ?_
    refine V_if_eq_t 7 B 43 dX12_dropLate_7 (by decide) (by decide +kernel) ?_
    exact V_vret 43 B dX12_dropLate_43 () trivial rfl)
theorem dX12_tick_0 : decode cX12_tick 0 = .ok (.aload_n 0, 1) := by decide +kernel
theorem dX12_tick_1 : decode cX12_tick 1 = .ok (.iconst 0, 1) := by decide +kernel
theorem dX12_tick_2 : decode cX12_tick 2 = .ok (.putfield 38, 3) := by decide +kernel
theorem dX12_tick_5 : decode cX12_tick 5 = .ok (.aload_n 0, 1) := by decide +kernel
theorem dX12_tick_6 : decode cX12_tick 6 = .ok (.iload_n 1, 1) := by decide +kernel
theorem dX12_tick_7 : decode cX12_tick 7 = .ok (.i2l, 1) := by decide +kernel
theorem dX12_tick_8 : decode cX12_tick 8 = .ok (.lconst 1, 1) := by decide +kernel
theorem dX12_tick_9 : decode cX12_tick 9 = .ok (.ldc2_w 224, 3) := by decide +kernel
theorem dX12_tick_12 : decode cX12_tick 12 = .ok (.invokestatic 41, 3) := by decide +kernel
theorem dX12_tick_15 : decode cX12_tick 15 = .ok (.ifCond .ne 7, 3) := by decide +kernel
theorem dX12_tick_22 : decode cX12_tick 22 = .ok (.iconst 0, 1) := by decide +kernel
theorem dX12_tick_23 : decode cX12_tick 23 = .ok (.iconst 1, 1) := by decide +kernel
theorem dX12_tick_24 : decode cX12_tick 24 = .ok (.invokevirtual 69, 3) := by decide +kernel
theorem dX12_tick_27 : decode cX12_tick 27 = .ok (.ifCond .eq 5, 3) := by decide +kernel
theorem dX12_tick_32 : decode cX12_tick 32 = .ok (.aload_n 0, 1) := by decide +kernel
theorem dX12_tick_33 : decode cX12_tick 33 = .ok (.getfield 9, 3) := by decide +kernel
theorem dX12_tick_36 : decode cX12_tick 36 = .ok (.bipush 9, 2) := by decide +kernel
theorem dX12_tick_38 : decode cX12_tick 38 = .ok (.iaload, 1) := by decide +kernel
theorem dX12_tick_39 : decode cX12_tick 39 = .ok (.iload_n 1, 1) := by decide +kernel
theorem dX12_tick_40 : decode cX12_tick 40 = .ok (.iadd, 1) := by decide +kernel
theorem dX12_tick_41 : decode cX12_tick 41 = .ok (.ldc 184, 2) := by decide +kernel
theorem dX12_tick_43 : decode cX12_tick 43 = .ok (.if_icmp .le 6, 3) := by decide +kernel
theorem dX12_tick_49 : decode cX12_tick 49 = .ok (.aload_n 0, 1) := by decide +kernel
theorem dX12_tick_50 : decode cX12_tick 50 = .ok (.getfield 9, 3) := by decide +kernel
theorem dX12_tick_53 : decode cX12_tick 53 = .ok (.bipush 9, 2) := by decide +kernel
theorem dX12_tick_55 : decode cX12_tick 55 = .ok (.dup2, 1) := by decide +kernel
theorem dX12_tick_56 : decode cX12_tick 56 = .ok (.iaload, 1) := by decide +kernel
theorem dX12_tick_57 : decode cX12_tick 57 = .ok (.iload_n 1, 1) := by decide +kernel
theorem dX12_tick_58 : decode cX12_tick 58 = .ok (.iadd, 1) := by decide +kernel
theorem dX12_tick_59 : decode cX12_tick 59 = .ok (.iastore, 1) := by decide +kernel
theorem dX12_tick_60 : decode cX12_tick 60 = .ok (.aload_n 0, 1) := by decide +kernel
theorem dX12_tick_61 : decode cX12_tick 61 = .ok (.invokevirtual 226, 3) := by decide +kernel
theorem glV_RX12_226 : GLV RX12 226 yX12_dropLate RX12 cX12_dropLate 1 none 0 := ⟨⟨(mT9 126 rfl rfl), (mT9 128 rfl rfl), (mTs 69 rfl rfl), (mT1 13 rfl rfl), (mT9 129 rfl rfl)⟩, by decide +kernel⟩
theorem dX12_tick_64 : decode cX12_tick 64 = .ok (.aload_n 0, 1) := by decide +kernel
theorem dX12_tick_65 : decode cX12_tick 65 = .ok (.getfield 9, 3) := by decide +kernel
theorem dX12_tick_68 : decode cX12_tick 68 = .ok (.bipush 9, 2) := by decide +kernel
theorem dX12_tick_70 : decode cX12_tick 70 = .ok (.iaload, 1) := by decide +kernel
theorem dX12_tick_71 : decode cX12_tick 71 = .ok (.ireturn, 1) := by decide +kernel
theorem dX12_tick_18 : decode cX12_tick 18 = .ok (.iconst 1, 1) := by decide +kernel
theorem dX12_tick_19 : decode cX12_tick 19 = .ok (.goto 4, 3) := by decide +kernel
theorem dX12_tick_30 : decode cX12_tick 30 = .ok (.iconst 0, 1) := by decide +kernel
theorem dX12_tick_31 : decode cX12_tick 31 = .ok (.ireturn, 1) := by decide +kernel
set_option maxRecDepth 100000 in
set_option maxHeartbeats 4000000 in
theorem mX12_tick_1 (l : Launch) (D : va_G) (Y : Nat → ClassId) (h0 : Nat) (h1 : Nat) (g0 : Nat) (g1 : Nat) (g2 : Nat) (g3 : Nat) (g4 : Nat) (p0 : Int32) (sz : Nat) : Met l yX12_tick (WSm yX12_tick cX12_tick 2 (some .int)) (mkR 1 0 0 25) (PreC D Y [.ref h0, .int p0] [(h0, oC 13 [.ref h1, .ref g0, .int 0, .ref g1, .ref g2, .int 0, .int 0, .int 0, .int (-1), .int 0, .int 0, .int 0, .long 0, .ref g3, .ref g4, .int 0, .int 0]), (h1, aI Y 3640 (clB 0 (fun _ => 0)))] sz) (QI D (fun (r : Int32) (u : Nat) => (u = 0 ∧ ¬ p0 < 1 ∧ ¬ 1000 < p0 ∧ p0 = r) ∨ (u = 1 ∧ p0 < 1 ∧ 0 = r) ∨ (u = 2 ∧ 1000 < p0 ∧ 0 = r)) (fun (u : Nat) => match u with | 0 => [(h0, oC 13 [.ref h1, .ref g0, .int 0, .ref g1, .ref g2, .int 0, .int 0, .int 0, .int (-1), .int 0, .int 0, .int 0, .long 0, .ref g3, .ref g4, .int 0, .int 0]), (h1, aI Y 3640 (upd (clB 0 (fun _ => 0)) 9 p0))] | 1 => [(h0, oC 13 [.ref h1, .ref g0, .int 1, .ref g1, .ref g2, .int 0, .int 0, .int 0, .int (-1), .int 0, .int 0, .int 0, .long 0, .ref g3, .ref g4, .int 0, .int 0]), (h1, aI Y 3640 (clB 0 (fun _ => 0)))] | _ => [(h0, oC 13 [.ref h1, .ref g0, .int 1, .ref g1, .ref g2, .int 0, .int 0, .int 0, .int (-1), .int 0, .int 0, .int 0, .long 0, .ref g3, .ref g4, .int 0, .int 0]), (h1, aI Y 3640 (clB 0 (fun _ => 0)))]) (va_A [(h0, oC 13 [.ref h1, .ref g0, .int 0, .ref g1, .ref g2, .int 0, .int 0, .int 0, .int (-1), .int 0, .int 0, .int 0, .long 0, .ref g3, .ref g4, .int 0, .int 0]), (h1, aI Y 3640 (clB 0 (fun _ => 0)))] sz)) 0 0 (va_A [(h0, oC 13 [.ref h1, .ref g0, .int 0, .ref g1, .ref g2, .int 0, .int 0, .int 0, .int (-1), .int 0, .int 0, .int 0, .long 0, .ref g3, .ref g4, .int 0, .int 0]), (h1, aI Y 3640 (clB 0 (fun _ => 0)))] sz) :=
  met_of (by decide +kernel) (Nat.le_of_ble_eq_true rfl) (fun p e s m args below meth c B hin hsz => by
    have B : VB p s m args meth c D Y (va_A [(h0, oC 13 [.ref h1, .ref g0, .int 0, .ref g1, .ref g2, .int 0, .int 0, .int 0, .int (-1), .int 0, .int 0, .int 0, .long 0, .ref g3, .ref g4, .int 0, .int 0]), (h1, aI Y 3640 (clB 0 (fun _ => 0)))] sz) cX12_tick 2 RX12 (some .int) := B
    refine V_aload_n 0 B dX12_tick_0 0 rfl ?_
    refine V_iconst 1 B (v := 0) dX12_tick_1 (by decide +kernel) ?_
    refine V_put 2 B gp_RX12_38 0 rfl (Nat.le_of_ble_eq_true rfl) rfl rfl dX12_tick_2 [(h0, oC 13 [.ref h1, .ref g0, .int 0, .ref g1, .ref g2, .int 0, .int 0, .int 0, .int (-1), .int 0, .int 0, .int 0, .long 0, .ref g3, .ref g4, .int 0, .int 0]), (h1, aI Y 3640 (clB 0 (fun _ => 0)))] rfl ?_
    refine V_aload_n 5 B dX12_tick_5 0 rfl ?_
    refine V_iload_n 6 B dX12_tick_6 1 rfl ?_
    refine V_i2l 7 B dX12_tick_7 rfl ?_
    refine V_lconst 8 B (v := 1) dX12_tick_8 (by decide +kernel) ?_
    refine V_ldc2 9 B (v := 1000) dX12_tick_9 (mT9 125 rfl rfl) ?_
    refine V_csi 12 B (st := [.ref h0]) (As := [.long p0.toInt64, .long 1, .long 1000]) (fun sz => mX12_inRange_m l D Y (p0) (1) (1000) (1) (1000) (by decide +kernel) (by decide +kernel) sz) glS_RX12_41 ⟨rfl, rfl⟩ ⟨(Nat.le_of_ble_eq_true rfl), (Nat.le_of_ble_eq_true rfl)⟩ ⟨(Nat.le_of_ble_eq_true rfl), (Nat.le_of_ble_eq_true rfl)⟩ [] rfl rfl (Nat.le_of_ble_eq_true rfl) rfl (fun _ _ _ => rfl) dX12_tick_12 (fun r0 u0 w0 => ?_)
    rcases w0 with ⟨k1, k2, rfl⟩ | ⟨k3, rfl⟩ | ⟨k4, rfl⟩
    ·
      refine V_ws [(h0, oC 13 [.ref h1, .ref g0, .int 0, .ref g1, .ref g2, .int 0, .int 0, .int 0, .int (-1), .int 0, .int 0, .int 0, .long 0, .ref g3, .ref g4, .int 0, .int 0]), (h1, aI Y 3640 (clB 0 (fun _ => 0)))] rfl ?_
      refine V_if_ne_t 15 B 22 dX12_tick_15 (by decide) (by decide +kernel) ?_
      refine V_iconst 22 B (v := 0) dX12_tick_22 (by decide +kernel) ?_
      refine V_iconst 23 B (v := 1) dX12_tick_23 (by decide +kernel) ?_
      refine V_cvi 24 B (st := []) (As := [.int 0, .int 1]) (fun sz => mX12_throwsIf_2 l D Y (h0) (h1) (g0) (g1) (g2) (g3) (g4) sz) glV_RX12_69 ⟨rfl, rfl⟩ ⟨(Nat.le_of_ble_eq_true rfl), (Nat.le_of_ble_eq_true rfl)⟩ ⟨(Nat.le_of_ble_eq_true rfl), (Nat.le_of_ble_eq_true rfl)⟩ [0] rfl 13 0 rfl rfl rfl rfl (Nat.le_of_ble_eq_true rfl) rfl (fun _ _ _ => rfl) dX12_tick_24 (fun r5 u5 w5 => ?_)
      obtain rfl := w5
      refine V_ws [(h0, oC 13 [.ref h1, .ref g0, .int 0, .ref g1, .ref g2, .int 0, .int 0, .int 0, .int (-1), .int 0, .int 0, .int 0, .long 0, .ref g3, .ref g4, .int 0, .int 0]), (h1, aI Y 3640 (clB 0 (fun _ => 0)))] rfl ?_
      refine V_if_eq_t 27 B 32 dX12_tick_27 (by decide) (by decide +kernel) ?_
      refine V_aload_n 32 B dX12_tick_32 0 rfl ?_
      refine V_get 33 B gf_RX12_9 0 rfl rfl dX12_tick_33 ?_
      refine V_bipush 36 B (v := 9) dX12_tick_36 (by decide +kernel) ?_
      refine V_iald 38 B (v := 0) 1 rfl (vpin _ _ (by decide +kernel)) dX12_tick_38 rfl ?_
      refine V_iload_n 39 B dX12_tick_39 1 rfl ?_
      refine V_iadd 40 B dX12_tick_40 (Int32.zero_add _) ?_
      refine V_ldc 41 B (v := 1000000) dX12_tick_41 (mT9 29 rfl rfl) ?_
      refine V_icmp_le_t 43 B 49 dX12_tick_43 (by decide) (q_le (b_ngt k2 (n := 1000) (by decide +kernel)) (by decide +kernel)) ?_
      refine V_aload_n 49 B dX12_tick_49 0 rfl ?_
      refine V_get 50 B gf_RX12_9 0 rfl rfl dX12_tick_50 ?_
      refine V_bipush 53 B (v := 9) dX12_tick_53 (by decide +kernel) ?_
      refine V_dup2_11 55 B dX12_tick_55 rfl rfl ?_
      refine V_iald 56 B (v := 0) 1 rfl (vpin _ _ (by decide +kernel)) dX12_tick_56 rfl ?_
      refine V_iload_n 57 B dX12_tick_57 1 rfl ?_
      refine V_iadd 58 B dX12_tick_58 (Int32.zero_add _) ?_
      refine V_iast 59 B 1 rfl (vpin _ _ (by decide +kernel)) dX12_tick_59 [(h0, oC 13 [.ref h1, .ref g0, .int 0, .ref g1, .ref g2, .int 0, .int 0, .int 0, .int (-1), .int 0, .int 0, .int 0, .long 0, .ref g3, .ref g4, .int 0, .int 0]), (h1, aI Y 3640 (upd (clB 0 (fun _ => 0)) 9 p0))] rfl ?_
      refine V_aload_n 60 B dX12_tick_60 0 rfl ?_
      refine V_cvv 61 B (st := []) (As := []) (fun sz => mX12_dropLate_1 l D Y (h0) (h1) (g0) (g1) (g2) (g3) (g4) (p0) sz) glV_RX12_226 ⟨rfl, rfl⟩ ⟨(Nat.le_of_ble_eq_true rfl), (Nat.le_of_ble_eq_true rfl)⟩ ⟨(Nat.le_of_ble_eq_true rfl), (Nat.le_of_ble_eq_true rfl)⟩ [0, 0] rfl 13 0 rfl rfl rfl rfl (Nat.le_of_ble_eq_true rfl) rfl (fun _ _ => rfl) dX12_tick_61 (fun u6 w6 => ?_)
      refine V_ws [(h0, oC 13 [.ref h1, .ref g0, .int 0, .ref g1, .ref g2, .int 0, .int 0, .int 0, .int (-1), .int 0, .int 0, .int 0, .long 0, .ref g3, .ref g4, .int 0, .int 0]), (h1, aI Y 3640 (upd (clB 0 (fun _ => 0)) 9 p0))] rfl ?_
      refine V_aload_n 64 B dX12_tick_64 0 rfl ?_
      refine V_get 65 B gf_RX12_9 0 rfl rfl dX12_tick_65 ?_
      refine V_bipush 68 B (v := 9) dX12_tick_68 (by decide +kernel) ?_
      refine V_iald 70 B (v := p0) 1 rfl (vpin _ _ (by decide +kernel)) dX12_tick_70 rfl ?_
      exact V_iret 71 B dX12_tick_71 0 (Or.inl ⟨rfl, k1, k2, rfl⟩) rfl
    ·
      refine V_ws [(h0, oC 13 [.ref h1, .ref g0, .int 0, .ref g1, .ref g2, .int 0, .int 0, .int 0, .int (-1), .int 0, .int 0, .int 0, .long 0, .ref g3, .ref g4, .int 0, .int 0]), (h1, aI Y 3640 (clB 0 (fun _ => 0)))] rfl ?_
      refine V_if_ne_f 15 B 22 dX12_tick_15 (by decide) (by decide +kernel) ?_
      refine V_iconst 18 B (v := 1) dX12_tick_18 (by decide +kernel) ?_
      refine V_goto 19 B 23 dX12_tick_19 (by decide) ?_
      refine V_iconst 23 B (v := 1) dX12_tick_23 (by decide +kernel) ?_
      refine V_cvi 24 B (st := []) (As := [.int 1, .int 1]) (fun sz => mX12_throwsIf_1 l D Y (h0) (h1) (g0) (g1) (g2) (g3) (g4) sz) glV_RX12_69 ⟨rfl, rfl⟩ ⟨(Nat.le_of_ble_eq_true rfl), (Nat.le_of_ble_eq_true rfl)⟩ ⟨(Nat.le_of_ble_eq_true rfl), (Nat.le_of_ble_eq_true rfl)⟩ [0] rfl 13 0 rfl rfl rfl rfl (Nat.le_of_ble_eq_true rfl) rfl (fun _ _ _ => rfl) dX12_tick_24 (fun r7 u7 w7 => ?_)
      obtain rfl := w7
      refine V_ws [(h0, oC 13 [.ref h1, .ref g0, .int 1, .ref g1, .ref g2, .int 0, .int 0, .int 0, .int (-1), .int 0, .int 0, .int 0, .long 0, .ref g3, .ref g4, .int 0, .int 0]), (h1, aI Y 3640 (clB 0 (fun _ => 0)))] rfl ?_
      refine V_if_eq_f 27 B 32 dX12_tick_27 (by decide) (by decide +kernel) ?_
      refine V_iconst 30 B (v := 0) dX12_tick_30 (by decide +kernel) ?_
      exact V_iret 31 B dX12_tick_31 1 (Or.inr (Or.inl ⟨rfl, k3, rfl⟩)) rfl
    ·
      refine V_ws [(h0, oC 13 [.ref h1, .ref g0, .int 0, .ref g1, .ref g2, .int 0, .int 0, .int 0, .int (-1), .int 0, .int 0, .int 0, .long 0, .ref g3, .ref g4, .int 0, .int 0]), (h1, aI Y 3640 (clB 0 (fun _ => 0)))] rfl ?_
      refine V_if_ne_f 15 B 22 dX12_tick_15 (by decide) (by decide +kernel) ?_
      refine V_iconst 18 B (v := 1) dX12_tick_18 (by decide +kernel) ?_
      refine V_goto 19 B 23 dX12_tick_19 (by decide) ?_
      refine V_iconst 23 B (v := 1) dX12_tick_23 (by decide +kernel) ?_
      refine V_cvi 24 B (st := []) (As := [.int 1, .int 1]) (fun sz => mX12_throwsIf_1 l D Y (h0) (h1) (g0) (g1) (g2) (g3) (g4) sz) glV_RX12_69 ⟨rfl, rfl⟩ ⟨(Nat.le_of_ble_eq_true rfl), (Nat.le_of_ble_eq_true rfl)⟩ ⟨(Nat.le_of_ble_eq_true rfl), (Nat.le_of_ble_eq_true rfl)⟩ [0] rfl 13 0 rfl rfl rfl rfl (Nat.le_of_ble_eq_true rfl) rfl (fun _ _ _ => rfl) dX12_tick_24 (fun r8 u8 w8 => ?_)
      obtain rfl := w8
      refine V_ws [(h0, oC 13 [.ref h1, .ref g0, .int 1, .ref g1, .ref g2, .int 0, .int 0, .int 0, .int (-1), .int 0, .int 0, .int 0, .long 0, .ref g3, .ref g4, .int 0, .int 0]), (h1, aI Y 3640 (clB 0 (fun _ => 0)))] rfl ?_
      refine V_if_eq_f 27 B 32 dX12_tick_27 (by decide) (by decide +kernel) ?_
      refine V_iconst 30 B (v := 0) dX12_tick_30 (by decide +kernel) ?_
      exact V_iret 31 B dX12_tick_31 2 (Or.inr (Or.inr ⟨rfl, k4, rfl⟩)) rfl)
theorem dX12_typing_0 : decode cX12_typing 0 = .ok (.aload_n 0, 1) := by decide +kernel
theorem dX12_typing_1 : decode cX12_typing 1 = .ok (.iconst 0, 1) := by decide +kernel
theorem dX12_typing_2 : decode cX12_typing 2 = .ok (.putfield 38, 3) := by decide +kernel
theorem dX12_typing_5 : decode cX12_typing 5 = .ok (.iload_n 1, 1) := by decide +kernel
theorem dX12_typing_6 : decode cX12_typing 6 = .ok (.tableswitch 82 0 4 #[34, 42, 50, 58, 66], 34) := by decide +kernel
theorem dX12_typing_40 : decode cX12_typing 40 = .ok (.aload_n 0, 1) := by decide +kernel
theorem dX12_typing_41 : decode cX12_typing 41 = .ok (.getfield 9, 3) := by decide +kernel
theorem dX12_typing_44 : decode cX12_typing 44 = .ok (.bipush 6, 2) := by decide +kernel
theorem dX12_typing_46 : decode cX12_typing 46 = .ok (.iaload, 1) := by decide +kernel
theorem dX12_typing_47 : decode cX12_typing 47 = .ok (.ireturn, 1) := by decide +kernel
theorem dX12_typing_48 : decode cX12_typing 48 = .ok (.aload_n 0, 1) := by decide +kernel
theorem dX12_typing_49 : decode cX12_typing 49 = .ok (.getfield 9, 3) := by decide +kernel
theorem dX12_typing_52 : decode cX12_typing 52 = .ok (.bipush 11, 2) := by decide +kernel
theorem dX12_typing_54 : decode cX12_typing 54 = .ok (.iaload, 1) := by decide +kernel
theorem dX12_typing_55 : decode cX12_typing 55 = .ok (.ireturn, 1) := by decide +kernel
theorem dX12_typing_56 : decode cX12_typing 56 = .ok (.aload_n 0, 1) := by decide +kernel
theorem dX12_typing_57 : decode cX12_typing 57 = .ok (.getfield 9, 3) := by decide +kernel
theorem dX12_typing_60 : decode cX12_typing 60 = .ok (.bipush 12, 2) := by decide +kernel
theorem dX12_typing_62 : decode cX12_typing 62 = .ok (.iaload, 1) := by decide +kernel
theorem dX12_typing_63 : decode cX12_typing 63 = .ok (.ireturn, 1) := by decide +kernel
theorem dX12_typing_64 : decode cX12_typing 64 = .ok (.aload_n 0, 1) := by decide +kernel
theorem dX12_typing_65 : decode cX12_typing 65 = .ok (.getfield 9, 3) := by decide +kernel
theorem dX12_typing_68 : decode cX12_typing 68 = .ok (.bipush 13, 2) := by decide +kernel
theorem dX12_typing_70 : decode cX12_typing 70 = .ok (.iaload, 1) := by decide +kernel
theorem dX12_typing_71 : decode cX12_typing 71 = .ok (.ireturn, 1) := by decide +kernel
theorem dX12_typing_72 : decode cX12_typing 72 = .ok (.aload_n 0, 1) := by decide +kernel
theorem dX12_typing_73 : decode cX12_typing 73 = .ok (.getfield 9, 3) := by decide +kernel
theorem dX12_typing_76 : decode cX12_typing 76 = .ok (.bipush 9, 2) := by decide +kernel
theorem dX12_typing_78 : decode cX12_typing 78 = .ok (.iaload, 1) := by decide +kernel
theorem dX12_typing_79 : decode cX12_typing 79 = .ok (.aload_n 0, 1) := by decide +kernel
theorem dX12_typing_80 : decode cX12_typing 80 = .ok (.getfield 9, 3) := by decide +kernel
theorem dX12_typing_83 : decode cX12_typing 83 = .ok (.bipush 10, 2) := by decide +kernel
theorem dX12_typing_85 : decode cX12_typing 85 = .ok (.iaload, 1) := by decide +kernel
theorem dX12_typing_86 : decode cX12_typing 86 = .ok (.isub, 1) := by decide +kernel
theorem dX12_typing_87 : decode cX12_typing 87 = .ok (.ireturn, 1) := by decide +kernel
theorem dX12_typing_88 : decode cX12_typing 88 = .ok (.iconst (-1), 1) := by decide +kernel
theorem dX12_typing_89 : decode cX12_typing 89 = .ok (.ireturn, 1) := by decide +kernel
set_option maxRecDepth 100000 in
set_option maxHeartbeats 4000000 in
theorem mX12_typing_1 (l : Launch) (D : va_G) (Y : Nat → ClassId) (h0 : Nat) (h1 : Nat) (g0 : Nat) (g1 : Nat) (g2 : Nat) (g3 : Nat) (g4 : Nat) (p0 : Int32) (sz : Nat) : Met l yX12_typing (WSm yX12_typing cX12_typing 2 (some .int)) (mkR 0 0 0 0) (PreC D Y [.ref h0, .int p0] [(h0, oC 13 [.ref h1, .ref g0, .int 0, .ref g1, .ref g2, .int 0, .int 0, .int 0, .int (-1), .int 0, .int 0, .int 0, .long 0, .ref g3, .ref g4, .int 0, .int 0]), (h1, aI Y 3640 (clB 0 (fun _ => 0)))] sz) (QI D (fun (r : Int32) (u : Unit) => (p0 = 0 ∧ 0 = r) ∨ (p0 = 1 ∧ (-1) = r) ∨ (p0 = 2 ∧ 0 = r) ∨ (p0 = 3 ∧ 0 = r) ∨ (p0 = 4 ∧ 0 = r) ∨ (¬ p0 = 0 ∧ ¬ p0 = 1 ∧ ¬ p0 = 2 ∧ ¬ p0 = 3 ∧ ¬ p0 = 4 ∧ (-1) = r)) (fun (_ : Unit) => [(h0, oC 13 [.ref h1, .ref g0, .int 0, .ref g1, .ref g2, .int 0, .int 0, .int 0, .int (-1), .int 0, .int 0, .int 0, .long 0, .ref g3, .ref g4, .int 0, .int 0]), (h1, aI Y 3640 (clB 0 (fun _ => 0)))]) (va_A [(h0, oC 13 [.ref h1, .ref g0, .int 0, .ref g1, .ref g2, .int 0, .int 0, .int 0, .int (-1), .int 0, .int 0, .int 0, .long 0, .ref g3, .ref g4, .int 0, .int 0]), (h1, aI Y 3640 (clB 0 (fun _ => 0)))] sz)) 0 0 (va_A [(h0, oC 13 [.ref h1, .ref g0, .int 0, .ref g1, .ref g2, .int 0, .int 0, .int 0, .int (-1), .int 0, .int 0, .int 0, .long 0, .ref g3, .ref g4, .int 0, .int 0]), (h1, aI Y 3640 (clB 0 (fun _ => 0)))] sz) :=
  met_of (by decide +kernel) (Nat.le_of_ble_eq_true rfl) (fun p e s m args below meth c B hin hsz => by
    have B : VB p s m args meth c D Y (va_A [(h0, oC 13 [.ref h1, .ref g0, .int 0, .ref g1, .ref g2, .int 0, .int 0, .int 0, .int (-1), .int 0, .int 0, .int 0, .long 0, .ref g3, .ref g4, .int 0, .int 0]), (h1, aI Y 3640 (clB 0 (fun _ => 0)))] sz) cX12_typing 2 RX12 (some .int) := B
    refine V_aload_n 0 B dX12_typing_0 0 rfl ?_
    refine V_iconst 1 B (v := 0) dX12_typing_1 (by decide +kernel) ?_
    refine V_put 2 B gp_RX12_38 0 rfl (Nat.le_of_ble_eq_true rfl) rfl rfl dX12_typing_2 [(h0, oC 13 [.ref h1, .ref g0, .int 0, .ref g1, .ref g2, .int 0, .int 0, .int 0, .int (-1), .int 0, .int 0, .int 0, .long 0, .ref g3, .ref g4, .int 0, .int 0]), (h1, aI Y 3640 (clB 0 (fun _ => 0)))] rfl ?_
    refine V_iload_n 5 B dX12_typing_5 1 rfl ?_
    by_cases k0 : p0 = 0
    ·
      obtain rfl : p0 = 0 := k0
      refine V_tableIn 6 B 40 dX12_typing_6 (by decide +kernel) (by decide +kernel) (off := 34) (by decide +kernel) (by decide) ?_
      refine V_aload_n 40 B dX12_typing_40 0 rfl ?_
      refine V_get 41 B gf_RX12_9 0 rfl rfl dX12_typing_41 ?_
      refine V_bipush 44 B (v := 6) dX12_typing_44 (by decide +kernel) ?_
      refine V_iald 46 B (v := 0) 1 rfl (vpin _ _ (by decide +kernel)) dX12_typing_46 rfl ?_
      exact V_iret 47 B dX12_typing_47 () (Or.inl ⟨rfl, rfl⟩) rfl
    ·
      by_cases k1 : p0 = 1
      ·
        obtain rfl : p0 = 1 := k1
        refine V_tableIn 6 B 48 dX12_typing_6 (by decide +kernel) (by decide +kernel) (off := 42) (by decide +kernel) (by decide) ?_
        refine V_aload_n 48 B dX12_typing_48 0 rfl ?_
        refine V_get 49 B gf_RX12_9 0 rfl rfl dX12_typing_49 ?_
        refine V_bipush 52 B (v := 11) dX12_typing_52 (by decide +kernel) ?_
        refine V_iald 54 B (v := (-1)) 1 rfl (vpin _ _ (by decide +kernel)) dX12_typing_54 rfl ?_
        exact V_iret 55 B dX12_typing_55 () (Or.inr (Or.inl ⟨rfl, rfl⟩)) rfl
      ·
        by_cases k2 : p0 = 2
        ·
          obtain rfl : p0 = 2 := k2
          refine V_tableIn 6 B 56 dX12_typing_6 (by decide +kernel) (by decide +kernel) (off := 50) (by decide +kernel) (by decide) ?_
          refine V_aload_n 56 B dX12_typing_56 0 rfl ?_
          refine V_get 57 B gf_RX12_9 0 rfl rfl dX12_typing_57 ?_
          refine V_bipush 60 B (v := 12) dX12_typing_60 (by decide +kernel) ?_
          refine V_iald 62 B (v := 0) 1 rfl (vpin _ _ (by decide +kernel)) dX12_typing_62 rfl ?_
          exact V_iret 63 B dX12_typing_63 () (Or.inr (Or.inr (Or.inl ⟨rfl, rfl⟩))) rfl
        ·
          by_cases k3 : p0 = 3
          ·
            obtain rfl : p0 = 3 := k3
            refine V_tableIn 6 B 64 dX12_typing_6 (by decide +kernel) (by decide +kernel) (off := 58) (by decide +kernel) (by decide) ?_
            refine V_aload_n 64 B dX12_typing_64 0 rfl ?_
            refine V_get 65 B gf_RX12_9 0 rfl rfl dX12_typing_65 ?_
            refine V_bipush 68 B (v := 13) dX12_typing_68 (by decide +kernel) ?_
            refine V_iald 70 B (v := 0) 1 rfl (vpin _ _ (by decide +kernel)) dX12_typing_70 rfl ?_
            exact V_iret 71 B dX12_typing_71 () (Or.inr (Or.inr (Or.inr (Or.inl ⟨rfl, rfl⟩)))) rfl
          ·
            by_cases k4 : p0 = 4
            ·
              obtain rfl : p0 = 4 := k4
              refine V_tableIn 6 B 72 dX12_typing_6 (by decide +kernel) (by decide +kernel) (off := 66) (by decide +kernel) (by decide) ?_
              refine V_aload_n 72 B dX12_typing_72 0 rfl ?_
              refine V_get 73 B gf_RX12_9 0 rfl rfl dX12_typing_73 ?_
              refine V_bipush 76 B (v := 9) dX12_typing_76 (by decide +kernel) ?_
              refine V_iald 78 B (v := 0) 1 rfl (vpin _ _ (by decide +kernel)) dX12_typing_78 rfl ?_
              refine V_aload_n 79 B dX12_typing_79 0 rfl ?_
              refine V_get 80 B gf_RX12_9 0 rfl rfl dX12_typing_80 ?_
              refine V_bipush 83 B (v := 10) dX12_typing_83 (by decide +kernel) ?_
              refine V_iald 85 B (v := 0) 1 rfl (vpin _ _ (by decide +kernel)) dX12_typing_85 rfl ?_
              refine V_isub 86 B (v := 0) dX12_typing_86 (by decide +kernel) ?_
              exact V_iret 87 B dX12_typing_87 () (Or.inr (Or.inr (Or.inr (Or.inr (Or.inl ⟨rfl, rfl⟩))))) rfl
            ·
              refine V_tableOut 6 B 88 dX12_typing_6 (sw_out_0_4 k0 k1 k2 k3 k4) (by decide) ?_
              refine V_iconst 88 B (v := (-1)) dX12_typing_88 (by decide +kernel) ?_
              exact V_iret 89 B dX12_typing_89 () (Or.inr (Or.inr (Or.inr (Or.inr (Or.inr ⟨k0, k1, k2, k3, k4, rfl⟩))))) rfl)
theorem dX12_pending_0 : decode cX12_pending 0 = .ok (.aload_n 0, 1) := by decide +kernel
theorem dX12_pending_1 : decode cX12_pending 1 = .ok (.iconst 0, 1) := by decide +kernel
theorem dX12_pending_2 : decode cX12_pending 2 = .ok (.putfield 38, 3) := by decide +kernel
theorem dX12_pending_5 : decode cX12_pending 5 = .ok (.iload_n 1, 1) := by decide +kernel
theorem dX12_pending_6 : decode cX12_pending 6 = .ok (.i2l, 1) := by decide +kernel
theorem dX12_pending_7 : decode cX12_pending 7 = .ok (.lconst 0, 1) := by decide +kernel
theorem dX12_pending_8 : decode cX12_pending 8 = .ok (.aload_n 0, 1) := by decide +kernel
theorem dX12_pending_9 : decode cX12_pending 9 = .ok (.getfield 9, 3) := by decide +kernel
theorem dX12_pending_12 : decode cX12_pending 12 = .ok (.bipush 8, 2) := by decide +kernel
theorem dX12_pending_14 : decode cX12_pending 14 = .ok (.iaload, 1) := by decide +kernel
theorem dX12_pending_15 : decode cX12_pending 15 = .ok (.iconst 1, 1) := by decide +kernel
theorem dX12_pending_16 : decode cX12_pending 16 = .ok (.isub, 1) := by decide +kernel
theorem dX12_pending_17 : decode cX12_pending 17 = .ok (.i2l, 1) := by decide +kernel
theorem dX12_pending_18 : decode cX12_pending 18 = .ok (.invokestatic 41, 3) := by decide +kernel
theorem dX12_pending_21 : decode cX12_pending 21 = .ok (.ifCond .eq 15, 3) := by decide +kernel
theorem dX12_pending_36 : decode cX12_pending 36 = .ok (.iconst (-1), 1) := by decide +kernel
theorem dX12_pending_37 : decode cX12_pending 37 = .ok (.ireturn, 1) := by decide +kernel
set_option maxRecDepth 100000 in
set_option maxHeartbeats 4000000 in
theorem mX12_pending_1 (l : Launch) (D : va_G) (Y : Nat → ClassId) (h0 : Nat) (h1 : Nat) (g0 : Nat) (g1 : Nat) (g2 : Nat) (g3 : Nat) (g4 : Nat) (p0 : Int32) (sz : Nat) : Met l yX12_pending (WSm yX12_pending cX12_pending 2 (some .int)) (mkR 1 0 0 25) (PreC D Y [.ref h0, .int p0] [(h0, oC 13 [.ref h1, .ref g0, .int 0, .ref g1, .ref g2, .int 0, .int 0, .int 0, .int (-1), .int 0, .int 0, .int 0, .long 0, .ref g3, .ref g4, .int 0, .int 0]), (h1, aI Y 3640 (clB 0 (fun _ => 0)))] sz) (QI D (fun (r : Int32) (u : Unit) => (p0 < 0 ∧ (-1) = r) ∨ ((-1) < p0 ∧ (-1) = r)) (fun (_ : Unit) => [(h0, oC 13 [.ref h1, .ref g0, .int 0, .ref g1, .ref g2, .int 0, .int 0, .int 0, .int (-1), .int 0, .int 0, .int 0, .long 0, .ref g3, .ref g4, .int 0, .int 0]), (h1, aI Y 3640 (clB 0 (fun _ => 0)))]) (va_A [(h0, oC 13 [.ref h1, .ref g0, .int 0, .ref g1, .ref g2, .int 0, .int 0, .int 0, .int (-1), .int 0, .int 0, .int 0, .long 0, .ref g3, .ref g4, .int 0, .int 0]), (h1, aI Y 3640 (clB 0 (fun _ => 0)))] sz)) 0 0 (va_A [(h0, oC 13 [.ref h1, .ref g0, .int 0, .ref g1, .ref g2, .int 0, .int 0, .int 0, .int (-1), .int 0, .int 0, .int 0, .long 0, .ref g3, .ref g4, .int 0, .int 0]), (h1, aI Y 3640 (clB 0 (fun _ => 0)))] sz) :=
  met_of (by decide +kernel) (Nat.le_of_ble_eq_true rfl) (fun p e s m args below meth c B hin hsz => by
    have B : VB p s m args meth c D Y (va_A [(h0, oC 13 [.ref h1, .ref g0, .int 0, .ref g1, .ref g2, .int 0, .int 0, .int 0, .int (-1), .int 0, .int 0, .int 0, .long 0, .ref g3, .ref g4, .int 0, .int 0]), (h1, aI Y 3640 (clB 0 (fun _ => 0)))] sz) cX12_pending 2 RX12 (some .int) := B
    refine V_aload_n 0 B dX12_pending_0 0 rfl ?_
    refine V_iconst 1 B (v := 0) dX12_pending_1 (by decide +kernel) ?_
    refine V_put 2 B gp_RX12_38 0 rfl (Nat.le_of_ble_eq_true rfl) rfl rfl dX12_pending_2 [(h0, oC 13 [.ref h1, .ref g0, .int 0, .ref g1, .ref g2, .int 0, .int 0, .int 0, .int (-1), .int 0, .int 0, .int 0, .long 0, .ref g3, .ref g4, .int 0, .int 0]), (h1, aI Y 3640 (clB 0 (fun _ => 0)))] rfl ?_
    refine V_iload_n 5 B dX12_pending_5 1 rfl ?_
    refine V_i2l 6 B dX12_pending_6 rfl ?_
    refine V_lconst 7 B (v := 0) dX12_pending_7 (by decide +kernel) ?_
    refine V_aload_n 8 B dX12_pending_8 0 rfl ?_
    refine V_get 9 B gf_RX12_9 0 rfl rfl dX12_pending_9 ?_
    refine V_bipush 12 B (v := 8) dX12_pending_12 (by decide +kernel) ?_
    refine V_iald 14 B (v := 0) 1 rfl (vpin _ _ (by decide +kernel)) dX12_pending_14 rfl ?_
    refine V_iconst 15 B (v := 1) dX12_pending_15 (by decide +kernel) ?_
    refine V_isub 16 B (v := (-1)) dX12_pending_16 (by decide +kernel) ?_
    refine V_i2l 17 B (v := (-1)) dX12_pending_17 (by decide +kernel) ?_
    refine V_csi 18 B (st := []) (As := [.long p0.toInt64, .long 0, .long (-1)]) (fun sz => mX12_inRange_m l D Y (p0) (0) ((-1)) (0) ((-1)) (by decide +kernel) (by decide +kernel) sz) glS_RX12_41 ⟨rfl, rfl⟩ ⟨(Nat.le_of_ble_eq_true rfl), (Nat.le_of_ble_eq_true rfl)⟩ ⟨(Nat.le_of_ble_eq_true rfl), (Nat.le_of_ble_eq_true rfl)⟩ [] rfl rfl (Nat.le_of_ble_eq_true rfl) rfl (fun _ _ _ => rfl) dX12_pending_18 (fun r0 u0 w0 => ?_)
    rcases w0 with ⟨k1, k2, rfl⟩ | ⟨k3, rfl⟩ | ⟨k4, rfl⟩
    ·
      refine V_ws [(h0, oC 13 [.ref h1, .ref g0, .int 0, .ref g1, .ref g2, .int 0, .int 0, .int 0, .int (-1), .int 0, .int 0, .int 0, .long 0, .ref g3, .ref g4, .int 0, .int 0]), (h1, aI Y 3640 (clB 0 (fun _ => 0)))] rfl ?_
      exact (q_abs (b_nlt k1 (n := 0) (by decide +kernel)) (b_ngt k2 (n := (-1)) (by decide +kernel)) (by decide +kernel)).elim
    ·
      refine V_ws [(h0, oC 13 [.ref h1, .ref g0, .int 0, .ref g1, .ref g2, .int 0, .int 0, .int 0, .int (-1), .int 0, .int 0, .int 0, .long 0, .ref g3, .ref g4, .int 0, .int 0]), (h1, aI Y 3640 (clB 0 (fun _ => 0)))] rfl ?_
      refine V_if_eq_t 21 B 36 dX12_pending_21 (by decide) (by decide +kernel) ?_
      refine V_iconst 36 B (v := (-1)) dX12_pending_36 (by decide +kernel) ?_
      exact V_iret 37 B dX12_pending_37 () (Or.inl ⟨k3, rfl⟩) rfl
    ·
      refine V_ws [(h0, oC 13 [.ref h1, .ref g0, .int 0, .ref g1, .ref g2, .int 0, .int 0, .int 0, .int (-1), .int 0, .int 0, .int 0, .long 0, .ref g3, .ref g4, .int 0, .int 0]), (h1, aI Y 3640 (clB 0 (fun _ => 0)))] rfl ?_
      refine V_if_eq_t 21 B 36 dX12_pending_21 (by decide) (by decide +kernel) ?_
      refine V_iconst 36 B (v := (-1)) dX12_pending_36 (by decide +kernel) ?_
      exact V_iret 37 B dX12_pending_37 () (Or.inr ⟨k4, rfl⟩) rfl)
theorem dX12_backTo_0 : decode cX12_backTo 0 = .ok (.aload_n 0, 1) := by decide +kernel
theorem dX12_backTo_1 : decode cX12_backTo 1 = .ok (.iconst 0, 1) := by decide +kernel
theorem dX12_backTo_2 : decode cX12_backTo 2 = .ok (.putfield 38, 3) := by decide +kernel
theorem dX12_backTo_5 : decode cX12_backTo 5 = .ok (.iload_n 1, 1) := by decide +kernel
theorem dX12_backTo_6 : decode cX12_backTo 6 = .ok (.i2l, 1) := by decide +kernel
theorem dX12_backTo_7 : decode cX12_backTo 7 = .ok (.lconst 0, 1) := by decide +kernel
theorem dX12_backTo_8 : decode cX12_backTo 8 = .ok (.aload_n 0, 1) := by decide +kernel
theorem dX12_backTo_9 : decode cX12_backTo 9 = .ok (.getfield 9, 3) := by decide +kernel
theorem dX12_backTo_12 : decode cX12_backTo 12 = .ok (.bipush 7, 2) := by decide +kernel
theorem dX12_backTo_14 : decode cX12_backTo 14 = .ok (.iaload, 1) := by decide +kernel
theorem dX12_backTo_15 : decode cX12_backTo 15 = .ok (.iconst 1, 1) := by decide +kernel
theorem dX12_backTo_16 : decode cX12_backTo 16 = .ok (.isub, 1) := by decide +kernel
theorem dX12_backTo_17 : decode cX12_backTo 17 = .ok (.i2l, 1) := by decide +kernel
theorem dX12_backTo_18 : decode cX12_backTo 18 = .ok (.invokestatic 41, 3) := by decide +kernel
theorem dX12_backTo_21 : decode cX12_backTo 21 = .ok (.ifCond .eq 25, 3) := by decide +kernel
theorem dX12_backTo_46 : decode cX12_backTo 46 = .ok (.iconst (-1), 1) := by decide +kernel
theorem dX12_backTo_47 : decode cX12_backTo 47 = .ok (.ireturn, 1) := by decide +kernel
set_option maxRecDepth 100000 in
set_option maxHeartbeats 4000000 in
theorem mX12_backTo_1 (l : Launch) (D : va_G) (Y : Nat → ClassId) (h0 : Nat) (h1 : Nat) (g0 : Nat) (g1 : Nat) (g2 : Nat) (g3 : Nat) (g4 : Nat) (p0 : Int32) (sz : Nat) : Met l yX12_backTo (WSm yX12_backTo cX12_backTo 2 (some .int)) (mkR 1 0 0 25) (PreC D Y [.ref h0, .int p0] [(h0, oC 13 [.ref h1, .ref g0, .int 0, .ref g1, .ref g2, .int 0, .int 0, .int 0, .int (-1), .int 0, .int 0, .int 0, .long 0, .ref g3, .ref g4, .int 0, .int 0]), (h1, aI Y 3640 (clB 0 (fun _ => 0)))] sz) (QI D (fun (r : Int32) (u : Unit) => (p0 < 0 ∧ (-1) = r) ∨ ((-1) < p0 ∧ (-1) = r)) (fun (_ : Unit) => [(h0, oC 13 [.ref h1, .ref g0, .int 0, .ref g1, .ref g2, .int 0, .int 0, .int 0, .int (-1), .int 0, .int 0, .int 0, .long 0, .ref g3, .ref g4, .int 0, .int 0]), (h1, aI Y 3640 (clB 0 (fun _ => 0)))]) (va_A [(h0, oC 13 [.ref h1, .ref g0, .int 0, .ref g1, .ref g2, .int 0, .int 0, .int 0, .int (-1), .int 0, .int 0, .int 0, .long 0, .ref g3, .ref g4, .int 0, .int 0]), (h1, aI Y 3640 (clB 0 (fun _ => 0)))] sz)) 0 0 (va_A [(h0, oC 13 [.ref h1, .ref g0, .int 0, .ref g1, .ref g2, .int 0, .int 0, .int 0, .int (-1), .int 0, .int 0, .int 0, .long 0, .ref g3, .ref g4, .int 0, .int 0]), (h1, aI Y 3640 (clB 0 (fun _ => 0)))] sz) :=
  met_of (by decide +kernel) (Nat.le_of_ble_eq_true rfl) (fun p e s m args below meth c B hin hsz => by
    have B : VB p s m args meth c D Y (va_A [(h0, oC 13 [.ref h1, .ref g0, .int 0, .ref g1, .ref g2, .int 0, .int 0, .int 0, .int (-1), .int 0, .int 0, .int 0, .long 0, .ref g3, .ref g4, .int 0, .int 0]), (h1, aI Y 3640 (clB 0 (fun _ => 0)))] sz) cX12_backTo 2 RX12 (some .int) := B
    refine V_aload_n 0 B dX12_backTo_0 0 rfl ?_
    refine V_iconst 1 B (v := 0) dX12_backTo_1 (by decide +kernel) ?_
    refine V_put 2 B gp_RX12_38 0 rfl (Nat.le_of_ble_eq_true rfl) rfl rfl dX12_backTo_2 [(h0, oC 13 [.ref h1, .ref g0, .int 0, .ref g1, .ref g2, .int 0, .int 0, .int 0, .int (-1), .int 0, .int 0, .int 0, .long 0, .ref g3, .ref g4, .int 0, .int 0]), (h1, aI Y 3640 (clB 0 (fun _ => 0)))] rfl ?_
    refine V_iload_n 5 B dX12_backTo_5 1 rfl ?_
    refine V_i2l 6 B dX12_backTo_6 rfl ?_
    refine V_lconst 7 B (v := 0) dX12_backTo_7 (by decide +kernel) ?_
    refine V_aload_n 8 B dX12_backTo_8 0 rfl ?_
    refine V_get 9 B gf_RX12_9 0 rfl rfl dX12_backTo_9 ?_
    refine V_bipush 12 B (v := 7) dX12_backTo_12 (by decide +kernel) ?_
    refine V_iald 14 B (v := 0) 1 rfl (vpin _ _ (by decide +kernel)) dX12_backTo_14 rfl ?_
    refine V_iconst 15 B (v := 1) dX12_backTo_15 (by decide +kernel) ?_
    refine V_isub 16 B (v := (-1)) dX12_backTo_16 (by decide +kernel) ?_
    refine V_i2l 17 B (v := (-1)) dX12_backTo_17 (by decide +kernel) ?_
    refine V_csi 18 B (st := []) (As := [.long p0.toInt64, .long 0, .long (-1)]) (fun sz => mX12_inRange_m l D Y (p0) (0) ((-1)) (0) ((-1)) (by decide +kernel) (by decide +kernel) sz) glS_RX12_41 ⟨rfl, rfl⟩ ⟨(Nat.le_of_ble_eq_true rfl), (Nat.le_of_ble_eq_true rfl)⟩ ⟨(Nat.le_of_ble_eq_true rfl), (Nat.le_of_ble_eq_true rfl)⟩ [] rfl rfl (Nat.le_of_ble_eq_true rfl) rfl (fun _ _ _ => rfl) dX12_backTo_18 (fun r0 u0 w0 => ?_)
    rcases w0 with ⟨k1, k2, rfl⟩ | ⟨k3, rfl⟩ | ⟨k4, rfl⟩
    ·
      refine V_ws [(h0, oC 13 [.ref h1, .ref g0, .int 0, .ref g1, .ref g2, .int 0, .int 0, .int 0, .int (-1), .int 0, .int 0, .int 0, .long 0, .ref g3, .ref g4, .int 0, .int 0]), (h1, aI Y 3640 (clB 0 (fun _ => 0)))] rfl ?_
      exact (q_abs (b_nlt k1 (n := 0) (by decide +kernel)) (b_ngt k2 (n := (-1)) (by decide +kernel)) (by decide +kernel)).elim
    ·
      refine V_ws [(h0, oC 13 [.ref h1, .ref g0, .int 0, .ref g1, .ref g2, .int 0, .int 0, .int 0, .int (-1), .int 0, .int 0, .int 0, .long 0, .ref g3, .ref g4, .int 0, .int 0]), (h1, aI Y 3640 (clB 0 (fun _ => 0)))] rfl ?_
      refine V_if_eq_t 21 B 46 dX12_backTo_21 (by decide) (by decide +kernel) ?_
      refine V_iconst 46 B (v := (-1)) dX12_backTo_46 (by decide +kernel) ?_
      exact V_iret 47 B dX12_backTo_47 () (Or.inl ⟨k3, rfl⟩) rfl
    ·
      refine V_ws [(h0, oC 13 [.ref h1, .ref g0, .int 0, .ref g1, .ref g2, .int 0, .int 0, .int 0, .int (-1), .int 0, .int 0, .int 0, .long 0, .ref g3, .ref g4, .int 0, .int 0]), (h1, aI Y 3640 (clB 0 (fun _ => 0)))] rfl ?_
      refine V_if_eq_t 21 B 46 dX12_backTo_21 (by decide) (by decide +kernel) ?_
      refine V_iconst 46 B (v := (-1)) dX12_backTo_46 (by decide +kernel) ?_
      exact V_iret 47 B dX12_backTo_47 () (Or.inr ⟨k4, rfl⟩) rfl)
set_option maxRecDepth 100000 in
set_option maxHeartbeats 4000000 in
theorem mX12_dropLate_2 (l : Launch) (D : va_G) (Y : Nat → ClassId) (h0 : Nat) (h1 : Nat) (g0 : Nat) (g1 : Nat) (g2 : Nat) (g3 : Nat) (g4 : Nat) (p0 : Int32) (sz : Nat) : Met l yX12_dropLate (WSm yX12_dropLate cX12_dropLate 1 none) (mkR 0 0 0 0) (PreC D Y [.ref h0] [(h0, oC 13 [.ref h1, .ref g0, .int 0, .ref g1, .ref g2, .int 0, .int 0, .int 0, .int (-1), .int 0, .int 0, .int 0, .long 0, .ref g3, .ref g4, .int 0, .int 0]), (h1, aI Y 3640 (upd (clB 0 (fun _ => 0)) 5 p0))] sz) (QV D (fun (u : Unit) => True) (fun (_ : Unit) => [(h0, oC 13 [.ref h1, .ref g0, .int 0, .ref g1, .ref g2, .int 0, .int 0, .int 0, .int (-1), .int 0, .int 0, .int 0, .long 0, .ref g3, .ref g4, .int 0, .int 0]), (h1, aI Y 3640 (upd (clB 0 (fun _ => 0)) 5 p0))]) (va_A [(h0, oC 13 [.ref h1, .ref g0, .int 0, .ref g1, .ref g2, .int 0, .int 0, .int 0, .int (-1), .int 0, .int 0, .int 0, .long 0, .ref g3, .ref g4, .int 0, .int 0]), (h1, aI Y 3640 (upd (clB 0 (fun _ => 0)) 5 p0))] sz)) 0 0 (va_A [(h0, oC 13 [.ref h1, .ref g0, .int 0, .ref g1, .ref g2, .int 0, .int 0, .int 0, .int (-1), .int 0, .int 0, .int 0, .long 0, .ref g3, .ref g4, .int 0, .int 0]), (h1, aI Y 3640 (upd (clB 0 (fun _ => 0)) 5 p0))] sz) :=
  met_of (by decide +kernel) (Nat.le_of_ble_eq_true rfl) (fun p e s m args below meth c B hin hsz => by
    have B : VB p s m args meth c D Y (va_A [(h0, oC 13 [.ref h1, .ref g0, .int 0, .ref g1, .ref g2, .int 0, .int 0, .int 0, .int (-1), .int 0, .int 0, .int 0, .long 0, .ref g3, .ref g4, .int 0, .int 0]), (h1, aI Y 3640 (upd (clB 0 (fun _ => 0)) 5 p0))] sz) cX12_dropLate 1 RX12 none := B
    refine V_aload_n 0 B dX12_dropLate_0 0 rfl ?_
    refine V_get 1 B gf_RX12_9 0 rfl rfl dX12_dropLate_1 ?_
    refine V_bipush 4 B (v := 8) dX12_dropLate_4 (by decide +kernel) ?_
    refine V_iald 6 B (v := 0) 1 rfl (vpin _ _ (by decide +kernel)) dX12_dropLate_6 rfl ?_
    refine V_if_eq_t 7 B 43 dX12_dropLate_7 (by decide) (by decide +kernel) ?_
    exact V_vret 43 B dX12_dropLate_43 () trivial rfl)
theorem dX12_setTimeout_0 : decode cX12_setTimeout 0 = .ok (.aload_n 0, 1) := by decide +kernel
theorem dX12_setTimeout_1 : decode cX12_setTimeout 1 = .ok (.iconst 0, 1) := by decide +kernel
theorem dX12_setTimeout_2 : decode cX12_setTimeout 2 = .ok (.putfield 38, 3) := by decide +kernel
theorem dX12_setTimeout_5 : decode cX12_setTimeout 5 = .ok (.aload_n 0, 1) := by decide +kernel
theorem dX12_setTimeout_6 : decode cX12_setTimeout 6 = .ok (.iload_n 1, 1) := by decide +kernel
theorem dX12_setTimeout_7 : decode cX12_setTimeout 7 = .ok (.i2l, 1) := by decide +kernel
theorem dX12_setTimeout_8 : decode cX12_setTimeout 8 = .ok (.lconst 0, 1) := by decide +kernel
theorem dX12_setTimeout_9 : decode cX12_setTimeout 9 = .ok (.ldc2_w 229, 3) := by decide +kernel
theorem dX12_setTimeout_12 : decode cX12_setTimeout 12 = .ok (.invokestatic 41, 3) := by decide +kernel
theorem dX12_setTimeout_15 : decode cX12_setTimeout 15 = .ok (.ifCond .ne 7, 3) := by decide +kernel
theorem dX12_setTimeout_22 : decode cX12_setTimeout 22 = .ok (.iconst 0, 1) := by decide +kernel
theorem dX12_setTimeout_23 : decode cX12_setTimeout 23 = .ok (.iconst 1, 1) := by decide +kernel
theorem dX12_setTimeout_24 : decode cX12_setTimeout 24 = .ok (.invokevirtual 69, 3) := by decide +kernel
theorem dX12_setTimeout_27 : decode cX12_setTimeout 27 = .ok (.ifCond .eq 5, 3) := by decide +kernel
theorem dX12_setTimeout_32 : decode cX12_setTimeout 32 = .ok (.aload_n 0, 1) := by decide +kernel
theorem dX12_setTimeout_33 : decode cX12_setTimeout 33 = .ok (.getfield 9, 3) := by decide +kernel
theorem dX12_setTimeout_36 : decode cX12_setTimeout 36 = .ok (.iconst 5, 1) := by decide +kernel
theorem dX12_setTimeout_37 : decode cX12_setTimeout 37 = .ok (.iaload, 1) := by decide +kernel
theorem dX12_setTimeout_38 : decode cX12_setTimeout 38 = .ok (.istore_n 2, 1) := by decide +kernel
theorem dX12_setTimeout_39 : decode cX12_setTimeout 39 = .ok (.aload_n 0, 1) := by decide +kernel
theorem dX12_setTimeout_40 : decode cX12_setTimeout 40 = .ok (.getfield 9, 3) := by decide +kernel
theorem dX12_setTimeout_43 : decode cX12_setTimeout 43 = .ok (.iconst 5, 1) := by decide +kernel
theorem dX12_setTimeout_44 : decode cX12_setTimeout 44 = .ok (.iload_n 1, 1) := by decide +kernel
theorem dX12_setTimeout_45 : decode cX12_setTimeout 45 = .ok (.iastore, 1) := by decide +kernel
theorem dX12_setTimeout_46 : decode cX12_setTimeout 46 = .ok (.aload_n 0, 1) := by decide +kernel
theorem dX12_setTimeout_47 : decode cX12_setTimeout 47 = .ok (.invokevirtual 226, 3) := by decide +kernel
theorem dX12_setTimeout_50 : decode cX12_setTimeout 50 = .ok (.iload_n 2, 1) := by decide +kernel
theorem dX12_setTimeout_51 : decode cX12_setTimeout 51 = .ok (.ireturn, 1) := by decide +kernel
theorem dX12_setTimeout_18 : decode cX12_setTimeout 18 = .ok (.iconst 1, 1) := by decide +kernel
theorem dX12_setTimeout_19 : decode cX12_setTimeout 19 = .ok (.goto 4, 3) := by decide +kernel
theorem dX12_setTimeout_30 : decode cX12_setTimeout 30 = .ok (.iconst 0, 1) := by decide +kernel
theorem dX12_setTimeout_31 : decode cX12_setTimeout 31 = .ok (.ireturn, 1) := by decide +kernel
set_option maxRecDepth 100000 in
set_option maxHeartbeats 4000000 in
theorem mX12_setTimeout_1 (l : Launch) (D : va_G) (Y : Nat → ClassId) (h0 : Nat) (h1 : Nat) (g0 : Nat) (g1 : Nat) (g2 : Nat) (g3 : Nat) (g4 : Nat) (p0 : Int32) (sz : Nat) : Met l yX12_setTimeout (WSm yX12_setTimeout cX12_setTimeout 3 (some .int)) (mkR 1 0 0 25) (PreC D Y [.ref h0, .int p0] [(h0, oC 13 [.ref h1, .ref g0, .int 0, .ref g1, .ref g2, .int 0, .int 0, .int 0, .int (-1), .int 0, .int 0, .int 0, .long 0, .ref g3, .ref g4, .int 0, .int 0]), (h1, aI Y 3640 (clB 0 (fun _ => 0)))] sz) (QI D (fun (r : Int32) (u : Nat) => (u = 0 ∧ ¬ p0 < 0 ∧ ¬ 999 < p0 ∧ 0 = r) ∨ (u = 1 ∧ p0 < 0 ∧ 0 = r) ∨ (u = 2 ∧ 999 < p0 ∧ 0 = r)) (fun (u : Nat) => match u with | 0 => [(h0, oC 13 [.ref h1, .ref g0, .int 0, .ref g1, .ref g2, .int 0, .int 0, .int 0, .int (-1), .int 0, .int 0, .int 0, .long 0, .ref g3, .ref g4, .int 0, .int 0]), (h1, aI Y 3640 (upd (clB 0 (fun _ => 0)) 5 p0))] | 1 => [(h0, oC 13 [.ref h1, .ref g0, .int 1, .ref g1, .ref g2, .int 0, .int 0, .int 0, .int (-1), .int 0, .int 0, .int 0, .long 0, .ref g3, .ref g4, .int 0, .int 0]), (h1, aI Y 3640 (clB 0 (fun _ => 0)))] | _ => [(h0, oC 13 [.ref h1, .ref g0, .int 1, .ref g1, .ref g2, .int 0, .int 0, .int 0, .int (-1), .int 0, .int 0, .int 0, .long 0, .ref g3, .ref g4, .int 0, .int 0]), (h1, aI Y 3640 (clB 0 (fun _ => 0)))]) (va_A [(h0, oC 13 [.ref h1, .ref g0, .int 0, .ref g1, .ref g2, .int 0, .int 0, .int 0, .int (-1), .int 0, .int 0, .int 0, .long 0, .ref g3, .ref g4, .int 0, .int 0]), (h1, aI Y 3640 (clB 0 (fun _ => 0)))] sz)) 0 0 (va_A [(h0, oC 13 [.ref h1, .ref g0, .int 0, .ref g1, .ref g2, .int 0, .int 0, .int 0, .int (-1), .int 0, .int 0, .int 0, .long 0, .ref g3, .ref g4, .int 0, .int 0]), (h1, aI Y 3640 (clB 0 (fun _ => 0)))] sz) :=
  met_of (by decide +kernel) (Nat.le_of_ble_eq_true rfl) (fun p e s m args below meth c B hin hsz => by
    have B : VB p s m args meth c D Y (va_A [(h0, oC 13 [.ref h1, .ref g0, .int 0, .ref g1, .ref g2, .int 0, .int 0, .int 0, .int (-1), .int 0, .int 0, .int 0, .long 0, .ref g3, .ref g4, .int 0, .int 0]), (h1, aI Y 3640 (clB 0 (fun _ => 0)))] sz) cX12_setTimeout 3 RX12 (some .int) := B
    refine V_aload_n 0 B dX12_setTimeout_0 0 rfl ?_
    refine V_iconst 1 B (v := 0) dX12_setTimeout_1 (by decide +kernel) ?_
    refine V_put 2 B gp_RX12_38 0 rfl (Nat.le_of_ble_eq_true rfl) rfl rfl dX12_setTimeout_2 [(h0, oC 13 [.ref h1, .ref g0, .int 0, .ref g1, .ref g2, .int 0, .int 0, .int 0, .int (-1), .int 0, .int 0, .int 0, .long 0, .ref g3, .ref g4, .int 0, .int 0]), (h1, aI Y 3640 (clB 0 (fun _ => 0)))] rfl ?_
    refine V_aload_n 5 B dX12_setTimeout_5 0 rfl ?_
    refine V_iload_n 6 B dX12_setTimeout_6 1 rfl ?_
    refine V_i2l 7 B dX12_setTimeout_7 rfl ?_
    refine V_lconst 8 B (v := 0) dX12_setTimeout_8 (by decide +kernel) ?_
    refine V_ldc2 9 B (v := 999) dX12_setTimeout_9 (mT9 146 rfl rfl) ?_
    refine V_csi 12 B (st := [.ref h0]) (As := [.long p0.toInt64, .long 0, .long 999]) (fun sz => mX12_inRange_m l D Y (p0) (0) (999) (0) (999) (by decide +kernel) (by decide +kernel) sz) glS_RX12_41 ⟨rfl, rfl⟩ ⟨(Nat.le_of_ble_eq_true rfl), (Nat.le_of_ble_eq_true rfl)⟩ ⟨(Nat.le_of_ble_eq_true rfl), (Nat.le_of_ble_eq_true rfl)⟩ [] rfl rfl (Nat.le_of_ble_eq_true rfl) rfl (fun _ _ _ => rfl) dX12_setTimeout_12 (fun r0 u0 w0 => ?_)
    rcases w0 with ⟨k1, k2, rfl⟩ | ⟨k3, rfl⟩ | ⟨k4, rfl⟩
    ·
      refine V_ws [(h0, oC 13 [.ref h1, .ref g0, .int 0, .ref g1, .ref g2, .int 0, .int 0, .int 0, .int (-1), .int 0, .int 0, .int 0, .long 0, .ref g3, .ref g4, .int 0, .int 0]), (h1, aI Y 3640 (clB 0 (fun _ => 0)))] rfl ?_
      refine V_if_ne_t 15 B 22 dX12_setTimeout_15 (by decide) (by decide +kernel) ?_
      refine V_iconst 22 B (v := 0) dX12_setTimeout_22 (by decide +kernel) ?_
      refine V_iconst 23 B (v := 1) dX12_setTimeout_23 (by decide +kernel) ?_
      refine V_cvi 24 B (st := []) (As := [.int 0, .int 1]) (fun sz => mX12_throwsIf_2 l D Y (h0) (h1) (g0) (g1) (g2) (g3) (g4) sz) glV_RX12_69 ⟨rfl, rfl⟩ ⟨(Nat.le_of_ble_eq_true rfl), (Nat.le_of_ble_eq_true rfl)⟩ ⟨(Nat.le_of_ble_eq_true rfl), (Nat.le_of_ble_eq_true rfl)⟩ [0] rfl 13 0 rfl rfl rfl rfl (Nat.le_of_ble_eq_true rfl) rfl (fun _ _ _ => rfl) dX12_setTimeout_24 (fun r5 u5 w5 => ?_)
      obtain rfl := w5
      refine V_ws [(h0, oC 13 [.ref h1, .ref g0, .int 0, .ref g1, .ref g2, .int 0, .int 0, .int 0, .int (-1), .int 0, .int 0, .int 0, .long 0, .ref g3, .ref g4, .int 0, .int 0]), (h1, aI Y 3640 (clB 0 (fun _ => 0)))] rfl ?_
      refine V_if_eq_t 27 B 32 dX12_setTimeout_27 (by decide) (by decide +kernel) ?_
      refine V_aload_n 32 B dX12_setTimeout_32 0 rfl ?_
      refine V_get 33 B gf_RX12_9 0 rfl rfl dX12_setTimeout_33 ?_
      refine V_iconst 36 B (v := 5) dX12_setTimeout_36 (by decide +kernel) ?_
      refine V_iald 37 B (v := 0) 1 rfl (vpin _ _ (by decide +kernel)) dX12_setTimeout_37 rfl ?_
      refine V_istore_n 38 B (lv2 := [(2, .int 0), (0, .ref h0), (1, .int p0)]) dX12_setTimeout_38 (by decide) rfl ?_
      refine V_aload_n 39 B dX12_setTimeout_39 1 rfl ?_
      refine V_get 40 B gf_RX12_9 0 rfl rfl dX12_setTimeout_40 ?_
      refine V_iconst 43 B (v := 5) dX12_setTimeout_43 (by decide +kernel) ?_
      refine V_iload_n 44 B dX12_setTimeout_44 2 rfl ?_
      refine V_iast 45 B 1 rfl (vpin _ _ (by decide +kernel)) dX12_setTimeout_45 [(h0, oC 13 [.ref h1, .ref g0, .int 0, .ref g1, .ref g2, .int 0, .int 0, .int 0, .int (-1), .int 0, .int 0, .int 0, .long 0, .ref g3, .ref g4, .int 0, .int 0]), (h1, aI Y 3640 (upd (clB 0 (fun _ => 0)) 5 p0))] rfl ?_
      refine V_aload_n 46 B dX12_setTimeout_46 1 rfl ?_
      refine V_cvv 47 B (st := []) (As := []) (fun sz => mX12_dropLate_2 l D Y (h0) (h1) (g0) (g1) (g2) (g3) (g4) (p0) sz) glV_RX12_226 ⟨rfl, rfl⟩ ⟨(Nat.le_of_ble_eq_true rfl), (Nat.le_of_ble_eq_true rfl)⟩ ⟨(Nat.le_of_ble_eq_true rfl), (Nat.le_of_ble_eq_true rfl)⟩ [0, 0] rfl 13 0 rfl rfl rfl rfl (Nat.le_of_ble_eq_true rfl) rfl (fun _ _ => rfl) dX12_setTimeout_47 (fun u6 w6 => ?_)
      refine V_ws [(h0, oC 13 [.ref h1, .ref g0, .int 0, .ref g1, .ref g2, .int 0, .int 0, .int 0, .int (-1), .int 0, .int 0, .int 0, .long 0, .ref g3, .ref g4, .int 0, .int 0]), (h1, aI Y 3640 (upd (clB 0 (fun _ => 0)) 5 p0))] rfl ?_
      refine V_iload_n 50 B dX12_setTimeout_50 0 rfl ?_
      exact V_iret 51 B dX12_setTimeout_51 0 (Or.inl ⟨rfl, k1, k2, rfl⟩) rfl
    ·
      refine V_ws [(h0, oC 13 [.ref h1, .ref g0, .int 0, .ref g1, .ref g2, .int 0, .int 0, .int 0, .int (-1), .int 0, .int 0, .int 0, .long 0, .ref g3, .ref g4, .int 0, .int 0]), (h1, aI Y 3640 (clB 0 (fun _ => 0)))] rfl ?_
      refine V_if_ne_f 15 B 22 dX12_setTimeout_15 (by decide) (by decide +kernel) ?_
      refine V_iconst 18 B (v := 1) dX12_setTimeout_18 (by decide +kernel) ?_
      refine V_goto 19 B 23 dX12_setTimeout_19 (by decide) ?_
      refine V_iconst 23 B (v := 1) dX12_setTimeout_23 (by decide +kernel) ?_
      refine V_cvi 24 B (st := []) (As := [.int 1, .int 1]) (fun sz => mX12_throwsIf_1 l D Y (h0) (h1) (g0) (g1) (g2) (g3) (g4) sz) glV_RX12_69 ⟨rfl, rfl⟩ ⟨(Nat.le_of_ble_eq_true rfl), (Nat.le_of_ble_eq_true rfl)⟩ ⟨(Nat.le_of_ble_eq_true rfl), (Nat.le_of_ble_eq_true rfl)⟩ [0] rfl 13 0 rfl rfl rfl rfl (Nat.le_of_ble_eq_true rfl) rfl (fun _ _ _ => rfl) dX12_setTimeout_24 (fun r7 u7 w7 => ?_)
      obtain rfl := w7
      refine V_ws [(h0, oC 13 [.ref h1, .ref g0, .int 1, .ref g1, .ref g2, .int 0, .int 0, .int 0, .int (-1), .int 0, .int 0, .int 0, .long 0, .ref g3, .ref g4, .int 0, .int 0]), (h1, aI Y 3640 (clB 0 (fun _ => 0)))] rfl ?_
      refine V_if_eq_f 27 B 32 dX12_setTimeout_27 (by decide) (by decide +kernel) ?_
      refine V_iconst 30 B (v := 0) dX12_setTimeout_30 (by decide +kernel) ?_
      exact V_iret 31 B dX12_setTimeout_31 1 (Or.inr (Or.inl ⟨rfl, k3, rfl⟩)) rfl
    ·
      refine V_ws [(h0, oC 13 [.ref h1, .ref g0, .int 0, .ref g1, .ref g2, .int 0, .int 0, .int 0, .int (-1), .int 0, .int 0, .int 0, .long 0, .ref g3, .ref g4, .int 0, .int 0]), (h1, aI Y 3640 (clB 0 (fun _ => 0)))] rfl ?_
      refine V_if_ne_f 15 B 22 dX12_setTimeout_15 (by decide) (by decide +kernel) ?_
      refine V_iconst 18 B (v := 1) dX12_setTimeout_18 (by decide +kernel) ?_
      refine V_goto 19 B 23 dX12_setTimeout_19 (by decide) ?_
      refine V_iconst 23 B (v := 1) dX12_setTimeout_23 (by decide +kernel) ?_
      refine V_cvi 24 B (st := []) (As := [.int 1, .int 1]) (fun sz => mX12_throwsIf_1 l D Y (h0) (h1) (g0) (g1) (g2) (g3) (g4) sz) glV_RX12_69 ⟨rfl, rfl⟩ ⟨(Nat.le_of_ble_eq_true rfl), (Nat.le_of_ble_eq_true rfl)⟩ ⟨(Nat.le_of_ble_eq_true rfl), (Nat.le_of_ble_eq_true rfl)⟩ [0] rfl 13 0 rfl rfl rfl rfl (Nat.le_of_ble_eq_true rfl) rfl (fun _ _ _ => rfl) dX12_setTimeout_24 (fun r8 u8 w8 => ?_)
      obtain rfl := w8
      refine V_ws [(h0, oC 13 [.ref h1, .ref g0, .int 1, .ref g1, .ref g2, .int 0, .int 0, .int 0, .int (-1), .int 0, .int 0, .int 0, .long 0, .ref g3, .ref g4, .int 0, .int 0]), (h1, aI Y 3640 (clB 0 (fun _ => 0)))] rfl ?_
      refine V_if_eq_f 27 B 32 dX12_setTimeout_27 (by decide) (by decide +kernel) ?_
      refine V_iconst 30 B (v := 0) dX12_setTimeout_30 (by decide +kernel) ?_
      exact V_iret 31 B dX12_setTimeout_31 2 (Or.inr (Or.inr ⟨rfl, k4, rfl⟩)) rfl)
theorem dX12_wish_0 : decode cX12_wish 0 = .ok (.aload_n 0, 1) := by decide +kernel
theorem dX12_wish_1 : decode cX12_wish 1 = .ok (.iconst 0, 1) := by decide +kernel
theorem dX12_wish_2 : decode cX12_wish 2 = .ok (.putfield 38, 3) := by decide +kernel
theorem dX12_wish_5 : decode cX12_wish 5 = .ok (.aload_n 0, 1) := by decide +kernel
theorem dX12_wish_6 : decode cX12_wish 6 = .ok (.invokevirtual 125, 3) := by decide +kernel
theorem dX12_wish_9 : decode cX12_wish 9 = .ok (.ifCond .eq 6, 3) := by decide +kernel
theorem dX12_wish_12 : decode cX12_wish 12 = .ok (.bipush (-4), 2) := by decide +kernel
theorem dX12_wish_14 : decode cX12_wish 14 = .ok (.ireturn, 1) := by decide +kernel
set_option maxRecDepth 100000 in
set_option maxHeartbeats 4000000 in
theorem mX12_wish_1 (l : Launch) (D : va_G) (Y : Nat → ClassId) (h0 : Nat) (h1 : Nat) (g0 : Nat) (g1 : Nat) (g2 : Nat) (g3 : Nat) (g4 : Nat) (sz : Nat) : Met l yX12_wish (WSm yX12_wish cX12_wish 1 (some .int)) (mkR 1 0 0 20) (PreC D Y [.ref h0] [(h0, oC 13 [.ref h1, .ref g0, .int 0, .ref g1, .ref g2, .int 0, .int 0, .int 0, .int (-1), .int 0, .int 0, .int 0, .long 0, .ref g3, .ref g4, .int 0, .int 0]), (h1, aI Y 3640 (clB 0 (fun _ => 0)))] sz) (QI D (fun (r : Int32) (u : Unit) => (-4) = r) (fun (_ : Unit) => [(h0, oC 13 [.ref h1, .ref g0, .int 0, .ref g1, .ref g2, .int 0, .int 0, .int 0, .int (-1), .int 0, .int 0, .int 0, .long 0, .ref g3, .ref g4, .int 0, .int 0]), (h1, aI Y 3640 (clB 0 (fun _ => 0)))]) (va_A [(h0, oC 13 [.ref h1, .ref g0, .int 0, .ref g1, .ref g2, .int 0, .int 0, .int 0, .int (-1), .int 0, .int 0, .int 0, .long 0, .ref g3, .ref g4, .int 0, .int 0]), (h1, aI Y 3640 (clB 0 (fun _ => 0)))] sz)) 0 0 (va_A [(h0, oC 13 [.ref h1, .ref g0, .int 0, .ref g1, .ref g2, .int 0, .int 0, .int 0, .int (-1), .int 0, .int 0, .int 0, .long 0, .ref g3, .ref g4, .int 0, .int 0]), (h1, aI Y 3640 (clB 0 (fun _ => 0)))] sz) :=
  met_of (by decide +kernel) (Nat.le_of_ble_eq_true rfl) (fun p e s m args below meth c B hin hsz => by
    have B : VB p s m args meth c D Y (va_A [(h0, oC 13 [.ref h1, .ref g0, .int 0, .ref g1, .ref g2, .int 0, .int 0, .int 0, .int (-1), .int 0, .int 0, .int 0, .long 0, .ref g3, .ref g4, .int 0, .int 0]), (h1, aI Y 3640 (clB 0 (fun _ => 0)))] sz) cX12_wish 1 RX12 (some .int) := B
    refine V_aload_n 0 B dX12_wish_0 0 rfl ?_
    refine V_iconst 1 B (v := 0) dX12_wish_1 (by decide +kernel) ?_
    refine V_put 2 B gp_RX12_38 0 rfl (Nat.le_of_ble_eq_true rfl) rfl rfl dX12_wish_2 [(h0, oC 13 [.ref h1, .ref g0, .int 0, .ref g1, .ref g2, .int 0, .int 0, .int 0, .int (-1), .int 0, .int 0, .int 0, .long 0, .ref g3, .ref g4, .int 0, .int 0]), (h1, aI Y 3640 (clB 0 (fun _ => 0)))] rfl ?_
    refine V_aload_n 5 B dX12_wish_5 0 rfl ?_
    refine V_cvi 6 B (st := []) (As := []) (fun sz => mX12_hasNoDraft_1 l D Y (h0) (h1) (g0) (g1) (g2) (g3) (g4) sz) glV_RX12_125 ⟨rfl, rfl⟩ ⟨(Nat.le_of_ble_eq_true rfl), (Nat.le_of_ble_eq_true rfl)⟩ ⟨(Nat.le_of_ble_eq_true rfl), (Nat.le_of_ble_eq_true rfl)⟩ [0, 0] rfl 13 0 rfl rfl rfl rfl (Nat.le_of_ble_eq_true rfl) rfl (fun _ _ _ => rfl) dX12_wish_6 (fun r0 u0 w0 => ?_)
    obtain rfl := w0
    refine V_ws [(h0, oC 13 [.ref h1, .ref g0, .int 0, .ref g1, .ref g2, .int 0, .int 0, .int 0, .int (-1), .int 0, .int 0, .int 0, .long 0, .ref g3, .ref g4, .int 0, .int 0]), (h1, aI Y 3640 (clB 0 (fun _ => 0)))] rfl ?_
    refine V_if_eq_f 9 B 15 dX12_wish_9 (by decide) (by decide +kernel) ?_
    refine V_bipush 12 B (v := (-4)) dX12_wish_12 (by decide +kernel) ?_
    exact V_iret 14 B dX12_wish_14 () rfl rfl)
theorem dX12_clearWishes_0 : decode cX12_clearWishes 0 = .ok (.aload_n 0, 1) := by decide +kernel
theorem dX12_clearWishes_1 : decode cX12_clearWishes 1 = .ok (.iconst 0, 1) := by decide +kernel
theorem dX12_clearWishes_2 : decode cX12_clearWishes 2 = .ok (.putfield 38, 3) := by decide +kernel
theorem dX12_clearWishes_5 : decode cX12_clearWishes 5 = .ok (.aload_n 0, 1) := by decide +kernel
theorem dX12_clearWishes_6 : decode cX12_clearWishes 6 = .ok (.getfield 9, 3) := by decide +kernel
theorem dX12_clearWishes_9 : decode cX12_clearWishes 9 = .ok (.bipush 15, 2) := by decide +kernel
theorem dX12_clearWishes_11 : decode cX12_clearWishes 11 = .ok (.iaload, 1) := by decide +kernel
theorem dX12_clearWishes_12 : decode cX12_clearWishes 12 = .ok (.istore_n 1, 1) := by decide +kernel
theorem dX12_clearWishes_13 : decode cX12_clearWishes 13 = .ok (.aload_n 0, 1) := by decide +kernel
theorem dX12_clearWishes_14 : decode cX12_clearWishes 14 = .ok (.getfield 9, 3) := by decide +kernel
theorem dX12_clearWishes_17 : decode cX12_clearWishes 17 = .ok (.bipush 15, 2) := by decide +kernel
theorem dX12_clearWishes_19 : decode cX12_clearWishes 19 = .ok (.iconst 0, 1) := by decide +kernel
theorem dX12_clearWishes_20 : decode cX12_clearWishes 20 = .ok (.iastore, 1) := by decide +kernel
theorem dX12_clearWishes_21 : decode cX12_clearWishes 21 = .ok (.iload_n 1, 1) := by decide +kernel
theorem dX12_clearWishes_22 : decode cX12_clearWishes 22 = .ok (.ireturn, 1) := by decide +kernel
set_option maxRecDepth 100000 in
set_option maxHeartbeats 4000000 in
theorem mX12_clearWishes_1 (l : Launch) (D : va_G) (Y : Nat → ClassId) (h0 : Nat) (h1 : Nat) (g0 : Nat) (g1 : Nat) (g2 : Nat) (g3 : Nat) (g4 : Nat) (sz : Nat) : Met l yX12_clearWishes (WSm yX12_clearWishes cX12_clearWishes 2 (some .int)) (mkR 0 0 0 0) (PreC D Y [.ref h0] [(h0, oC 13 [.ref h1, .ref g0, .int 0, .ref g1, .ref g2, .int 0, .int 0, .int 0, .int (-1), .int 0, .int 0, .int 0, .long 0, .ref g3, .ref g4, .int 0, .int 0]), (h1, aI Y 3640 (clB 0 (fun _ => 0)))] sz) (QI D (fun (r : Int32) (u : Unit) => 0 = r) (fun (_ : Unit) => [(h0, oC 13 [.ref h1, .ref g0, .int 0, .ref g1, .ref g2, .int 0, .int 0, .int 0, .int (-1), .int 0, .int 0, .int 0, .long 0, .ref g3, .ref g4, .int 0, .int 0]), (h1, aI Y 3640 (upd (clB 0 (fun _ => 0)) 15 0))]) (va_A [(h0, oC 13 [.ref h1, .ref g0, .int 0, .ref g1, .ref g2, .int 0, .int 0, .int 0, .int (-1), .int 0, .int 0, .int 0, .long 0, .ref g3, .ref g4, .int 0, .int 0]), (h1, aI Y 3640 (clB 0 (fun _ => 0)))] sz)) 0 0 (va_A [(h0, oC 13 [.ref h1, .ref g0, .int 0, .ref g1, .ref g2, .int 0, .int 0, .int 0, .int (-1), .int 0, .int 0, .int 0, .long 0, .ref g3, .ref g4, .int 0, .int 0]), (h1, aI Y 3640 (clB 0 (fun _ => 0)))] sz) :=
  met_of (by decide +kernel) (Nat.le_of_ble_eq_true rfl) (fun p e s m args below meth c B hin hsz => by
    have B : VB p s m args meth c D Y (va_A [(h0, oC 13 [.ref h1, .ref g0, .int 0, .ref g1, .ref g2, .int 0, .int 0, .int 0, .int (-1), .int 0, .int 0, .int 0, .long 0, .ref g3, .ref g4, .int 0, .int 0]), (h1, aI Y 3640 (clB 0 (fun _ => 0)))] sz) cX12_clearWishes 2 RX12 (some .int) := B
    refine V_aload_n 0 B dX12_clearWishes_0 0 rfl ?_
    refine V_iconst 1 B (v := 0) dX12_clearWishes_1 (by decide +kernel) ?_
    refine V_put 2 B gp_RX12_38 0 rfl (Nat.le_of_ble_eq_true rfl) rfl rfl dX12_clearWishes_2 [(h0, oC 13 [.ref h1, .ref g0, .int 0, .ref g1, .ref g2, .int 0, .int 0, .int 0, .int (-1), .int 0, .int 0, .int 0, .long 0, .ref g3, .ref g4, .int 0, .int 0]), (h1, aI Y 3640 (clB 0 (fun _ => 0)))] rfl ?_
    refine V_aload_n 5 B dX12_clearWishes_5 0 rfl ?_
    refine V_get 6 B gf_RX12_9 0 rfl rfl dX12_clearWishes_6 ?_
    refine V_bipush 9 B (v := 15) dX12_clearWishes_9 (by decide +kernel) ?_
    refine V_iald 11 B (v := 0) 1 rfl (vpin _ _ (by decide +kernel)) dX12_clearWishes_11 rfl ?_
    refine V_istore_n 12 B (lv2 := [(1, .int 0), (0, .ref h0)]) dX12_clearWishes_12 (by decide) rfl ?_
    refine V_aload_n 13 B dX12_clearWishes_13 1 rfl ?_
    refine V_get 14 B gf_RX12_9 0 rfl rfl dX12_clearWishes_14 ?_
    refine V_bipush 17 B (v := 15) dX12_clearWishes_17 (by decide +kernel) ?_
    refine V_iconst 19 B (v := 0) dX12_clearWishes_19 (by decide +kernel) ?_
    refine V_iast 20 B 1 rfl (vpin _ _ (by decide +kernel)) dX12_clearWishes_20 [(h0, oC 13 [.ref h1, .ref g0, .int 0, .ref g1, .ref g2, .int 0, .int 0, .int 0, .int (-1), .int 0, .int 0, .int 0, .long 0, .ref g3, .ref g4, .int 0, .int 0]), (h1, aI Y 3640 (upd (clB 0 (fun _ => 0)) 15 0))] rfl ?_
    refine V_iload_n 21 B dX12_clearWishes_21 0 rfl ?_
    exact V_iret 22 B dX12_clearWishes_22 () rfl rfl)
theorem dX12_leastDrop_0 : decode cX12_leastDrop 0 = .ok (.aload_n 0, 1) := by decide +kernel
theorem dX12_leastDrop_1 : decode cX12_leastDrop 1 = .ok (.iconst 0, 1) := by decide +kernel
theorem dX12_leastDrop_2 : decode cX12_leastDrop 2 = .ok (.putfield 38, 3) := by decide +kernel
theorem dX12_leastDrop_5 : decode cX12_leastDrop 5 = .ok (.aload_n 0, 1) := by decide +kernel
theorem dX12_leastDrop_6 : decode cX12_leastDrop 6 = .ok (.aload_n 0, 1) := by decide +kernel
theorem dX12_leastDrop_7 : decode cX12_leastDrop 7 = .ok (.iload_n 1, 1) := by decide +kernel
theorem dX12_leastDrop_8 : decode cX12_leastDrop 8 = .ok (.invokevirtual 91, 3) := by decide +kernel
theorem dX12_leastDrop_11 : decode cX12_leastDrop 11 = .ok (.ifCond .ne 7, 3) := by decide +kernel
theorem dX12_leastDrop_18 : decode cX12_leastDrop 18 = .ok (.iconst 0, 1) := by decide +kernel
theorem dX12_leastDrop_19 : decode cX12_leastDrop 19 = .ok (.iconst 1, 1) := by decide +kernel
theorem dX12_leastDrop_20 : decode cX12_leastDrop 20 = .ok (.invokevirtual 69, 3) := by decide +kernel
theorem dX12_leastDrop_23 : decode cX12_leastDrop 23 = .ok (.ifCond .eq 5, 3) := by decide +kernel
theorem dX12_leastDrop_28 : decode cX12_leastDrop 28 = .ok (.iconst 1, 1) := by decide +kernel
theorem dX12_leastDrop_29 : decode cX12_leastDrop 29 = .ok (.aload_n 0, 1) := by decide +kernel
theorem dX12_leastDrop_30 : decode cX12_leastDrop 30 = .ok (.getfield 9, 3) := by decide +kernel
theorem dX12_leastDrop_33 : decode cX12_leastDrop 33 = .ok (.bipush 15, 2) := by decide +kernel
theorem dX12_leastDrop_35 : decode cX12_leastDrop 35 = .ok (.iaload, 1) := by decide +kernel
theorem dX12_leastDrop_36 : decode cX12_leastDrop 36 = .ok (.ishl, 1) := by decide +kernel
theorem dX12_leastDrop_37 : decode cX12_leastDrop 37 = .ok (.iconst 1, 1) := by decide +kernel
theorem dX12_leastDrop_38 : decode cX12_leastDrop 38 = .ok (.isub, 1) := by decide +kernel
theorem dX12_leastDrop_39 : decode cX12_leastDrop 39 = .ok (.istore_n 2, 1) := by decide +kernel
theorem dX12_leastDrop_40 : decode cX12_leastDrop 40 = .ok (.iload_n 2, 1) := by decide +kernel
theorem dX12_leastDrop_41 : decode cX12_leastDrop 41 = .ok (.iconst 1, 1) := by decide +kernel
theorem dX12_leastDrop_42 : decode cX12_leastDrop 42 = .ok (.isub, 1) := by decide +kernel
theorem dX12_leastDrop_43 : decode cX12_leastDrop 43 = .ok (.istore_n 3, 1) := by decide +kernel
theorem dX12_leastDrop_44 : decode cX12_leastDrop 44 = .ok (.iload_n 3, 1) := by decide +kernel
theorem dX12_leastDrop_45 : decode cX12_leastDrop 45 = .ok (.ifCond .lt 31, 3) := by decide +kernel
theorem dX12_leastDrop_76 : decode cX12_leastDrop 76 = .ok (.iload_n 2, 1) := by decide +kernel
theorem dX12_leastDrop_77 : decode cX12_leastDrop 77 = .ok (.ireturn, 1) := by decide +kernel
theorem dX12_leastDrop_14 : decode cX12_leastDrop 14 = .ok (.iconst 1, 1) := by decide +kernel
theorem dX12_leastDrop_15 : decode cX12_leastDrop 15 = .ok (.goto 4, 3) := by decide +kernel
theorem dX12_leastDrop_26 : decode cX12_leastDrop 26 = .ok (.iconst 0, 1) := by decide +kernel
theorem dX12_leastDrop_27 : decode cX12_leastDrop 27 = .ok (.ireturn, 1) := by decide +kernel
set_option maxRecDepth 100000 in
set_option maxHeartbeats 4000000 in
theorem mX12_leastDrop_1 (l : Launch) (D : va_G) (Y : Nat → ClassId) (h0 : Nat) (h1 : Nat) (g0 : Nat) (g1 : Nat) (g2 : Nat) (g3 : Nat) (g4 : Nat) (p0 : Int32) (sz : Nat) : Met l yX12_leastDrop (WSm yX12_leastDrop cX12_leastDrop 4 (some .int)) (mkR 2 0 0 46) (PreC D Y [.ref h0, .int p0] [(h0, oC 13 [.ref h1, .ref g0, .int 0, .ref g1, .ref g2, .int 0, .int 0, .int 0, .int (-1), .int 0, .int 0, .int 0, .long 0, .ref g3, .ref g4, .int 0, .int 0]), (h1, aI Y 3640 (clB 0 (fun _ => 0)))] sz) (QI D (fun (r : Int32) (u : Nat) => (u = 0 ∧ p0 = 0 ∧ 0 = r) ∨ (u = 1 ∧ p0 < 0 ∧ 0 = r) ∨ (u = 2 ∧ 0 < p0 ∧ 0 = r)) (fun (u : Nat) => match u with | 0 => [(h0, oC 13 [.ref h1, .ref g0, .int 0, .ref g1, .ref g2, .int 0, .int 0, .int 0, .int (-1), .int 0, .int 0, .int 0, .long 0, .ref g3, .ref g4, .int 0, .int 0]), (h1, aI Y 3640 (clB 0 (fun _ => 0)))] | 1 => [(h0, oC 13 [.ref h1, .ref g0, .int 1, .ref g1, .ref g2, .int 0, .int 0, .int 0, .int (-1), .int 0, .int 0, .int 0, .long 0, .ref g3, .ref g4, .int 0, .int 0]), (h1, aI Y 3640 (clB 0 (fun _ => 0)))] | _ => [(h0, oC 13 [.ref h1, .ref g0, .int 1, .ref g1, .ref g2, .int 0, .int 0, .int 0, .int (-1), .int 0, .int 0, .int 0, .long 0, .ref g3, .ref g4, .int 0, .int 0]), (h1, aI Y 3640 (clB 0 (fun _ => 0)))]) (va_A [(h0, oC 13 [.ref h1, .ref g0, .int 0, .ref g1, .ref g2, .int 0, .int 0, .int 0, .int (-1), .int 0, .int 0, .int 0, .long 0, .ref g3, .ref g4, .int 0, .int 0]), (h1, aI Y 3640 (clB 0 (fun _ => 0)))] sz)) 0 0 (va_A [(h0, oC 13 [.ref h1, .ref g0, .int 0, .ref g1, .ref g2, .int 0, .int 0, .int 0, .int (-1), .int 0, .int 0, .int 0, .long 0, .ref g3, .ref g4, .int 0, .int 0]), (h1, aI Y 3640 (clB 0 (fun _ => 0)))] sz) :=
  met_of (by decide +kernel) (Nat.le_of_ble_eq_true rfl) (fun p e s m args below meth c B hin hsz => by
    have B : VB p s m args meth c D Y (va_A [(h0, oC 13 [.ref h1, .ref g0, .int 0, .ref g1, .ref g2, .int 0, .int 0, .int 0, .int (-1), .int 0, .int 0, .int 0, .long 0, .ref g3, .ref g4, .int 0, .int 0]), (h1, aI Y 3640 (clB 0 (fun _ => 0)))] sz) cX12_leastDrop 4 RX12 (some .int) := B
    refine V_aload_n 0 B dX12_leastDrop_0 0 rfl ?_
    refine V_iconst 1 B (v := 0) dX12_leastDrop_1 (by decide +kernel) ?_
    refine V_put 2 B gp_RX12_38 0 rfl (Nat.le_of_ble_eq_true rfl) rfl rfl dX12_leastDrop_2 [(h0, oC 13 [.ref h1, .ref g0, .int 0, .ref g1, .ref g2, .int 0, .int 0, .int 0, .int (-1), .int 0, .int 0, .int 0, .long 0, .ref g3, .ref g4, .int 0, .int 0]), (h1, aI Y 3640 (clB 0 (fun _ => 0)))] rfl ?_
    refine V_aload_n 5 B dX12_leastDrop_5 0 rfl ?_
    refine V_aload_n 6 B dX12_leastDrop_6 0 rfl ?_
    refine V_iload_n 7 B dX12_leastDrop_7 1 rfl ?_
    refine V_cvi 8 B (st := [.ref h0]) (As := [.int p0]) (fun sz => mX12_isMode_1 l D Y (h0) (h1) (g0) (g1) (g2) (g3) (g4) (p0) sz) glV_RX12_91 ⟨rfl, rfl⟩ ⟨(Nat.le_of_ble_eq_true rfl), (Nat.le_of_ble_eq_true rfl)⟩ ⟨(Nat.le_of_ble_eq_true rfl), (Nat.le_of_ble_eq_true rfl)⟩ [0, 0] rfl 13 0 rfl rfl rfl rfl (Nat.le_of_ble_eq_true rfl) rfl (fun _ _ _ => rfl) dX12_leastDrop_8 (fun r0 u0 w0 => ?_)
    rcases w0 with ⟨k1, rfl⟩ | ⟨k2, rfl⟩ | ⟨k3, rfl⟩
    ·
      refine V_ws [(h0, oC 13 [.ref h1, .ref g0, .int 0, .ref g1, .ref g2, .int 0, .int 0, .int 0, .int (-1), .int 0, .int 0, .int 0, .long 0, .ref g3, .ref g4, .int 0, .int 0]), (h1, aI Y 3640 (clB 0 (fun _ => 0)))] rfl ?_
      obtain rfl : p0 = 0 := k1
      refine V_if_ne_t 11 B 18 dX12_leastDrop_11 (by decide) (by decide +kernel) ?_
      refine V_iconst 18 B (v := 0) dX12_leastDrop_18 (by decide +kernel) ?_
      refine V_iconst 19 B (v := 1) dX12_leastDrop_19 (by decide +kernel) ?_
      refine V_cvi 20 B (st := []) (As := [.int 0, .int 1]) (fun sz => mX12_throwsIf_2 l D Y (h0) (h1) (g0) (g1) (g2) (g3) (g4) sz) glV_RX12_69 ⟨rfl, rfl⟩ ⟨(Nat.le_of_ble_eq_true rfl), (Nat.le_of_ble_eq_true rfl)⟩ ⟨(Nat.le_of_ble_eq_true rfl), (Nat.le_of_ble_eq_true rfl)⟩ [0] rfl 13 0 rfl rfl rfl rfl (Nat.le_of_ble_eq_true rfl) rfl (fun _ _ _ => rfl) dX12_leastDrop_20 (fun r4 u4 w4 => ?_)
      obtain rfl := w4
      refine V_ws [(h0, oC 13 [.ref h1, .ref g0, .int 0, .ref g1, .ref g2, .int 0, .int 0, .int 0, .int (-1), .int 0, .int 0, .int 0, .long 0, .ref g3, .ref g4, .int 0, .int 0]), (h1, aI Y 3640 (clB 0 (fun _ => 0)))] rfl ?_
      refine V_if_eq_t 23 B 28 dX12_leastDrop_23 (by decide) (by decide +kernel) ?_
      refine V_iconst 28 B (v := 1) dX12_leastDrop_28 (by decide +kernel) ?_
      refine V_aload_n 29 B dX12_leastDrop_29 0 rfl ?_
      refine V_get 30 B gf_RX12_9 0 rfl rfl dX12_leastDrop_30 ?_
      refine V_bipush 33 B (v := 15) dX12_leastDrop_33 (by decide +kernel) ?_
      refine V_iald 35 B (v := 0) 1 rfl (vpin _ _ (by decide +kernel)) dX12_leastDrop_35 rfl ?_
      refine V_ishl 36 B (v := 1) dX12_leastDrop_36 (by decide +kernel) ?_
      refine V_iconst 37 B (v := 1) dX12_leastDrop_37 (by decide +kernel) ?_
      refine V_isub 38 B (v := 0) dX12_leastDrop_38 (by decide +kernel) ?_
      refine V_istore_n 39 B (lv2 := [(2, .int 0), (0, .ref h0), (1, .int 0)]) dX12_leastDrop_39 (by decide) rfl ?_
      refine V_iload_n 40 B dX12_leastDrop_40 0 rfl ?_
      refine V_iconst 41 B (v := 1) dX12_leastDrop_41 (by decide +kernel) ?_
      refine V_isub 42 B (v := (-1)) dX12_leastDrop_42 (by decide +kernel) ?_
      refine V_istore_n 43 B (lv2 := [(3, .int (-1)), (2, .int 0), (0, .ref h0), (1, .int 0)]) dX12_leastDrop_43 (by decide) rfl ?_
      refine V_iload_n 44 B dX12_leastDrop_44 0 rfl ?_
      refine V_if_lt_t 45 B 76 dX12_leastDrop_45 (by decide) (by decide +kernel) ?_
      refine V_iload_n 76 B dX12_leastDrop_76 1 rfl ?_
      exact V_iret 77 B dX12_leastDrop_77 0 (Or.inl ⟨rfl, rfl, rfl⟩) rfl
    ·
      refine V_ws [(h0, oC 13 [.ref h1, .ref g0, .int 0, .ref g1, .ref g2, .int 0, .int 0, .int 0, .int (-1), .int 0, .int 0, .int 0, .long 0, .ref g3, .ref g4, .int 0, .int 0]), (h1, aI Y 3640 (clB 0 (fun _ => 0)))] rfl ?_
      refine V_if_ne_f 11 B 18 dX12_leastDrop_11 (by decide) (by decide +kernel) ?_
      refine V_iconst 14 B (v := 1) dX12_leastDrop_14 (by decide +kernel) ?_
      refine V_goto 15 B 19 dX12_leastDrop_15 (by decide) ?_
      refine V_iconst 19 B (v := 1) dX12_leastDrop_19 (by decide +kernel) ?_
      refine V_cvi 20 B (st := []) (As := [.int 1, .int 1]) (fun sz => mX12_throwsIf_1 l D Y (h0) (h1) (g0) (g1) (g2) (g3) (g4) sz) glV_RX12_69 ⟨rfl, rfl⟩ ⟨(Nat.le_of_ble_eq_true rfl), (Nat.le_of_ble_eq_true rfl)⟩ ⟨(Nat.le_of_ble_eq_true rfl), (Nat.le_of_ble_eq_true rfl)⟩ [0] rfl 13 0 rfl rfl rfl rfl (Nat.le_of_ble_eq_true rfl) rfl (fun _ _ _ => rfl) dX12_leastDrop_20 (fun r5 u5 w5 => ?_)
      obtain rfl := w5
      refine V_ws [(h0, oC 13 [.ref h1, .ref g0, .int 1, .ref g1, .ref g2, .int 0, .int 0, .int 0, .int (-1), .int 0, .int 0, .int 0, .long 0, .ref g3, .ref g4, .int 0, .int 0]), (h1, aI Y 3640 (clB 0 (fun _ => 0)))] rfl ?_
      refine V_if_eq_f 23 B 28 dX12_leastDrop_23 (by decide) (by decide +kernel) ?_
      refine V_iconst 26 B (v := 0) dX12_leastDrop_26 (by decide +kernel) ?_
      exact V_iret 27 B dX12_leastDrop_27 1 (Or.inr (Or.inl ⟨rfl, k2, rfl⟩)) rfl
    ·
      refine V_ws [(h0, oC 13 [.ref h1, .ref g0, .int 0, .ref g1, .ref g2, .int 0, .int 0, .int 0, .int (-1), .int 0, .int 0, .int 0, .long 0, .ref g3, .ref g4, .int 0, .int 0]), (h1, aI Y 3640 (clB 0 (fun _ => 0)))] rfl ?_
      refine V_if_ne_f 11 B 18 dX12_leastDrop_11 (by decide) (by decide +kernel) ?_
      refine V_iconst 14 B (v := 1) dX12_leastDrop_14 (by decide +kernel) ?_
      refine V_goto 15 B 19 dX12_leastDrop_15 (by decide) ?_
      refine V_iconst 19 B (v := 1) dX12_leastDrop_19 (by decide +kernel) ?_
      refine V_cvi 20 B (st := []) (As := [.int 1, .int 1]) (fun sz => mX12_throwsIf_1 l D Y (h0) (h1) (g0) (g1) (g2) (g3) (g4) sz) glV_RX12_69 ⟨rfl, rfl⟩ ⟨(Nat.le_of_ble_eq_true rfl), (Nat.le_of_ble_eq_true rfl)⟩ ⟨(Nat.le_of_ble_eq_true rfl), (Nat.le_of_ble_eq_true rfl)⟩ [0] rfl 13 0 rfl rfl rfl rfl (Nat.le_of_ble_eq_true rfl) rfl (fun _ _ _ => rfl) dX12_leastDrop_20 (fun r6 u6 w6 => ?_)
      obtain rfl := w6
      refine V_ws [(h0, oC 13 [.ref h1, .ref g0, .int 1, .ref g1, .ref g2, .int 0, .int 0, .int 0, .int (-1), .int 0, .int 0, .int 0, .long 0, .ref g3, .ref g4, .int 0, .int 0]), (h1, aI Y 3640 (clB 0 (fun _ => 0)))] rfl ?_
      refine V_if_eq_f 23 B 28 dX12_leastDrop_23 (by decide) (by decide +kernel) ?_
      refine V_iconst 26 B (v := 0) dX12_leastDrop_26 (by decide +kernel) ?_
      exact V_iret 27 B dX12_leastDrop_27 2 (Or.inr (Or.inr ⟨rfl, k3, rfl⟩)) rfl)
theorem dX12_draftWish_0 : decode cX12_draftWish 0 = .ok (.aload_n 0, 1) := by decide +kernel
theorem dX12_draftWish_1 : decode cX12_draftWish 1 = .ok (.iconst 0, 1) := by decide +kernel
theorem dX12_draftWish_2 : decode cX12_draftWish 2 = .ok (.putfield 38, 3) := by decide +kernel
theorem dX12_draftWish_5 : decode cX12_draftWish 5 = .ok (.aload_n 0, 1) := by decide +kernel
theorem dX12_draftWish_6 : decode cX12_draftWish 6 = .ok (.iload_n 1, 1) := by decide +kernel
theorem dX12_draftWish_7 : decode cX12_draftWish 7 = .ok (.i2l, 1) := by decide +kernel
theorem dX12_draftWish_8 : decode cX12_draftWish 8 = .ok (.lconst 0, 1) := by decide +kernel
theorem dX12_draftWish_9 : decode cX12_draftWish 9 = .ok (.aload_n 0, 1) := by decide +kernel
theorem dX12_draftWish_10 : decode cX12_draftWish 10 = .ok (.getfield 9, 3) := by decide +kernel
theorem dX12_draftWish_13 : decode cX12_draftWish 13 = .ok (.bipush 15, 2) := by decide +kernel
theorem dX12_draftWish_15 : decode cX12_draftWish 15 = .ok (.iaload, 1) := by decide +kernel
theorem dX12_draftWish_16 : decode cX12_draftWish 16 = .ok (.iconst 1, 1) := by decide +kernel
theorem dX12_draftWish_17 : decode cX12_draftWish 17 = .ok (.isub, 1) := by decide +kernel
theorem dX12_draftWish_18 : decode cX12_draftWish 18 = .ok (.i2l, 1) := by decide +kernel
theorem dX12_draftWish_19 : decode cX12_draftWish 19 = .ok (.invokestatic 41, 3) := by decide +kernel
theorem dX12_draftWish_22 : decode cX12_draftWish 22 = .ok (.ifCond .ne 7, 3) := by decide +kernel
theorem dX12_draftWish_25 : decode cX12_draftWish 25 = .ok (.iconst 1, 1) := by decide +kernel
theorem dX12_draftWish_26 : decode cX12_draftWish 26 = .ok (.goto 4, 3) := by decide +kernel
theorem dX12_draftWish_30 : decode cX12_draftWish 30 = .ok (.iconst 1, 1) := by decide +kernel
theorem dX12_draftWish_31 : decode cX12_draftWish 31 = .ok (.invokevirtual 69, 3) := by decide +kernel
theorem dX12_draftWish_34 : decode cX12_draftWish 34 = .ok (.ifCond .eq 5, 3) := by decide +kernel
theorem dX12_draftWish_37 : decode cX12_draftWish 37 = .ok (.iconst 0, 1) := by decide +kernel
theorem dX12_draftWish_38 : decode cX12_draftWish 38 = .ok (.ireturn, 1) := by decide +kernel
set_option maxRecDepth 100000 in
set_option maxHeartbeats 4000000 in
theorem mX12_draftWish_1 (l : Launch) (D : va_G) (Y : Nat → ClassId) (h0 : Nat) (h1 : Nat) (g0 : Nat) (g1 : Nat) (g2 : Nat) (g3 : Nat) (g4 : Nat) (p0 : Int32) (sz : Nat) : Met l yX12_draftWish (WSm yX12_draftWish cX12_draftWish 2 (some .int)) (mkR 1 0 0 25) (PreC D Y [.ref h0, .int p0] [(h0, oC 13 [.ref h1, .ref g0, .int 0, .ref g1, .ref g2, .int 0, .int 0, .int 0, .int (-1), .int 0, .int 0, .int 0, .long 0, .ref g3, .ref g4, .int 0, .int 0]), (h1, aI Y 3640 (clB 0 (fun _ => 0)))] sz) (QI D (fun (r : Int32) (u : Unit) => (p0 < 0 ∧ 0 = r) ∨ ((-1) < p0 ∧ 0 = r)) (fun (_ : Unit) => [(h0, oC 13 [.ref h1, .ref g0, .int 1, .ref g1, .ref g2, .int 0, .int 0, .int 0, .int (-1), .int 0, .int 0, .int 0, .long 0, .ref g3, .ref g4, .int 0, .int 0]), (h1, aI Y 3640 (clB 0 (fun _ => 0)))]) (va_A [(h0, oC 13 [.ref h1, .ref g0, .int 0, .ref g1, .ref g2, .int 0, .int 0, .int 0, .int (-1), .int 0, .int 0, .int 0, .long 0, .ref g3, .ref g4, .int 0, .int 0]), (h1, aI Y 3640 (clB 0 (fun _ => 0)))] sz)) 0 0 (va_A [(h0, oC 13 [.ref h1, .ref g0, .int 0, .ref g1, .ref g2, .int 0, .int 0, .int 0, .int (-1), .int 0, .int 0, .int 0, .long 0, .ref g3, .ref g4, .int 0, .int 0]), (h1, aI Y 3640 (clB 0 (fun _ => 0)))] sz) :=
  met_of (by decide +kernel) (Nat.le_of_ble_eq_true rfl) (fun p e s m args below meth c B hin hsz => by
    have B : VB p s m args meth c D Y (va_A [(h0, oC 13 [.ref h1, .ref g0, .int 0, .ref g1, .ref g2, .int 0, .int 0, .int 0, .int (-1), .int 0, .int 0, .int 0, .long 0, .ref g3, .ref g4, .int 0, .int 0]), (h1, aI Y 3640 (clB 0 (fun _ => 0)))] sz) cX12_draftWish 2 RX12 (some .int) := B
    refine V_aload_n 0 B dX12_draftWish_0 0 rfl ?_
    refine V_iconst 1 B (v := 0) dX12_draftWish_1 (by decide +kernel) ?_
    refine V_put 2 B gp_RX12_38 0 rfl (Nat.le_of_ble_eq_true rfl) rfl rfl dX12_draftWish_2 [(h0, oC 13 [.ref h1, .ref g0, .int 0, .ref g1, .ref g2, .int 0, .int 0, .int 0, .int (-1), .int 0, .int 0, .int 0, .long 0, .ref g3, .ref g4, .int 0, .int 0]), (h1, aI Y 3640 (clB 0 (fun _ => 0)))] rfl ?_
    refine V_aload_n 5 B dX12_draftWish_5 0 rfl ?_
    refine V_iload_n 6 B dX12_draftWish_6 1 rfl ?_
    refine V_i2l 7 B dX12_draftWish_7 rfl ?_
    refine V_lconst 8 B (v := 0) dX12_draftWish_8 (by decide +kernel) ?_
    refine V_aload_n 9 B dX12_draftWish_9 0 rfl ?_
    refine V_get 10 B gf_RX12_9 0 rfl rfl dX12_draftWish_10 ?_
    refine V_bipush 13 B (v := 15) dX12_draftWish_13 (by decide +kernel) ?_
    refine V_iald 15 B (v := 0) 1 rfl (vpin _ _ (by decide +kernel)) dX12_draftWish_15 rfl ?_
    refine V_iconst 16 B (v := 1) dX12_draftWish_16 (by decide +kernel) ?_
    refine V_isub 17 B (v := (-1)) dX12_draftWish_17 (by decide +kernel) ?_
    refine V_i2l 18 B (v := (-1)) dX12_draftWish_18 (by decide +kernel) ?_
    refine V_csi 19 B (st := [.ref h0]) (As := [.long p0.toInt64, .long 0, .long (-1)]) (fun sz => mX12_inRange_m l D Y (p0) (0) ((-1)) (0) ((-1)) (by decide +kernel) (by decide +kernel) sz) glS_RX12_41 ⟨rfl, rfl⟩ ⟨(Nat.le_of_ble_eq_true rfl), (Nat.le_of_ble_eq_true rfl)⟩ ⟨(Nat.le_of_ble_eq_true rfl), (Nat.le_of_ble_eq_true rfl)⟩ [] rfl rfl (Nat.le_of_ble_eq_true rfl) rfl (fun _ _ _ => rfl) dX12_draftWish_19 (fun r0 u0 w0 => ?_)
    rcases w0 with ⟨k1, k2, rfl⟩ | ⟨k3, rfl⟩ | ⟨k4, rfl⟩
    ·
      refine V_ws [(h0, oC 13 [.ref h1, .ref g0, .int 0, .ref g1, .ref g2, .int 0, .int 0, .int 0, .int (-1), .int 0, .int 0, .int 0, .long 0, .ref g3, .ref g4, .int 0, .int 0]), (h1, aI Y 3640 (clB 0 (fun _ => 0)))] rfl ?_
      exact (q_abs (b_nlt k1 (n := 0) (by decide +kernel)) (b_ngt k2 (n := (-1)) (by decide +kernel)) (by decide +kernel)).elim
    ·
      refine V_ws [(h0, oC 13 [.ref h1, .ref g0, .int 0, .ref g1, .ref g2, .int 0, .int 0, .int 0, .int (-1), .int 0, .int 0, .int 0, .long 0, .ref g3, .ref g4, .int 0, .int 0]), (h1, aI Y 3640 (clB 0 (fun _ => 0)))] rfl ?_
      refine V_if_ne_f 22 B 29 dX12_draftWish_22 (by decide) (by decide +kernel) ?_
      refine V_iconst 25 B (v := 1) dX12_draftWish_25 (by decide +kernel) ?_
      refine V_goto 26 B 30 dX12_draftWish_26 (by decide) ?_
      refine V_iconst 30 B (v := 1) dX12_draftWish_30 (by decide +kernel) ?_
      refine V_cvi 31 B (st := []) (As := [.int 1, .int 1]) (fun sz => mX12_throwsIf_1 l D Y (h0) (h1) (g0) (g1) (g2) (g3) (g4) sz) glV_RX12_69 ⟨rfl, rfl⟩ ⟨(Nat.le_of_ble_eq_true rfl), (Nat.le_of_ble_eq_true rfl)⟩ ⟨(Nat.le_of_ble_eq_true rfl), (Nat.le_of_ble_eq_true rfl)⟩ [0] rfl 13 0 rfl rfl rfl rfl (Nat.le_of_ble_eq_true rfl) rfl (fun _ _ _ => rfl) dX12_draftWish_31 (fun r5 u5 w5 => ?_)
      obtain rfl := w5
      refine V_ws [(h0, oC 13 [.ref h1, .ref g0, .int 1, .ref g1, .ref g2, .int 0, .int 0, .int 0, .int (-1), .int 0, .int 0, .int 0, .long 0, .ref g3, .ref g4, .int 0, .int 0]), (h1, aI Y 3640 (clB 0 (fun _ => 0)))] rfl ?_
      refine V_if_eq_f 34 B 39 dX12_draftWish_34 (by decide) (by decide +kernel) ?_
      refine V_iconst 37 B (v := 0) dX12_draftWish_37 (by decide +kernel) ?_
      exact V_iret 38 B dX12_draftWish_38 () (Or.inl ⟨k3, rfl⟩) rfl
    ·
      refine V_ws [(h0, oC 13 [.ref h1, .ref g0, .int 0, .ref g1, .ref g2, .int 0, .int 0, .int 0, .int (-1), .int 0, .int 0, .int 0, .long 0, .ref g3, .ref g4, .int 0, .int 0]), (h1, aI Y 3640 (clB 0 (fun _ => 0)))] rfl ?_
      refine V_if_ne_f 22 B 29 dX12_draftWish_22 (by decide) (by decide +kernel) ?_
      refine V_iconst 25 B (v := 1) dX12_draftWish_25 (by decide +kernel) ?_
      refine V_goto 26 B 30 dX12_draftWish_26 (by decide) ?_
      refine V_iconst 30 B (v := 1) dX12_draftWish_30 (by decide +kernel) ?_
      refine V_cvi 31 B (st := []) (As := [.int 1, .int 1]) (fun sz => mX12_throwsIf_1 l D Y (h0) (h1) (g0) (g1) (g2) (g3) (g4) sz) glV_RX12_69 ⟨rfl, rfl⟩ ⟨(Nat.le_of_ble_eq_true rfl), (Nat.le_of_ble_eq_true rfl)⟩ ⟨(Nat.le_of_ble_eq_true rfl), (Nat.le_of_ble_eq_true rfl)⟩ [0] rfl 13 0 rfl rfl rfl rfl (Nat.le_of_ble_eq_true rfl) rfl (fun _ _ _ => rfl) dX12_draftWish_31 (fun r6 u6 w6 => ?_)
      obtain rfl := w6
      refine V_ws [(h0, oC 13 [.ref h1, .ref g0, .int 1, .ref g1, .ref g2, .int 0, .int 0, .int 0, .int (-1), .int 0, .int 0, .int 0, .long 0, .ref g3, .ref g4, .int 0, .int 0]), (h1, aI Y 3640 (clB 0 (fun _ => 0)))] rfl ?_
      refine V_if_eq_f 34 B 39 dX12_draftWish_34 (by decide) (by decide +kernel) ?_
      refine V_iconst 37 B (v := 0) dX12_draftWish_37 (by decide +kernel) ?_
      exact V_iret 38 B dX12_draftWish_38 () (Or.inr ⟨k4, rfl⟩) rfl)
theorem dX12_appendBytes_0 : decode cX12_appendBytes 0 = .ok (.bipush 24, 2) := by decide +kernel
theorem dX12_appendBytes_2 : decode cX12_appendBytes 2 = .ok (.istore_n 2, 1) := by decide +kernel
theorem dX12_appendBytes_3 : decode cX12_appendBytes 3 = .ok (.iload_n 2, 1) := by decide +kernel
theorem dX12_appendBytes_4 : decode cX12_appendBytes 4 = .ok (.ifCond .lt 32, 3) := by decide +kernel
theorem dX12_appendBytes_7 : decode cX12_appendBytes 7 = .ok (.aload_n 0, 1) := by decide +kernel
theorem dX12_appendBytes_8 : decode cX12_appendBytes 8 = .ok (.getfield 20, 3) := by decide +kernel
theorem gf_RX12_20 : GF RX12 20 13 4 := ⟨RX12, TX12, 17, rfl, inw_X12, Nat.le_of_ble_eq_true rfl, (mT7 141 rfl rfl)⟩
theorem dX12_appendBytes_11 : decode cX12_appendBytes 11 = .ok (.aload_n 0, 1) := by decide +kernel
theorem dX12_appendBytes_12 : decode cX12_appendBytes 12 = .ok (.getfield 240, 3) := by decide +kernel
theorem gf_RX12_240 : GF RX12 240 13 5 := ⟨RX12, TX12, 17, rfl, inw_X12, Nat.le_of_ble_eq_true rfl, (mT7 142 rfl rfl)⟩
theorem dX12_appendBytes_15 : decode cX12_appendBytes 15 = .ok (.iload_n 1, 1) := by decide +kernel
theorem dX12_appendBytes_16 : decode cX12_appendBytes 16 = .ok (.iload_n 2, 1) := by decide +kernel
theorem dX12_appendBytes_17 : decode cX12_appendBytes 17 = .ok (.ishr, 1) := by decide +kernel
theorem dX12_appendBytes_18 : decode cX12_appendBytes 18 = .ok (.i2b, 1) := by decide +kernel
theorem dX12_appendBytes_19 : decode cX12_appendBytes 19 = .ok (.bastore, 1) := by decide +kernel
theorem dX12_appendBytes_20 : decode cX12_appendBytes 20 = .ok (.aload_n 0, 1) := by decide +kernel
theorem dX12_appendBytes_21 : decode cX12_appendBytes 21 = .ok (.dup, 1) := by decide +kernel
theorem dX12_appendBytes_22 : decode cX12_appendBytes 22 = .ok (.getfield 240, 3) := by decide +kernel
theorem dX12_appendBytes_25 : decode cX12_appendBytes 25 = .ok (.iconst 1, 1) := by decide +kernel
theorem dX12_appendBytes_26 : decode cX12_appendBytes 26 = .ok (.iadd, 1) := by decide +kernel
theorem dX12_appendBytes_27 : decode cX12_appendBytes 27 = .ok (.putfield 240, 3) := by decide +kernel
theorem gp_RX12_240 : GP RX12 240 13 5 .int false := ⟨RX12, TX12, 17, ⟨rfl, inw_X12, Nat.le_of_ble_eq_true rfl, (mT7 142 rfl rfl)⟩, ⟨tyX12, tyX12_ok⟩, nmX12, rfl, by decide +kernel, fun h => nomatch h⟩
theorem dX12_appendBytes_30 : decode cX12_appendBytes 30 = .ok (.iinc 2 (-8), 3) := by decide +kernel
theorem dX12_appendBytes_33 : decode cX12_appendBytes 33 = .ok (.goto (-30), 3) := by decide +kernel
theorem dX12_appendBytes_36 : decode cX12_appendBytes 36 = .ok (.return_, 1) := by decide +kernel
set_option maxRecDepth 100000 in
set_option maxHeartbeats 4000000 in
theorem mX12_appendBytes_1 (l : Launch) (D : va_G) (Y : Nat → ClassId) (h0 : Nat) (g0 : Nat) (g1 : Nat) (g2 : Nat) (h1 : Nat) (g3 : Nat) (g4 : Nat) (p0 : Int32) (sz : Nat) : Met l yX12_appendBytes (WSm yX12_appendBytes cX12_appendBytes 3 none) (mkR 0 0 0 0) (PreC D Y [.ref h0, .int p0] [(h0, oC 13 [.ref g0, .ref g1, .int 0, .ref g2, .ref h1, .int 0, .int 0, .int 0, .int (-1), .int 0, .int 0, .int 0, .long 0, .ref g3, .ref g4, .int 0, .int 0]), (h1, aB Y 1600 (fun _ => 0))] sz) (QV D (fun (u : Unit) => True) (fun (_ : Unit) => [(h0, oC 13 [.ref g0, .ref g1, .int 0, .ref g2, .ref h1, .int 4, .int 0, .int 0, .int (-1), .int 0, .int 0, .int 0, .long 0, .ref g3, .ref g4, .int 0, .int 0]), (h1, aB Y 1600 (upd (upd (upd (upd (fun _ => 0) 0 (vp_nar .byte ((p0 >>> (24 &&& 31)).toInt8.toInt32))) 1 (vp_nar .byte ((p0 >>> (16 &&& 31)).toInt8.toInt32))) 2 (vp_nar .byte ((p0 >>> (8 &&& 31)).toInt8.toInt32))) 3 (vp_nar .byte ((p0 >>> (0 &&& 31)).toInt8.toInt32))))]) (va_A [(h0, oC 13 [.ref g0, .ref g1, .int 0, .ref g2, .ref h1, .int 0, .int 0, .int 0, .int (-1), .int 0, .int 0, .int 0, .long 0, .ref g3, .ref g4, .int 0, .int 0]), (h1, aB Y 1600 (fun _ => 0))] sz)) 0 0 (va_A [(h0, oC 13 [.ref g0, .ref g1, .int 0, .ref g2, .ref h1, .int 0, .int 0, .int 0, .int (-1), .int 0, .int 0, .int 0, .long 0, .ref g3, .ref g4, .int 0, .int 0]), (h1, aB Y 1600 (fun _ => 0))] sz) :=
  met_of (by decide +kernel) (Nat.le_of_ble_eq_true rfl) (fun p e s m args below meth c B hin hsz => by
    have B : VB p s m args meth c D Y (va_A [(h0, oC 13 [.ref g0, .ref g1, .int 0, .ref g2, .ref h1, .int 0, .int 0, .int 0, .int (-1), .int 0, .int 0, .int 0, .long 0, .ref g3, .ref g4, .int 0, .int 0]), (h1, aB Y 1600 (fun _ => 0))] sz) cX12_appendBytes 3 RX12 none := B
    refine V_bipush 0 B (v := 24) dX12_appendBytes_0 (by decide +kernel) ?_
    refine V_istore_n 2 B (lv2 := [(2, .int 24), (0, .ref h0), (1, .int p0)]) dX12_appendBytes_2 (by decide) rfl ?_
    refine V_iload_n 3 B dX12_appendBytes_3 0 rfl ?_
    refine V_if_lt_f 4 B 36 dX12_appendBytes_4 (by decide) (by decide +kernel) ?_
    refine V_aload_n 7 B dX12_appendBytes_7 1 rfl ?_
    refine V_get 8 B gf_RX12_20 0 rfl rfl dX12_appendBytes_8 ?_
    refine V_aload_n 11 B dX12_appendBytes_11 1 rfl ?_
    refine V_get 12 B gf_RX12_240 0 rfl rfl dX12_appendBytes_12 ?_
    refine V_iload_n 15 B dX12_appendBytes_15 2 rfl ?_
    refine V_iload_n 16 B dX12_appendBytes_16 0 rfl ?_
    refine V_ishr 17 B dX12_appendBytes_17 rfl ?_
    refine V_i2b 18 B dX12_appendBytes_18 rfl ?_
    refine V_bast 19 B 1 rfl (vpin _ _ (by decide +kernel)) dX12_appendBytes_19 [(h0, oC 13 [.ref g0, .ref g1, .int 0, .ref g2, .ref h1, .int 0, .int 0, .int 0, .int (-1), .int 0, .int 0, .int 0, .long 0, .ref g3, .ref g4, .int 0, .int 0]), (h1, aB Y 1600 (upd (fun _ => 0) 0 (vp_nar .byte ((p0 >>> (24 &&& 31)).toInt8.toInt32))))] rfl ?_
    refine V_aload_n 20 B dX12_appendBytes_20 1 rfl ?_
    refine V_dup 21 B dX12_appendBytes_21 rfl ?_
    refine V_get 22 B gf_RX12_240 0 rfl rfl dX12_appendBytes_22 ?_
    refine V_iconst 25 B (v := 1) dX12_appendBytes_25 (by decide +kernel) ?_
    refine V_iadd 26 B (v := 1) dX12_appendBytes_26 (by decide +kernel) ?_
    refine V_put 27 B gp_RX12_240 0 rfl (Nat.le_of_ble_eq_true rfl) rfl rfl dX12_appendBytes_27 [(h0, oC 13 [.ref g0, .ref g1, .int 0, .ref g2, .ref h1, .int 1, .int 0, .int 0, .int (-1), .int 0, .int 0, .int 0, .long 0, .ref g3, .ref g4, .int 0, .int 0]), (h1, aB Y 1600 (upd (fun _ => 0) 0 (vp_nar .byte ((p0 >>> (24 &&& 31)).toInt8.toInt32))))] rfl ?_
    refine V_iinc 30 B (v := 16) (lv2 := [(2, .int 16), (0, .ref h0), (1, .int p0)]) dX12_appendBytes_30 0 rfl (by decide +kernel) (by decide) rfl ?_
    refine V_goto 33 B 3 dX12_appendBytes_33 (by decide) ?_
    refine V_iload_n 3 B dX12_appendBytes_3 0 rfl ?_
    refine V_if_lt_f 4 B 36 dX12_appendBytes_4 (by decide) (by decide +kernel) ?_
    refine V_aload_n 7 B dX12_appendBytes_7 1 rfl ?_
    refine V_get 8 B gf_RX12_20 0 rfl rfl dX12_appendBytes_8 ?_
    refine V_aload_n 11 B dX12_appendBytes_11 1 rfl ?_
    refine V_get 12 B gf_RX12_240 0 rfl rfl dX12_appendBytes_12 ?_
    refine V_iload_n 15 B dX12_appendBytes_15 2 rfl ?_
    refine V_iload_n 16 B dX12_appendBytes_16 0 rfl ?_
    refine V_ishr 17 B dX12_appendBytes_17 rfl ?_
    refine V_i2b 18 B dX12_appendBytes_18 rfl ?_
    refine V_bast 19 B 1 rfl (vpin _ _ (by decide +kernel)) dX12_appendBytes_19 [(h0, oC 13 [.ref g0, .ref g1, .int 0, .ref g2, .ref h1, .int 1, .int 0, .int 0, .int (-1), .int 0, .int 0, .int 0, .long 0, .ref g3, .ref g4, .int 0, .int 0]), (h1, aB Y 1600 (upd (upd (fun _ => 0) 0 (vp_nar .byte ((p0 >>> (24 &&& 31)).toInt8.toInt32))) 1 (vp_nar .byte ((p0 >>> (16 &&& 31)).toInt8.toInt32))))] rfl ?_
    refine V_aload_n 20 B dX12_appendBytes_20 1 rfl ?_
    refine V_dup 21 B dX12_appendBytes_21 rfl ?_
    refine V_get 22 B gf_RX12_240 0 rfl rfl dX12_appendBytes_22 ?_
    refine V_iconst 25 B (v := 1) dX12_appendBytes_25 (by decide +kernel) ?_
    refine V_iadd 26 B (v := 2) dX12_appendBytes_26 (by decide +kernel) ?_
    refine V_put 27 B gp_RX12_240 0 rfl (Nat.le_of_ble_eq_true rfl) rfl rfl dX12_appendBytes_27 [(h0, oC 13 [.ref g0, .ref g1, .int 0, .ref g2, .ref h1, .int 2, .int 0, .int 0, .int (-1), .int 0, .int 0, .int 0, .long 0, .ref g3, .ref g4, .int 0, .int 0]), (h1, aB Y 1600 (upd (upd (fun _ => 0) 0 (vp_nar .byte ((p0 >>> (24 &&& 31)).toInt8.toInt32))) 1 (vp_nar .byte ((p0 >>> (16 &&& 31)).toInt8.toInt32))))] rfl ?_
    refine V_iinc 30 B (v := 8) (lv2 := [(2, .int 8), (0, .ref h0), (1, .int p0)]) dX12_appendBytes_30 0 rfl (by decide +kernel) (by decide) rfl ?_
    refine V_goto 33 B 3 dX12_appendBytes_33 (by decide) ?_
    refine V_iload_n 3 B dX12_appendBytes_3 0 rfl ?_
    refine V_if_lt_f 4 B 36 dX12_appendBytes_4 (by decide) (by decide +kernel) ?_
    refine V_aload_n 7 B dX12_appendBytes_7 1 rfl ?_
    refine V_get 8 B gf_RX12_20 0 rfl rfl dX12_appendBytes_8 ?_
    refine V_aload_n 11 B dX12_appendBytes_11 1 rfl ?_
    refine V_get 12 B gf_RX12_240 0 rfl rfl dX12_appendBytes_12 ?_
    refine V_iload_n 15 B dX12_appendBytes_15 2 rfl ?_
    refine V_iload_n 16 B dX12_appendBytes_16 0 rfl ?_
    refine V_ishr 17 B dX12_appendBytes_17 rfl ?_
    refine V_i2b 18 B dX12_appendBytes_18 rfl ?_
    refine V_bast 19 B 1 rfl (vpin _ _ (by decide +kernel)) dX12_appendBytes_19 [(h0, oC 13 [.ref g0, .ref g1, .int 0, .ref g2, .ref h1, .int 2, .int 0, .int 0, .int (-1), .int 0, .int 0, .int 0, .long 0, .ref g3, .ref g4, .int 0, .int 0]), (h1, aB Y 1600 (upd (upd (upd (fun _ => 0) 0 (vp_nar .byte ((p0 >>> (24 &&& 31)).toInt8.toInt32))) 1 (vp_nar .byte ((p0 >>> (16 &&& 31)).toInt8.toInt32))) 2 (vp_nar .byte ((p0 >>> (8 &&& 31)).toInt8.toInt32))))] rfl ?_
    refine V_aload_n 20 B dX12_appendBytes_20 1 rfl ?_
    refine V_dup 21 B dX12_appendBytes_21 rfl ?_
    refine V_get 22 B gf_RX12_240 0 rfl rfl dX12_appendBytes_22 ?_
    refine V_iconst 25 B (v := 1) dX12_appendBytes_25 (by decide +kernel) ?_
    refine V_iadd 26 B (v := 3) dX12_appendBytes_26 (by decide +kernel) ?_
    refine V_put 27 B gp_RX12_240 0 rfl (Nat.le_of_ble_eq_true rfl) rfl rfl dX12_appendBytes_27 [(h0, oC 13 [.ref g0, .ref g1, .int 0, .ref g2, .ref h1, .int 3, .int 0, .int 0, .int (-1), .int 0, .int 0, .int 0, .long 0, .ref g3, .ref g4, .int 0, .int 0]), (h1, aB Y 1600 (upd (upd (upd (fun _ => 0) 0 (vp_nar .byte ((p0 >>> (24 &&& 31)).toInt8.toInt32))) 1 (vp_nar .byte ((p0 >>> (16 &&& 31)).toInt8.toInt32))) 2 (vp_nar .byte ((p0 >>> (8 &&& 31)).toInt8.toInt32))))] rfl ?_
    refine V_iinc 30 B (v := 0) (lv2 := [(2, .int 0), (0, .ref h0), (1, .int p0)]) dX12_appendBytes_30 0 rfl (by decide +kernel) (by decide) rfl ?_
    refine V_goto 33 B 3 dX12_appendBytes_33 (by decide) ?_
    refine V_iload_n 3 B dX12_appendBytes_3 0 rfl ?_
    refine V_if_lt_f 4 B 36 dX12_appendBytes_4 (by decide) (by decide +kernel) ?_
    refine V_aload_n 7 B dX12_appendBytes_7 1 rfl ?_
    refine V_get 8 B gf_RX12_20 0 rfl rfl dX12_appendBytes_8 ?_
    refine V_aload_n 11 B dX12_appendBytes_11 1 rfl ?_
    refine V_get 12 B gf_RX12_240 0 rfl rfl dX12_appendBytes_12 ?_
    refine V_iload_n 15 B dX12_appendBytes_15 2 rfl ?_
    refine V_iload_n 16 B dX12_appendBytes_16 0 rfl ?_
    refine V_ishr 17 B dX12_appendBytes_17 rfl ?_
    refine V_i2b 18 B dX12_appendBytes_18 rfl ?_
    refine V_bast 19 B 1 rfl (vpin _ _ (by decide +kernel)) dX12_appendBytes_19 [(h0, oC 13 [.ref g0, .ref g1, .int 0, .ref g2, .ref h1, .int 3, .int 0, .int 0, .int (-1), .int 0, .int 0, .int 0, .long 0, .ref g3, .ref g4, .int 0, .int 0]), (h1, aB Y 1600 (upd (upd (upd (upd (fun _ => 0) 0 (vp_nar .byte ((p0 >>> (24 &&& 31)).toInt8.toInt32))) 1 (vp_nar .byte ((p0 >>> (16 &&& 31)).toInt8.toInt32))) 2 (vp_nar .byte ((p0 >>> (8 &&& 31)).toInt8.toInt32))) 3 (vp_nar .byte ((p0 >>> (0 &&& 31)).toInt8.toInt32))))] rfl ?_
    refine V_aload_n 20 B dX12_appendBytes_20 1 rfl ?_
    refine V_dup 21 B dX12_appendBytes_21 rfl ?_
    refine V_get 22 B gf_RX12_240 0 rfl rfl dX12_appendBytes_22 ?_
    refine V_iconst 25 B (v := 1) dX12_appendBytes_25 (by decide +kernel) ?_
    refine V_iadd 26 B (v := 4) dX12_appendBytes_26 (by decide +kernel) ?_
    refine V_put 27 B gp_RX12_240 0 rfl (Nat.le_of_ble_eq_true rfl) rfl rfl dX12_appendBytes_27 [(h0, oC 13 [.ref g0, .ref g1, .int 0, .ref g2, .ref h1, .int 4, .int 0, .int 0, .int (-1), .int 0, .int 0, .int 0, .long 0, .ref g3, .ref g4, .int 0, .int 0]), (h1, aB Y 1600 (upd (upd (upd (upd (fun _ => 0) 0 (vp_nar .byte ((p0 >>> (24 &&& 31)).toInt8.toInt32))) 1 (vp_nar .byte ((p0 >>> (16 &&& 31)).toInt8.toInt32))) 2 (vp_nar .byte ((p0 >>> (8 &&& 31)).toInt8.toInt32))) 3 (vp_nar .byte ((p0 >>> (0 &&& 31)).toInt8.toInt32))))] rfl ?_
    refine V_iinc 30 B (v := (-8)) (lv2 := [(2, .int (-8)), (0, .ref h0), (1, .int p0)]) dX12_appendBytes_30 0 rfl (by decide +kernel) (by decide) rfl ?_
    refine V_goto 33 B 3 dX12_appendBytes_33 (by decide) ?_
    refine V_iload_n 3 B dX12_appendBytes_3 0 rfl ?_
    refine V_if_lt_t 4 B 36 dX12_appendBytes_4 (by decide) (by decide +kernel) ?_
    exact V_vret 36 B dX12_appendBytes_36 () trivial rfl)
set_option maxRecDepth 100000 in
set_option maxHeartbeats 4000000 in
theorem mX12_appendBytes_2 (l : Launch) (D : va_G) (Y : Nat → ClassId) (h0 : Nat) (g0 : Nat) (g1 : Nat) (g2 : Nat) (h1 : Nat) (g3 : Nat) (g4 : Nat) (p0 : Int32) (f0 : Nat → Int32) (sz : Nat) : Met l yX12_appendBytes (WSm yX12_appendBytes cX12_appendBytes 3 none) (mkR 0 0 0 0) (PreC D Y [.ref h0, .int p0] [(h0, oC 13 [.ref g0, .ref g1, .int 0, .ref g2, .ref h1, .int 4, .int 0, .int 0, .int (-1), .int 0, .int 0, .int 0, .long 0, .ref g3, .ref g4, .int 0, .int 0]), (h1, aB Y 1600 f0)] sz) (QV D (fun (u : Unit) => True) (fun (_ : Unit) => [(h0, oC 13 [.ref g0, .ref g1, .int 0, .ref g2, .ref h1, .int 8, .int 0, .int 0, .int (-1), .int 0, .int 0, .int 0, .long 0, .ref g3, .ref g4, .int 0, .int 0]), (h1, aB Y 1600 (upd (upd (upd (upd f0 4 (vp_nar .byte ((p0 >>> (24 &&& 31)).toInt8.toInt32))) 5 (vp_nar .byte ((p0 >>> (16 &&& 31)).toInt8.toInt32))) 6 (vp_nar .byte ((p0 >>> (8 &&& 31)).toInt8.toInt32))) 7 (vp_nar .byte ((p0 >>> (0 &&& 31)).toInt8.toInt32))))]) (va_A [(h0, oC 13 [.ref g0, .ref g1, .int 0, .ref g2, .ref h1, .int 4, .int 0, .int 0, .int (-1), .int 0, .int 0, .int 0, .long 0, .ref g3, .ref g4, .int 0, .int 0]), (h1, aB Y 1600 f0)] sz)) 0 0 (va_A [(h0, oC 13 [.ref g0, .ref g1, .int 0, .ref g2, .ref h1, .int 4, .int 0, .int 0, .int (-1), .int 0, .int 0, .int 0, .long 0, .ref g3, .ref g4, .int 0, .int 0]), (h1, aB Y 1600 f0)] sz) :=
  met_of (by decide +kernel) (Nat.le_of_ble_eq_true rfl) (fun p e s m args below meth c B hin hsz => by
    have B : VB p s m args meth c D Y (va_A [(h0, oC 13 [.ref g0, .ref g1, .int 0, .ref g2, .ref h1, .int 4, .int 0, .int 0, .int (-1), .int 0, .int 0, .int 0, .long 0, .ref g3, .ref g4, .int 0, .int 0]), (h1, aB Y 1600 f0)] sz) cX12_appendBytes 3 RX12 none := B
    refine V_bipush 0 B (v := 24) dX12_appendBytes_0 (by decide +kernel) ?_
    refine V_istore_n 2 B (lv2 := [(2, .int 24), (0, .ref h0), (1, .int p0)]) dX12_appendBytes_2 (by decide) rfl ?_
    refine V_iload_n 3 B dX12_appendBytes_3 0 rfl ?_
    refine V_if_lt_f 4 B 36 dX12_appendBytes_4 (by decide) (by decide +kernel) ?_
    refine V_aload_n 7 B dX12_appendBytes_7 1 rfl ?_
    refine V_get 8 B gf_RX12_20 0 rfl rfl dX12_appendBytes_8 ?_
    refine V_aload_n 11 B dX12_appendBytes_11 1 rfl ?_
    refine V_get 12 B gf_RX12_240 0 rfl rfl dX12_appendBytes_12 ?_
    refine V_iload_n 15 B dX12_appendBytes_15 2 rfl ?_
    refine V_iload_n 16 B dX12_appendBytes_16 0 rfl ?_
    refine V_ishr 17 B dX12_appendBytes_17 rfl ?_
    refine V_i2b 18 B dX12_appendBytes_18 rfl ?_
    refine V_bast 19 B 1 rfl (vpin _ _ (by decide +kernel)) dX12_appendBytes_19 [(h0, oC 13 [.ref g0, .ref g1, .int 0, .ref g2, .ref h1, .int 4, .int 0, .int 0, .int (-1), .int 0, .int 0, .int 0, .long 0, .ref g3, .ref g4, .int 0, .int 0]), (h1, aB Y 1600 (upd f0 4 (vp_nar .byte ((p0 >>> (24 &&& 31)).toInt8.toInt32))))] rfl ?_
    refine V_aload_n 20 B dX12_appendBytes_20 1 rfl ?_
    refine V_dup 21 B dX12_appendBytes_21 rfl ?_
    refine V_get 22 B gf_RX12_240 0 rfl rfl dX12_appendBytes_22 ?_
    refine V_iconst 25 B (v := 1) dX12_appendBytes_25 (by decide +kernel) ?_
    refine V_iadd 26 B (v := 5) dX12_appendBytes_26 (by decide +kernel) ?_
    refine V_put 27 B gp_RX12_240 0 rfl (Nat.le_of_ble_eq_true rfl) rfl rfl dX12_appendBytes_27 [(h0, oC 13 [.ref g0, .ref g1, .int 0, .ref g2, .ref h1, .int 5, .int 0, .int 0, .int (-1), .int 0, .int 0, .int 0, .long 0, .ref g3, .ref g4, .int 0, .int 0]), (h1, aB Y 1600 (upd f0 4 (vp_nar .byte ((p0 >>> (24 &&& 31)).toInt8.toInt32))))] rfl ?_
    refine V_iinc 30 B (v := 16) (lv2 := [(2, .int 16), (0, .ref h0), (1, .int p0)]) dX12_appendBytes_30 0 rfl (by decide +kernel) (by decide) rfl ?_
    refine V_goto 33 B 3 dX12_appendBytes_33 (by decide) ?_
    refine V_iload_n 3 B dX12_appendBytes_3 0 rfl ?_
    refine V_if_lt_f 4 B 36 dX12_appendBytes_4 (by decide) (by decide +kernel) ?_
    refine V_aload_n 7 B dX12_appendBytes_7 1 rfl ?_
    refine V_get 8 B gf_RX12_20 0 rfl rfl dX12_appendBytes_8 ?_
    refine V_aload_n 11 B dX12_appendBytes_11 1 rfl ?_
    refine V_get 12 B gf_RX12_240 0 rfl rfl dX12_appendBytes_12 ?_
    refine V_iload_n 15 B dX12_appendBytes_15 2 rfl ?_
    refine V_iload_n 16 B dX12_appendBytes_16 0 rfl ?_
    refine V_ishr 17 B dX12_appendBytes_17 rfl ?_
    refine V_i2b 18 B dX12_appendBytes_18 rfl ?_
    refine V_bast 19 B 1 rfl (vpin _ _ (by decide +kernel)) dX12_appendBytes_19 [(h0, oC 13 [.ref g0, .ref g1, .int 0, .ref g2, .ref h1, .int 5, .int 0, .int 0, .int (-1), .int 0, .int 0, .int 0, .long 0, .ref g3, .ref g4, .int 0, .int 0]), (h1, aB Y 1600 (upd (upd f0 4 (vp_nar .byte ((p0 >>> (24 &&& 31)).toInt8.toInt32))) 5 (vp_nar .byte ((p0 >>> (16 &&& 31)).toInt8.toInt32))))] rfl ?_
    refine V_aload_n 20 B dX12_appendBytes_20 1 rfl ?_
    refine V_dup 21 B dX12_appendBytes_21 rfl ?_
    refine V_get 22 B gf_RX12_240 0 rfl rfl dX12_appendBytes_22 ?_
    refine V_iconst 25 B (v := 1) dX12_appendBytes_25 (by decide +kernel) ?_
    refine V_iadd 26 B (v := 6) dX12_appendBytes_26 (by decide +kernel) ?_
    refine V_put 27 B gp_RX12_240 0 rfl (Nat.le_of_ble_eq_true rfl) rfl rfl dX12_appendBytes_27 [(h0, oC 13 [.ref g0, .ref g1, .int 0, .ref g2, .ref h1, .int 6, .int 0, .int 0, .int (-1), .int 0, .int 0, .int 0, .long 0, .ref g3, .ref g4, .int 0, .int 0]), (h1, aB Y 1600 (upd (upd f0 4 (vp_nar .byte ((p0 >>> (24 &&& 31)).toInt8.toInt32))) 5 (vp_nar .byte ((p0 >>> (16 &&& 31)).toInt8.toInt32))))] rfl ?_
    refine V_iinc 30 B (v := 8) (lv2 := [(2, .int 8), (0, .ref h0), (1, .int p0)]) dX12_appendBytes_30 0 rfl (by decide +kernel) (by decide) rfl ?_
    refine V_goto 33 B 3 dX12_appendBytes_33 (by decide) ?_
    refine V_iload_n 3 B dX12_appendBytes_3 0 rfl ?_
    refine V_if_lt_f 4 B 36 dX12_appendBytes_4 (by decide) (by decide +kernel) ?_
    refine V_aload_n 7 B dX12_appendBytes_7 1 rfl ?_
    refine V_get 8 B gf_RX12_20 0 rfl rfl dX12_appendBytes_8 ?_
    refine V_aload_n 11 B dX12_appendBytes_11 1 rfl ?_
    refine V_get 12 B gf_RX12_240 0 rfl rfl dX12_appendBytes_12 ?_
    refine V_iload_n 15 B dX12_appendBytes_15 2 rfl ?_
    refine V_iload_n 16 B dX12_appendBytes_16 0 rfl ?_
    refine V_ishr 17 B dX12_appendBytes_17 rfl ?_
    refine V_i2b 18 B dX12_appendBytes_18 rfl ?_
    refine V_bast 19 B 1 rfl (vpin _ _ (by decide +kernel)) dX12_appendBytes_19 [(h0, oC 13 [.ref g0, .ref g1, .int 0, .ref g2, .ref h1, .int 6, .int 0, .int 0, .int (-1), .int 0, .int 0, .int 0, .long 0, .ref g3, .ref g4, .int 0, .int 0]), (h1, aB Y 1600 (upd (upd (upd f0 4 (vp_nar .byte ((p0 >>> (24 &&& 31)).toInt8.toInt32))) 5 (vp_nar .byte ((p0 >>> (16 &&& 31)).toInt8.toInt32))) 6 (vp_nar .byte ((p0 >>> (8 &&& 31)).toInt8.toInt32))))] rfl ?_
    refine V_aload_n 20 B dX12_appendBytes_20 1 rfl ?_
    refine V_dup 21 B dX12_appendBytes_21 rfl ?_
    refine V_get 22 B gf_RX12_240 0 rfl rfl dX12_appendBytes_22 ?_
    refine V_iconst 25 B (v := 1) dX12_appendBytes_25 (by decide +kernel) ?_
    refine V_iadd 26 B (v := 7) dX12_appendBytes_26 (by decide +kernel) ?_
    refine V_put 27 B gp_RX12_240 0 rfl (Nat.le_of_ble_eq_true rfl) rfl rfl dX12_appendBytes_27 [(h0, oC 13 [.ref g0, .ref g1, .int 0, .ref g2, .ref h1, .int 7, .int 0, .int 0, .int (-1), .int 0, .int 0, .int 0, .long 0, .ref g3, .ref g4, .int 0, .int 0]), (h1, aB Y 1600 (upd (upd (upd f0 4 (vp_nar .byte ((p0 >>> (24 &&& 31)).toInt8.toInt32))) 5 (vp_nar .byte ((p0 >>> (16 &&& 31)).toInt8.toInt32))) 6 (vp_nar .byte ((p0 >>> (8 &&& 31)).toInt8.toInt32))))] rfl ?_
    refine V_iinc 30 B (v := 0) (lv2 := [(2, .int 0), (0, .ref h0), (1, .int p0)]) dX12_appendBytes_30 0 rfl (by decide +kernel) (by decide) rfl ?_
    refine V_goto 33 B 3 dX12_appendBytes_33 (by decide) ?_
    refine V_iload_n 3 B dX12_appendBytes_3 0 rfl ?_
    refine V_if_lt_f 4 B 36 dX12_appendBytes_4 (by decide) (by decide +kernel) ?_
    refine V_aload_n 7 B dX12_appendBytes_7 1 rfl ?_
    refine V_get 8 B gf_RX12_20 0 rfl rfl dX12_appendBytes_8 ?_
    refine V_aload_n 11 B dX12_appendBytes_11 1 rfl ?_
    refine V_get 12 B gf_RX12_240 0 rfl rfl dX12_appendBytes_12 ?_
    refine V_iload_n 15 B dX12_appendBytes_15 2 rfl ?_
    refine V_iload_n 16 B dX12_appendBytes_16 0 rfl ?_
    refine V_ishr 17 B dX12_appendBytes_17 rfl ?_
    refine V_i2b 18 B dX12_appendBytes_18 rfl ?_
    refine V_bast 19 B 1 rfl (vpin _ _ (by decide +kernel)) dX12_appendBytes_19 [(h0, oC 13 [.ref g0, .ref g1, .int 0, .ref g2, .ref h1, .int 7, .int 0, .int 0, .int (-1), .int 0, .int 0, .int 0, .long 0, .ref g3, .ref g4, .int 0, .int 0]), (h1, aB Y 1600 (upd (upd (upd (upd f0 4 (vp_nar .byte ((p0 >>> (24 &&& 31)).toInt8.toInt32))) 5 (vp_nar .byte ((p0 >>> (16 &&& 31)).toInt8.toInt32))) 6 (vp_nar .byte ((p0 >>> (8 &&& 31)).toInt8.toInt32))) 7 (vp_nar .byte ((p0 >>> (0 &&& 31)).toInt8.toInt32))))] rfl ?_
    refine V_aload_n 20 B dX12_appendBytes_20 1 rfl ?_
    refine V_dup 21 B dX12_appendBytes_21 rfl ?_
    refine V_get 22 B gf_RX12_240 0 rfl rfl dX12_appendBytes_22 ?_
    refine V_iconst 25 B (v := 1) dX12_appendBytes_25 (by decide +kernel) ?_
    refine V_iadd 26 B (v := 8) dX12_appendBytes_26 (by decide +kernel) ?_
    refine V_put 27 B gp_RX12_240 0 rfl (Nat.le_of_ble_eq_true rfl) rfl rfl dX12_appendBytes_27 [(h0, oC 13 [.ref g0, .ref g1, .int 0, .ref g2, .ref h1, .int 8, .int 0, .int 0, .int (-1), .int 0, .int 0, .int 0, .long 0, .ref g3, .ref g4, .int 0, .int 0]), (h1, aB Y 1600 (upd (upd (upd (upd f0 4 (vp_nar .byte ((p0 >>> (24 &&& 31)).toInt8.toInt32))) 5 (vp_nar .byte ((p0 >>> (16 &&& 31)).toInt8.toInt32))) 6 (vp_nar .byte ((p0 >>> (8 &&& 31)).toInt8.toInt32))) 7 (vp_nar .byte ((p0 >>> (0 &&& 31)).toInt8.toInt32))))] rfl ?_
    refine V_iinc 30 B (v := (-8)) (lv2 := [(2, .int (-8)), (0, .ref h0), (1, .int p0)]) dX12_appendBytes_30 0 rfl (by decide +kernel) (by decide) rfl ?_
    refine V_goto 33 B 3 dX12_appendBytes_33 (by decide) ?_
    refine V_iload_n 3 B dX12_appendBytes_3 0 rfl ?_
    refine V_if_lt_t 4 B 36 dX12_appendBytes_4 (by decide) (by decide +kernel) ?_
    exact V_vret 36 B dX12_appendBytes_36 () trivial rfl)
set_option maxRecDepth 100000 in
set_option maxHeartbeats 4000000 in
theorem mX12_appendBytes_3 (l : Launch) (D : va_G) (Y : Nat → ClassId) (h0 : Nat) (g0 : Nat) (g1 : Nat) (g2 : Nat) (h1 : Nat) (g3 : Nat) (g4 : Nat) (p0 : Int32) (f0 : Nat → Int32) (sz : Nat) : Met l yX12_appendBytes (WSm yX12_appendBytes cX12_appendBytes 3 none) (mkR 0 0 0 0) (PreC D Y [.ref h0, .int p0] [(h0, oC 13 [.ref g0, .ref g1, .int 0, .ref g2, .ref h1, .int 8, .int 0, .int 0, .int (-1), .int 0, .int 0, .int 0, .long 0, .ref g3, .ref g4, .int 0, .int 0]), (h1, aB Y 1600 f0)] sz) (QV D (fun (u : Unit) => True) (fun (_ : Unit) => [(h0, oC 13 [.ref g0, .ref g1, .int 0, .ref g2, .ref h1, .int 12, .int 0, .int 0, .int (-1), .int 0, .int 0, .int 0, .long 0, .ref g3, .ref g4, .int 0, .int 0]), (h1, aB Y 1600 (upd (upd (upd (upd f0 8 (vp_nar .byte ((p0 >>> (24 &&& 31)).toInt8.toInt32))) 9 (vp_nar .byte ((p0 >>> (16 &&& 31)).toInt8.toInt32))) 10 (vp_nar .byte ((p0 >>> (8 &&& 31)).toInt8.toInt32))) 11 (vp_nar .byte ((p0 >>> (0 &&& 31)).toInt8.toInt32))))]) (va_A [(h0, oC 13 [.ref g0, .ref g1, .int 0, .ref g2, .ref h1, .int 8, .int 0, .int 0, .int (-1), .int 0, .int 0, .int 0, .long 0, .ref g3, .ref g4, .int 0, .int 0]), (h1, aB Y 1600 f0)] sz)) 0 0 (va_A [(h0, oC 13 [.ref g0, .ref g1, .int 0, .ref g2, .ref h1, .int 8, .int 0, .int 0, .int (-1), .int 0, .int 0, .int 0, .long 0, .ref g3, .ref g4, .int 0, .int 0]), (h1, aB Y 1600 f0)] sz) :=
  met_of (by decide +kernel) (Nat.le_of_ble_eq_true rfl) (fun p e s m args below meth c B hin hsz => by
    have B : VB p s m args meth c D Y (va_A [(h0, oC 13 [.ref g0, .ref g1, .int 0, .ref g2, .ref h1, .int 8, .int 0, .int 0, .int (-1), .int 0, .int 0, .int 0, .long 0, .ref g3, .ref g4, .int 0, .int 0]), (h1, aB Y 1600 f0)] sz) cX12_appendBytes 3 RX12 none := B
    refine V_bipush 0 B (v := 24) dX12_appendBytes_0 (by decide +kernel) ?_
    refine V_istore_n 2 B (lv2 := [(2, .int 24), (0, .ref h0), (1, .int p0)]) dX12_appendBytes_2 (by decide) rfl ?_
    refine V_iload_n 3 B dX12_appendBytes_3 0 rfl ?_
    refine V_if_lt_f 4 B 36 dX12_appendBytes_4 (by decide) (by decide +kernel) ?_
    refine V_aload_n 7 B dX12_appendBytes_7 1 rfl ?_
    refine V_get 8 B gf_RX12_20 0 rfl rfl dX12_appendBytes_8 ?_
    refine V_aload_n 11 B dX12_appendBytes_11 1 rfl ?_
    refine V_get 12 B gf_RX12_240 0 rfl rfl dX12_appendBytes_12 ?_
    refine V_iload_n 15 B dX12_appendBytes_15 2 rfl ?_
    refine V_iload_n 16 B dX12_appendBytes_16 0 rfl ?_
    refine V_ishr 17 B dX12_appendBytes_17 rfl ?_
    refine V_i2b 18 B dX12_appendBytes_18 rfl ?_
    refine V_bast 19 B 1 rfl (vpin _ _ (by decide +kernel)) dX12_appendBytes_19 [(h0, oC 13 [.ref g0, .ref g1, .int 0, .ref g2, .ref h1, .int 8, .int 0, .int 0, .int (-1), .int 0, .int 0, .int 0, .long 0, .ref g3, .ref g4, .int 0, .int 0]), (h1, aB Y 1600 (upd f0 8 (vp_nar .byte ((p0 >>> (24 &&& 31)).toInt8.toInt32))))] rfl ?_
    refine V_aload_n 20 B dX12_appendBytes_20 1 rfl ?_
    refine V_dup 21 B dX12_appendBytes_21 rfl ?_
    refine V_get 22 B gf_RX12_240 0 rfl rfl dX12_appendBytes_22 ?_
    refine V_iconst 25 B (v := 1) dX12_appendBytes_25 (by decide +kernel) ?_
    refine V_iadd 26 B (v := 9) dX12_appendBytes_26 (by decide +kernel) ?_
    refine V_put 27 B gp_RX12_240 0 rfl (Nat.le_of_ble_eq_true rfl) rfl rfl dX12_appendBytes_27 [(h0, oC 13 [.ref g0, .ref g1, .int 0, .ref g2, .ref h1, .int 9, .int 0, .int 0, .int (-1), .int 0, .int 0, .int 0, .long 0, .ref g3, .ref g4, .int 0, .int 0]), (h1, aB Y 1600 (upd f0 8 (vp_nar .byte ((p0 >>> (24 &&& 31)).toInt8.toInt32))))] rfl ?_
    refine V_iinc 30 B (v := 16) (lv2 := [(2, .int 16), (0, .ref h0), (1, .int p0)]) dX12_appendBytes_30 0 rfl (by decide +kernel) (by decide) rfl ?_
    refine V_goto 33 B 3 dX12_appendBytes_33 (by decide) ?_
    refine V_iload_n 3 B dX12_appendBytes_3 0 rfl ?_
    refine V_if_lt_f 4 B 36 dX12_appendBytes_4 (by decide) (by decide +kernel) ?_
    refine V_aload_n 7 B dX12_appendBytes_7 1 rfl ?_
    refine V_get 8 B gf_RX12_20 0 rfl rfl dX12_appendBytes_8 ?_
    refine V_aload_n 11 B dX12_appendBytes_11 1 rfl ?_
    refine V_get 12 B gf_RX12_240 0 rfl rfl dX12_appendBytes_12 ?_
    refine V_iload_n 15 B dX12_appendBytes_15 2 rfl ?_
    refine V_iload_n 16 B dX12_appendBytes_16 0 rfl ?_
    refine V_ishr 17 B dX12_appendBytes_17 rfl ?_
    refine V_i2b 18 B dX12_appendBytes_18 rfl ?_
    refine V_bast 19 B 1 rfl (vpin _ _ (by decide +kernel)) dX12_appendBytes_19 [(h0, oC 13 [.ref g0, .ref g1, .int 0, .ref g2, .ref h1, .int 9, .int 0, .int 0, .int (-1), .int 0, .int 0, .int 0, .long 0, .ref g3, .ref g4, .int 0, .int 0]), (h1, aB Y 1600 (upd (upd f0 8 (vp_nar .byte ((p0 >>> (24 &&& 31)).toInt8.toInt32))) 9 (vp_nar .byte ((p0 >>> (16 &&& 31)).toInt8.toInt32))))] rfl ?_
    refine V_aload_n 20 B dX12_appendBytes_20 1 rfl ?_
    refine V_dup 21 B dX12_appendBytes_21 rfl ?_
    refine V_get 22 B gf_RX12_240 0 rfl rfl dX12_appendBytes_22 ?_
    refine V_iconst 25 B (v := 1) dX12_appendBytes_25 (by decide +kernel) ?_
    refine V_iadd 26 B (v := 10) dX12_appendBytes_26 (by decide +kernel) ?_
    refine V_put 27 B gp_RX12_240 0 rfl (Nat.le_of_ble_eq_true rfl) rfl rfl dX12_appendBytes_27 [(h0, oC 13 [.ref g0, .ref g1, .int 0, .ref g2, .ref h1, .int 10, .int 0, .int 0, .int (-1), .int 0, .int 0, .int 0, .long 0, .ref g3, .ref g4, .int 0, .int 0]), (h1, aB Y 1600 (upd (upd f0 8 (vp_nar .byte ((p0 >>> (24 &&& 31)).toInt8.toInt32))) 9 (vp_nar .byte ((p0 >>> (16 &&& 31)).toInt8.toInt32))))] rfl ?_
    refine V_iinc 30 B (v := 8) (lv2 := [(2, .int 8), (0, .ref h0), (1, .int p0)]) dX12_appendBytes_30 0 rfl (by decide +kernel) (by decide) rfl ?_
    refine V_goto 33 B 3 dX12_appendBytes_33 (by decide) ?_
    refine V_iload_n 3 B dX12_appendBytes_3 0 rfl ?_
    refine V_if_lt_f 4 B 36 dX12_appendBytes_4 (by decide) (by decide +kernel) ?_
    refine V_aload_n 7 B dX12_appendBytes_7 1 rfl ?_
    refine V_get 8 B gf_RX12_20 0 rfl rfl dX12_appendBytes_8 ?_
    refine V_aload_n 11 B dX12_appendBytes_11 1 rfl ?_
    refine V_get 12 B gf_RX12_240 0 rfl rfl dX12_appendBytes_12 ?_
    refine V_iload_n 15 B dX12_appendBytes_15 2 rfl ?_
    refine V_iload_n 16 B dX12_appendBytes_16 0 rfl ?_
    refine V_ishr 17 B dX12_appendBytes_17 rfl ?_
    refine V_i2b 18 B dX12_appendBytes_18 rfl ?_
    refine V_bast 19 B 1 rfl (vpin _ _ (by decide +kernel)) dX12_appendBytes_19 [(h0, oC 13 [.ref g0, .ref g1, .int 0, .ref g2, .ref h1, .int 10, .int 0, .int 0, .int (-1), .int 0, .int 0, .int 0, .long 0, .ref g3, .ref g4, .int 0, .int 0]), (h1, aB Y 1600 (upd (upd (upd f0 8 (vp_nar .byte ((p0 >>> (24 &&& 31)).toInt8.toInt32))) 9 (vp_nar .byte ((p0 >>> (16 &&& 31)).toInt8.toInt32))) 10 (vp_nar .byte ((p0 >>> (8 &&& 31)).toInt8.toInt32))))] rfl ?_
    refine V_aload_n 20 B dX12_appendBytes_20 1 rfl ?_
    refine V_dup 21 B dX12_appendBytes_21 rfl ?_
    refine V_get 22 B gf_RX12_240 0 rfl rfl dX12_appendBytes_22 ?_
    refine V_iconst 25 B (v := 1) dX12_appendBytes_25 (by decide +kernel) ?_
    refine V_iadd 26 B (v := 11) dX12_appendBytes_26 (by decide +kernel) ?_
    refine V_put 27 B gp_RX12_240 0 rfl (Nat.le_of_ble_eq_true rfl) rfl rfl dX12_appendBytes_27 [(h0, oC 13 [.ref g0, .ref g1, .int 0, .ref g2, .ref h1, .int 11, .int 0, .int 0, .int (-1), .int 0, .int 0, .int 0, .long 0, .ref g3, .ref g4, .int 0, .int 0]), (h1, aB Y 1600 (upd (upd (upd f0 8 (vp_nar .byte ((p0 >>> (24 &&& 31)).toInt8.toInt32))) 9 (vp_nar .byte ((p0 >>> (16 &&& 31)).toInt8.toInt32))) 10 (vp_nar .byte ((p0 >>> (8 &&& 31)).toInt8.toInt32))))] rfl ?_
    refine V_iinc 30 B (v := 0) (lv2 := [(2, .int 0), (0, .ref h0), (1, .int p0)]) dX12_appendBytes_30 0 rfl (by decide +kernel) (by decide) rfl ?_
    refine V_goto 33 B 3 dX12_appendBytes_33 (by decide) ?_
    refine V_iload_n 3 B dX12_appendBytes_3 0 rfl ?_
    refine V_if_lt_f 4 B 36 dX12_appendBytes_4 (by decide) (by decide +kernel) ?_
    refine V_aload_n 7 B dX12_appendBytes_7 1 rfl ?_
    refine V_get 8 B gf_RX12_20 0 rfl rfl dX12_appendBytes_8 ?_
    refine V_aload_n 11 B dX12_appendBytes_11 1 rfl ?_
    refine V_get 12 B gf_RX12_240 0 rfl rfl dX12_appendBytes_12 ?_
    refine V_iload_n 15 B dX12_appendBytes_15 2 rfl ?_
    refine V_iload_n 16 B dX12_appendBytes_16 0 rfl ?_
    refine V_ishr 17 B dX12_appendBytes_17 rfl ?_
    refine V_i2b 18 B dX12_appendBytes_18 rfl ?_
    refine V_bast 19 B 1 rfl (vpin _ _ (by decide +kernel)) dX12_appendBytes_19 [(h0, oC 13 [.ref g0, .ref g1, .int 0, .ref g2, .ref h1, .int 11, .int 0, .int 0, .int (-1), .int 0, .int 0, .int 0, .long 0, .ref g3, .ref g4, .int 0, .int 0]), (h1, aB Y 1600 (upd (upd (upd (upd f0 8 (vp_nar .byte ((p0 >>> (24 &&& 31)).toInt8.toInt32))) 9 (vp_nar .byte ((p0 >>> (16 &&& 31)).toInt8.toInt32))) 10 (vp_nar .byte ((p0 >>> (8 &&& 31)).toInt8.toInt32))) 11 (vp_nar .byte ((p0 >>> (0 &&& 31)).toInt8.toInt32))))] rfl ?_
    refine V_aload_n 20 B dX12_appendBytes_20 1 rfl ?_
    refine V_dup 21 B dX12_appendBytes_21 rfl ?_
    refine V_get 22 B gf_RX12_240 0 rfl rfl dX12_appendBytes_22 ?_
    refine V_iconst 25 B (v := 1) dX12_appendBytes_25 (by decide +kernel) ?_
    refine V_iadd 26 B (v := 12) dX12_appendBytes_26 (by decide +kernel) ?_
    refine V_put 27 B gp_RX12_240 0 rfl (Nat.le_of_ble_eq_true rfl) rfl rfl dX12_appendBytes_27 [(h0, oC 13 [.ref g0, .ref g1, .int 0, .ref g2, .ref h1, .int 12, .int 0, .int 0, .int (-1), .int 0, .int 0, .int 0, .long 0, .ref g3, .ref g4, .int 0, .int 0]), (h1, aB Y 1600 (upd (upd (upd (upd f0 8 (vp_nar .byte ((p0 >>> (24 &&& 31)).toInt8.toInt32))) 9 (vp_nar .byte ((p0 >>> (16 &&& 31)).toInt8.toInt32))) 10 (vp_nar .byte ((p0 >>> (8 &&& 31)).toInt8.toInt32))) 11 (vp_nar .byte ((p0 >>> (0 &&& 31)).toInt8.toInt32))))] rfl ?_
    refine V_iinc 30 B (v := (-8)) (lv2 := [(2, .int (-8)), (0, .ref h0), (1, .int p0)]) dX12_appendBytes_30 0 rfl (by decide +kernel) (by decide) rfl ?_
    refine V_goto 33 B 3 dX12_appendBytes_33 (by decide) ?_
    refine V_iload_n 3 B dX12_appendBytes_3 0 rfl ?_
    refine V_if_lt_t 4 B 36 dX12_appendBytes_4 (by decide) (by decide +kernel) ?_
    exact V_vret 36 B dX12_appendBytes_36 () trivial rfl)
