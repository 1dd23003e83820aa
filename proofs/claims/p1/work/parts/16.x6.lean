theorem dX11_look_0 : decode cX11_look 0 = .ok (.aload_n 0, 1) := by decide +kernel
theorem dX11_look_1 : decode cX11_look 1 = .ok (.iload_n 1, 1) := by decide +kernel
theorem dX11_look_2 : decode cX11_look 2 = .ok (.invokevirtual 180, 3) := by decide +kernel
theorem dX11_look_5 : decode cX11_look 5 = .ok (.aload_n 0, 1) := by decide +kernel
theorem dX11_look_6 : decode cX11_look 6 = .ok (.getfield 68, 3) := by decide +kernel
theorem dX11_look_9 : decode cX11_look 9 = .ok (.lconst 0, 1) := by decide +kernel
theorem dX11_look_10 : decode cX11_look 10 = .ok (.lcmp, 1) := by decide +kernel
theorem dX11_look_11 : decode cX11_look 11 = .ok (.ifCond .ne 6, 3) := by decide +kernel
theorem dX11_look_14 : decode cX11_look 14 = .ok (.bipush (-4), 2) := by decide +kernel
theorem dX11_look_16 : decode cX11_look 16 = .ok (.ireturn, 1) := by decide +kernel
set_option maxRecDepth 100000 in
set_option maxHeartbeats 4000000 in
theorem mX11_look_1 (l : Launch) (hl9 : l.stackTraces = false) (D : va_G) (Y : Nat → ClassId) (h0 : Nat) (h1 : Nat) (g0 : Nat) (g1 : Nat) (g2 : Nat) (g3 : Nat) (g4 : Nat) (g5 : Nat) (g6 : Nat) (g7 : Nat) (h2 : Nat) (g8 : Nat) (g9 : Nat) (g10 : Nat) (g11 : Nat) (g12 : Nat) (g13 : Nat) (g14 : Nat) (g15 : Nat) (g16 : Nat) (g17 : Nat) (g18 : Nat) (p0 : Int32) (sz : Nat) : vx_Met l yX11_look (WSm yX11_look cX11_look 2 (some .int)) (mkR 7 1 6 103) (PreX D Y [.ref h0, .int p0] [(h0, oC 12 [.ref h1, .ref g0, .ref g1, .ref g2, .ref g3, .ref g4, .ref g5, .ref g6, .ref g7, .long 0]), (h1, oC 2 [.ref h2, .ref g8, .ref g9, .ref g10, .ref g11, .ref g12, .ref g13, .ref g14, .ref g15, .ref g16, .ref g17, .int 0]), (h2, oC 3 [.ref g18, .int 1])] sz) (QI D (fun (r : Int32) (u : Unit) => p0 = 0 ∧ (-4) = r) (fun (_ : Unit) => [(h0, oC 12 [.ref h1, .ref g0, .ref g1, .ref g2, .ref g3, .ref g4, .ref g5, .ref g6, .ref g7, .long 0]), (h1, oC 2 [.ref h2, .ref g8, .ref g9, .ref g10, .ref g11, .ref g12, .ref g13, .ref g14, .ref g15, .ref g16, .ref g17, .int 0]), (h2, oC 3 [.ref g18, .int 1])]) (va_A [(h0, oC 12 [.ref h1, .ref g0, .ref g1, .ref g2, .ref g3, .ref g4, .ref g5, .ref g6, .ref g7, .long 0]), (h1, oC 2 [.ref h2, .ref g8, .ref g9, .ref g10, .ref g11, .ref g12, .ref g13, .ref g14, .ref g15, .ref g16, .ref g17, .int 0]), (h2, oC 3 [.ref g18, .int 1])] sz)) (XW D (fun (E : String) (u : Unit) => (E = "java/lang/IndexOutOfBoundsException" ∧ p0 < 0) ∨ (E = "java/lang/IndexOutOfBoundsException" ∧ ¬ p0 < 0 ∧ 1 ≤ p0)) (fun (_ : Unit) => [(h0, oC 12 [.ref h1, .ref g0, .ref g1, .ref g2, .ref g3, .ref g4, .ref g5, .ref g6, .ref g7, .long 0]), (h1, oC 2 [.ref h2, .ref g8, .ref g9, .ref g10, .ref g11, .ref g12, .ref g13, .ref g14, .ref g15, .ref g16, .ref g17, .int 0]), (h2, oC 3 [.ref g18, .int 1])]) (va_A [(h0, oC 12 [.ref h1, .ref g0, .ref g1, .ref g2, .ref g3, .ref g4, .ref g5, .ref g6, .ref g7, .long 0]), (h1, oC 2 [.ref h2, .ref g8, .ref g9, .ref g10, .ref g11, .ref g12, .ref g13, .ref g14, .ref g15, .ref g16, .ref g17, .int 0]), (h2, oC 3 [.ref g18, .int 1])] sz)) 1 6 (va_A [(h0, oC 12 [.ref h1, .ref g0, .ref g1, .ref g2, .ref g3, .ref g4, .ref g5, .ref g6, .ref g7, .long 0]), (h1, oC 2 [.ref h2, .ref g8, .ref g9, .ref g10, .ref g11, .ref g12, .ref g13, .ref g14, .ref g15, .ref g16, .ref g17, .int 0]), (h2, oC 3 [.ref g18, .int 1])] sz) :=
  xmet_of (by decide +kernel) (Nat.le_of_ble_eq_true rfl) (fun p e s m args below meth c B EB hout hsz => by
    have B : VB p s m args meth c D Y (va_A [(h0, oC 12 [.ref h1, .ref g0, .ref g1, .ref g2, .ref g3, .ref g4, .ref g5, .ref g6, .ref g7, .long 0]), (h1, oC 2 [.ref h2, .ref g8, .ref g9, .ref g10, .ref g11, .ref g12, .ref g13, .ref g14, .ref g15, .ref g16, .ref g17, .int 0]), (h2, oC 3 [.ref g18, .int 1])] sz) cX11_look 2 RX11 (some .int) := B
    refine V_aload_n 0 B dX11_look_0 0 rfl ?_
    refine V_iload_n 1 B dX11_look_1 1 rfl ?_
    refine V_xvv 2 B EB (st := []) (As := [.int p0]) (fun sz => mX11_needMode_1 l hl9 D Y (h0) (h1) (g0) (g1) (g2) (g3) (g4) (g5) (g6) (g7) (h2) (g8) (g9) (g10) (g11) (g12) (g13) (g14) (g15) (g16) (g17) (g18) (p0) sz) glV_RX11_180 ⟨rfl, rfl⟩ ⟨(Nat.le_of_ble_eq_true rfl), (Nat.le_of_ble_eq_true rfl)⟩ ⟨(Nat.le_of_ble_eq_true rfl), (Nat.le_of_ble_eq_true rfl)⟩ [0, 0, 0] rfl 12 0 rfl rfl rfl rfl (Nat.le_of_ble_eq_true rfl) rfl (fun _ _ => rfl) (fun _ _ _ => rfl) dX11_look_2 (fun E u0 w0 => ?_) (fun u0 w0 => ?_)
    ·
      rcases w0 with ⟨rfl, k1⟩ | ⟨rfl, k2, k3⟩
      ·
        exact VX_out 2 B hout () (Or.inl ⟨rfl, k1⟩) rfl (Nat.le_of_ble_eq_true rfl) (Nat.le_of_ble_eq_true rfl)
      ·
        exact VX_out 2 B hout () (Or.inr ⟨rfl, k2, k3⟩) rfl (Nat.le_of_ble_eq_true rfl) (Nat.le_of_ble_eq_true rfl)
    ·
      have k4 := w0
      refine V_ws [(h0, oC 12 [.ref h1, .ref g0, .ref g1, .ref g2, .ref g3, .ref g4, .ref g5, .ref g6, .ref g7, .long 0]), (h1, oC 2 [.ref h2, .ref g8, .ref g9, .ref g10, .ref g11, .ref g12, .ref g13, .ref g14, .ref g15, .ref g16, .ref g17, .int 0]), (h2, oC 3 [.ref g18, .int 1])] rfl ?_
      obtain rfl : p0 = 0 := k4
      refine V_aload_n 5 B dX11_look_5 0 rfl ?_
      refine V_get 6 B gf_RX11_68 0 rfl rfl dX11_look_6 ?_
      refine V_lconst 9 B (v := 0) dX11_look_9 (by decide +kernel) ?_
      refine V_lcmp 10 B (v := 0) dX11_look_10 (by decide +kernel) ?_
      refine V_if_ne_f 11 B 17 dX11_look_11 (by decide) (by decide +kernel) ?_
      refine V_bipush 14 B (v := (-4)) dX11_look_14 (by decide +kernel) ?_
      refine V_xret ?_
      exact V_iret 16 B dX11_look_16 () ⟨rfl, rfl⟩ rfl)
theorem dX1_refill_0 : decode cX1_refill 0 = .ok (.aload_n 0, 1) := by decide +kernel
theorem dX1_refill_1 : decode cX1_refill 1 = .ok (.iconst 0, 1) := by decide +kernel
theorem dX1_refill_2 : decode cX1_refill 2 = .ok (.putfield 21, 3) := by decide +kernel
theorem dX1_refill_5 : decode cX1_refill 5 = .ok (.iconst 0, 1) := by decide +kernel
theorem dX1_refill_6 : decode cX1_refill 6 = .ok (.istore_n 3, 1) := by decide +kernel
theorem dX1_refill_7 : decode cX1_refill 7 = .ok (.iload_n 3, 1) := by decide +kernel
theorem dX1_refill_8 : decode cX1_refill 8 = .ok (.iload_n 2, 1) := by decide +kernel
theorem dX1_refill_9 : decode cX1_refill 9 = .ok (.if_icmp .ge 35, 3) := by decide +kernel
theorem dX1_refill_12 : decode cX1_refill 12 = .ok (.iload_n 3, 1) := by decide +kernel
theorem dX1_refill_13 : decode cX1_refill 13 = .ok (.aload_n 0, 1) := by decide +kernel
theorem dX1_refill_14 : decode cX1_refill 14 = .ok (.getfield 15, 3) := by decide +kernel
theorem dX1_refill_17 : decode cX1_refill 17 = .ok (.arraylength, 1) := by decide +kernel
theorem dX1_refill_18 : decode cX1_refill 18 = .ok (.if_icmp .ge 26, 3) := by decide +kernel
theorem dX1_refill_21 : decode cX1_refill 21 = .ok (.aload_n 0, 1) := by decide +kernel
theorem dX1_refill_22 : decode cX1_refill 22 = .ok (.getfield 15, 3) := by decide +kernel
theorem dX1_refill_25 : decode cX1_refill 25 = .ok (.iload_n 3, 1) := by decide +kernel
theorem dX1_refill_26 : decode cX1_refill 26 = .ok (.iload_n 1, 1) := by decide +kernel
theorem dX1_refill_27 : decode cX1_refill 27 = .ok (.iastore, 1) := by decide +kernel
theorem dX1_refill_28 : decode cX1_refill 28 = .ok (.aload_n 0, 1) := by decide +kernel
theorem dX1_refill_29 : decode cX1_refill 29 = .ok (.dup, 1) := by decide +kernel
theorem dX1_refill_30 : decode cX1_refill 30 = .ok (.getfield 21, 3) := by decide +kernel
theorem dX1_refill_33 : decode cX1_refill 33 = .ok (.iconst 1, 1) := by decide +kernel
theorem dX1_refill_34 : decode cX1_refill 34 = .ok (.iadd, 1) := by decide +kernel
theorem dX1_refill_35 : decode cX1_refill 35 = .ok (.putfield 21, 3) := by decide +kernel
theorem dX1_refill_38 : decode cX1_refill 38 = .ok (.iinc 3 1, 3) := by decide +kernel
theorem dX1_refill_41 : decode cX1_refill 41 = .ok (.goto (-34), 3) := by decide +kernel
theorem dX1_refill_44 : decode cX1_refill 44 = .ok (.return_, 1) := by decide +kernel
set_option maxRecDepth 100000 in
set_option maxHeartbeats 4000000 in
theorem mX1_refill_1 (l : Launch) (D : va_G) (Y : Nat → ClassId) (h0 : Nat) (h1 : Nat) (sz : Nat) : Met l yX1_refill (WSm yX1_refill cX1_refill 4 none) (mkR 0 0 0 0) (PreC D Y [.ref h0, .int (-1), .int 6] [(h0, oC 3 [.ref h1, .int 0]), (h1, aI Y 6 (fun _ => 0))] sz) (QV D (fun (u : Unit) => True) (fun (_ : Unit) => [(h0, oC 3 [.ref h1, .int 6]), (h1, aI Y 6 (upd (upd (upd (upd (upd (upd (fun _ => 0) 0 (-1)) 1 (-1)) 2 (-1)) 3 (-1)) 4 (-1)) 5 (-1)))]) (va_A [(h0, oC 3 [.ref h1, .int 0]), (h1, aI Y 6 (fun _ => 0))] sz)) 0 0 (va_A [(h0, oC 3 [.ref h1, .int 0]), (h1, aI Y 6 (fun _ => 0))] sz) :=
  met_of (by decide +kernel) (Nat.le_of_ble_eq_true rfl) (fun p e s m args below meth c B hin hsz => by
    have B : VB p s m args meth c D Y (va_A [(h0, oC 3 [.ref h1, .int 0]), (h1, aI Y 6 (fun _ => 0))] sz) cX1_refill 4 RX1 none := B
    refine V_aload_n 0 B dX1_refill_0 0 rfl ?_
    refine V_iconst 1 B (v := 0) dX1_refill_1 (by decide +kernel) ?_
    refine V_put 2 B gp_RX1_21 0 rfl (Nat.le_of_ble_eq_true rfl) rfl rfl dX1_refill_2 [(h0, oC 3 [.ref h1, .int 0]), (h1, aI Y 6 (fun _ => 0))] rfl ?_
    refine V_iconst 5 B (v := 0) dX1_refill_5 (by decide +kernel) ?_
    refine V_istore_n 6 B (lv2 := [(3, .int 0), (0, .ref h0), (1, .int (-1)), (2, .int 6)]) dX1_refill_6 (by decide) rfl ?_
    refine V_iload_n 7 B dX1_refill_7 0 rfl ?_
    refine V_iload_n 8 B dX1_refill_8 3 rfl ?_
    refine V_icmp_ge_f 9 B 44 dX1_refill_9 (by decide) (by decide +kernel) ?_
    refine V_iload_n 12 B dX1_refill_12 0 rfl ?_
    refine V_aload_n 13 B dX1_refill_13 1 rfl ?_
    refine V_get 14 B gf_RX1_15 0 rfl rfl dX1_refill_14 ?_
    refine V_alenI 17 B (v := 6) 1 rfl (by decide +kernel) dX1_refill_17 ?_
    refine V_icmp_ge_f 18 B 44 dX1_refill_18 (by decide) (by decide +kernel) ?_
    refine V_aload_n 21 B dX1_refill_21 1 rfl ?_
    refine V_get 22 B gf_RX1_15 0 rfl rfl dX1_refill_22 ?_
    refine V_iload_n 25 B dX1_refill_25 0 rfl ?_
    refine V_iload_n 26 B dX1_refill_26 2 rfl ?_
    refine V_iast 27 B 1 rfl (vpin _ _ (by decide +kernel)) dX1_refill_27 [(h0, oC 3 [.ref h1, .int 0]), (h1, aI Y 6 (upd (fun _ => 0) 0 (-1)))] rfl ?_
    refine V_aload_n 28 B dX1_refill_28 1 rfl ?_
    refine V_dup 29 B dX1_refill_29 rfl ?_
    refine V_get 30 B gf_RX1_21 0 rfl rfl dX1_refill_30 ?_
    refine V_iconst 33 B (v := 1) dX1_refill_33 (by decide +kernel) ?_
    refine V_iadd 34 B (v := 1) dX1_refill_34 (by decide +kernel) ?_
    refine V_put 35 B gp_RX1_21 0 rfl (Nat.le_of_ble_eq_true rfl) rfl rfl dX1_refill_35 [(h0, oC 3 [.ref h1, .int 1]), (h1, aI Y 6 (upd (fun _ => 0) 0 (-1)))] rfl ?_
    refine V_iinc 38 B (v := 1) (lv2 := [(3, .int 1), (0, .ref h0), (1, .int (-1)), (2, .int 6)]) dX1_refill_38 0 rfl (by decide +kernel) (by decide) rfl ?_
    refine V_goto 41 B 7 dX1_refill_41 (by decide) ?_
    refine V_iload_n 7 B dX1_refill_7 0 rfl ?_
    refine V_iload_n 8 B dX1_refill_8 3 rfl ?_
    refine V_icmp_ge_f 9 B 44 dX1_refill_9 (by decide) (by decide +kernel) ?_
    refine V_iload_n 12 B dX1_refill_12 0 rfl ?_
    refine V_aload_n 13 B dX1_refill_13 1 rfl ?_
    refine V_get 14 B gf_RX1_15 0 rfl rfl dX1_refill_14 ?_
    refine V_alenI 17 B (v := 6) 1 rfl (by decide +kernel) dX1_refill_17 ?_
    refine V_icmp_ge_f 18 B 44 dX1_refill_18 (by decide) (by decide +kernel) ?_
    refine V_aload_n 21 B dX1_refill_21 1 rfl ?_
    refine V_get 22 B gf_RX1_15 0 rfl rfl dX1_refill_22 ?_
    refine V_iload_n 25 B dX1_refill_25 0 rfl ?_
    refine V_iload_n 26 B dX1_refill_26 2 rfl ?_
    refine V_iast 27 B 1 rfl (vpin _ _ (by decide +kernel)) dX1_refill_27 [(h0, oC 3 [.ref h1, .int 1]), (h1, aI Y 6 (upd (upd (fun _ => 0) 0 (-1)) 1 (-1)))] rfl ?_
    refine V_aload_n 28 B dX1_refill_28 1 rfl ?_
    refine V_dup 29 B dX1_refill_29 rfl ?_
    refine V_get 30 B gf_RX1_21 0 rfl rfl dX1_refill_30 ?_
    refine V_iconst 33 B (v := 1) dX1_refill_33 (by decide +kernel) ?_
    refine V_iadd 34 B (v := 2) dX1_refill_34 (by decide +kernel) ?_
    refine V_put 35 B gp_RX1_21 0 rfl (Nat.le_of_ble_eq_true rfl) rfl rfl dX1_refill_35 [(h0, oC 3 [.ref h1, .int 2]), (h1, aI Y 6 (upd (upd (fun _ => 0) 0 (-1)) 1 (-1)))] rfl ?_
    refine V_iinc 38 B (v := 2) (lv2 := [(3, .int 2), (0, .ref h0), (1, .int (-1)), (2, .int 6)]) dX1_refill_38 0 rfl (by decide +kernel) (by decide) rfl ?_
    refine V_goto 41 B 7 dX1_refill_41 (by decide) ?_
    refine V_iload_n 7 B dX1_refill_7 0 rfl ?_
    refine V_iload_n 8 B dX1_refill_8 3 rfl ?_
    refine V_icmp_ge_f 9 B 44 dX1_refill_9 (by decide) (by decide +kernel) ?_
    refine V_iload_n 12 B dX1_refill_12 0 rfl ?_
    refine V_aload_n 13 B dX1_refill_13 1 rfl ?_
    refine V_get 14 B gf_RX1_15 0 rfl rfl dX1_refill_14 ?_
    refine V_alenI 17 B (v := 6) 1 rfl (by decide +kernel) dX1_refill_17 ?_
    refine V_icmp_ge_f 18 B 44 dX1_refill_18 (by decide) (by decide +kernel) ?_
    refine V_aload_n 21 B dX1_refill_21 1 rfl ?_
    refine V_get 22 B gf_RX1_15 0 rfl rfl dX1_refill_22 ?_
    refine V_iload_n 25 B dX1_refill_25 0 rfl ?_
    refine V_iload_n 26 B dX1_refill_26 2 rfl ?_
    refine V_iast 27 B 1 rfl (vpin _ _ (by decide +kernel)) dX1_refill_27 [(h0, oC 3 [.ref h1, .int 2]), (h1, aI Y 6 (upd (upd (upd (fun _ => 0) 0 (-1)) 1 (-1)) 2 (-1)))] rfl ?_
    refine V_aload_n 28 B dX1_refill_28 1 rfl ?_
    refine V_dup 29 B dX1_refill_29 rfl ?_
    refine V_get 30 B gf_RX1_21 0 rfl rfl dX1_refill_30 ?_
    refine V_iconst 33 B (v := 1) dX1_refill_33 (by decide +kernel) ?_
    refine V_iadd 34 B (v := 3) dX1_refill_34 (by decide +kernel) ?_
    refine V_put 35 B gp_RX1_21 0 rfl (Nat.le_of_ble_eq_true rfl) rfl rfl dX1_refill_35 [(h0, oC 3 [.ref h1, .int 3]), (h1, aI Y 6 (upd (upd (upd (fun _ => 0) 0 (-1)) 1 (-1)) 2 (-1)))] rfl ?_
    refine V_iinc 38 B (v := 3) (lv2 := [(3, .int 3), (0, .ref h0), (1, .int (-1)), (2, .int 6)]) dX1_refill_38 0 rfl (by decide +kernel) (by decide) rfl ?_
    refine V_goto 41 B 7 dX1_refill_41 (by decide) ?_
    refine V_iload_n 7 B dX1_refill_7 0 rfl ?_
    refine V_iload_n 8 B dX1_refill_8 3 rfl ?_
    refine V_icmp_ge_f 9 B 44 dX1_refill_9 (by decide) (by decide +kernel) ?_
    refine V_iload_n 12 B dX1_refill_12 0 rfl ?_
    refine V_aload_n 13 B dX1_refill_13 1 rfl ?_
    refine V_get 14 B gf_RX1_15 0 rfl rfl dX1_refill_14 ?_
    refine V_alenI 17 B (v := 6) 1 rfl (by decide +kernel) dX1_refill_17 ?_
    refine V_icmp_ge_f 18 B 44 dX1_refill_18 (by decide) (by decide +kernel) ?_
    refine V_aload_n 21 B dX1_refill_21 1 rfl ?_
    refine V_get 22 B gf_RX1_15 0 rfl rfl dX1_refill_22 ?_
    refine V_iload_n 25 B dX1_refill_25 0 rfl ?_
    refine V_iload_n 26 B dX1_refill_26 2 rfl ?_
    refine V_iast 27 B 1 rfl (vpin _ _ (by decide +kernel)) dX1_refill_27 [(h0, oC 3 [.ref h1, .int 3]), (h1, aI Y 6 (upd (upd (upd (upd (fun _ => 0) 0 (-1)) 1 (-1)) 2 (-1)) 3 (-1)))] rfl ?_
    refine V_aload_n 28 B dX1_refill_28 1 rfl ?_
    refine V_dup 29 B dX1_refill_29 rfl ?_
    refine V_get 30 B gf_RX1_21 0 rfl rfl dX1_refill_30 ?_
    refine V_iconst 33 B (v := 1) dX1_refill_33 (by decide +kernel) ?_
    refine V_iadd 34 B (v := 4) dX1_refill_34 (by decide +kernel) ?_
    refine V_put 35 B gp_RX1_21 0 rfl (Nat.le_of_ble_eq_true rfl) rfl rfl dX1_refill_35 [(h0, oC 3 [.ref h1, .int 4]), (h1, aI Y 6 (upd (upd (upd (upd (fun _ => 0) 0 (-1)) 1 (-1)) 2 (-1)) 3 (-1)))] rfl ?_
    refine V_iinc 38 B (v := 4) (lv2 := [(3, .int 4), (0, .ref h0), (1, .int (-1)), (2, .int 6)]) dX1_refill_38 0 rfl (by decide +kernel) (by decide) rfl ?_
    refine V_goto 41 B 7 dX1_refill_41 (by decide) ?_
    refine V_iload_n 7 B dX1_refill_7 0 rfl ?_
    refine V_iload_n 8 B dX1_refill_8 3 rfl ?_
    refine V_icmp_ge_f 9 B 44 dX1_refill_9 (by decide) (by decide +kernel) ?_
    refine V_iload_n 12 B dX1_refill_12 0 rfl ?_
    refine V_aload_n 13 B dX1_refill_13 1 rfl ?_
    refine V_get 14 B gf_RX1_15 0 rfl rfl dX1_refill_14 ?_
    refine V_alenI 17 B (v := 6) 1 rfl (by decide +kernel) dX1_refill_17 ?_
    refine V_icmp_ge_f 18 B 44 dX1_refill_18 (by decide) (by decide +kernel) ?_
    refine V_aload_n 21 B dX1_refill_21 1 rfl ?_
    refine V_get 22 B gf_RX1_15 0 rfl rfl dX1_refill_22 ?_
    refine V_iload_n 25 B dX1_refill_25 0 rfl ?_
    refine V_iload_n 26 B dX1_refill_26 2 rfl ?_
    refine V_iast 27 B 1 rfl (vpin _ _ (by decide +kernel)) dX1_refill_27 [(h0, oC 3 [.ref h1, .int 4]), (h1, aI Y 6 (upd (upd (upd (upd (upd (fun _ => 0) 0 (-1)) 1 (-1)) 2 (-1)) 3 (-1)) 4 (-1)))] rfl ?_
    refine V_aload_n 28 B dX1_refill_28 1 rfl ?_
    refine V_dup 29 B dX1_refill_29 rfl ?_
    refine V_get 30 B gf_RX1_21 0 rfl rfl dX1_refill_30 ?_
    refine V_iconst 33 B (v := 1) dX1_refill_33 (by decide +kernel) ?_
    refine V_iadd 34 B (v := 5) dX1_refill_34 (by decide +kernel) ?_
    refine V_put 35 B gp_RX1_21 0 rfl (Nat.le_of_ble_eq_true rfl) rfl rfl dX1_refill_35 [(h0, oC 3 [.ref h1, .int 5]), (h1, aI Y 6 (upd (upd (upd (upd (upd (fun _ => 0) 0 (-1)) 1 (-1)) 2 (-1)) 3 (-1)) 4 (-1)))] rfl ?_
    refine V_iinc 38 B (v := 5) (lv2 := [(3, .int 5), (0, .ref h0), (1, .int (-1)), (2, .int 6)]) dX1_refill_38 0 rfl (by decide +kernel) (by decide) rfl ?_
    refine V_goto 41 B 7 dX1_refill_41 (by decide) ?_
    refine V_iload_n 7 B dX1_refill_7 0 rfl ?_
    refine V_iload_n 8 B dX1_refill_8 3 rfl ?_
    refine V_icmp_ge_f 9 B 44 dX1_refill_9 (by decide) (by decide +kernel) ?_
    refine V_iload_n 12 B dX1_refill_12 0 rfl ?_
    refine V_aload_n 13 B dX1_refill_13 1 rfl ?_
    refine V_get 14 B gf_RX1_15 0 rfl rfl dX1_refill_14 ?_
    refine V_alenI 17 B (v := 6) 1 rfl (by decide +kernel) dX1_refill_17 ?_
    refine V_icmp_ge_f 18 B 44 dX1_refill_18 (by decide) (by decide +kernel) ?_
    refine V_aload_n 21 B dX1_refill_21 1 rfl ?_
    refine V_get 22 B gf_RX1_15 0 rfl rfl dX1_refill_22 ?_
    refine V_iload_n 25 B dX1_refill_25 0 rfl ?_
    refine V_iload_n 26 B dX1_refill_26 2 rfl ?_
    refine V_iast 27 B 1 rfl (vpin _ _ (by decide +kernel)) dX1_refill_27 [(h0, oC 3 [.ref h1, .int 5]), (h1, aI Y 6 (upd (upd (upd (upd (upd (upd (fun _ => 0) 0 (-1)) 1 (-1)) 2 (-1)) 3 (-1)) 4 (-1)) 5 (-1)))] rfl ?_
    refine V_aload_n 28 B dX1_refill_28 1 rfl ?_
    refine V_dup 29 B dX1_refill_29 rfl ?_
    refine V_get 30 B gf_RX1_21 0 rfl rfl dX1_refill_30 ?_
    refine V_iconst 33 B (v := 1) dX1_refill_33 (by decide +kernel) ?_
    refine V_iadd 34 B (v := 6) dX1_refill_34 (by decide +kernel) ?_
    refine V_put 35 B gp_RX1_21 0 rfl (Nat.le_of_ble_eq_true rfl) rfl rfl dX1_refill_35 [(h0, oC 3 [.ref h1, .int 6]), (h1, aI Y 6 (upd (upd (upd (upd (upd (upd (fun _ => 0) 0 (-1)) 1 (-1)) 2 (-1)) 3 (-1)) 4 (-1)) 5 (-1)))] rfl ?_
    refine V_iinc 38 B (v := 6) (lv2 := [(3, .int 6), (0, .ref h0), (1, .int (-1)), (2, .int 6)]) dX1_refill_38 0 rfl (by decide +kernel) (by decide) rfl ?_
    refine V_goto 41 B 7 dX1_refill_41 (by decide) ?_
    refine V_iload_n 7 B dX1_refill_7 0 rfl ?_
    refine V_iload_n 8 B dX1_refill_8 3 rfl ?_
    refine V_icmp_ge_t 9 B 44 dX1_refill_9 (by decide) (by decide +kernel) ?_
    exact V_vret 44 B dX1_refill_44 () trivial rfl)
theorem dX1_put_0 : decode cX1_put 0 = .ok (.iload_n 1, 1) := by decide +kernel
theorem dX1_put_1 : decode cX1_put 1 = .ok (.ifCond .lt 27, 3) := by decide +kernel
theorem dX1_put_4 : decode cX1_put 4 = .ok (.iload_n 1, 1) := by decide +kernel
theorem dX1_put_5 : decode cX1_put 5 = .ok (.aload_n 0, 1) := by decide +kernel
theorem dX1_put_6 : decode cX1_put 6 = .ok (.getfield 21, 3) := by decide +kernel
theorem dX1_put_9 : decode cX1_put 9 = .ok (.if_icmp .ge 19, 3) := by decide +kernel
theorem dX1_put_12 : decode cX1_put 12 = .ok (.iload_n 1, 1) := by decide +kernel
theorem dX1_put_13 : decode cX1_put 13 = .ok (.aload_n 0, 1) := by decide +kernel
theorem dX1_put_14 : decode cX1_put 14 = .ok (.getfield 15, 3) := by decide +kernel
theorem dX1_put_17 : decode cX1_put 17 = .ok (.arraylength, 1) := by decide +kernel
theorem dX1_put_18 : decode cX1_put 18 = .ok (.if_icmp .ge 10, 3) := by decide +kernel
theorem dX1_put_21 : decode cX1_put 21 = .ok (.aload_n 0, 1) := by decide +kernel
theorem dX1_put_22 : decode cX1_put 22 = .ok (.getfield 15, 3) := by decide +kernel
theorem dX1_put_25 : decode cX1_put 25 = .ok (.iload_n 1, 1) := by decide +kernel
theorem dX1_put_26 : decode cX1_put 26 = .ok (.iload_n 2, 1) := by decide +kernel
theorem dX1_put_27 : decode cX1_put 27 = .ok (.iastore, 1) := by decide +kernel
theorem dX1_put_28 : decode cX1_put 28 = .ok (.return_, 1) := by decide +kernel
set_option maxRecDepth 100000 in
set_option maxHeartbeats 4000000 in
theorem mX1_put_1 (l : Launch) (D : va_G) (Y : Nat → ClassId) (h0 : Nat) (h1 : Nat) (sz : Nat) : Met l yX1_put (WSm yX1_put cX1_put 3 none) (mkR 0 0 0 0) (PreC D Y [.ref h0, .int 0, .int 0] [(h0, oC 3 [.ref h1, .int 6]), (h1, aI Y 6 (upd (upd (upd (upd (upd (upd (fun _ => 0) 0 (-1)) 1 (-1)) 2 (-1)) 3 (-1)) 4 (-1)) 5 (-1)))] sz) (QV D (fun (u : Unit) => True) (fun (_ : Unit) => [(h0, oC 3 [.ref h1, .int 6]), (h1, aI Y 6 (upd (upd (upd (upd (upd (upd (upd (fun _ => 0) 0 (-1)) 1 (-1)) 2 (-1)) 3 (-1)) 4 (-1)) 5 (-1)) 0 0))]) (va_A [(h0, oC 3 [.ref h1, .int 6]), (h1, aI Y 6 (upd (upd (upd (upd (upd (upd (fun _ => 0) 0 (-1)) 1 (-1)) 2 (-1)) 3 (-1)) 4 (-1)) 5 (-1)))] sz)) 0 0 (va_A [(h0, oC 3 [.ref h1, .int 6]), (h1, aI Y 6 (upd (upd (upd (upd (upd (upd (fun _ => 0) 0 (-1)) 1 (-1)) 2 (-1)) 3 (-1)) 4 (-1)) 5 (-1)))] sz) :=
  met_of (by decide +kernel) (Nat.le_of_ble_eq_true rfl) (fun p e s m args below meth c B hin hsz => by
    have B : VB p s m args meth c D Y (va_A [(h0, oC 3 [.ref h1, .int 6]), (h1, aI Y 6 (upd (upd (upd (upd (upd (upd (fun _ => 0) 0 (-1)) 1 (-1)) 2 (-1)) 3 (-1)) 4 (-1)) 5 (-1)))] sz) cX1_put 3 RX1 none := B
    refine V_iload_n 0 B dX1_put_0 1 rfl ?_
    refine V_if_lt_f 1 B 28 dX1_put_1 (by decide) (by decide +kernel) ?_
    refine V_iload_n 4 B dX1_put_4 1 rfl ?_
    refine V_aload_n 5 B dX1_put_5 0 rfl ?_
    refine V_get 6 B gf_RX1_21 0 rfl rfl dX1_put_6 ?_
    refine V_icmp_ge_f 9 B 28 dX1_put_9 (by decide) (by decide +kernel) ?_
    refine V_iload_n 12 B dX1_put_12 1 rfl ?_
    refine V_aload_n 13 B dX1_put_13 0 rfl ?_
    refine V_get 14 B gf_RX1_15 0 rfl rfl dX1_put_14 ?_
    refine V_alenI 17 B (v := 6) 1 rfl (by decide +kernel) dX1_put_17 ?_
    refine V_icmp_ge_f 18 B 28 dX1_put_18 (by decide) (by decide +kernel) ?_
    refine V_aload_n 21 B dX1_put_21 0 rfl ?_
    refine V_get 22 B gf_RX1_15 0 rfl rfl dX1_put_22 ?_
    refine V_iload_n 25 B dX1_put_25 1 rfl ?_
    refine V_iload_n 26 B dX1_put_26 2 rfl ?_
    refine V_iast 27 B 1 rfl (vpin _ _ (by decide +kernel)) dX1_put_27 [(h0, oC 3 [.ref h1, .int 6]), (h1, aI Y 6 (upd (upd (upd (upd (upd (upd (upd (fun _ => 0) 0 (-1)) 1 (-1)) 2 (-1)) 3 (-1)) 4 (-1)) 5 (-1)) 0 0))] rfl ?_
    exact V_vret 28 B dX1_put_28 () trivial rfl)
theorem dX10_standIn_0 : decode cX10_standIn 0 = .ok (.aload_n 0, 1) := by decide +kernel
theorem dX10_standIn_1 : decode cX10_standIn 1 = .ok (.getfield 20, 3) := by decide +kernel
theorem gf_RX10_20 : GF RX10 20 11 1 := ⟨RX10, TX10, 5, rfl, inw_X10, Nat.le_of_ble_eq_true rfl, (mT2 1 rfl rfl)⟩
theorem dX10_standIn_4 : decode cX10_standIn 4 = .ok (.iconst (-1), 1) := by decide +kernel
theorem dX10_standIn_5 : decode cX10_standIn 5 = .ok (.bipush 6, 2) := by decide +kernel
theorem dX10_standIn_7 : decode cX10_standIn 7 = .ok (.invokevirtual 37, 3) := by decide +kernel
theorem glV_RX10_37 : GLV RX10 37 yX1_refill RX1 cX1_refill 4 none 2 := ⟨⟨(mT4 54 rfl rfl), (mT3 157 rfl rfl), (mT3 158 rfl rfl), (mT1 3 rfl rfl), (mT3 159 rfl rfl)⟩, by decide +kernel⟩
theorem dX10_standIn_10 : decode cX10_standIn 10 = .ok (.iload_n 1, 1) := by decide +kernel
theorem dX10_standIn_11 : decode cX10_standIn 11 = .ok (.istore_n 2, 1) := by decide +kernel
theorem dX10_standIn_12 : decode cX10_standIn 12 = .ok (.iconst 0, 1) := by decide +kernel
theorem dX10_standIn_13 : decode cX10_standIn 13 = .ok (.istore_n 3, 1) := by decide +kernel
theorem dX10_standIn_14 : decode cX10_standIn 14 = .ok (.iload_n 3, 1) := by decide +kernel
theorem dX10_standIn_15 : decode cX10_standIn 15 = .ok (.bipush 6, 2) := by decide +kernel
theorem dX10_standIn_17 : decode cX10_standIn 17 = .ok (.if_icmp .ge 35, 3) := by decide +kernel
theorem dX10_standIn_20 : decode cX10_standIn 20 = .ok (.iload_n 2, 1) := by decide +kernel
theorem dX10_standIn_21 : decode cX10_standIn 21 = .ok (.iconst (-1), 1) := by decide +kernel
theorem dX10_standIn_22 : decode cX10_standIn 22 = .ok (.if_icmp .eq 30, 3) := by decide +kernel
theorem dX10_standIn_25 : decode cX10_standIn 25 = .ok (.aload_n 0, 1) := by decide +kernel
theorem dX10_standIn_26 : decode cX10_standIn 26 = .ok (.getfield 20, 3) := by decide +kernel
theorem dX10_standIn_29 : decode cX10_standIn 29 = .ok (.iload_n 2, 1) := by decide +kernel
theorem dX10_standIn_30 : decode cX10_standIn 30 = .ok (.iload_n 3, 1) := by decide +kernel
theorem dX10_standIn_31 : decode cX10_standIn 31 = .ok (.invokevirtual 41, 3) := by decide +kernel
theorem glV_RX10_41 : GLV RX10 41 yX1_put RX1 cX1_put 3 none 2 := ⟨⟨(mT4 55 rfl rfl), (mT3 162 rfl rfl), (mT3 163 rfl rfl), (mT1 3 rfl rfl), (mT3 164 rfl rfl)⟩, by decide +kernel⟩
theorem dX10_standIn_34 : decode cX10_standIn 34 = .ok (.aload_n 0, 1) := by decide +kernel
theorem dX10_standIn_35 : decode cX10_standIn 35 = .ok (.getfield 9, 3) := by decide +kernel
theorem gf_RX10_9 : GF RX10 9 11 0 := ⟨RX10, TX10, 5, rfl, inw_X10, Nat.le_of_ble_eq_true rfl, (mT2 0 rfl rfl)⟩
theorem dX10_standIn_38 : decode cX10_standIn 38 = .ok (.getfield 44, 3) := by decide +kernel
theorem gf_RX10_44 : GF RX10 44 2 0 := ⟨RX0, TX0, 12, rfl, inw_X0, Nat.le_of_ble_eq_true rfl, (mT1 160 rfl rfl)⟩
theorem dX10_standIn_41 : decode cX10_standIn 41 = .ok (.iload_n 2, 1) := by decide +kernel
theorem dX10_standIn_42 : decode cX10_standIn 42 = .ok (.invokevirtual 49, 3) := by decide +kernel
theorem glV_RX10_49 : GLV RX10 49 yX1_at RX1 cX1_at 2 (some .int) 1 := ⟨⟨(mT4 56 rfl rfl), (mT3 134 rfl rfl), (mT3 135 rfl rfl), (mT1 3 rfl rfl), (mT3 136 rfl rfl)⟩, by decide +kernel⟩
theorem dX10_standIn_45 : decode cX10_standIn 45 = .ok (.istore_n 2, 1) := by decide +kernel
theorem dX10_standIn_46 : decode cX10_standIn 46 = .ok (.iinc 3 1, 3) := by decide +kernel
theorem dX10_standIn_49 : decode cX10_standIn 49 = .ok (.goto (-35), 3) := by decide +kernel
theorem dX10_standIn_52 : decode cX10_standIn 52 = .ok (.return_, 1) := by decide +kernel
set_option maxRecDepth 100000 in
set_option maxHeartbeats 4000000 in
theorem mX10_standIn_1 (l : Launch) (D : va_G) (Y : Nat → ClassId) (h3 : Nat) (h0 : Nat) (h1 : Nat) (g0 : Nat) (g1 : Nat) (g2 : Nat) (g3 : Nat) (g4 : Nat) (g5 : Nat) (g6 : Nat) (g7 : Nat) (g8 : Nat) (g9 : Nat) (h2 : Nat) (h4 : Nat) (g10 : Nat) (g11 : Nat) (g12 : Nat) (h5 : Nat) (sz : Nat) : Met l yX10_standIn (WSm yX10_standIn cX10_standIn 4 none) (mkR 1 0 0 23) (PreC D Y [.ref h3, .int 0] [(h0, oC 2 [.ref h1, .ref g0, .ref g1, .ref g2, .ref g3, .ref g4, .ref g5, .ref g6, .ref g7, .ref g8, .ref g9, .int 0]), (h1, oC 3 [.ref h2, .int 1]), (h2, aI Y 6 (upd (fun _ => 0) 0 (-1))), (h3, oC 11 [.ref h0, .ref h4, .ref g10, .ref g11, .ref g12]), (h4, oC 3 [.ref h5, .int 0]), (h5, aI Y 6 (fun _ => 0))] sz) (QV D (fun (u : Unit) => True) (fun (_ : Unit) => [(h0, oC 2 [.ref h1, .ref g0, .ref g1, .ref g2, .ref g3, .ref g4, .ref g5, .ref g6, .ref g7, .ref g8, .ref g9, .int 0]), (h1, oC 3 [.ref h2, .int 1]), (h2, aI Y 6 (upd (fun _ => 0) 0 (-1))), (h3, oC 11 [.ref h0, .ref h4, .ref g10, .ref g11, .ref g12]), (h4, oC 3 [.ref h5, .int 6]), (h5, aI Y 6 (upd (upd (upd (upd (upd (upd (upd (fun _ => 0) 0 (-1)) 1 (-1)) 2 (-1)) 3 (-1)) 4 (-1)) 5 (-1)) 0 0))]) (va_A [(h0, oC 2 [.ref h1, .ref g0, .ref g1, .ref g2, .ref g3, .ref g4, .ref g5, .ref g6, .ref g7, .ref g8, .ref g9, .int 0]), (h1, oC 3 [.ref h2, .int 1]), (h2, aI Y 6 (upd (fun _ => 0) 0 (-1))), (h3, oC 11 [.ref h0, .ref h4, .ref g10, .ref g11, .ref g12]), (h4, oC 3 [.ref h5, .int 0]), (h5, aI Y 6 (fun _ => 0))] sz)) 0 0 (va_A [(h0, oC 2 [.ref h1, .ref g0, .ref g1, .ref g2, .ref g3, .ref g4, .ref g5, .ref g6, .ref g7, .ref g8, .ref g9, .int 0]), (h1, oC 3 [.ref h2, .int 1]), (h2, aI Y 6 (upd (fun _ => 0) 0 (-1))), (h3, oC 11 [.ref h0, .ref h4, .ref g10, .ref g11, .ref g12]), (h4, oC 3 [.ref h5, .int 0]), (h5, aI Y 6 (fun _ => 0))] sz) :=
  met_of (by decide +kernel) (Nat.le_of_ble_eq_true rfl) (fun p e s m args below meth c B hin hsz => by
    have B : VB p s m args meth c D Y (va_A [(h0, oC 2 [.ref h1, .ref g0, .ref g1, .ref g2, .ref g3, .ref g4, .ref g5, .ref g6, .ref g7, .ref g8, .ref g9, .int 0]), (h1, oC 3 [.ref h2, .int 1]), (h2, aI Y 6 (upd (fun _ => 0) 0 (-1))), (h3, oC 11 [.ref h0, .ref h4, .ref g10, .ref g11, .ref g12]), (h4, oC 3 [.ref h5, .int 0]), (h5, aI Y 6 (fun _ => 0))] sz) cX10_standIn 4 RX10 none := B
    refine V_aload_n 0 B dX10_standIn_0 0 rfl ?_
    refine V_get 1 B gf_RX10_20 3 rfl rfl dX10_standIn_1 ?_
    refine V_iconst 4 B (v := (-1)) dX10_standIn_4 (by decide +kernel) ?_
    refine V_bipush 5 B (v := 6) dX10_standIn_5 (by decide +kernel) ?_
    refine V_cvv 7 B (st := []) (As := [.int (-1), .int 6]) (fun sz => mX1_refill_1 l D Y (h4) (h5) sz) glV_RX10_37 ⟨rfl, rfl⟩ ⟨(Nat.le_of_ble_eq_true rfl), (Nat.le_of_ble_eq_true rfl)⟩ ⟨(Nat.le_of_ble_eq_true rfl), (Nat.le_of_ble_eq_true rfl)⟩ [4, 0] rfl 3 0 rfl rfl rfl rfl (Nat.le_of_ble_eq_true rfl) rfl (fun _ _ => rfl) dX10_standIn_7 (fun u0 w0 => ?_)
    refine V_ws [(h0, oC 2 [.ref h1, .ref g0, .ref g1, .ref g2, .ref g3, .ref g4, .ref g5, .ref g6, .ref g7, .ref g8, .ref g9, .int 0]), (h1, oC 3 [.ref h2, .int 1]), (h2, aI Y 6 (upd (fun _ => 0) 0 (-1))), (h3, oC 11 [.ref h0, .ref h4, .ref g10, .ref g11, .ref g12]), (h4, oC 3 [.ref h5, .int 6]), (h5, aI Y 6 (upd (upd (upd (upd (upd (upd (fun _ => 0) 0 (-1)) 1 (-1)) 2 (-1)) 3 (-1)) 4 (-1)) 5 (-1)))] rfl ?_
    refine V_iload_n 10 B dX10_standIn_10 1 rfl ?_
    refine V_istore_n 11 B (lv2 := [(2, .int 0), (0, .ref h3), (1, .int 0)]) dX10_standIn_11 (by decide) rfl ?_
    refine V_iconst 12 B (v := 0) dX10_standIn_12 (by decide +kernel) ?_
    refine V_istore_n 13 B (lv2 := [(3, .int 0), (2, .int 0), (0, .ref h3), (1, .int 0)]) dX10_standIn_13 (by decide) rfl ?_
    refine V_iload_n 14 B dX10_standIn_14 0 rfl ?_
    refine V_bipush 15 B (v := 6) dX10_standIn_15 (by decide +kernel) ?_
    refine V_icmp_ge_f 17 B 52 dX10_standIn_17 (by decide) (by decide +kernel) ?_
    refine V_iload_n 20 B dX10_standIn_20 1 rfl ?_
    refine V_iconst 21 B (v := (-1)) dX10_standIn_21 (by decide +kernel) ?_
    refine V_icmp_eq_f 22 B 52 dX10_standIn_22 (by decide) (by decide +kernel) ?_
    refine V_aload_n 25 B dX10_standIn_25 2 rfl ?_
    refine V_get 26 B gf_RX10_20 3 rfl rfl dX10_standIn_26 ?_
    refine V_iload_n 29 B dX10_standIn_29 1 rfl ?_
    refine V_iload_n 30 B dX10_standIn_30 0 rfl ?_
    refine V_cvv 31 B (st := []) (As := [.int 0, .int 0]) (fun sz => mX1_put_1 l D Y (h4) (h5) sz) glV_RX10_41 ⟨rfl, rfl⟩ ⟨(Nat.le_of_ble_eq_true rfl), (Nat.le_of_ble_eq_true rfl)⟩ ⟨(Nat.le_of_ble_eq_true rfl), (Nat.le_of_ble_eq_true rfl)⟩ [4, 0] rfl 3 0 rfl rfl rfl rfl (Nat.le_of_ble_eq_true rfl) rfl (fun _ _ => rfl) dX10_standIn_31 (fun u1 w1 => ?_)
    refine V_ws [(h0, oC 2 [.ref h1, .ref g0, .ref g1, .ref g2, .ref g3, .ref g4, .ref g5, .ref g6, .ref g7, .ref g8, .ref g9, .int 0]), (h1, oC 3 [.ref h2, .int 1]), (h2, aI Y 6 (upd (fun _ => 0) 0 (-1))), (h3, oC 11 [.ref h0, .ref h4, .ref g10, .ref g11, .ref g12]), (h4, oC 3 [.ref h5, .int 6]), (h5, aI Y 6 (upd (upd (upd (upd (upd (upd (upd (fun _ => 0) 0 (-1)) 1 (-1)) 2 (-1)) 3 (-1)) 4 (-1)) 5 (-1)) 0 0))] rfl ?_
    refine V_aload_n 34 B dX10_standIn_34 2 rfl ?_
    refine V_get 35 B gf_RX10_9 3 rfl rfl dX10_standIn_35 ?_
    refine V_get 38 B gf_RX10_44 0 rfl rfl dX10_standIn_38 ?_
    refine V_iload_n 41 B dX10_standIn_41 1 rfl ?_
    refine V_cvi 42 B (st := []) (As := [.int 0]) (fun sz => mX1_at_1 l D Y (h1) (h2) sz) glV_RX10_49 ⟨rfl, rfl⟩ ⟨(Nat.le_of_ble_eq_true rfl), (Nat.le_of_ble_eq_true rfl)⟩ ⟨(Nat.le_of_ble_eq_true rfl), (Nat.le_of_ble_eq_true rfl)⟩ [1, 0] rfl 3 0 rfl rfl rfl rfl (Nat.le_of_ble_eq_true rfl) rfl (fun _ _ _ => rfl) dX10_standIn_42 (fun r2 u2 w2 => ?_)
    obtain rfl := w2
    refine V_ws [(h0, oC 2 [.ref h1, .ref g0, .ref g1, .ref g2, .ref g3, .ref g4, .ref g5, .ref g6, .ref g7, .ref g8, .ref g9, .int 0]), (h1, oC 3 [.ref h2, .int 1]), (h2, aI Y 6 (upd (fun _ => 0) 0 (-1))), (h3, oC 11 [.ref h0, .ref h4, .ref g10, .ref g11, .ref g12]), (h4, oC 3 [.ref h5, .int 6]), (h5, aI Y 6 (upd (upd (upd (upd (upd (upd (upd (fun _ => 0) 0 (-1)) 1 (-1)) 2 (-1)) 3 (-1)) 4 (-1)) 5 (-1)) 0 0))] rfl ?_
    refine V_istore_n 45 B (lv2 := [(2, .int (-1)), (3, .int 0), (0, .ref h3), (1, .int 0)]) dX10_standIn_45 (by decide) rfl ?_
    refine V_iinc 46 B (v := 1) (lv2 := [(3, .int 1), (2, .int (-1)), (0, .ref h3), (1, .int 0)]) dX10_standIn_46 1 rfl (by decide +kernel) (by decide) rfl ?_
    refine V_goto 49 B 14 dX10_standIn_49 (by decide) ?_
    refine V_iload_n 14 B dX10_standIn_14 0 rfl ?_
    refine V_bipush 15 B (v := 6) dX10_standIn_15 (by decide +kernel) ?_
    refine V_icmp_ge_f 17 B 52 dX10_standIn_17 (by decide) (by decide +kernel) ?_
    refine V_iload_n 20 B dX10_standIn_20 1 rfl ?_
    refine V_iconst 21 B (v := (-1)) dX10_standIn_21 (by decide +kernel) ?_
    refine V_icmp_eq_t 22 B 52 dX10_standIn_22 (by decide) (by decide +kernel) ?_
    exact V_vret 52 B dX10_standIn_52 () trivial rfl)
theorem dX10_gather_0 : decode cX10_gather 0 = .ok (.aload_n 0, 1) := by decide +kernel
theorem dX10_gather_1 : decode cX10_gather 1 = .ok (.iload_n 1, 1) := by decide +kernel
theorem dX10_gather_2 : decode cX10_gather 2 = .ok (.invokevirtual 72, 3) := by decide +kernel
theorem glV_RX10_72 : GLV RX10 72 yX10_standIn RX10 cX10_standIn 4 none 1 := ⟨⟨(mT6 67 rfl rfl), (mT4 51 rfl rfl), (mT4 52 rfl rfl), (mT1 8 rfl rfl), (mT4 53 rfl rfl)⟩, by decide +kernel⟩
theorem dX10_gather_5 : decode cX10_gather 5 = .ok (.aload_n 0, 1) := by decide +kernel
theorem dX10_gather_6 : decode cX10_gather 6 = .ok (.getfield 24, 3) := by decide +kernel
theorem gf_RX10_24 : GF RX10 24 11 2 := ⟨RX10, TX10, 5, rfl, inw_X10, Nat.le_of_ble_eq_true rfl, (mT2 2 rfl rfl)⟩
theorem dX10_gather_9 : decode cX10_gather 9 = .ok (.invokevirtual 75, 3) := by decide +kernel
theorem glV_RX10_75 : GLV RX10 75 yX1_clear RX1 cX1_clear 1 none 0 := ⟨⟨(mT6 68 rfl rfl), (mT2 184 rfl rfl), (mT2 185 rfl rfl), (mT1 3 rfl rfl), (mT2 186 rfl rfl)⟩, by decide +kernel⟩
theorem dX10_gather_12 : decode cX10_gather 12 = .ok (.iconst 0, 1) := by decide +kernel
theorem dX10_gather_13 : decode cX10_gather 13 = .ok (.istore_n 2, 1) := by decide +kernel
theorem dX10_gather_14 : decode cX10_gather 14 = .ok (.iload_n 2, 1) := by decide +kernel
theorem dX10_gather_15 : decode cX10_gather 15 = .ok (.aload_n 0, 1) := by decide +kernel
theorem dX10_gather_16 : decode cX10_gather 16 = .ok (.getfield 9, 3) := by decide +kernel
theorem dX10_gather_19 : decode cX10_gather 19 = .ok (.getfield 53, 3) := by decide +kernel
theorem gf_RX10_53 : GF RX10 53 2 5 := ⟨RX0, TX0, 12, rfl, inw_X0, Nat.le_of_ble_eq_true rfl, (mT1 179 rfl rfl)⟩
theorem dX10_gather_22 : decode cX10_gather 22 = .ok (.invokevirtual 62, 3) := by decide +kernel
theorem glV_RX10_62 : GLV RX10 62 yX1_size RX1 cX1_size 1 (some .int) 0 := ⟨⟨(mT4 61 rfl rfl), (mT3 47 rfl rfl), (mT3 48 rfl rfl), (mT1 3 rfl rfl), (mT3 49 rfl rfl)⟩, by decide +kernel⟩
theorem dX10_gather_25 : decode cX10_gather 25 = .ok (.if_icmp .ge 26, 3) := by decide +kernel
theorem dX10_gather_51 : decode cX10_gather 51 = .ok (.return_, 1) := by decide +kernel
set_option maxRecDepth 100000 in
set_option maxHeartbeats 4000000 in
theorem mX10_gather_1 (l : Launch) (D : va_G) (Y : Nat → ClassId) (h4 : Nat) (h0 : Nat) (h1 : Nat) (g0 : Nat) (g1 : Nat) (g2 : Nat) (g3 : Nat) (h3 : Nat) (g4 : Nat) (g5 : Nat) (g6 : Nat) (g7 : Nat) (g8 : Nat) (h2 : Nat) (g9 : Nat) (h5 : Nat) (h7 : Nat) (g10 : Nat) (g11 : Nat) (h6 : Nat) (g12 : Nat) (sz : Nat) : Met l yX10_gather (WSm yX10_gather cX10_gather 3 none) (mkR 2 0 0 46) (PreC D Y [.ref h4, .int 0] [(h0, oC 2 [.ref h1, .ref g0, .ref g1, .ref g2, .ref g3, .ref h3, .ref g4, .ref g5, .ref g6, .ref g7, .ref g8, .int 0]), (h1, oC 3 [.ref h2, .int 1]), (h2, aI Y 6 (upd (fun _ => 0) 0 (-1))), (h3, oC 3 [.ref g9, .int 0]), (h4, oC 11 [.ref h0, .ref h5, .ref h7, .ref g10, .ref g11]), (h5, oC 3 [.ref h6, .int 0]), (h6, aI Y 6 (fun _ => 0)), (h7, oC 3 [.ref g12, .int 0])] sz) (QV D (fun (u : Unit) => True) (fun (_ : Unit) => [(h0, oC 2 [.ref h1, .ref g0, .ref g1, .ref g2, .ref g3, .ref h3, .ref g4, .ref g5, .ref g6, .ref g7, .ref g8, .int 0]), (h1, oC 3 [.ref h2, .int 1]), (h2, aI Y 6 (upd (fun _ => 0) 0 (-1))), (h3, oC 3 [.ref g9, .int 0]), (h4, oC 11 [.ref h0, .ref h5, .ref h7, .ref g10, .ref g11]), (h5, oC 3 [.ref h6, .int 6]), (h6, aI Y 6 (upd (upd (upd (upd (upd (upd (upd (fun _ => 0) 0 (-1)) 1 (-1)) 2 (-1)) 3 (-1)) 4 (-1)) 5 (-1)) 0 0)), (h7, oC 3 [.ref g12, .int 0])]) (va_A [(h0, oC 2 [.ref h1, .ref g0, .ref g1, .ref g2, .ref g3, .ref h3, .ref g4, .ref g5, .ref g6, .ref g7, .ref g8, .int 0]), (h1, oC 3 [.ref h2, .int 1]), (h2, aI Y 6 (upd (fun _ => 0) 0 (-1))), (h3, oC 3 [.ref g9, .int 0]), (h4, oC 11 [.ref h0, .ref h5, .ref h7, .ref g10, .ref g11]), (h5, oC 3 [.ref h6, .int 0]), (h6, aI Y 6 (fun _ => 0)), (h7, oC 3 [.ref g12, .int 0])] sz)) 0 0 (va_A [(h0, oC 2 [.ref h1, .ref g0, .ref g1, .ref g2, .ref g3, .ref h3, .ref g4, .ref g5, .ref g6, .ref g7, .ref g8, .int 0]), (h1, oC 3 [.ref h2, .int 1]), (h2, aI Y 6 (upd (fun _ => 0) 0 (-1))), (h3, oC 3 [.ref g9, .int 0]), (h4, oC 11 [.ref h0, .ref h5, .ref h7, .ref g10, .ref g11]), (h5, oC 3 [.ref h6, .int 0]), (h6, aI Y 6 (fun _ => 0)), (h7, oC 3 [.ref g12, .int 0])] sz) :=
  met_of (by decide +kernel) (Nat.le_of_ble_eq_true rfl) (fun p e s m args below meth c B hin hsz => by
    have B : VB p s m args meth c D Y (va_A [(h0, oC 2 [.ref h1, .ref g0, .ref g1, .ref g2, .ref g3, .ref h3, .ref g4, .ref g5, .ref g6, .ref g7, .ref g8, .int 0]), (h1, oC 3 [.ref h2, .int 1]), (h2, aI Y 6 (upd (fun _ => 0) 0 (-1))), (h3, oC 3 [.ref g9, .int 0]), (h4, oC 11 [.ref h0, .ref h5, .ref h7, .ref g10, .ref g11]), (h5, oC 3 [.ref h6, .int 0]), (h6, aI Y 6 (fun _ => 0)), (h7, oC 3 [.ref g12, .int 0])] sz) cX10_gather 3 RX10 none := B
    refine V_aload_n 0 B dX10_gather_0 0 rfl ?_
    refine V_iload_n 1 B dX10_gather_1 1 rfl ?_
    refine V_cvv 2 B (st := []) (As := [.int 0]) (fun sz => mX10_standIn_1 l D Y (h4) (h0) (h1) (g0) (g1) (g2) (g3) (h3) (g4) (g5) (g6) (g7) (g8) (h2) (h5) (h7) (g10) (g11) (h6) sz) glV_RX10_72 ⟨rfl, rfl⟩ ⟨(Nat.le_of_ble_eq_true rfl), (Nat.le_of_ble_eq_true rfl)⟩ ⟨(Nat.le_of_ble_eq_true rfl), (Nat.le_of_ble_eq_true rfl)⟩ [0, 0, 0, 1, 0, 0] rfl 11 3 rfl rfl rfl rfl (Nat.le_of_ble_eq_true rfl) rfl (fun _ _ => rfl) dX10_gather_2 (fun u0 w0 => ?_)
    refine V_ws [(h0, oC 2 [.ref h1, .ref g0, .ref g1, .ref g2, .ref g3, .ref h3, .ref g4, .ref g5, .ref g6, .ref g7, .ref g8, .int 0]), (h1, oC 3 [.ref h2, .int 1]), (h2, aI Y 6 (upd (fun _ => 0) 0 (-1))), (h3, oC 3 [.ref g9, .int 0]), (h4, oC 11 [.ref h0, .ref h5, .ref h7, .ref g10, .ref g11]), (h5, oC 3 [.ref h6, .int 6]), (h6, aI Y 6 (upd (upd (upd (upd (upd (upd (upd (fun _ => 0) 0 (-1)) 1 (-1)) 2 (-1)) 3 (-1)) 4 (-1)) 5 (-1)) 0 0)), (h7, oC 3 [.ref g12, .int 0])] rfl ?_
    refine V_aload_n 5 B dX10_gather_5 0 rfl ?_
    refine V_get 6 B gf_RX10_24 4 rfl rfl dX10_gather_6 ?_
    refine V_cvv 9 B (st := []) (As := []) (fun sz => mX1_clear_2 l D Y (h7) (g12) sz) glV_RX10_75 ⟨rfl, rfl⟩ ⟨(Nat.le_of_ble_eq_true rfl), (Nat.le_of_ble_eq_true rfl)⟩ ⟨(Nat.le_of_ble_eq_true rfl), (Nat.le_of_ble_eq_true rfl)⟩ [7] rfl 3 0 rfl rfl rfl rfl (Nat.le_of_ble_eq_true rfl) rfl (fun _ _ => rfl) dX10_gather_9 (fun u1 w1 => ?_)
    refine V_ws [(h0, oC 2 [.ref h1, .ref g0, .ref g1, .ref g2, .ref g3, .ref h3, .ref g4, .ref g5, .ref g6, .ref g7, .ref g8, .int 0]), (h1, oC 3 [.ref h2, .int 1]), (h2, aI Y 6 (upd (fun _ => 0) 0 (-1))), (h3, oC 3 [.ref g9, .int 0]), (h4, oC 11 [.ref h0, .ref h5, .ref h7, .ref g10, .ref g11]), (h5, oC 3 [.ref h6, .int 6]), (h6, aI Y 6 (upd (upd (upd (upd (upd (upd (upd (fun _ => 0) 0 (-1)) 1 (-1)) 2 (-1)) 3 (-1)) 4 (-1)) 5 (-1)) 0 0)), (h7, oC 3 [.ref g12, .int 0])] rfl ?_
    refine V_iconst 12 B (v := 0) dX10_gather_12 (by decide +kernel) ?_
    refine V_istore_n 13 B (lv2 := [(2, .int 0), (0, .ref h4), (1, .int 0)]) dX10_gather_13 (by decide) rfl ?_
    refine V_iload_n 14 B dX10_gather_14 0 rfl ?_
    refine V_aload_n 15 B dX10_gather_15 1 rfl ?_
    refine V_get 16 B gf_RX10_9 4 rfl rfl dX10_gather_16 ?_
    refine V_get 19 B gf_RX10_53 0 rfl rfl dX10_gather_19 ?_
    refine V_cvi 22 B (st := [.int 0]) (As := []) (fun sz => mX1_size_1 l D Y (h3) (g9) sz) glV_RX10_62 ⟨rfl, rfl⟩ ⟨(Nat.le_of_ble_eq_true rfl), (Nat.le_of_ble_eq_true rfl)⟩ ⟨(Nat.le_of_ble_eq_true rfl), (Nat.le_of_ble_eq_true rfl)⟩ [3] rfl 3 0 rfl rfl rfl rfl (Nat.le_of_ble_eq_true rfl) rfl (fun _ _ _ => rfl) dX10_gather_22 (fun r2 u2 w2 => ?_)
    obtain rfl := w2
    refine V_ws [(h0, oC 2 [.ref h1, .ref g0, .ref g1, .ref g2, .ref g3, .ref h3, .ref g4, .ref g5, .ref g6, .ref g7, .ref g8, .int 0]), (h1, oC 3 [.ref h2, .int 1]), (h2, aI Y 6 (upd (fun _ => 0) 0 (-1))), (h3, oC 3 [.ref g9, .int 0]), (h4, oC 11 [.ref h0, .ref h5, .ref h7, .ref g10, .ref g11]), (h5, oC 3 [.ref h6, .int 6]), (h6, aI Y 6 (upd (upd (upd (upd (upd (upd (upd (fun _ => 0) 0 (-1)) 1 (-1)) 2 (-1)) 3 (-1)) 4 (-1)) 5 (-1)) 0 0)), (h7, oC 3 [.ref g12, .int 0])] rfl ?_
    refine V_icmp_ge_t 25 B 51 dX10_gather_25 (by decide) (by decide +kernel) ?_
    exact V_vret 51 B dX10_gather_51 () trivial rfl)
theorem dX10_countLonger_0 : decode cX10_countLonger 0 = .ok (.iconst 0, 1) := by decide +kernel
theorem dX10_countLonger_1 : decode cX10_countLonger 1 = .ok (.istore_n 3, 1) := by decide +kernel
theorem dX10_countLonger_2 : decode cX10_countLonger 2 = .ok (.iconst 0, 1) := by decide +kernel
theorem dX10_countLonger_3 : decode cX10_countLonger 3 = .ok (.istore 4, 2) := by decide +kernel
theorem dX10_countLonger_5 : decode cX10_countLonger 5 = .ok (.iload 4, 2) := by decide +kernel
theorem dX10_countLonger_7 : decode cX10_countLonger 7 = .ok (.aload_n 0, 1) := by decide +kernel
theorem dX10_countLonger_8 : decode cX10_countLonger 8 = .ok (.getfield 24, 3) := by decide +kernel
theorem dX10_countLonger_11 : decode cX10_countLonger 11 = .ok (.invokevirtual 62, 3) := by decide +kernel
theorem dX10_countLonger_14 : decode cX10_countLonger 14 = .ok (.if_icmp .ge 38, 3) := by decide +kernel
theorem dX10_countLonger_52 : decode cX10_countLonger 52 = .ok (.iload_n 3, 1) := by decide +kernel
theorem dX10_countLonger_53 : decode cX10_countLonger 53 = .ok (.ireturn, 1) := by decide +kernel
set_option maxRecDepth 100000 in
set_option maxHeartbeats 4000000 in
theorem mX10_countLonger_1 (l : Launch) (D : va_G) (Y : Nat → ClassId) (h0 : Nat) (g0 : Nat) (g1 : Nat) (h1 : Nat) (g2 : Nat) (g3 : Nat) (g4 : Nat) (sz : Nat) : Met l yX10_countLonger (WSm yX10_countLonger cX10_countLonger 5 (some .int)) (mkR 1 0 0 20) (PreC D Y [.ref h0, .long 0] [(h0, oC 11 [.ref g0, .ref g1, .ref h1, .ref g2, .ref g3]), (h1, oC 3 [.ref g4, .int 0])] sz) (QI D (fun (r : Int32) (u : Unit) => 0 = r) (fun (_ : Unit) => [(h0, oC 11 [.ref g0, .ref g1, .ref h1, .ref g2, .ref g3]), (h1, oC 3 [.ref g4, .int 0])]) (va_A [(h0, oC 11 [.ref g0, .ref g1, .ref h1, .ref g2, .ref g3]), (h1, oC 3 [.ref g4, .int 0])] sz)) 0 0 (va_A [(h0, oC 11 [.ref g0, .ref g1, .ref h1, .ref g2, .ref g3]), (h1, oC 3 [.ref g4, .int 0])] sz) :=
  met_of (by decide +kernel) (Nat.le_of_ble_eq_true rfl) (fun p e s m args below meth c B hin hsz => by
    have B : VB p s m args meth c D Y (va_A [(h0, oC 11 [.ref g0, .ref g1, .ref h1, .ref g2, .ref g3]), (h1, oC 3 [.ref g4, .int 0])] sz) cX10_countLonger 5 RX10 (some .int) := B
    refine V_iconst 0 B (v := 0) dX10_countLonger_0 (by decide +kernel) ?_
    refine V_istore_n 1 B (lv2 := [(3, .int 0), (0, .ref h0), (1, .long 0)]) dX10_countLonger_1 (by decide) rfl ?_
    refine V_iconst 2 B (v := 0) dX10_countLonger_2 (by decide +kernel) ?_
    refine V_istore 3 B (lv2 := [(4, .int 0), (3, .int 0), (0, .ref h0), (1, .long 0)]) dX10_countLonger_3 (by decide) rfl ?_
    refine V_iload 5 B dX10_countLonger_5 0 rfl ?_
    refine V_aload_n 7 B dX10_countLonger_7 2 rfl ?_
    refine V_get 8 B gf_RX10_24 0 rfl rfl dX10_countLonger_8 ?_
    refine V_cvi 11 B (st := [.int 0]) (As := []) (fun sz => mX1_size_1 l D Y (h1) (g4) sz) glV_RX10_62 ⟨rfl, rfl⟩ ⟨(Nat.le_of_ble_eq_true rfl), (Nat.le_of_ble_eq_true rfl)⟩ ⟨(Nat.le_of_ble_eq_true rfl), (Nat.le_of_ble_eq_true rfl)⟩ [1] rfl 3 0 rfl rfl rfl rfl (Nat.le_of_ble_eq_true rfl) rfl (fun _ _ _ => rfl) dX10_countLonger_11 (fun r0 u0 w0 => ?_)
    obtain rfl := w0
    refine V_ws [(h0, oC 11 [.ref g0, .ref g1, .ref h1, .ref g2, .ref g3]), (h1, oC 3 [.ref g4, .int 0])] rfl ?_
    refine V_icmp_ge_t 14 B 52 dX10_countLonger_14 (by decide) (by decide +kernel) ?_
    refine V_iload_n 52 B dX10_countLonger_52 1 rfl ?_
    exact V_iret 53 B dX10_countLonger_53 () rfl rfl)
theorem dX11_continuations_0 : decode cX11_continuations 0 = .ok (.aload_n 0, 1) := by decide +kernel
theorem dX11_continuations_1 : decode cX11_continuations 1 = .ok (.iload_n 1, 1) := by decide +kernel
theorem dX11_continuations_2 : decode cX11_continuations 2 = .ok (.invokevirtual 180, 3) := by decide +kernel
theorem dX11_continuations_5 : decode cX11_continuations 5 = .ok (.aload_n 0, 1) := by decide +kernel
theorem dX11_continuations_6 : decode cX11_continuations 6 = .ok (.getfield 30, 3) := by decide +kernel
theorem dX11_continuations_9 : decode cX11_continuations 9 = .ok (.iload_n 1, 1) := by decide +kernel
theorem dX11_continuations_10 : decode cX11_continuations 10 = .ok (.invokevirtual 270, 3) := by decide +kernel
theorem glV_RX11_270 : GLV RX11 270 yX10_gather RX10 cX10_gather 3 none 1 := ⟨⟨(mT6 63 rfl rfl), (mT6 64 rfl rfl), (mT6 65 rfl rfl), (mT1 8 rfl rfl), (mT6 66 rfl rfl)⟩, by decide +kernel⟩
theorem dX11_continuations_13 : decode cX11_continuations 13 = .ok (.aload_n 0, 1) := by decide +kernel
theorem dX11_continuations_14 : decode cX11_continuations 14 = .ok (.getfield 30, 3) := by decide +kernel
theorem dX11_continuations_17 : decode cX11_continuations 17 = .ok (.aload_n 0, 1) := by decide +kernel
theorem dX11_continuations_18 : decode cX11_continuations 18 = .ok (.getfield 68, 3) := by decide +kernel
theorem dX11_continuations_21 : decode cX11_continuations 21 = .ok (.invokevirtual 273, 3) := by decide +kernel
theorem glV_RX11_273 : GLV RX11 273 yX10_countLonger RX10 cX10_countLonger 5 (some .int) 1 := ⟨⟨(mT6 70 rfl rfl), (mT6 71 rfl rfl), (mT6 72 rfl rfl), (mT1 8 rfl rfl), (mT6 73 rfl rfl)⟩, by decide +kernel⟩
theorem dX11_continuations_24 : decode cX11_continuations 24 = .ok (.ireturn, 1) := by decide +kernel
set_option maxRecDepth 100000 in
set_option maxHeartbeats 4000000 in
theorem mX11_continuations_1 (l : Launch) (hl9 : l.stackTraces = false) (D : va_G) (Y : Nat → ClassId) (h0 : Nat) (h1 : Nat) (g0 : Nat) (g1 : Nat) (g2 : Nat) (h5 : Nat) (g3 : Nat) (g4 : Nat) (g5 : Nat) (g6 : Nat) (h2 : Nat) (g7 : Nat) (g8 : Nat) (g9 : Nat) (g10 : Nat) (h4 : Nat) (g11 : Nat) (g12 : Nat) (g13 : Nat) (g14 : Nat) (g15 : Nat) (h3 : Nat) (g16 : Nat) (h6 : Nat) (h8 : Nat) (g17 : Nat) (g18 : Nat) (h7 : Nat) (g19 : Nat) (p0 : Int32) (sz : Nat) : vx_Met l yX11_continuations (WSm yX11_continuations cX11_continuations 2 (some .int)) (mkR 7 1 6 103) (PreX D Y [.ref h0, .int p0] [(h0, oC 12 [.ref h1, .ref g0, .ref g1, .ref g2, .ref h5, .ref g3, .ref g4, .ref g5, .ref g6, .long 0]), (h1, oC 2 [.ref h2, .ref g7, .ref g8, .ref g9, .ref g10, .ref h4, .ref g11, .ref g12, .ref g13, .ref g14, .ref g15, .int 0]), (h2, oC 3 [.ref h3, .int 1]), (h3, aI Y 6 (upd (fun _ => 0) 0 (-1))), (h4, oC 3 [.ref g16, .int 0]), (h5, oC 11 [.ref h1, .ref h6, .ref h8, .ref g17, .ref g18]), (h6, oC 3 [.ref h7, .int 0]), (h7, aI Y 6 (fun _ => 0)), (h8, oC 3 [.ref g19, .int 0])] sz) (QI D (fun (r : Int32) (u : Unit) => p0 = 0 ∧ 0 = r) (fun (_ : Unit) => [(h0, oC 12 [.ref h1, .ref g0, .ref g1, .ref g2, .ref h5, .ref g3, .ref g4, .ref g5, .ref g6, .long 0]), (h1, oC 2 [.ref h2, .ref g7, .ref g8, .ref g9, .ref g10, .ref h4, .ref g11, .ref g12, .ref g13, .ref g14, .ref g15, .int 0]), (h2, oC 3 [.ref h3, .int 1]), (h3, aI Y 6 (upd (fun _ => 0) 0 (-1))), (h4, oC 3 [.ref g16, .int 0]), (h5, oC 11 [.ref h1, .ref h6, .ref h8, .ref g17, .ref g18]), (h6, oC 3 [.ref h7, .int 6]), (h7, aI Y 6 (upd (upd (upd (upd (upd (upd (upd (fun _ => 0) 0 (-1)) 1 (-1)) 2 (-1)) 3 (-1)) 4 (-1)) 5 (-1)) 0 0)), (h8, oC 3 [.ref g19, .int 0])]) (va_A [(h0, oC 12 [.ref h1, .ref g0, .ref g1, .ref g2, .ref h5, .ref g3, .ref g4, .ref g5, .ref g6, .long 0]), (h1, oC 2 [.ref h2, .ref g7, .ref g8, .ref g9, .ref g10, .ref h4, .ref g11, .ref g12, .ref g13, .ref g14, .ref g15, .int 0]), (h2, oC 3 [.ref h3, .int 1]), (h3, aI Y 6 (upd (fun _ => 0) 0 (-1))), (h4, oC 3 [.ref g16, .int 0]), (h5, oC 11 [.ref h1, .ref h6, .ref h8, .ref g17, .ref g18]), (h6, oC 3 [.ref h7, .int 0]), (h7, aI Y 6 (fun _ => 0)), (h8, oC 3 [.ref g19, .int 0])] sz)) (XW D (fun (E : String) (u : Unit) => (E = "java/lang/IndexOutOfBoundsException" ∧ p0 < 0) ∨ (E = "java/lang/IndexOutOfBoundsException" ∧ ¬ p0 < 0 ∧ 1 ≤ p0)) (fun (_ : Unit) => [(h0, oC 12 [.ref h1, .ref g0, .ref g1, .ref g2, .ref h5, .ref g3, .ref g4, .ref g5, .ref g6, .long 0]), (h1, oC 2 [.ref h2, .ref g7, .ref g8, .ref g9, .ref g10, .ref h4, .ref g11, .ref g12, .ref g13, .ref g14, .ref g15, .int 0]), (h2, oC 3 [.ref h3, .int 1]), (h3, aI Y 6 (upd (fun _ => 0) 0 (-1))), (h4, oC 3 [.ref g16, .int 0]), (h5, oC 11 [.ref h1, .ref h6, .ref h8, .ref g17, .ref g18]), (h6, oC 3 [.ref h7, .int 0]), (h7, aI Y 6 (fun _ => 0)), (h8, oC 3 [.ref g19, .int 0])]) (va_A [(h0, oC 12 [.ref h1, .ref g0, .ref g1, .ref g2, .ref h5, .ref g3, .ref g4, .ref g5, .ref g6, .long 0]), (h1, oC 2 [.ref h2, .ref g7, .ref g8, .ref g9, .ref g10, .ref h4, .ref g11, .ref g12, .ref g13, .ref g14, .ref g15, .int 0]), (h2, oC 3 [.ref h3, .int 1]), (h3, aI Y 6 (upd (fun _ => 0) 0 (-1))), (h4, oC 3 [.ref g16, .int 0]), (h5, oC 11 [.ref h1, .ref h6, .ref h8, .ref g17, .ref g18]), (h6, oC 3 [.ref h7, .int 0]), (h7, aI Y 6 (fun _ => 0)), (h8, oC 3 [.ref g19, .int 0])] sz)) 1 6 (va_A [(h0, oC 12 [.ref h1, .ref g0, .ref g1, .ref g2, .ref h5, .ref g3, .ref g4, .ref g5, .ref g6, .long 0]), (h1, oC 2 [.ref h2, .ref g7, .ref g8, .ref g9, .ref g10, .ref h4, .ref g11, .ref g12, .ref g13, .ref g14, .ref g15, .int 0]), (h2, oC 3 [.ref h3, .int 1]), (h3, aI Y 6 (upd (fun _ => 0) 0 (-1))), (h4, oC 3 [.ref g16, .int 0]), (h5, oC 11 [.ref h1, .ref h6, .ref h8, .ref g17, .ref g18]), (h6, oC 3 [.ref h7, .int 0]), (h7, aI Y 6 (fun _ => 0)), (h8, oC 3 [.ref g19, .int 0])] sz) :=
  xmet_of (by decide +kernel) (Nat.le_of_ble_eq_true rfl) (fun p e s m args below meth c B EB hout hsz => by
    have B : VB p s m args meth c D Y (va_A [(h0, oC 12 [.ref h1, .ref g0, .ref g1, .ref g2, .ref h5, .ref g3, .ref g4, .ref g5, .ref g6, .long 0]), (h1, oC 2 [.ref h2, .ref g7, .ref g8, .ref g9, .ref g10, .ref h4, .ref g11, .ref g12, .ref g13, .ref g14, .ref g15, .int 0]), (h2, oC 3 [.ref h3, .int 1]), (h3, aI Y 6 (upd (fun _ => 0) 0 (-1))), (h4, oC 3 [.ref g16, .int 0]), (h5, oC 11 [.ref h1, .ref h6, .ref h8, .ref g17, .ref g18]), (h6, oC 3 [.ref h7, .int 0]), (h7, aI Y 6 (fun _ => 0)), (h8, oC 3 [.ref g19, .int 0])] sz) cX11_continuations 2 RX11 (some .int) := B
    refine V_aload_n 0 B dX11_continuations_0 0 rfl ?_
    refine V_iload_n 1 B dX11_continuations_1 1 rfl ?_
    refine V_xvv 2 B EB (st := []) (As := [.int p0]) (fun sz => mX11_needMode_1 l hl9 D Y (h0) (h1) (g0) (g1) (g2) (h5) (g3) (g4) (g5) (g6) (h2) (g7) (g8) (g9) (g10) (h4) (g11) (g12) (g13) (g14) (g15) (h3) (p0) sz) glV_RX11_180 ⟨rfl, rfl⟩ ⟨(Nat.le_of_ble_eq_true rfl), (Nat.le_of_ble_eq_true rfl)⟩ ⟨(Nat.le_of_ble_eq_true rfl), (Nat.le_of_ble_eq_true rfl)⟩ [0, 0, 0] rfl 12 0 rfl rfl rfl rfl (Nat.le_of_ble_eq_true rfl) rfl (fun _ _ => rfl) (fun _ _ _ => rfl) dX11_continuations_2 (fun E u0 w0 => ?_) (fun u0 w0 => ?_)
    ·
      rcases w0 with ⟨rfl, k1⟩ | ⟨rfl, k2, k3⟩
      ·
        exact VX_out 2 B hout () (Or.inl ⟨rfl, k1⟩) rfl (Nat.le_of_ble_eq_true rfl) (Nat.le_of_ble_eq_true rfl)
      ·
        exact VX_out 2 B hout () (Or.inr ⟨rfl, k2, k3⟩) rfl (Nat.le_of_ble_eq_true rfl) (Nat.le_of_ble_eq_true rfl)
    ·
      have k4 := w0
      refine V_ws [(h0, oC 12 [.ref h1, .ref g0, .ref g1, .ref g2, .ref h5, .ref g3, .ref g4, .ref g5, .ref g6, .long 0]), (h1, oC 2 [.ref h2, .ref g7, .ref g8, .ref g9, .ref g10, .ref h4, .ref g11, .ref g12, .ref g13, .ref g14, .ref g15, .int 0]), (h2, oC 3 [.ref h3, .int 1]), (h3, aI Y 6 (upd (fun _ => 0) 0 (-1))), (h4, oC 3 [.ref g16, .int 0]), (h5, oC 11 [.ref h1, .ref h6, .ref h8, .ref g17, .ref g18]), (h6, oC 3 [.ref h7, .int 0]), (h7, aI Y 6 (fun _ => 0)), (h8, oC 3 [.ref g19, .int 0])] rfl ?_
      obtain rfl : p0 = 0 := k4
      refine V_aload_n 5 B dX11_continuations_5 0 rfl ?_
      refine V_get 6 B gf_RX11_30 0 rfl rfl dX11_continuations_6 ?_
      refine V_iload_n 9 B dX11_continuations_9 1 rfl ?_
      refine V_cvv 10 B (st := []) (As := [.int 0]) (fun sz => mX10_gather_1 l D Y (h5) (h1) (h2) (g7) (g8) (g9) (g10) (h4) (g11) (g12) (g13) (g14) (g15) (h3) (g16) (h6) (h8) (g17) (g18) (h7) (g19) sz) glV_RX11_270 ⟨rfl, rfl⟩ ⟨(Nat.le_of_ble_eq_true rfl), (Nat.le_of_ble_eq_true rfl)⟩ ⟨(Nat.le_of_ble_eq_true rfl), (Nat.le_of_ble_eq_true rfl)⟩ [1, 0, 0, 0, 0, 0, 0, 0] rfl 11 4 rfl rfl rfl rfl (Nat.le_of_ble_eq_true rfl) rfl (fun _ _ => rfl) dX11_continuations_10 (fun u5 w5 => ?_)
      refine V_ws [(h0, oC 12 [.ref h1, .ref g0, .ref g1, .ref g2, .ref h5, .ref g3, .ref g4, .ref g5, .ref g6, .long 0]), (h1, oC 2 [.ref h2, .ref g7, .ref g8, .ref g9, .ref g10, .ref h4, .ref g11, .ref g12, .ref g13, .ref g14, .ref g15, .int 0]), (h2, oC 3 [.ref h3, .int 1]), (h3, aI Y 6 (upd (fun _ => 0) 0 (-1))), (h4, oC 3 [.ref g16, .int 0]), (h5, oC 11 [.ref h1, .ref h6, .ref h8, .ref g17, .ref g18]), (h6, oC 3 [.ref h7, .int 6]), (h7, aI Y 6 (upd (upd (upd (upd (upd (upd (upd (fun _ => 0) 0 (-1)) 1 (-1)) 2 (-1)) 3 (-1)) 4 (-1)) 5 (-1)) 0 0)), (h8, oC 3 [.ref g19, .int 0])] rfl ?_
      refine V_aload_n 13 B dX11_continuations_13 0 rfl ?_
      refine V_get 14 B gf_RX11_30 0 rfl rfl dX11_continuations_14 ?_
      refine V_aload_n 17 B dX11_continuations_17 0 rfl ?_
      refine V_get 18 B gf_RX11_68 0 rfl rfl dX11_continuations_18 ?_
      refine V_cvi 21 B (st := []) (As := [.long 0]) (fun sz => mX10_countLonger_1 l D Y (h5) (h1) (h6) (h8) (g17) (g18) (g19) sz) glV_RX11_273 ⟨rfl, rfl⟩ ⟨(Nat.le_of_ble_eq_true rfl), (Nat.le_of_ble_eq_true rfl)⟩ ⟨(Nat.le_of_ble_eq_true rfl), (Nat.le_of_ble_eq_true rfl)⟩ [5, 2] rfl 11 0 rfl rfl rfl rfl (Nat.le_of_ble_eq_true rfl) rfl (fun _ _ _ => rfl) dX11_continuations_21 (fun r6 u6 w6 => ?_)
      obtain rfl := w6
      refine V_ws [(h0, oC 12 [.ref h1, .ref g0, .ref g1, .ref g2, .ref h5, .ref g3, .ref g4, .ref g5, .ref g6, .long 0]), (h1, oC 2 [.ref h2, .ref g7, .ref g8, .ref g9, .ref g10, .ref h4, .ref g11, .ref g12, .ref g13, .ref g14, .ref g15, .int 0]), (h2, oC 3 [.ref h3, .int 1]), (h3, aI Y 6 (upd (fun _ => 0) 0 (-1))), (h4, oC 3 [.ref g16, .int 0]), (h5, oC 11 [.ref h1, .ref h6, .ref h8, .ref g17, .ref g18]), (h6, oC 3 [.ref h7, .int 6]), (h7, aI Y 6 (upd (upd (upd (upd (upd (upd (upd (fun _ => 0) 0 (-1)) 1 (-1)) 2 (-1)) 3 (-1)) 4 (-1)) 5 (-1)) 0 0)), (h8, oC 3 [.ref g19, .int 0])] rfl ?_
      refine V_xret ?_
      exact V_iret 24 B dX11_continuations_24 () ⟨rfl, rfl⟩ rfl)
theorem dX11_visible_0 : decode cX11_visible 0 = .ok (.aload_n 0, 1) := by decide +kernel
theorem dX11_visible_1 : decode cX11_visible 1 = .ok (.iload_n 1, 1) := by decide +kernel
theorem dX11_visible_2 : decode cX11_visible 2 = .ok (.invokevirtual 180, 3) := by decide +kernel
theorem dX11_visible_5 : decode cX11_visible 5 = .ok (.aload_n 0, 1) := by decide +kernel
theorem dX11_visible_6 : decode cX11_visible 6 = .ok (.getfield 30, 3) := by decide +kernel
theorem dX11_visible_9 : decode cX11_visible 9 = .ok (.iload_n 1, 1) := by decide +kernel
theorem dX11_visible_10 : decode cX11_visible 10 = .ok (.invokevirtual 270, 3) := by decide +kernel
theorem dX11_visible_13 : decode cX11_visible 13 = .ok (.aload_n 0, 1) := by decide +kernel
theorem dX11_visible_14 : decode cX11_visible 14 = .ok (.getfield 30, 3) := by decide +kernel
theorem dX11_visible_17 : decode cX11_visible 17 = .ok (.getfield 276, 3) := by decide +kernel
theorem gf_RX11_276 : GF RX11 276 11 2 := ⟨RX10, TX10, 5, rfl, inw_X10, Nat.le_of_ble_eq_true rfl, (mT2 3 rfl rfl)⟩
theorem dX11_visible_20 : decode cX11_visible 20 = .ok (.invokevirtual 95, 3) := by decide +kernel
theorem dX11_visible_23 : decode cX11_visible 23 = .ok (.ireturn, 1) := by decide +kernel
set_option maxRecDepth 100000 in
set_option maxHeartbeats 4000000 in
theorem mX11_visible_1 (l : Launch) (hl9 : l.stackTraces = false) (D : va_G) (Y : Nat → ClassId) (h0 : Nat) (h1 : Nat) (g0 : Nat) (g1 : Nat) (g2 : Nat) (h5 : Nat) (g3 : Nat) (g4 : Nat) (g5 : Nat) (g6 : Nat) (h2 : Nat) (g7 : Nat) (g8 : Nat) (g9 : Nat) (g10 : Nat) (h4 : Nat) (g11 : Nat) (g12 : Nat) (g13 : Nat) (g14 : Nat) (g15 : Nat) (h3 : Nat) (g16 : Nat) (h6 : Nat) (h8 : Nat) (g17 : Nat) (g18 : Nat) (h7 : Nat) (g19 : Nat) (p0 : Int32) (sz : Nat) : vx_Met l yX11_visible (WSm yX11_visible cX11_visible 2 (some .int)) (mkR 7 1 6 103) (PreX D Y [.ref h0, .int p0] [(h0, oC 12 [.ref h1, .ref g0, .ref g1, .ref g2, .ref h5, .ref g3, .ref g4, .ref g5, .ref g6, .long 0]), (h1, oC 2 [.ref h2, .ref g7, .ref g8, .ref g9, .ref g10, .ref h4, .ref g11, .ref g12, .ref g13, .ref g14, .ref g15, .int 0]), (h2, oC 3 [.ref h3, .int 1]), (h3, aI Y 6 (upd (fun _ => 0) 0 (-1))), (h4, oC 3 [.ref g16, .int 0]), (h5, oC 11 [.ref h1, .ref h6, .ref h8, .ref g17, .ref g18]), (h6, oC 3 [.ref h7, .int 0]), (h7, aI Y 6 (fun _ => 0)), (h8, oC 3 [.ref g19, .int 0])] sz) (QI D (fun (r : Int32) (u : Unit) => p0 = 0 ∧ 0 = r) (fun (_ : Unit) => [(h0, oC 12 [.ref h1, .ref g0, .ref g1, .ref g2, .ref h5, .ref g3, .ref g4, .ref g5, .ref g6, .long 0]), (h1, oC 2 [.ref h2, .ref g7, .ref g8, .ref g9, .ref g10, .ref h4, .ref g11, .ref g12, .ref g13, .ref g14, .ref g15, .int 0]), (h2, oC 3 [.ref h3, .int 1]), (h3, aI Y 6 (upd (fun _ => 0) 0 (-1))), (h4, oC 3 [.ref g16, .int 0]), (h5, oC 11 [.ref h1, .ref h6, .ref h8, .ref g17, .ref g18]), (h6, oC 3 [.ref h7, .int 6]), (h7, aI Y 6 (upd (upd (upd (upd (upd (upd (upd (fun _ => 0) 0 (-1)) 1 (-1)) 2 (-1)) 3 (-1)) 4 (-1)) 5 (-1)) 0 0)), (h8, oC 3 [.ref g19, .int 0])]) (va_A [(h0, oC 12 [.ref h1, .ref g0, .ref g1, .ref g2, .ref h5, .ref g3, .ref g4, .ref g5, .ref g6, .long 0]), (h1, oC 2 [.ref h2, .ref g7, .ref g8, .ref g9, .ref g10, .ref h4, .ref g11, .ref g12, .ref g13, .ref g14, .ref g15, .int 0]), (h2, oC 3 [.ref h3, .int 1]), (h3, aI Y 6 (upd (fun _ => 0) 0 (-1))), (h4, oC 3 [.ref g16, .int 0]), (h5, oC 11 [.ref h1, .ref h6, .ref h8, .ref g17, .ref g18]), (h6, oC 3 [.ref h7, .int 0]), (h7, aI Y 6 (fun _ => 0)), (h8, oC 3 [.ref g19, .int 0])] sz)) (XW D (fun (E : String) (u : Unit) => (E = "java/lang/IndexOutOfBoundsException" ∧ p0 < 0) ∨ (E = "java/lang/IndexOutOfBoundsException" ∧ ¬ p0 < 0 ∧ 1 ≤ p0)) (fun (_ : Unit) => [(h0, oC 12 [.ref h1, .ref g0, .ref g1, .ref g2, .ref h5, .ref g3, .ref g4, .ref g5, .ref g6, .long 0]), (h1, oC 2 [.ref h2, .ref g7, .ref g8, .ref g9, .ref g10, .ref h4, .ref g11, .ref g12, .ref g13, .ref g14, .ref g15, .int 0]), (h2, oC 3 [.ref h3, .int 1]), (h3, aI Y 6 (upd (fun _ => 0) 0 (-1))), (h4, oC 3 [.ref g16, .int 0]), (h5, oC 11 [.ref h1, .ref h6, .ref h8, .ref g17, .ref g18]), (h6, oC 3 [.ref h7, .int 0]), (h7, aI Y 6 (fun _ => 0)), (h8, oC 3 [.ref g19, .int 0])]) (va_A [(h0, oC 12 [.ref h1, .ref g0, .ref g1, .ref g2, .ref h5, .ref g3, .ref g4, .ref g5, .ref g6, .long 0]), (h1, oC 2 [.ref h2, .ref g7, .ref g8, .ref g9, .ref g10, .ref h4, .ref g11, .ref g12, .ref g13, .ref g14, .ref g15, .int 0]), (h2, oC 3 [.ref h3, .int 1]), (h3, aI Y 6 (upd (fun _ => 0) 0 (-1))), (h4, oC 3 [.ref g16, .int 0]), (h5, oC 11 [.ref h1, .ref h6, .ref h8, .ref g17, .ref g18]), (h6, oC 3 [.ref h7, .int 0]), (h7, aI Y 6 (fun _ => 0)), (h8, oC 3 [.ref g19, .int 0])] sz)) 1 6 (va_A [(h0, oC 12 [.ref h1, .ref g0, .ref g1, .ref g2, .ref h5, .ref g3, .ref g4, .ref g5, .ref g6, .long 0]), (h1, oC 2 [.ref h2, .ref g7, .ref g8, .ref g9, .ref g10, .ref h4, .ref g11, .ref g12, .ref g13, .ref g14, .ref g15, .int 0]), (h2, oC 3 [.ref h3, .int 1]), (h3, aI Y 6 (upd (fun _ => 0) 0 (-1))), (h4, oC 3 [.ref g16, .int 0]), (h5, oC 11 [.ref h1, .ref h6, .ref h8, .ref g17, .ref g18]), (h6, oC 3 [.ref h7, .int 0]), (h7, aI Y 6 (fun _ => 0)), (h8, oC 3 [.ref g19, .int 0])] sz) :=
  xmet_of (by decide +kernel) (Nat.le_of_ble_eq_true rfl) (fun p e s m args below meth c B EB hout hsz => by
    have B : VB p s m args meth c D Y (va_A [(h0, oC 12 [.ref h1, .ref g0, .ref g1, .ref g2, .ref h5, .ref g3, .ref g4, .ref g5, .ref g6, .long 0]), (h1, oC 2 [.ref h2, .ref g7, .ref g8, .ref g9, .ref g10, .ref h4, .ref g11, .ref g12, .ref g13, .ref g14, .ref g15, .int 0]), (h2, oC 3 [.ref h3, .int 1]), (h3, aI Y 6 (upd (fun _ => 0) 0 (-1))), (h4, oC 3 [.ref g16, .int 0]), (h5, oC 11 [.ref h1, .ref h6, .ref h8, .ref g17, .ref g18]), (h6, oC 3 [.ref h7, .int 0]), (h7, aI Y 6 (fun _ => 0)), (h8, oC 3 [.ref g19, .int 0])] sz) cX11_visible 2 RX11 (some .int) := B
    refine V_aload_n 0 B dX11_visible_0 0 rfl ?_
    refine V_iload_n 1 B dX11_visible_1 1 rfl ?_
    refine V_xvv 2 B EB (st := []) (As := [.int p0]) (fun sz => mX11_needMode_1 l hl9 D Y (h0) (h1) (g0) (g1) (g2) (h5) (g3) (g4) (g5) (g6) (h2) (g7) (g8) (g9) (g10) (h4) (g11) (g12) (g13) (g14) (g15) (h3) (p0) sz) glV_RX11_180 ⟨rfl, rfl⟩ ⟨(Nat.le_of_ble_eq_true rfl), (Nat.le_of_ble_eq_true rfl)⟩ ⟨(Nat.le_of_ble_eq_true rfl), (Nat.le_of_ble_eq_true rfl)⟩ [0, 0, 0] rfl 12 0 rfl rfl rfl rfl (Nat.le_of_ble_eq_true rfl) rfl (fun _ _ => rfl) (fun _ _ _ => rfl) dX11_visible_2 (fun E u0 w0 => ?_) (fun u0 w0 => ?_)
    ·
      rcases w0 with ⟨rfl, k1⟩ | ⟨rfl, k2, k3⟩
      ·
        exact VX_out 2 B hout () (Or.inl ⟨rfl, k1⟩) rfl (Nat.le_of_ble_eq_true rfl) (Nat.le_of_ble_eq_true rfl)
      ·
        exact VX_out 2 B hout () (Or.inr ⟨rfl, k2, k3⟩) rfl (Nat.le_of_ble_eq_true rfl) (Nat.le_of_ble_eq_true rfl)
    ·
      have k4 := w0
      refine V_ws [(h0, oC 12 [.ref h1, .ref g0, .ref g1, .ref g2, .ref h5, .ref g3, .ref g4, .ref g5, .ref g6, .long 0]), (h1, oC 2 [.ref h2, .ref g7, .ref g8, .ref g9, .ref g10, .ref h4, .ref g11, .ref g12, .ref g13, .ref g14, .ref g15, .int 0]), (h2, oC 3 [.ref h3, .int 1]), (h3, aI Y 6 (upd (fun _ => 0) 0 (-1))), (h4, oC 3 [.ref g16, .int 0]), (h5, oC 11 [.ref h1, .ref h6, .ref h8, .ref g17, .ref g18]), (h6, oC 3 [.ref h7, .int 0]), (h7, aI Y 6 (fun _ => 0)), (h8, oC 3 [.ref g19, .int 0])] rfl ?_
      obtain rfl : p0 = 0 := k4
      refine V_aload_n 5 B dX11_visible_5 0 rfl ?_
      refine V_get 6 B gf_RX11_30 0 rfl rfl dX11_visible_6 ?_
      refine V_iload_n 9 B dX11_visible_9 1 rfl ?_
      refine V_cvv 10 B (st := []) (As := [.int 0]) (fun sz => mX10_gather_1 l D Y (h5) (h1) (h2) (g7) (g8) (g9) (g10) (h4) (g11) (g12) (g13) (g14) (g15) (h3) (g16) (h6) (h8) (g17) (g18) (h7) (g19) sz) glV_RX11_270 ⟨rfl, rfl⟩ ⟨(Nat.le_of_ble_eq_true rfl), (Nat.le_of_ble_eq_true rfl)⟩ ⟨(Nat.le_of_ble_eq_true rfl), (Nat.le_of_ble_eq_true rfl)⟩ [1, 0, 0, 0, 0, 0, 0, 0] rfl 11 4 rfl rfl rfl rfl (Nat.le_of_ble_eq_true rfl) rfl (fun _ _ => rfl) dX11_visible_10 (fun u5 w5 => ?_)
      refine V_ws [(h0, oC 12 [.ref h1, .ref g0, .ref g1, .ref g2, .ref h5, .ref g3, .ref g4, .ref g5, .ref g6, .long 0]), (h1, oC 2 [.ref h2, .ref g7, .ref g8, .ref g9, .ref g10, .ref h4, .ref g11, .ref g12, .ref g13, .ref g14, .ref g15, .int 0]), (h2, oC 3 [.ref h3, .int 1]), (h3, aI Y 6 (upd (fun _ => 0) 0 (-1))), (h4, oC 3 [.ref g16, .int 0]), (h5, oC 11 [.ref h1, .ref h6, .ref h8, .ref g17, .ref g18]), (h6, oC 3 [.ref h7, .int 6]), (h7, aI Y 6 (upd (upd (upd (upd (upd (upd (upd (fun _ => 0) 0 (-1)) 1 (-1)) 2 (-1)) 3 (-1)) 4 (-1)) 5 (-1)) 0 0)), (h8, oC 3 [.ref g19, .int 0])] rfl ?_
      refine V_aload_n 13 B dX11_visible_13 0 rfl ?_
      refine V_get 14 B gf_RX11_30 0 rfl rfl dX11_visible_14 ?_
      refine V_get 17 B gf_RX11_276 5 rfl rfl dX11_visible_17 ?_
      refine V_cvi 20 B (st := []) (As := []) (fun sz => mX1_size_1 l D Y (h8) (g19) sz) glV_RX11_95 ⟨rfl, rfl⟩ ⟨(Nat.le_of_ble_eq_true rfl), (Nat.le_of_ble_eq_true rfl)⟩ ⟨(Nat.le_of_ble_eq_true rfl), (Nat.le_of_ble_eq_true rfl)⟩ [8] rfl 3 0 rfl rfl rfl rfl (Nat.le_of_ble_eq_true rfl) rfl (fun _ _ _ => rfl) dX11_visible_20 (fun r6 u6 w6 => ?_)
      obtain rfl := w6
      refine V_ws [(h0, oC 12 [.ref h1, .ref g0, .ref g1, .ref g2, .ref h5, .ref g3, .ref g4, .ref g5, .ref g6, .long 0]), (h1, oC 2 [.ref h2, .ref g7, .ref g8, .ref g9, .ref g10, .ref h4, .ref g11, .ref g12, .ref g13, .ref g14, .ref g15, .int 0]), (h2, oC 3 [.ref h3, .int 1]), (h3, aI Y 6 (upd (fun _ => 0) 0 (-1))), (h4, oC 3 [.ref g16, .int 0]), (h5, oC 11 [.ref h1, .ref h6, .ref h8, .ref g17, .ref g18]), (h6, oC 3 [.ref h7, .int 6]), (h7, aI Y 6 (upd (upd (upd (upd (upd (upd (upd (fun _ => 0) 0 (-1)) 1 (-1)) 2 (-1)) 3 (-1)) 4 (-1)) 5 (-1)) 0 0)), (h8, oC 3 [.ref g19, .int 0])] rfl ?_
      refine V_xret ?_
      exact V_iret 23 B dX11_visible_23 () ⟨rfl, rfl⟩ rfl)
theorem dX10_sortSeen_0 : decode cX10_sortSeen 0 = .ok (.iconst 1, 1) := by decide +kernel
theorem dX10_sortSeen_1 : decode cX10_sortSeen 1 = .ok (.istore_n 1, 1) := by decide +kernel
theorem dX10_sortSeen_2 : decode cX10_sortSeen 2 = .ok (.iload_n 1, 1) := by decide +kernel
theorem dX10_sortSeen_3 : decode cX10_sortSeen 3 = .ok (.aload_n 0, 1) := by decide +kernel
theorem dX10_sortSeen_4 : decode cX10_sortSeen 4 = .ok (.getfield 24, 3) := by decide +kernel
theorem dX10_sortSeen_7 : decode cX10_sortSeen 7 = .ok (.invokevirtual 62, 3) := by decide +kernel
theorem dX10_sortSeen_10 : decode cX10_sortSeen 10 = .ok (.if_icmp .ge 100, 3) := by decide +kernel
theorem dX10_sortSeen_110 : decode cX10_sortSeen 110 = .ok (.return_, 1) := by decide +kernel
set_option maxRecDepth 100000 in
set_option maxHeartbeats 4000000 in
theorem mX10_sortSeen_1 (l : Launch) (D : va_G) (Y : Nat → ClassId) (h0 : Nat) (g0 : Nat) (g1 : Nat) (h1 : Nat) (g2 : Nat) (g3 : Nat) (g4 : Nat) (sz : Nat) : Met l yX10_sortSeen (WSm yX10_sortSeen cX10_sortSeen 6 none) (mkR 1 0 0 20) (PreC D Y [.ref h0] [(h0, oC 11 [.ref g0, .ref g1, .ref h1, .ref g2, .ref g3]), (h1, oC 3 [.ref g4, .int 0])] sz) (QV D (fun (u : Unit) => True) (fun (_ : Unit) => [(h0, oC 11 [.ref g0, .ref g1, .ref h1, .ref g2, .ref g3]), (h1, oC 3 [.ref g4, .int 0])]) (va_A [(h0, oC 11 [.ref g0, .ref g1, .ref h1, .ref g2, .ref g3]), (h1, oC 3 [.ref g4, .int 0])] sz)) 0 0 (va_A [(h0, oC 11 [.ref g0, .ref g1, .ref h1, .ref g2, .ref g3]), (h1, oC 3 [.ref g4, .int 0])] sz) :=
  met_of (by decide +kernel) (Nat.le_of_ble_eq_true rfl) (fun p e s m args below meth c B hin hsz => by
    have B : VB p s m args meth c D Y (va_A [(h0, oC 11 [.ref g0, .ref g1, .ref h1, .ref g2, .ref g3]), (h1, oC 3 [.ref g4, .int 0])] sz) cX10_sortSeen 6 RX10 none := B
    refine V_iconst 0 B (v := 1) dX10_sortSeen_0 (by decide +kernel) ?_
    refine V_istore_n 1 B (lv2 := [(1, .int 1), (0, .ref h0)]) dX10_sortSeen_1 (by decide) rfl ?_
    refine V_iload_n 2 B dX10_sortSeen_2 0 rfl ?_
    refine V_aload_n 3 B dX10_sortSeen_3 1 rfl ?_
    refine V_get 4 B gf_RX10_24 0 rfl rfl dX10_sortSeen_4 ?_
    refine V_cvi 7 B (st := [.int 1]) (As := []) (fun sz => mX1_size_1 l D Y (h1) (g4) sz) glV_RX10_62 ⟨rfl, rfl⟩ ⟨(Nat.le_of_ble_eq_true rfl), (Nat.le_of_ble_eq_true rfl)⟩ ⟨(Nat.le_of_ble_eq_true rfl), (Nat.le_of_ble_eq_true rfl)⟩ [1] rfl 3 0 rfl rfl rfl rfl (Nat.le_of_ble_eq_true rfl) rfl (fun _ _ _ => rfl) dX10_sortSeen_7 (fun r0 u0 w0 => ?_)
    obtain rfl := w0
    refine V_ws [(h0, oC 11 [.ref g0, .ref g1, .ref h1, .ref g2, .ref g3]), (h1, oC 3 [.ref g4, .int 0])] rfl ?_
    refine V_icmp_ge_t 10 B 110 dX10_sortSeen_10 (by decide) (by decide +kernel) ?_
    exact V_vret 110 B dX10_sortSeen_110 () trivial rfl)
theorem dX1_at_30 : decode cX1_at 30 = .ok (.iconst (-1), 1) := by decide +kernel
set_option maxRecDepth 100000 in
set_option maxHeartbeats 4000000 in
theorem mX1_at_2 (l : Launch) (D : va_G) (Y : Nat → ClassId) (h0 : Nat) (g0 : Nat) (p0 : Int32) (sz : Nat) : Met l yX1_at (WSm yX1_at cX1_at 2 (some .int)) (mkR 0 0 0 0) (PreC D Y [.ref h0, .int p0] [(h0, oC 3 [.ref g0, .int 0])] sz) (QI D (fun (r : Int32) (u : Unit) => (p0 < 0 ∧ (-1) = r) ∨ (¬ p0 < 0 ∧ (-1) = r)) (fun (_ : Unit) => [(h0, oC 3 [.ref g0, .int 0])]) (va_A [(h0, oC 3 [.ref g0, .int 0])] sz)) 0 0 (va_A [(h0, oC 3 [.ref g0, .int 0])] sz) :=
  met_of (by decide +kernel) (Nat.le_of_ble_eq_true rfl) (fun p e s m args below meth c B hin hsz => by
    have B : VB p s m args meth c D Y (va_A [(h0, oC 3 [.ref g0, .int 0])] sz) cX1_at 2 RX1 (some .int) := B
    refine V_iload_n 0 B dX1_at_0 1 rfl ?_
    refine V_if_lt 1 B 30 dX1_at_1 (by decide) (fun k0 => ?_) (fun k0 => ?_)
    ·
      refine V_iconst 30 B (v := (-1)) dX1_at_30 (by decide +kernel) ?_
      exact V_iret 31 B dX1_at_31 () (Or.inl ⟨k0, rfl⟩) rfl
    ·
      refine V_iload_n 4 B dX1_at_4 1 rfl ?_
      refine V_aload_n 5 B dX1_at_5 0 rfl ?_
      refine V_get 6 B gf_RX1_21 0 rfl rfl dX1_at_6 ?_
      refine V_icmp_ge_t 9 B 30 dX1_at_9 (by decide) (q_ge (b_nlt k0 (n := 0) (by decide +kernel)) (by decide +kernel)) ?_
      refine V_iconst 30 B (v := (-1)) dX1_at_30 (by decide +kernel) ?_
      exact V_iret 31 B dX1_at_31 () (Or.inr ⟨k0, rfl⟩) rfl)
theorem dX11_visibleAt_0 : decode cX11_visibleAt 0 = .ok (.aload_n 0, 1) := by decide +kernel
theorem dX11_visibleAt_1 : decode cX11_visibleAt 1 = .ok (.iload_n 1, 1) := by decide +kernel
theorem dX11_visibleAt_2 : decode cX11_visibleAt 2 = .ok (.invokevirtual 180, 3) := by decide +kernel
theorem dX11_visibleAt_5 : decode cX11_visibleAt 5 = .ok (.aload_n 0, 1) := by decide +kernel
theorem dX11_visibleAt_6 : decode cX11_visibleAt 6 = .ok (.getfield 30, 3) := by decide +kernel
theorem dX11_visibleAt_9 : decode cX11_visibleAt 9 = .ok (.iload_n 1, 1) := by decide +kernel
theorem dX11_visibleAt_10 : decode cX11_visibleAt 10 = .ok (.invokevirtual 270, 3) := by decide +kernel
theorem dX11_visibleAt_13 : decode cX11_visibleAt 13 = .ok (.aload_n 0, 1) := by decide +kernel
theorem dX11_visibleAt_14 : decode cX11_visibleAt 14 = .ok (.getfield 30, 3) := by decide +kernel
theorem dX11_visibleAt_17 : decode cX11_visibleAt 17 = .ok (.invokevirtual 279, 3) := by decide +kernel
theorem glV_RX11_279 : GLV RX11 279 yX10_sortSeen RX10 cX10_sortSeen 6 none 0 := ⟨⟨(mT6 88 rfl rfl), (mT6 89 rfl rfl), (mT6 90 rfl rfl), (mT1 8 rfl rfl), (mT6 91 rfl rfl)⟩, by decide +kernel⟩
theorem dX11_visibleAt_20 : decode cX11_visibleAt 20 = .ok (.aload_n 0, 1) := by decide +kernel
theorem dX11_visibleAt_21 : decode cX11_visibleAt 21 = .ok (.getfield 30, 3) := by decide +kernel
theorem dX11_visibleAt_24 : decode cX11_visibleAt 24 = .ok (.getfield 276, 3) := by decide +kernel
theorem dX11_visibleAt_27 : decode cX11_visibleAt 27 = .ok (.iload_n 2, 1) := by decide +kernel
theorem dX11_visibleAt_28 : decode cX11_visibleAt 28 = .ok (.invokevirtual 187, 3) := by decide +kernel
theorem dX11_visibleAt_31 : decode cX11_visibleAt 31 = .ok (.ireturn, 1) := by decide +kernel
set_option maxRecDepth 100000 in
set_option maxHeartbeats 4000000 in
theorem mX11_visibleAt_1 (l : Launch) (hl9 : l.stackTraces = false) (D : va_G) (Y : Nat → ClassId) (h0 : Nat) (h1 : Nat) (g0 : Nat) (g1 : Nat) (g2 : Nat) (h5 : Nat) (g3 : Nat) (g4 : Nat) (g5 : Nat) (g6 : Nat) (h2 : Nat) (g7 : Nat) (g8 : Nat) (g9 : Nat) (g10 : Nat) (h4 : Nat) (g11 : Nat) (g12 : Nat) (g13 : Nat) (g14 : Nat) (g15 : Nat) (h3 : Nat) (g16 : Nat) (h6 : Nat) (h8 : Nat) (g17 : Nat) (g18 : Nat) (h7 : Nat) (g19 : Nat) (p0 : Int32) (p1 : Int32) (sz : Nat) : vx_Met l yX11_visibleAt (WSm yX11_visibleAt cX11_visibleAt 3 (some .int)) (mkR 7 1 6 103) (PreX D Y [.ref h0, .int p0, .int p1] [(h0, oC 12 [.ref h1, .ref g0, .ref g1, .ref g2, .ref h5, .ref g3, .ref g4, .ref g5, .ref g6, .long 0]), (h1, oC 2 [.ref h2, .ref g7, .ref g8, .ref g9, .ref g10, .ref h4, .ref g11, .ref g12, .ref g13, .ref g14, .ref g15, .int 0]), (h2, oC 3 [.ref h3, .int 1]), (h3, aI Y 6 (upd (fun _ => 0) 0 (-1))), (h4, oC 3 [.ref g16, .int 0]), (h5, oC 11 [.ref h1, .ref h6, .ref h8, .ref g17, .ref g18]), (h6, oC 3 [.ref h7, .int 0]), (h7, aI Y 6 (fun _ => 0)), (h8, oC 3 [.ref g19, .int 0])] sz) (QI D (fun (r : Int32) (u : Unit) => (p0 = 0 ∧ p1 < 0 ∧ (-1) = r) ∨ (p0 = 0 ∧ ¬ p1 < 0 ∧ (-1) = r)) (fun (_ : Unit) => [(h0, oC 12 [.ref h1, .ref g0, .ref g1, .ref g2, .ref h5, .ref g3, .ref g4, .ref g5, .ref g6, .long 0]), (h1, oC 2 [.ref h2, .ref g7, .ref g8, .ref g9, .ref g10, .ref h4, .ref g11, .ref g12, .ref g13, .ref g14, .ref g15, .int 0]), (h2, oC 3 [.ref h3, .int 1]), (h3, aI Y 6 (upd (fun _ => 0) 0 (-1))), (h4, oC 3 [.ref g16, .int 0]), (h5, oC 11 [.ref h1, .ref h6, .ref h8, .ref g17, .ref g18]), (h6, oC 3 [.ref h7, .int 6]), (h7, aI Y 6 (upd (upd (upd (upd (upd (upd (upd (fun _ => 0) 0 (-1)) 1 (-1)) 2 (-1)) 3 (-1)) 4 (-1)) 5 (-1)) 0 0)), (h8, oC 3 [.ref g19, .int 0])]) (va_A [(h0, oC 12 [.ref h1, .ref g0, .ref g1, .ref g2, .ref h5, .ref g3, .ref g4, .ref g5, .ref g6, .long 0]), (h1, oC 2 [.ref h2, .ref g7, .ref g8, .ref g9, .ref g10, .ref h4, .ref g11, .ref g12, .ref g13, .ref g14, .ref g15, .int 0]), (h2, oC 3 [.ref h3, .int 1]), (h3, aI Y 6 (upd (fun _ => 0) 0 (-1))), (h4, oC 3 [.ref g16, .int 0]), (h5, oC 11 [.ref h1, .ref h6, .ref h8, .ref g17, .ref g18]), (h6, oC 3 [.ref h7, .int 0]), (h7, aI Y 6 (fun _ => 0)), (h8, oC 3 [.ref g19, .int 0])] sz)) (XW D (fun (E : String) (u : Unit) => (E = "java/lang/IndexOutOfBoundsException" ∧ p0 < 0) ∨ (E = "java/lang/IndexOutOfBoundsException" ∧ ¬ p0 < 0 ∧ 1 ≤ p0)) (fun (_ : Unit) => [(h0, oC 12 [.ref h1, .ref g0, .ref g1, .ref g2, .ref h5, .ref g3, .ref g4, .ref g5, .ref g6, .long 0]), (h1, oC 2 [.ref h2, .ref g7, .ref g8, .ref g9, .ref g10, .ref h4, .ref g11, .ref g12, .ref g13, .ref g14, .ref g15, .int 0]), (h2, oC 3 [.ref h3, .int 1]), (h3, aI Y 6 (upd (fun _ => 0) 0 (-1))), (h4, oC 3 [.ref g16, .int 0]), (h5, oC 11 [.ref h1, .ref h6, .ref h8, .ref g17, .ref g18]), (h6, oC 3 [.ref h7, .int 0]), (h7, aI Y 6 (fun _ => 0)), (h8, oC 3 [.ref g19, .int 0])]) (va_A [(h0, oC 12 [.ref h1, .ref g0, .ref g1, .ref g2, .ref h5, .ref g3, .ref g4, .ref g5, .ref g6, .long 0]), (h1, oC 2 [.ref h2, .ref g7, .ref g8, .ref g9, .ref g10, .ref h4, .ref g11, .ref g12, .ref g13, .ref g14, .ref g15, .int 0]), (h2, oC 3 [.ref h3, .int 1]), (h3, aI Y 6 (upd (fun _ => 0) 0 (-1))), (h4, oC 3 [.ref g16, .int 0]), (h5, oC 11 [.ref h1, .ref h6, .ref h8, .ref g17, .ref g18]), (h6, oC 3 [.ref h7, .int 0]), (h7, aI Y 6 (fun _ => 0)), (h8, oC 3 [.ref g19, .int 0])] sz)) 1 6 (va_A [(h0, oC 12 [.ref h1, .ref g0, .ref g1, .ref g2, .ref h5, .ref g3, .ref g4, .ref g5, .ref g6, .long 0]), (h1, oC 2 [.ref h2, .ref g7, .ref g8, .ref g9, .ref g10, .ref h4, .ref g11, .ref g12, .ref g13, .ref g14, .ref g15, .int 0]), (h2, oC 3 [.ref h3, .int 1]), (h3, aI Y 6 (upd (fun _ => 0) 0 (-1))), (h4, oC 3 [.ref g16, .int 0]), (h5, oC 11 [.ref h1, .ref h6, .ref h8, .ref g17, .ref g18]), (h6, oC 3 [.ref h7, .int 0]), (h7, aI Y 6 (fun _ => 0)), (h8, oC 3 [.ref g19, .int 0])] sz) :=
  xmet_of (by decide +kernel) (Nat.le_of_ble_eq_true rfl) (fun p e s m args below meth c B EB hout hsz => by
    have B : VB p s m args meth c D Y (va_A [(h0, oC 12 [.ref h1, .ref g0, .ref g1, .ref g2, .ref h5, .ref g3, .ref g4, .ref g5, .ref g6, .long 0]), (h1, oC 2 [.ref h2, .ref g7, .ref g8, .ref g9, .ref g10, .ref h4, .ref g11, .ref g12, .ref g13, .ref g14, .ref g15, .int 0]), (h2, oC 3 [.ref h3, .int 1]), (h3, aI Y 6 (upd (fun _ => 0) 0 (-1))), (h4, oC 3 [.ref g16, .int 0]), (h5, oC 11 [.ref h1, .ref h6, .ref h8, .ref g17, .ref g18]), (h6, oC 3 [.ref h7, .int 0]), (h7, aI Y 6 (fun _ => 0)), (h8, oC 3 [.ref g19, .int 0])] sz) cX11_visibleAt 3 RX11 (some .int) := B
    refine V_aload_n 0 B dX11_visibleAt_0 0 rfl ?_
    refine V_iload_n 1 B dX11_visibleAt_1 1 rfl ?_
    refine V_xvv 2 B EB (st := []) (As := [.int p0]) (fun sz => mX11_needMode_1 l hl9 D Y (h0) (h1) (g0) (g1) (g2) (h5) (g3) (g4) (g5) (g6) (h2) (g7) (g8) (g9) (g10) (h4) (g11) (g12) (g13) (g14) (g15) (h3) (p0) sz) glV_RX11_180 ⟨rfl, rfl⟩ ⟨(Nat.le_of_ble_eq_true rfl), (Nat.le_of_ble_eq_true rfl)⟩ ⟨(Nat.le_of_ble_eq_true rfl), (Nat.le_of_ble_eq_true rfl)⟩ [0, 0, 0] rfl 12 0 rfl rfl rfl rfl (Nat.le_of_ble_eq_true rfl) rfl (fun _ _ => rfl) (fun _ _ _ => rfl) dX11_visibleAt_2 (fun E u0 w0 => ?_) (fun u0 w0 => ?_)
    ·
      rcases w0 with ⟨rfl, k1⟩ | ⟨rfl, k2, k3⟩
      ·
        exact VX_out 2 B hout () (Or.inl ⟨rfl, k1⟩) rfl (Nat.le_of_ble_eq_true rfl) (Nat.le_of_ble_eq_true rfl)
      ·
        exact VX_out 2 B hout () (Or.inr ⟨rfl, k2, k3⟩) rfl (Nat.le_of_ble_eq_true rfl) (Nat.le_of_ble_eq_true rfl)
    ·
      have k4 := w0
      refine V_ws [(h0, oC 12 [.ref h1, .ref g0, .ref g1, .ref g2, .ref h5, .ref g3, .ref g4, .ref g5, .ref g6, .long 0]), (h1, oC 2 [.ref h2, .ref g7, .ref g8, .ref g9, .ref g10, .ref h4, .ref g11, .ref g12, .ref g13, .ref g14, .ref g15, .int 0]), (h2, oC 3 [.ref h3, .int 1]), (h3, aI Y 6 (upd (fun _ => 0) 0 (-1))), (h4, oC 3 [.ref g16, .int 0]), (h5, oC 11 [.ref h1, .ref h6, .ref h8, .ref g17, .ref g18]), (h6, oC 3 [.ref h7, .int 0]), (h7, aI Y 6 (fun _ => 0)), (h8, oC 3 [.ref g19, .int 0])] rfl ?_
      obtain rfl : p0 = 0 := k4
      refine V_aload_n 5 B dX11_visibleAt_5 0 rfl ?_
      refine V_get 6 B gf_RX11_30 0 rfl rfl dX11_visibleAt_6 ?_
      refine V_iload_n 9 B dX11_visibleAt_9 1 rfl ?_
      refine V_cvv 10 B (st := []) (As := [.int 0]) (fun sz => mX10_gather_1 l D Y (h5) (h1) (h2) (g7) (g8) (g9) (g10) (h4) (g11) (g12) (g13) (g14) (g15) (h3) (g16) (h6) (h8) (g17) (g18) (h7) (g19) sz) glV_RX11_270 ⟨rfl, rfl⟩ ⟨(Nat.le_of_ble_eq_true rfl), (Nat.le_of_ble_eq_true rfl)⟩ ⟨(Nat.le_of_ble_eq_true rfl), (Nat.le_of_ble_eq_true rfl)⟩ [1, 0, 0, 0, 0, 0, 0, 0] rfl 11 4 rfl rfl rfl rfl (Nat.le_of_ble_eq_true rfl) rfl (fun _ _ => rfl) dX11_visibleAt_10 (fun u5 w5 => ?_)
      refine V_ws [(h0, oC 12 [.ref h1, .ref g0, .ref g1, .ref g2, .ref h5, .ref g3, .ref g4, .ref g5, .ref g6, .long 0]), (h1, oC 2 [.ref h2, .ref g7, .ref g8, .ref g9, .ref g10, .ref h4, .ref g11, .ref g12, .ref g13, .ref g14, .ref g15, .int 0]), (h2, oC 3 [.ref h3, .int 1]), (h3, aI Y 6 (upd (fun _ => 0) 0 (-1))), (h4, oC 3 [.ref g16, .int 0]), (h5, oC 11 [.ref h1, .ref h6, .ref h8, .ref g17, .ref g18]), (h6, oC 3 [.ref h7, .int 6]), (h7, aI Y 6 (upd (upd (upd (upd (upd (upd (upd (fun _ => 0) 0 (-1)) 1 (-1)) 2 (-1)) 3 (-1)) 4 (-1)) 5 (-1)) 0 0)), (h8, oC 3 [.ref g19, .int 0])] rfl ?_
      refine V_aload_n 13 B dX11_visibleAt_13 0 rfl ?_
      refine V_get 14 B gf_RX11_30 0 rfl rfl dX11_visibleAt_14 ?_
      refine V_cvv 17 B (st := []) (As := []) (fun sz => mX10_sortSeen_1 l D Y (h5) (h1) (h6) (h8) (g17) (g18) (g19) sz) glV_RX11_279 ⟨rfl, rfl⟩ ⟨(Nat.le_of_ble_eq_true rfl), (Nat.le_of_ble_eq_true rfl)⟩ ⟨(Nat.le_of_ble_eq_true rfl), (Nat.le_of_ble_eq_true rfl)⟩ [5, 2] rfl 11 0 rfl rfl rfl rfl (Nat.le_of_ble_eq_true rfl) rfl (fun _ _ => rfl) dX11_visibleAt_17 (fun u6 w6 => ?_)
      refine V_ws [(h0, oC 12 [.ref h1, .ref g0, .ref g1, .ref g2, .ref h5, .ref g3, .ref g4, .ref g5, .ref g6, .long 0]), (h1, oC 2 [.ref h2, .ref g7, .ref g8, .ref g9, .ref g10, .ref h4, .ref g11, .ref g12, .ref g13, .ref g14, .ref g15, .int 0]), (h2, oC 3 [.ref h3, .int 1]), (h3, aI Y 6 (upd (fun _ => 0) 0 (-1))), (h4, oC 3 [.ref g16, .int 0]), (h5, oC 11 [.ref h1, .ref h6, .ref h8, .ref g17, .ref g18]), (h6, oC 3 [.ref h7, .int 6]), (h7, aI Y 6 (upd (upd (upd (upd (upd (upd (upd (fun _ => 0) 0 (-1)) 1 (-1)) 2 (-1)) 3 (-1)) 4 (-1)) 5 (-1)) 0 0)), (h8, oC 3 [.ref g19, .int 0])] rfl ?_
      refine V_aload_n 20 B dX11_visibleAt_20 0 rfl ?_
      refine V_get 21 B gf_RX11_30 0 rfl rfl dX11_visibleAt_21 ?_
      refine V_get 24 B gf_RX11_276 5 rfl rfl dX11_visibleAt_24 ?_
      refine V_iload_n 27 B dX11_visibleAt_27 2 rfl ?_
      refine V_cvi 28 B (st := []) (As := [.int p1]) (fun sz => mX1_at_2 l D Y (h8) (g19) (p1) sz) glV_RX11_187 ⟨rfl, rfl⟩ ⟨(Nat.le_of_ble_eq_true rfl), (Nat.le_of_ble_eq_true rfl)⟩ ⟨(Nat.le_of_ble_eq_true rfl), (Nat.le_of_ble_eq_true rfl)⟩ [8] rfl 3 0 rfl rfl rfl rfl (Nat.le_of_ble_eq_true rfl) rfl (fun _ _ _ => rfl) dX11_visibleAt_28 (fun r7 u7 w7 => ?_)
      rcases w7 with ⟨k8, rfl⟩ | ⟨k9, rfl⟩
      ·
        refine V_ws [(h0, oC 12 [.ref h1, .ref g0, .ref g1, .ref g2, .ref h5, .ref g3, .ref g4, .ref g5, .ref g6, .long 0]), (h1, oC 2 [.ref h2, .ref g7, .ref g8, .ref g9, .ref g10, .ref h4, .ref g11, .ref g12, .ref g13, .ref g14, .ref g15, .int 0]), (h2, oC 3 [.ref h3, .int 1]), (h3, aI Y 6 (upd (fun _ => 0) 0 (-1))), (h4, oC 3 [.ref g16, .int 0]), (h5, oC 11 [.ref h1, .ref h6, .ref h8, .ref g17, .ref g18]), (h6, oC 3 [.ref h7, .int 6]), (h7, aI Y 6 (upd (upd (upd (upd (upd (upd (upd (fun _ => 0) 0 (-1)) 1 (-1)) 2 (-1)) 3 (-1)) 4 (-1)) 5 (-1)) 0 0)), (h8, oC 3 [.ref g19, .int 0])] rfl ?_
        refine V_xret ?_
        exact V_iret 31 B dX11_visibleAt_31 () (Or.inl ⟨rfl, k8, rfl⟩) rfl
      ·
        refine V_ws [(h0, oC 12 [.ref h1, .ref g0, .ref g1, .ref g2, .ref h5, .ref g3, .ref g4, .ref g5, .ref g6, .long 0]), (h1, oC 2 [.ref h2, .ref g7, .ref g8, .ref g9, .ref g10, .ref h4, .ref g11, .ref g12, .ref g13, .ref g14, .ref g15, .int 0]), (h2, oC 3 [.ref h3, .int 1]), (h3, aI Y 6 (upd (fun _ => 0) 0 (-1))), (h4, oC 3 [.ref g16, .int 0]), (h5, oC 11 [.ref h1, .ref h6, .ref h8, .ref g17, .ref g18]), (h6, oC 3 [.ref h7, .int 6]), (h7, aI Y 6 (upd (upd (upd (upd (upd (upd (upd (fun _ => 0) 0 (-1)) 1 (-1)) 2 (-1)) 3 (-1)) 4 (-1)) 5 (-1)) 0 0)), (h8, oC 3 [.ref g19, .int 0])] rfl ?_
        refine V_xret ?_
        exact V_iret 31 B dX11_visibleAt_31 () (Or.inr ⟨rfl, k9, rfl⟩) rfl)
theorem dX11_shadowOf_0 : decode cX11_shadowOf 0 = .ok (.aload_n 0, 1) := by decide +kernel
theorem dX11_shadowOf_1 : decode cX11_shadowOf 1 = .ok (.iload_n 1, 1) := by decide +kernel
theorem dX11_shadowOf_2 : decode cX11_shadowOf 2 = .ok (.invokevirtual 180, 3) := by decide +kernel
theorem dX11_shadowOf_5 : decode cX11_shadowOf 5 = .ok (.aload_n 0, 1) := by decide +kernel
theorem dX11_shadowOf_6 : decode cX11_shadowOf 6 = .ok (.iload_n 2, 1) := by decide +kernel
theorem dX11_shadowOf_7 : decode cX11_shadowOf 7 = .ok (.invokevirtual 167, 3) := by decide +kernel
set_option maxRecDepth 100000 in
set_option maxHeartbeats 4000000 in
theorem mX11_shadowOf_1 (l : Launch) (hl9 : l.stackTraces = false) (D : va_G) (Y : Nat → ClassId) (h0 : Nat) (h1 : Nat) (g0 : Nat) (g1 : Nat) (g2 : Nat) (g3 : Nat) (g4 : Nat) (g5 : Nat) (g6 : Nat) (g7 : Nat) (h2 : Nat) (g8 : Nat) (g9 : Nat) (g10 : Nat) (g11 : Nat) (h3 : Nat) (g12 : Nat) (g13 : Nat) (g14 : Nat) (g15 : Nat) (g16 : Nat) (g17 : Nat) (g18 : Nat) (p0 : Int32) (p1 : Int32) (sz : Nat) : vx_Met l yX11_shadowOf (WSm yX11_shadowOf cX11_shadowOf 3 (some .int)) (mkR 7 2 12 103) (PreX D Y [.ref h0, .int p0, .int p1] [(h0, oC 12 [.ref h1, .ref g0, .ref g1, .ref g2, .ref g3, .ref g4, .ref g5, .ref g6, .ref g7, .long 0]), (h1, oC 2 [.ref h2, .ref g8, .ref g9, .ref g10, .ref g11, .ref h3, .ref g12, .ref g13, .ref g14, .ref g15, .ref g16, .int 0]), (h2, oC 3 [.ref g17, .int 1]), (h3, oC 3 [.ref g18, .int 0])] sz) (QI D (fun (r : Int32) (u : Unit) => False) (fun (_ : Unit) => [(h0, oC 12 [.ref h1, .ref g0, .ref g1, .ref g2, .ref g3, .ref g4, .ref g5, .ref g6, .ref g7, .long 0]), (h1, oC 2 [.ref h2, .ref g8, .ref g9, .ref g10, .ref g11, .ref h3, .ref g12, .ref g13, .ref g14, .ref g15, .ref g16, .int 0]), (h2, oC 3 [.ref g17, .int 1]), (h3, oC 3 [.ref g18, .int 0])]) (va_A [(h0, oC 12 [.ref h1, .ref g0, .ref g1, .ref g2, .ref g3, .ref g4, .ref g5, .ref g6, .ref g7, .long 0]), (h1, oC 2 [.ref h2, .ref g8, .ref g9, .ref g10, .ref g11, .ref h3, .ref g12, .ref g13, .ref g14, .ref g15, .ref g16, .int 0]), (h2, oC 3 [.ref g17, .int 1]), (h3, oC 3 [.ref g18, .int 0])] sz)) (XW D (fun (E : String) (u : Unit) => (E = "java/lang/IndexOutOfBoundsException" ∧ p0 < 0) ∨ (E = "java/lang/IndexOutOfBoundsException" ∧ ¬ p0 < 0 ∧ 1 ≤ p0) ∨ (E = "java/lang/IndexOutOfBoundsException" ∧ p0 = 0 ∧ p1 < 0) ∨ (E = "java/lang/IndexOutOfBoundsException" ∧ p0 = 0 ∧ ¬ p1 < 0)) (fun (_ : Unit) => [(h0, oC 12 [.ref h1, .ref g0, .ref g1, .ref g2, .ref g3, .ref g4, .ref g5, .ref g6, .ref g7, .long 0]), (h1, oC 2 [.ref h2, .ref g8, .ref g9, .ref g10, .ref g11, .ref h3, .ref g12, .ref g13, .ref g14, .ref g15, .ref g16, .int 0]), (h2, oC 3 [.ref g17, .int 1]), (h3, oC 3 [.ref g18, .int 0])]) (va_A [(h0, oC 12 [.ref h1, .ref g0, .ref g1, .ref g2, .ref g3, .ref g4, .ref g5, .ref g6, .ref g7, .long 0]), (h1, oC 2 [.ref h2, .ref g8, .ref g9, .ref g10, .ref g11, .ref h3, .ref g12, .ref g13, .ref g14, .ref g15, .ref g16, .int 0]), (h2, oC 3 [.ref g17, .int 1]), (h3, oC 3 [.ref g18, .int 0])] sz)) 2 12 (va_A [(h0, oC 12 [.ref h1, .ref g0, .ref g1, .ref g2, .ref g3, .ref g4, .ref g5, .ref g6, .ref g7, .long 0]), (h1, oC 2 [.ref h2, .ref g8, .ref g9, .ref g10, .ref g11, .ref h3, .ref g12, .ref g13, .ref g14, .ref g15, .ref g16, .int 0]), (h2, oC 3 [.ref g17, .int 1]), (h3, oC 3 [.ref g18, .int 0])] sz) :=
  xmet_of (by decide +kernel) (Nat.le_of_ble_eq_true rfl) (fun p e s m args below meth c B EB hout hsz => by
    have B : VB p s m args meth c D Y (va_A [(h0, oC 12 [.ref h1, .ref g0, .ref g1, .ref g2, .ref g3, .ref g4, .ref g5, .ref g6, .ref g7, .long 0]), (h1, oC 2 [.ref h2, .ref g8, .ref g9, .ref g10, .ref g11, .ref h3, .ref g12, .ref g13, .ref g14, .ref g15, .ref g16, .int 0]), (h2, oC 3 [.ref g17, .int 1]), (h3, oC 3 [.ref g18, .int 0])] sz) cX11_shadowOf 3 RX11 (some .int) := B
    refine V_aload_n 0 B dX11_shadowOf_0 0 rfl ?_
    refine V_iload_n 1 B dX11_shadowOf_1 1 rfl ?_
    refine V_xvv 2 B EB (st := []) (As := [.int p0]) (fun sz => mX11_needMode_1 l hl9 D Y (h0) (h1) (g0) (g1) (g2) (g3) (g4) (g5) (g6) (g7) (h2) (g8) (g9) (g10) (g11) (h3) (g12) (g13) (g14) (g15) (g16) (g17) (p0) sz) glV_RX11_180 ⟨rfl, rfl⟩ ⟨(Nat.le_of_ble_eq_true rfl), (Nat.le_of_ble_eq_true rfl)⟩ ⟨(Nat.le_of_ble_eq_true rfl), (Nat.le_of_ble_eq_true rfl)⟩ [0, 0, 0] rfl 12 0 rfl rfl rfl rfl (Nat.le_of_ble_eq_true rfl) rfl (fun _ _ => rfl) (fun _ _ _ => rfl) dX11_shadowOf_2 (fun E u0 w0 => ?_) (fun u0 w0 => ?_)
    ·
      rcases w0 with ⟨rfl, k1⟩ | ⟨rfl, k2, k3⟩
      ·
        exact VX_out 2 B hout () (Or.inl ⟨rfl, k1⟩) rfl (Nat.le_of_ble_eq_true rfl) (Nat.le_of_ble_eq_true rfl)
      ·
        exact VX_out 2 B hout () (Or.inr (Or.inl ⟨rfl, k2, k3⟩)) rfl (Nat.le_of_ble_eq_true rfl) (Nat.le_of_ble_eq_true rfl)
    ·
      have k4 := w0
      refine V_ws [(h0, oC 12 [.ref h1, .ref g0, .ref g1, .ref g2, .ref g3, .ref g4, .ref g5, .ref g6, .ref g7, .long 0]), (h1, oC 2 [.ref h2, .ref g8, .ref g9, .ref g10, .ref g11, .ref h3, .ref g12, .ref g13, .ref g14, .ref g15, .ref g16, .int 0]), (h2, oC 3 [.ref g17, .int 1]), (h3, oC 3 [.ref g18, .int 0])] rfl ?_
      obtain rfl : p0 = 0 := k4
      refine V_aload_n 5 B dX11_shadowOf_5 0 rfl ?_
      refine V_iload_n 6 B dX11_shadowOf_6 2 rfl ?_
      refine V_xvv 7 B EB (st := []) (As := [.int p1]) (fun sz => mX11_needBinding_1 l hl9 D Y (h0) (h1) (g0) (g1) (g2) (g3) (g4) (g5) (g6) (g7) (h2) (g8) (g9) (g10) (g11) (h3) (g12) (g13) (g14) (g15) (g16) (g18) (p1) sz) glV_RX11_167 ⟨rfl, rfl⟩ ⟨(Nat.le_of_ble_eq_true rfl), (Nat.le_of_ble_eq_true rfl)⟩ ⟨(Nat.le_of_ble_eq_true rfl), (Nat.le_of_ble_eq_true rfl)⟩ [0, 0, 1] rfl 12 0 rfl rfl rfl rfl (Nat.le_of_ble_eq_true rfl) rfl (fun _ _ => rfl) (fun _ _ _ => rfl) dX11_shadowOf_7 (fun E u5 w5 => ?_) (fun u5 w5 => ?_)
      ·
        rcases w5 with ⟨rfl, k6⟩ | ⟨rfl, k7⟩
        ·
          exact VX_out 7 B hout () (Or.inr (Or.inr (Or.inl ⟨rfl, rfl, k6⟩))) rfl (Nat.le_of_ble_eq_true rfl) (Nat.le_of_ble_eq_true rfl)
        ·
          exact VX_out 7 B hout () (Or.inr (Or.inr (Or.inr ⟨rfl, rfl, k7⟩))) rfl (Nat.le_of_ble_eq_true rfl) (Nat.le_of_ble_eq_true rfl)
      ·
        exact w5.elim)
theorem dX11_reachable_0 : decode cX11_reachable 0 = .ok (.aload_n 0, 1) := by decide +kernel
theorem dX11_reachable_1 : decode cX11_reachable 1 = .ok (.iload_n 1, 1) := by decide +kernel
theorem dX11_reachable_2 : decode cX11_reachable 2 = .ok (.invokevirtual 180, 3) := by decide +kernel
theorem dX11_reachable_5 : decode cX11_reachable 5 = .ok (.aload_n 0, 1) := by decide +kernel
theorem dX11_reachable_6 : decode cX11_reachable 6 = .ok (.getfield 30, 3) := by decide +kernel
theorem dX11_reachable_9 : decode cX11_reachable 9 = .ok (.iload_n 1, 1) := by decide +kernel
theorem dX11_reachable_10 : decode cX11_reachable 10 = .ok (.invokevirtual 270, 3) := by decide +kernel
theorem dX11_reachable_13 : decode cX11_reachable 13 = .ok (.iconst 0, 1) := by decide +kernel
theorem dX11_reachable_14 : decode cX11_reachable 14 = .ok (.istore_n 2, 1) := by decide +kernel
theorem dX11_reachable_15 : decode cX11_reachable 15 = .ok (.iconst 0, 1) := by decide +kernel
theorem dX11_reachable_16 : decode cX11_reachable 16 = .ok (.istore_n 3, 1) := by decide +kernel
theorem dX11_reachable_17 : decode cX11_reachable 17 = .ok (.iload_n 3, 1) := by decide +kernel
theorem dX11_reachable_18 : decode cX11_reachable 18 = .ok (.aload_n 0, 1) := by decide +kernel
theorem dX11_reachable_19 : decode cX11_reachable 19 = .ok (.getfield 10, 3) := by decide +kernel
theorem dX11_reachable_22 : decode cX11_reachable 22 = .ok (.getfield 119, 3) := by decide +kernel
theorem dX11_reachable_25 : decode cX11_reachable 25 = .ok (.invokevirtual 95, 3) := by decide +kernel
theorem dX11_reachable_28 : decode cX11_reachable 28 = .ok (.if_icmp .ge 24, 3) := by decide +kernel
theorem dX11_reachable_52 : decode cX11_reachable 52 = .ok (.iload_n 2, 1) := by decide +kernel
theorem dX11_reachable_53 : decode cX11_reachable 53 = .ok (.ireturn, 1) := by decide +kernel
set_option maxRecDepth 100000 in
set_option maxHeartbeats 4000000 in
theorem mX11_reachable_1 (l : Launch) (hl9 : l.stackTraces = false) (D : va_G) (Y : Nat → ClassId) (h0 : Nat) (h1 : Nat) (g0 : Nat) (g1 : Nat) (g2 : Nat) (h6 : Nat) (g3 : Nat) (g4 : Nat) (g5 : Nat) (g6 : Nat) (h2 : Nat) (h4 : Nat) (g7 : Nat) (g8 : Nat) (g9 : Nat) (h5 : Nat) (g10 : Nat) (g11 : Nat) (g12 : Nat) (g13 : Nat) (g14 : Nat) (h3 : Nat) (g15 : Nat) (g16 : Nat) (h7 : Nat) (h9 : Nat) (g17 : Nat) (g18 : Nat) (h8 : Nat) (g19 : Nat) (p0 : Int32) (sz : Nat) : vx_Met l yX11_reachable (WSm yX11_reachable cX11_reachable 4 (some .int)) (mkR 7 1 6 103) (PreX D Y [.ref h0, .int p0] [(h0, oC 12 [.ref h1, .ref g0, .ref g1, .ref g2, .ref h6, .ref g3, .ref g4, .ref g5, .ref g6, .long 0]), (h1, oC 2 [.ref h2, .ref h4, .ref g7, .ref g8, .ref g9, .ref h5, .ref g10, .ref g11, .ref g12, .ref g13, .ref g14, .int 0]), (h2, oC 3 [.ref h3, .int 1]), (h3, aI Y 6 (upd (fun _ => 0) 0 (-1))), (h4, oC 3 [.ref g15, .int 0]), (h5, oC 3 [.ref g16, .int 0]), (h6, oC 11 [.ref h1, .ref h7, .ref h9, .ref g17, .ref g18]), (h7, oC 3 [.ref h8, .int 0]), (h8, aI Y 6 (fun _ => 0)), (h9, oC 3 [.ref g19, .int 0])] sz) (QI D (fun (r : Int32) (u : Unit) => p0 = 0 ∧ 0 = r) (fun (_ : Unit) => [(h0, oC 12 [.ref h1, .ref g0, .ref g1, .ref g2, .ref h6, .ref g3, .ref g4, .ref g5, .ref g6, .long 0]), (h1, oC 2 [.ref h2, .ref h4, .ref g7, .ref g8, .ref g9, .ref h5, .ref g10, .ref g11, .ref g12, .ref g13, .ref g14, .int 0]), (h2, oC 3 [.ref h3, .int 1]), (h3, aI Y 6 (upd (fun _ => 0) 0 (-1))), (h4, oC 3 [.ref g15, .int 0]), (h5, oC 3 [.ref g16, .int 0]), (h6, oC 11 [.ref h1, .ref h7, .ref h9, .ref g17, .ref g18]), (h7, oC 3 [.ref h8, .int 6]), (h8, aI Y 6 (upd (upd (upd (upd (upd (upd (upd (fun _ => 0) 0 (-1)) 1 (-1)) 2 (-1)) 3 (-1)) 4 (-1)) 5 (-1)) 0 0)), (h9, oC 3 [.ref g19, .int 0])]) (va_A [(h0, oC 12 [.ref h1, .ref g0, .ref g1, .ref g2, .ref h6, .ref g3, .ref g4, .ref g5, .ref g6, .long 0]), (h1, oC 2 [.ref h2, .ref h4, .ref g7, .ref g8, .ref g9, .ref h5, .ref g10, .ref g11, .ref g12, .ref g13, .ref g14, .int 0]), (h2, oC 3 [.ref h3, .int 1]), (h3, aI Y 6 (upd (fun _ => 0) 0 (-1))), (h4, oC 3 [.ref g15, .int 0]), (h5, oC 3 [.ref g16, .int 0]), (h6, oC 11 [.ref h1, .ref h7, .ref h9, .ref g17, .ref g18]), (h7, oC 3 [.ref h8, .int 0]), (h8, aI Y 6 (fun _ => 0)), (h9, oC 3 [.ref g19, .int 0])] sz)) (XW D (fun (E : String) (u : Unit) => (E = "java/lang/IndexOutOfBoundsException" ∧ p0 < 0) ∨ (E = "java/lang/IndexOutOfBoundsException" ∧ ¬ p0 < 0 ∧ 1 ≤ p0)) (fun (_ : Unit) => [(h0, oC 12 [.ref h1, .ref g0, .ref g1, .ref g2, .ref h6, .ref g3, .ref g4, .ref g5, .ref g6, .long 0]), (h1, oC 2 [.ref h2, .ref h4, .ref g7, .ref g8, .ref g9, .ref h5, .ref g10, .ref g11, .ref g12, .ref g13, .ref g14, .int 0]), (h2, oC 3 [.ref h3, .int 1]), (h3, aI Y 6 (upd (fun _ => 0) 0 (-1))), (h4, oC 3 [.ref g15, .int 0]), (h5, oC 3 [.ref g16, .int 0]), (h6, oC 11 [.ref h1, .ref h7, .ref h9, .ref g17, .ref g18]), (h7, oC 3 [.ref h8, .int 0]), (h8, aI Y 6 (fun _ => 0)), (h9, oC 3 [.ref g19, .int 0])]) (va_A [(h0, oC 12 [.ref h1, .ref g0, .ref g1, .ref g2, .ref h6, .ref g3, .ref g4, .ref g5, .ref g6, .long 0]), (h1, oC 2 [.ref h2, .ref h4, .ref g7, .ref g8, .ref g9, .ref h5, .ref g10, .ref g11, .ref g12, .ref g13, .ref g14, .int 0]), (h2, oC 3 [.ref h3, .int 1]), (h3, aI Y 6 (upd (fun _ => 0) 0 (-1))), (h4, oC 3 [.ref g15, .int 0]), (h5, oC 3 [.ref g16, .int 0]), (h6, oC 11 [.ref h1, .ref h7, .ref h9, .ref g17, .ref g18]), (h7, oC 3 [.ref h8, .int 0]), (h8, aI Y 6 (fun _ => 0)), (h9, oC 3 [.ref g19, .int 0])] sz)) 1 6 (va_A [(h0, oC 12 [.ref h1, .ref g0, .ref g1, .ref g2, .ref h6, .ref g3, .ref g4, .ref g5, .ref g6, .long 0]), (h1, oC 2 [.ref h2, .ref h4, .ref g7, .ref g8, .ref g9, .ref h5, .ref g10, .ref g11, .ref g12, .ref g13, .ref g14, .int 0]), (h2, oC 3 [.ref h3, .int 1]), (h3, aI Y 6 (upd (fun _ => 0) 0 (-1))), (h4, oC 3 [.ref g15, .int 0]), (h5, oC 3 [.ref g16, .int 0]), (h6, oC 11 [.ref h1, .ref h7, .ref h9, .ref g17, .ref g18]), (h7, oC 3 [.ref h8, .int 0]), (h8, aI Y 6 (fun _ => 0)), (h9, oC 3 [.ref g19, .int 0])] sz) :=
  xmet_of (by decide +kernel) (Nat.le_of_ble_eq_true rfl) (fun p e s m args below meth c B EB hout hsz => by
    have B : VB p s m args meth c D Y (va_A [(h0, oC 12 [.ref h1, .ref g0, .ref g1, .ref g2, .ref h6, .ref g3, .ref g4, .ref g5, .ref g6, .long 0]), (h1, oC 2 [.ref h2, .ref h4, .ref g7, .ref g8, .ref g9, .ref h5, .ref g10, .ref g11, .ref g12, .ref g13, .ref g14, .int 0]), (h2, oC 3 [.ref h3, .int 1]), (h3, aI Y 6 (upd (fun _ => 0) 0 (-1))), (h4, oC 3 [.ref g15, .int 0]), (h5, oC 3 [.ref g16, .int 0]), (h6, oC 11 [.ref h1, .ref h7, .ref h9, .ref g17, .ref g18]), (h7, oC 3 [.ref h8, .int 0]), (h8, aI Y 6 (fun _ => 0)), (h9, oC 3 [.ref g19, .int 0])] sz) cX11_reachable 4 RX11 (some .int) := B
    refine V_aload_n 0 B dX11_reachable_0 0 rfl ?_
    refine V_iload_n 1 B dX11_reachable_1 1 rfl ?_
    refine V_xvv 2 B EB (st := []) (As := [.int p0]) (fun sz => mX11_needMode_1 l hl9 D Y (h0) (h1) (g0) (g1) (g2) (h6) (g3) (g4) (g5) (g6) (h2) (h4) (g7) (g8) (g9) (h5) (g10) (g11) (g12) (g13) (g14) (h3) (p0) sz) glV_RX11_180 ⟨rfl, rfl⟩ ⟨(Nat.le_of_ble_eq_true rfl), (Nat.le_of_ble_eq_true rfl)⟩ ⟨(Nat.le_of_ble_eq_true rfl), (Nat.le_of_ble_eq_true rfl)⟩ [0, 0, 0] rfl 12 0 rfl rfl rfl rfl (Nat.le_of_ble_eq_true rfl) rfl (fun _ _ => rfl) (fun _ _ _ => rfl) dX11_reachable_2 (fun E u0 w0 => ?_) (fun u0 w0 => ?_)
    ·
      rcases w0 with ⟨rfl, k1⟩ | ⟨rfl, k2, k3⟩
      ·
        exact VX_out 2 B hout () (Or.inl ⟨rfl, k1⟩) rfl (Nat.le_of_ble_eq_true rfl) (Nat.le_of_ble_eq_true rfl)
      ·
        exact VX_out 2 B hout () (Or.inr ⟨rfl, k2, k3⟩) rfl (Nat.le_of_ble_eq_true rfl) (Nat.le_of_ble_eq_true rfl)
    ·
      have k4 := w0
      refine V_ws [(h0, oC 12 [.ref h1, .ref g0, .ref g1, .ref g2, .ref h6, .ref g3, .ref g4, .ref g5, .ref g6, .long 0]), (h1, oC 2 [.ref h2, .ref h4, .ref g7, .ref g8, .ref g9, .ref h5, .ref g10, .ref g11, .ref g12, .ref g13, .ref g14, .int 0]), (h2, oC 3 [.ref h3, .int 1]), (h3, aI Y 6 (upd (fun _ => 0) 0 (-1))), (h4, oC 3 [.ref g15, .int 0]), (h5, oC 3 [.ref g16, .int 0]), (h6, oC 11 [.ref h1, .ref h7, .ref h9, .ref g17, .ref g18]), (h7, oC 3 [.ref h8, .int 0]), (h8, aI Y 6 (fun _ => 0)), (h9, oC 3 [.ref g19, .int 0])] rfl ?_
      obtain rfl : p0 = 0 := k4
      refine V_aload_n 5 B dX11_reachable_5 0 rfl ?_
      refine V_get 6 B gf_RX11_30 0 rfl rfl dX11_reachable_6 ?_
      refine V_iload_n 9 B dX11_reachable_9 1 rfl ?_
      refine V_cvv 10 B (st := []) (As := [.int 0]) (fun sz => mX10_gather_1 l D Y (h6) (h1) (h2) (h4) (g7) (g8) (g9) (h5) (g10) (g11) (g12) (g13) (g14) (h3) (g16) (h7) (h9) (g17) (g18) (h8) (g19) sz) glV_RX11_270 ⟨rfl, rfl⟩ ⟨(Nat.le_of_ble_eq_true rfl), (Nat.le_of_ble_eq_true rfl)⟩ ⟨(Nat.le_of_ble_eq_true rfl), (Nat.le_of_ble_eq_true rfl)⟩ [1, 0, 0, 1, 0, 0, 0, 0] rfl 11 4 rfl rfl rfl rfl (Nat.le_of_ble_eq_true rfl) rfl (fun _ _ => rfl) dX11_reachable_10 (fun u5 w5 => ?_)
      refine V_ws [(h0, oC 12 [.ref h1, .ref g0, .ref g1, .ref g2, .ref h6, .ref g3, .ref g4, .ref g5, .ref g6, .long 0]), (h1, oC 2 [.ref h2, .ref h4, .ref g7, .ref g8, .ref g9, .ref h5, .ref g10, .ref g11, .ref g12, .ref g13, .ref g14, .int 0]), (h2, oC 3 [.ref h3, .int 1]), (h3, aI Y 6 (upd (fun _ => 0) 0 (-1))), (h4, oC 3 [.ref g15, .int 0]), (h5, oC 3 [.ref g16, .int 0]), (h6, oC 11 [.ref h1, .ref h7, .ref h9, .ref g17, .ref g18]), (h7, oC 3 [.ref h8, .int 6]), (h8, aI Y 6 (upd (upd (upd (upd (upd (upd (upd (fun _ => 0) 0 (-1)) 1 (-1)) 2 (-1)) 3 (-1)) 4 (-1)) 5 (-1)) 0 0)), (h9, oC 3 [.ref g19, .int 0])] rfl ?_
      refine V_iconst 13 B (v := 0) dX11_reachable_13 (by decide +kernel) ?_
      refine V_istore_n 14 B (lv2 := [(2, .int 0), (0, .ref h0), (1, .int 0)]) dX11_reachable_14 (by decide) rfl ?_
      refine V_iconst 15 B (v := 0) dX11_reachable_15 (by decide +kernel) ?_
      refine V_istore_n 16 B (lv2 := [(3, .int 0), (2, .int 0), (0, .ref h0), (1, .int 0)]) dX11_reachable_16 (by decide) rfl ?_
      refine V_iload_n 17 B dX11_reachable_17 0 rfl ?_
      refine V_aload_n 18 B dX11_reachable_18 2 rfl ?_
      refine V_get 19 B gf_RX11_10 0 rfl rfl dX11_reachable_19 ?_
      refine V_get 22 B gf_RX11_119 1 rfl rfl dX11_reachable_22 ?_
      refine V_cvi 25 B (st := [.int 0]) (As := []) (fun sz => mX1_size_1 l D Y (h4) (g15) sz) glV_RX11_95 ⟨rfl, rfl⟩ ⟨(Nat.le_of_ble_eq_true rfl), (Nat.le_of_ble_eq_true rfl)⟩ ⟨(Nat.le_of_ble_eq_true rfl), (Nat.le_of_ble_eq_true rfl)⟩ [4] rfl 3 0 rfl rfl rfl rfl (Nat.le_of_ble_eq_true rfl) rfl (fun _ _ _ => rfl) dX11_reachable_25 (fun r6 u6 w6 => ?_)
      obtain rfl := w6
      refine V_ws [(h0, oC 12 [.ref h1, .ref g0, .ref g1, .ref g2, .ref h6, .ref g3, .ref g4, .ref g5, .ref g6, .long 0]), (h1, oC 2 [.ref h2, .ref h4, .ref g7, .ref g8, .ref g9, .ref h5, .ref g10, .ref g11, .ref g12, .ref g13, .ref g14, .int 0]), (h2, oC 3 [.ref h3, .int 1]), (h3, aI Y 6 (upd (fun _ => 0) 0 (-1))), (h4, oC 3 [.ref g15, .int 0]), (h5, oC 3 [.ref g16, .int 0]), (h6, oC 11 [.ref h1, .ref h7, .ref h9, .ref g17, .ref g18]), (h7, oC 3 [.ref h8, .int 6]), (h8, aI Y 6 (upd (upd (upd (upd (upd (upd (upd (fun _ => 0) 0 (-1)) 1 (-1)) 2 (-1)) 3 (-1)) 4 (-1)) 5 (-1)) 0 0)), (h9, oC 3 [.ref g19, .int 0])] rfl ?_
      refine V_icmp_ge_t 28 B 52 dX11_reachable_28 (by decide) (by decide +kernel) ?_
      refine V_iload_n 52 B dX11_reachable_52 1 rfl ?_
      refine V_xret ?_
      exact V_iret 53 B dX11_reachable_53 () ⟨rfl, rfl⟩ rfl)
theorem dX11_unreachable_0 : decode cX11_unreachable 0 = .ok (.iconst 0, 1) := by decide +kernel
theorem dX11_unreachable_1 : decode cX11_unreachable 1 = .ok (.istore_n 1, 1) := by decide +kernel
theorem dX11_unreachable_2 : decode cX11_unreachable 2 = .ok (.iconst 0, 1) := by decide +kernel
theorem dX11_unreachable_3 : decode cX11_unreachable 3 = .ok (.istore_n 2, 1) := by decide +kernel
theorem dX11_unreachable_4 : decode cX11_unreachable 4 = .ok (.iload_n 2, 1) := by decide +kernel
theorem dX11_unreachable_5 : decode cX11_unreachable 5 = .ok (.aload_n 0, 1) := by decide +kernel
theorem dX11_unreachable_6 : decode cX11_unreachable 6 = .ok (.getfield 10, 3) := by decide +kernel
theorem dX11_unreachable_9 : decode cX11_unreachable 9 = .ok (.getfield 119, 3) := by decide +kernel
theorem dX11_unreachable_12 : decode cX11_unreachable 12 = .ok (.invokevirtual 95, 3) := by decide +kernel
theorem dX11_unreachable_15 : decode cX11_unreachable 15 = .ok (.if_icmp .ge 26, 3) := by decide +kernel
theorem dX11_unreachable_41 : decode cX11_unreachable 41 = .ok (.iload_n 1, 1) := by decide +kernel
theorem dX11_unreachable_42 : decode cX11_unreachable 42 = .ok (.ireturn, 1) := by decide +kernel
set_option maxRecDepth 100000 in
set_option maxHeartbeats 4000000 in
theorem mX11_unreachable_1 (l : Launch) (D : va_G) (Y : Nat → ClassId) (h0 : Nat) (h1 : Nat) (g0 : Nat) (g1 : Nat) (g2 : Nat) (g3 : Nat) (g4 : Nat) (g5 : Nat) (g6 : Nat) (g7 : Nat) (g8 : Nat) (h2 : Nat) (g9 : Nat) (g10 : Nat) (g11 : Nat) (g12 : Nat) (g13 : Nat) (g14 : Nat) (g15 : Nat) (g16 : Nat) (g17 : Nat) (g18 : Nat) (sz : Nat) : Met l yX11_unreachable (WSm yX11_unreachable cX11_unreachable 3 (some .int)) (mkR 1 0 0 20) (PreC D Y [.ref h0] [(h0, oC 12 [.ref h1, .ref g0, .ref g1, .ref g2, .ref g3, .ref g4, .ref g5, .ref g6, .ref g7, .long 0]), (h1, oC 2 [.ref g8, .ref h2, .ref g9, .ref g10, .ref g11, .ref g12, .ref g13, .ref g14, .ref g15, .ref g16, .ref g17, .int 0]), (h2, oC 3 [.ref g18, .int 0])] sz) (QI D (fun (r : Int32) (u : Unit) => 0 = r) (fun (_ : Unit) => [(h0, oC 12 [.ref h1, .ref g0, .ref g1, .ref g2, .ref g3, .ref g4, .ref g5, .ref g6, .ref g7, .long 0]), (h1, oC 2 [.ref g8, .ref h2, .ref g9, .ref g10, .ref g11, .ref g12, .ref g13, .ref g14, .ref g15, .ref g16, .ref g17, .int 0]), (h2, oC 3 [.ref g18, .int 0])]) (va_A [(h0, oC 12 [.ref h1, .ref g0, .ref g1, .ref g2, .ref g3, .ref g4, .ref g5, .ref g6, .ref g7, .long 0]), (h1, oC 2 [.ref g8, .ref h2, .ref g9, .ref g10, .ref g11, .ref g12, .ref g13, .ref g14, .ref g15, .ref g16, .ref g17, .int 0]), (h2, oC 3 [.ref g18, .int 0])] sz)) 0 0 (va_A [(h0, oC 12 [.ref h1, .ref g0, .ref g1, .ref g2, .ref g3, .ref g4, .ref g5, .ref g6, .ref g7, .long 0]), (h1, oC 2 [.ref g8, .ref h2, .ref g9, .ref g10, .ref g11, .ref g12, .ref g13, .ref g14, .ref g15, .ref g16, .ref g17, .int 0]), (h2, oC 3 [.ref g18, .int 0])] sz) :=
  met_of (by decide +kernel) (Nat.le_of_ble_eq_true rfl) (fun p e s m args below meth c B hin hsz => by
    have B : VB p s m args meth c D Y (va_A [(h0, oC 12 [.ref h1, .ref g0, .ref g1, .ref g2, .ref g3, .ref g4, .ref g5, .ref g6, .ref g7, .long 0]), (h1, oC 2 [.ref g8, .ref h2, .ref g9, .ref g10, .ref g11, .ref g12, .ref g13, .ref g14, .ref g15, .ref g16, .ref g17, .int 0]), (h2, oC 3 [.ref g18, .int 0])] sz) cX11_unreachable 3 RX11 (some .int) := B
    refine V_iconst 0 B (v := 0) dX11_unreachable_0 (by decide +kernel) ?_
    refine V_istore_n 1 B (lv2 := [(1, .int 0), (0, .ref h0)]) dX11_unreachable_1 (by decide) rfl ?_
    refine V_iconst 2 B (v := 0) dX11_unreachable_2 (by decide +kernel) ?_
    refine V_istore_n 3 B (lv2 := [(2, .int 0), (1, .int 0), (0, .ref h0)]) dX11_unreachable_3 (by decide) rfl ?_
    refine V_iload_n 4 B dX11_unreachable_4 0 rfl ?_
    refine V_aload_n 5 B dX11_unreachable_5 2 rfl ?_
    refine V_get 6 B gf_RX11_10 0 rfl rfl dX11_unreachable_6 ?_
    refine V_get 9 B gf_RX11_119 1 rfl rfl dX11_unreachable_9 ?_
    refine V_cvi 12 B (st := [.int 0]) (As := []) (fun sz => mX1_size_1 l D Y (h2) (g18) sz) glV_RX11_95 ⟨rfl, rfl⟩ ⟨(Nat.le_of_ble_eq_true rfl), (Nat.le_of_ble_eq_true rfl)⟩ ⟨(Nat.le_of_ble_eq_true rfl), (Nat.le_of_ble_eq_true rfl)⟩ [2] rfl 3 0 rfl rfl rfl rfl (Nat.le_of_ble_eq_true rfl) rfl (fun _ _ _ => rfl) dX11_unreachable_12 (fun r0 u0 w0 => ?_)
    obtain rfl := w0
    refine V_ws [(h0, oC 12 [.ref h1, .ref g0, .ref g1, .ref g2, .ref g3, .ref g4, .ref g5, .ref g6, .ref g7, .long 0]), (h1, oC 2 [.ref g8, .ref h2, .ref g9, .ref g10, .ref g11, .ref g12, .ref g13, .ref g14, .ref g15, .ref g16, .ref g17, .int 0]), (h2, oC 3 [.ref g18, .int 0])] rfl ?_
    refine V_icmp_ge_t 15 B 41 dX11_unreachable_15 (by decide) (by decide +kernel) ?_
    refine V_iload_n 41 B dX11_unreachable_41 1 rfl ?_
    exact V_iret 42 B dX11_unreachable_42 () rfl rfl)
theorem dX10_countPrefixes_0 : decode cX10_countPrefixes 0 = .ok (.iconst 0, 1) := by decide +kernel
theorem dX10_countPrefixes_1 : decode cX10_countPrefixes 1 = .ok (.istore_n 1, 1) := by decide +kernel
theorem dX10_countPrefixes_2 : decode cX10_countPrefixes 2 = .ok (.lconst 0, 1) := by decide +kernel
theorem dX10_countPrefixes_3 : decode cX10_countPrefixes 3 = .ok (.lstore_n 2, 1) := by decide +kernel
theorem dX10_countPrefixes_4 : decode cX10_countPrefixes 4 = .ok (.iconst 0, 1) := by decide +kernel
theorem dX10_countPrefixes_5 : decode cX10_countPrefixes 5 = .ok (.istore 4, 2) := by decide +kernel
theorem dX10_countPrefixes_7 : decode cX10_countPrefixes 7 = .ok (.iload 4, 2) := by decide +kernel
theorem dX10_countPrefixes_9 : decode cX10_countPrefixes 9 = .ok (.aload_n 0, 1) := by decide +kernel
theorem dX10_countPrefixes_10 : decode cX10_countPrefixes 10 = .ok (.getfield 24, 3) := by decide +kernel
theorem dX10_countPrefixes_13 : decode cX10_countPrefixes 13 = .ok (.invokevirtual 62, 3) := by decide +kernel
theorem dX10_countPrefixes_16 : decode cX10_countPrefixes 16 = .ok (.if_icmp .ge 48, 3) := by decide +kernel
theorem dX10_countPrefixes_64 : decode cX10_countPrefixes 64 = .ok (.iload_n 1, 1) := by decide +kernel
theorem dX10_countPrefixes_65 : decode cX10_countPrefixes 65 = .ok (.ireturn, 1) := by decide +kernel
set_option maxRecDepth 100000 in
set_option maxHeartbeats 4000000 in
theorem mX10_countPrefixes_1 (l : Launch) (D : va_G) (Y : Nat → ClassId) (h0 : Nat) (g0 : Nat) (g1 : Nat) (h1 : Nat) (g2 : Nat) (g3 : Nat) (g4 : Nat) (sz : Nat) : Met l yX10_countPrefixes (WSm yX10_countPrefixes cX10_countPrefixes 7 (some .int)) (mkR 1 0 0 20) (PreC D Y [.ref h0] [(h0, oC 11 [.ref g0, .ref g1, .ref h1, .ref g2, .ref g3]), (h1, oC 3 [.ref g4, .int 0])] sz) (QI D (fun (r : Int32) (u : Unit) => 0 = r) (fun (_ : Unit) => [(h0, oC 11 [.ref g0, .ref g1, .ref h1, .ref g2, .ref g3]), (h1, oC 3 [.ref g4, .int 0])]) (va_A [(h0, oC 11 [.ref g0, .ref g1, .ref h1, .ref g2, .ref g3]), (h1, oC 3 [.ref g4, .int 0])] sz)) 0 0 (va_A [(h0, oC 11 [.ref g0, .ref g1, .ref h1, .ref g2, .ref g3]), (h1, oC 3 [.ref g4, .int 0])] sz) :=
  met_of (by decide +kernel) (Nat.le_of_ble_eq_true rfl) (fun p e s m args below meth c B hin hsz => by
    have B : VB p s m args meth c D Y (va_A [(h0, oC 11 [.ref g0, .ref g1, .ref h1, .ref g2, .ref g3]), (h1, oC 3 [.ref g4, .int 0])] sz) cX10_countPrefixes 7 RX10 (some .int) := B
    refine V_iconst 0 B (v := 0) dX10_countPrefixes_0 (by decide +kernel) ?_
    refine V_istore_n 1 B (lv2 := [(1, .int 0), (0, .ref h0)]) dX10_countPrefixes_1 (by decide) rfl ?_
    refine V_lconst 2 B (v := 0) dX10_countPrefixes_2 (by decide +kernel) ?_
    refine V_lstore_n 3 B (lv2 := [(2, .long 0), (1, .int 0), (0, .ref h0)]) dX10_countPrefixes_3 (by decide) rfl ?_
    refine V_iconst 4 B (v := 0) dX10_countPrefixes_4 (by decide +kernel) ?_
    refine V_istore 5 B (lv2 := [(4, .int 0), (2, .long 0), (1, .int 0), (0, .ref h0)]) dX10_countPrefixes_5 (by decide) rfl ?_
    refine V_iload 7 B dX10_countPrefixes_7 0 rfl ?_
    refine V_aload_n 9 B dX10_countPrefixes_9 3 rfl ?_
    refine V_get 10 B gf_RX10_24 0 rfl rfl dX10_countPrefixes_10 ?_
    refine V_cvi 13 B (st := [.int 0]) (As := []) (fun sz => mX1_size_1 l D Y (h1) (g4) sz) glV_RX10_62 ⟨rfl, rfl⟩ ⟨(Nat.le_of_ble_eq_true rfl), (Nat.le_of_ble_eq_true rfl)⟩ ⟨(Nat.le_of_ble_eq_true rfl), (Nat.le_of_ble_eq_true rfl)⟩ [1] rfl 3 0 rfl rfl rfl rfl (Nat.le_of_ble_eq_true rfl) rfl (fun _ _ _ => rfl) dX10_countPrefixes_13 (fun r0 u0 w0 => ?_)
    obtain rfl := w0
    refine V_ws [(h0, oC 11 [.ref g0, .ref g1, .ref h1, .ref g2, .ref g3]), (h1, oC 3 [.ref g4, .int 0])] rfl ?_
    refine V_icmp_ge_t 16 B 64 dX10_countPrefixes_16 (by decide) (by decide +kernel) ?_
    refine V_iload_n 64 B dX10_countPrefixes_64 2 rfl ?_
    exact V_iret 65 B dX10_countPrefixes_65 () rfl rfl)
theorem dX11_prefixes_0 : decode cX11_prefixes 0 = .ok (.aload_n 0, 1) := by decide +kernel
theorem dX11_prefixes_1 : decode cX11_prefixes 1 = .ok (.iload_n 1, 1) := by decide +kernel
theorem dX11_prefixes_2 : decode cX11_prefixes 2 = .ok (.invokevirtual 180, 3) := by decide +kernel
theorem dX11_prefixes_5 : decode cX11_prefixes 5 = .ok (.aload_n 0, 1) := by decide +kernel
theorem dX11_prefixes_6 : decode cX11_prefixes 6 = .ok (.getfield 30, 3) := by decide +kernel
theorem dX11_prefixes_9 : decode cX11_prefixes 9 = .ok (.iload_n 1, 1) := by decide +kernel
theorem dX11_prefixes_10 : decode cX11_prefixes 10 = .ok (.invokevirtual 270, 3) := by decide +kernel
theorem dX11_prefixes_13 : decode cX11_prefixes 13 = .ok (.aload_n 0, 1) := by decide +kernel
theorem dX11_prefixes_14 : decode cX11_prefixes 14 = .ok (.getfield 30, 3) := by decide +kernel
theorem dX11_prefixes_17 : decode cX11_prefixes 17 = .ok (.invokevirtual 279, 3) := by decide +kernel
theorem dX11_prefixes_20 : decode cX11_prefixes 20 = .ok (.aload_n 0, 1) := by decide +kernel
theorem dX11_prefixes_21 : decode cX11_prefixes 21 = .ok (.getfield 30, 3) := by decide +kernel
theorem dX11_prefixes_24 : decode cX11_prefixes 24 = .ok (.invokevirtual 289, 3) := by decide +kernel
theorem glV_RX11_289 : GLV RX11 289 yX10_countPrefixes RX10 cX10_countPrefixes 7 (some .int) 0 := ⟨⟨(mT6 122 rfl rfl), (mT6 123 rfl rfl), (mT6 124 rfl rfl), (mT1 8 rfl rfl), (mT6 125 rfl rfl)⟩, by decide +kernel⟩
theorem dX11_prefixes_27 : decode cX11_prefixes 27 = .ok (.ireturn, 1) := by decide +kernel
set_option maxRecDepth 100000 in
set_option maxHeartbeats 4000000 in
theorem mX11_prefixes_1 (l : Launch) (hl9 : l.stackTraces = false) (D : va_G) (Y : Nat → ClassId) (h0 : Nat) (h1 : Nat) (g0 : Nat) (g1 : Nat) (g2 : Nat) (h5 : Nat) (g3 : Nat) (g4 : Nat) (g5 : Nat) (g6 : Nat) (h2 : Nat) (g7 : Nat) (g8 : Nat) (g9 : Nat) (g10 : Nat) (h4 : Nat) (g11 : Nat) (g12 : Nat) (g13 : Nat) (g14 : Nat) (g15 : Nat) (h3 : Nat) (g16 : Nat) (h6 : Nat) (h8 : Nat) (g17 : Nat) (g18 : Nat) (h7 : Nat) (g19 : Nat) (p0 : Int32) (sz : Nat) : vx_Met l yX11_prefixes (WSm yX11_prefixes cX11_prefixes 2 (some .int)) (mkR 7 1 6 103) (PreX D Y [.ref h0, .int p0] [(h0, oC 12 [.ref h1, .ref g0, .ref g1, .ref g2, .ref h5, .ref g3, .ref g4, .ref g5, .ref g6, .long 0]), (h1, oC 2 [.ref h2, .ref g7, .ref g8, .ref g9, .ref g10, .ref h4, .ref g11, .ref g12, .ref g13, .ref g14, .ref g15, .int 0]), (h2, oC 3 [.ref h3, .int 1]), (h3, aI Y 6 (upd (fun _ => 0) 0 (-1))), (h4, oC 3 [.ref g16, .int 0]), (h5, oC 11 [.ref h1, .ref h6, .ref h8, .ref g17, .ref g18]), (h6, oC 3 [.ref h7, .int 0]), (h7, aI Y 6 (fun _ => 0)), (h8, oC 3 [.ref g19, .int 0])] sz) (QI D (fun (r : Int32) (u : Unit) => p0 = 0 ∧ 0 = r) (fun (_ : Unit) => [(h0, oC 12 [.ref h1, .ref g0, .ref g1, .ref g2, .ref h5, .ref g3, .ref g4, .ref g5, .ref g6, .long 0]), (h1, oC 2 [.ref h2, .ref g7, .ref g8, .ref g9, .ref g10, .ref h4, .ref g11, .ref g12, .ref g13, .ref g14, .ref g15, .int 0]), (h2, oC 3 [.ref h3, .int 1]), (h3, aI Y 6 (upd (fun _ => 0) 0 (-1))), (h4, oC 3 [.ref g16, .int 0]), (h5, oC 11 [.ref h1, .ref h6, .ref h8, .ref g17, .ref g18]), (h6, oC 3 [.ref h7, .int 6]), (h7, aI Y 6 (upd (upd (upd (upd (upd (upd (upd (fun _ => 0) 0 (-1)) 1 (-1)) 2 (-1)) 3 (-1)) 4 (-1)) 5 (-1)) 0 0)), (h8, oC 3 [.ref g19, .int 0])]) (va_A [(h0, oC 12 [.ref h1, .ref g0, .ref g1, .ref g2, .ref h5, .ref g3, .ref g4, .ref g5, .ref g6, .long 0]), (h1, oC 2 [.ref h2, .ref g7, .ref g8, .ref g9, .ref g10, .ref h4, .ref g11, .ref g12, .ref g13, .ref g14, .ref g15, .int 0]), (h2, oC 3 [.ref h3, .int 1]), (h3, aI Y 6 (upd (fun _ => 0) 0 (-1))), (h4, oC 3 [.ref g16, .int 0]), (h5, oC 11 [.ref h1, .ref h6, .ref h8, .ref g17, .ref g18]), (h6, oC 3 [.ref h7, .int 0]), (h7, aI Y 6 (fun _ => 0)), (h8, oC 3 [.ref g19, .int 0])] sz)) (XW D (fun (E : String) (u : Unit) => (E = "java/lang/IndexOutOfBoundsException" ∧ p0 < 0) ∨ (E = "java/lang/IndexOutOfBoundsException" ∧ ¬ p0 < 0 ∧ 1 ≤ p0)) (fun (_ : Unit) => [(h0, oC 12 [.ref h1, .ref g0, .ref g1, .ref g2, .ref h5, .ref g3, .ref g4, .ref g5, .ref g6, .long 0]), (h1, oC 2 [.ref h2, .ref g7, .ref g8, .ref g9, .ref g10, .ref h4, .ref g11, .ref g12, .ref g13, .ref g14, .ref g15, .int 0]), (h2, oC 3 [.ref h3, .int 1]), (h3, aI Y 6 (upd (fun _ => 0) 0 (-1))), (h4, oC 3 [.ref g16, .int 0]), (h5, oC 11 [.ref h1, .ref h6, .ref h8, .ref g17, .ref g18]), (h6, oC 3 [.ref h7, .int 0]), (h7, aI Y 6 (fun _ => 0)), (h8, oC 3 [.ref g19, .int 0])]) (va_A [(h0, oC 12 [.ref h1, .ref g0, .ref g1, .ref g2, .ref h5, .ref g3, .ref g4, .ref g5, .ref g6, .long 0]), (h1, oC 2 [.ref h2, .ref g7, .ref g8, .ref g9, .ref g10, .ref h4, .ref g11, .ref g12, .ref g13, .ref g14, .ref g15, .int 0]), (h2, oC 3 [.ref h3, .int 1]), (h3, aI Y 6 (upd (fun _ => 0) 0 (-1))), (h4, oC 3 [.ref g16, .int 0]), (h5, oC 11 [.ref h1, .ref h6, .ref h8, .ref g17, .ref g18]), (h6, oC 3 [.ref h7, .int 0]), (h7, aI Y 6 (fun _ => 0)), (h8, oC 3 [.ref g19, .int 0])] sz)) 1 6 (va_A [(h0, oC 12 [.ref h1, .ref g0, .ref g1, .ref g2, .ref h5, .ref g3, .ref g4, .ref g5, .ref g6, .long 0]), (h1, oC 2 [.ref h2, .ref g7, .ref g8, .ref g9, .ref g10, .ref h4, .ref g11, .ref g12, .ref g13, .ref g14, .ref g15, .int 0]), (h2, oC 3 [.ref h3, .int 1]), (h3, aI Y 6 (upd (fun _ => 0) 0 (-1))), (h4, oC 3 [.ref g16, .int 0]), (h5, oC 11 [.ref h1, .ref h6, .ref h8, .ref g17, .ref g18]), (h6, oC 3 [.ref h7, .int 0]), (h7, aI Y 6 (fun _ => 0)), (h8, oC 3 [.ref g19, .int 0])] sz) :=
  xmet_of (by decide +kernel) (Nat.le_of_ble_eq_true rfl) (fun p e s m args below meth c B EB hout hsz => by
    have B : VB p s m args meth c D Y (va_A [(h0, oC 12 [.ref h1, .ref g0, .ref g1, .ref g2, .ref h5, .ref g3, .ref g4, .ref g5, .ref g6, .long 0]), (h1, oC 2 [.ref h2, .ref g7, .ref g8, .ref g9, .ref g10, .ref h4, .ref g11, .ref g12, .ref g13, .ref g14, .ref g15, .int 0]), (h2, oC 3 [.ref h3, .int 1]), (h3, aI Y 6 (upd (fun _ => 0) 0 (-1))), (h4, oC 3 [.ref g16, .int 0]), (h5, oC 11 [.ref h1, .ref h6, .ref h8, .ref g17, .ref g18]), (h6, oC 3 [.ref h7, .int 0]), (h7, aI Y 6 (fun _ => 0)), (h8, oC 3 [.ref g19, .int 0])] sz) cX11_prefixes 2 RX11 (some .int) := B
    refine V_aload_n 0 B dX11_prefixes_0 0 rfl ?_
    refine V_iload_n 1 B dX11_prefixes_1 1 rfl ?_
    refine V_xvv 2 B EB (st := []) (As := [.int p0]) (fun sz => mX11_needMode_1 l hl9 D Y (h0) (h1) (g0) (g1) (g2) (h5) (g3) (g4) (g5) (g6) (h2) (g7) (g8) (g9) (g10) (h4) (g11) (g12) (g13) (g14) (g15) (h3) (p0) sz) glV_RX11_180 ⟨rfl, rfl⟩ ⟨(Nat.le_of_ble_eq_true rfl), (Nat.le_of_ble_eq_true rfl)⟩ ⟨(Nat.le_of_ble_eq_true rfl), (Nat.le_of_ble_eq_true rfl)⟩ [0, 0, 0] rfl 12 0 rfl rfl rfl rfl (Nat.le_of_ble_eq_true rfl) rfl (fun _ _ => rfl) (fun _ _ _ => rfl) dX11_prefixes_2 (fun E u0 w0 => ?_) (fun u0 w0 => ?_)
    ·
      rcases w0 with ⟨rfl, k1⟩ | ⟨rfl, k2, k3⟩
      ·
        exact VX_out 2 B hout () (Or.inl ⟨rfl, k1⟩) rfl (Nat.le_of_ble_eq_true rfl) (Nat.le_of_ble_eq_true rfl)
      ·
        exact VX_out 2 B hout () (Or.inr ⟨rfl, k2, k3⟩) rfl (Nat.le_of_ble_eq_true rfl) (Nat.le_of_ble_eq_true rfl)
    ·
      have k4 := w0
      refine V_ws [(h0, oC 12 [.ref h1, .ref g0, .ref g1, .ref g2, .ref h5, .ref g3, .ref g4, .ref g5, .ref g6, .long 0]), (h1, oC 2 [.ref h2, .ref g7, .ref g8, .ref g9, .ref g10, .ref h4, .ref g11, .ref g12, .ref g13, .ref g14, .ref g15, .int 0]), (h2, oC 3 [.ref h3, .int 1]), (h3, aI Y 6 (upd (fun _ => 0) 0 (-1))), (h4, oC 3 [.ref g16, .int 0]), (h5, oC 11 [.ref h1, .ref h6, .ref h8, .ref g17, .ref g18]), (h6, oC 3 [.ref h7, .int 0]), (h7, aI Y 6 (fun _ => 0)), (h8, oC 3 [.ref g19, .int 0])] rfl ?_
      obtain rfl : p0 = 0 := k4
      refine V_aload_n 5 B dX11_prefixes_5 0 rfl ?_
      refine V_get 6 B gf_RX11_30 0 rfl rfl dX11_prefixes_6 ?_
      refine V_iload_n 9 B dX11_prefixes_9 1 rfl ?_
      refine V_cvv 10 B (st := []) (As := [.int 0]) (fun sz => mX10_gather_1 l D Y (h5) (h1) (h2) (g7) (g8) (g9) (g10) (h4) (g11) (g12) (g13) (g14) (g15) (h3) (g16) (h6) (h8) (g17) (g18) (h7) (g19) sz) glV_RX11_270 ⟨rfl, rfl⟩ ⟨(Nat.le_of_ble_eq_true rfl), (Nat.le_of_ble_eq_true rfl)⟩ ⟨(Nat.le_of_ble_eq_true rfl), (Nat.le_of_ble_eq_true rfl)⟩ [1, 0, 0, 0, 0, 0, 0, 0] rfl 11 4 rfl rfl rfl rfl (Nat.le_of_ble_eq_true rfl) rfl (fun _ _ => rfl) dX11_prefixes_10 (fun u5 w5 => ?_)
      refine V_ws [(h0, oC 12 [.ref h1, .ref g0, .ref g1, .ref g2, .ref h5, .ref g3, .ref g4, .ref g5, .ref g6, .long 0]), (h1, oC 2 [.ref h2, .ref g7, .ref g8, .ref g9, .ref g10, .ref h4, .ref g11, .ref g12, .ref g13, .ref g14, .ref g15, .int 0]), (h2, oC 3 [.ref h3, .int 1]), (h3, aI Y 6 (upd (fun _ => 0) 0 (-1))), (h4, oC 3 [.ref g16, .int 0]), (h5, oC 11 [.ref h1, .ref h6, .ref h8, .ref g17, .ref g18]), (h6, oC 3 [.ref h7, .int 6]), (h7, aI Y 6 (upd (upd (upd (upd (upd (upd (upd (fun _ => 0) 0 (-1)) 1 (-1)) 2 (-1)) 3 (-1)) 4 (-1)) 5 (-1)) 0 0)), (h8, oC 3 [.ref g19, .int 0])] rfl ?_
      refine V_aload_n 13 B dX11_prefixes_13 0 rfl ?_
      refine V_get 14 B gf_RX11_30 0 rfl rfl dX11_prefixes_14 ?_
      refine V_cvv 17 B (st := []) (As := []) (fun sz => mX10_sortSeen_1 l D Y (h5) (h1) (h6) (h8) (g17) (g18) (g19) sz) glV_RX11_279 ⟨rfl, rfl⟩ ⟨(Nat.le_of_ble_eq_true rfl), (Nat.le_of_ble_eq_true rfl)⟩ ⟨(Nat.le_of_ble_eq_true rfl), (Nat.le_of_ble_eq_true rfl)⟩ [5, 2] rfl 11 0 rfl rfl rfl rfl (Nat.le_of_ble_eq_true rfl) rfl (fun _ _ => rfl) dX11_prefixes_17 (fun u6 w6 => ?_)
      refine V_ws [(h0, oC 12 [.ref h1, .ref g0, .ref g1, .ref g2, .ref h5, .ref g3, .ref g4, .ref g5, .ref g6, .long 0]), (h1, oC 2 [.ref h2, .ref g7, .ref g8, .ref g9, .ref g10, .ref h4, .ref g11, .ref g12, .ref g13, .ref g14, .ref g15, .int 0]), (h2, oC 3 [.ref h3, .int 1]), (h3, aI Y 6 (upd (fun _ => 0) 0 (-1))), (h4, oC 3 [.ref g16, .int 0]), (h5, oC 11 [.ref h1, .ref h6, .ref h8, .ref g17, .ref g18]), (h6, oC 3 [.ref h7, .int 6]), (h7, aI Y 6 (upd (upd (upd (upd (upd (upd (upd (fun _ => 0) 0 (-1)) 1 (-1)) 2 (-1)) 3 (-1)) 4 (-1)) 5 (-1)) 0 0)), (h8, oC 3 [.ref g19, .int 0])] rfl ?_
      refine V_aload_n 20 B dX11_prefixes_20 0 rfl ?_
      refine V_get 21 B gf_RX11_30 0 rfl rfl dX11_prefixes_21 ?_
      refine V_cvi 24 B (st := []) (As := []) (fun sz => mX10_countPrefixes_1 l D Y (h5) (h1) (h6) (h8) (g17) (g18) (g19) sz) glV_RX11_289 ⟨rfl, rfl⟩ ⟨(Nat.le_of_ble_eq_true rfl), (Nat.le_of_ble_eq_true rfl)⟩ ⟨(Nat.le_of_ble_eq_true rfl), (Nat.le_of_ble_eq_true rfl)⟩ [5, 2] rfl 11 0 rfl rfl rfl rfl (Nat.le_of_ble_eq_true rfl) rfl (fun _ _ _ => rfl) dX11_prefixes_24 (fun r7 u7 w7 => ?_)
      obtain rfl := w7
      refine V_ws [(h0, oC 12 [.ref h1, .ref g0, .ref g1, .ref g2, .ref h5, .ref g3, .ref g4, .ref g5, .ref g6, .long 0]), (h1, oC 2 [.ref h2, .ref g7, .ref g8, .ref g9, .ref g10, .ref h4, .ref g11, .ref g12, .ref g13, .ref g14, .ref g15, .int 0]), (h2, oC 3 [.ref h3, .int 1]), (h3, aI Y 6 (upd (fun _ => 0) 0 (-1))), (h4, oC 3 [.ref g16, .int 0]), (h5, oC 11 [.ref h1, .ref h6, .ref h8, .ref g17, .ref g18]), (h6, oC 3 [.ref h7, .int 6]), (h7, aI Y 6 (upd (upd (upd (upd (upd (upd (upd (fun _ => 0) 0 (-1)) 1 (-1)) 2 (-1)) 3 (-1)) 4 (-1)) 5 (-1)) 0 0)), (h8, oC 3 [.ref g19, .int 0])] rfl ?_
      refine V_xret ?_
      exact V_iret 27 B dX11_prefixes_27 () ⟨rfl, rfl⟩ rfl)
theorem dX11_bestFor_0 : decode cX11_bestFor 0 = .ok (.aload_n 0, 1) := by decide +kernel
theorem dX11_bestFor_1 : decode cX11_bestFor 1 = .ok (.iload_n 1, 1) := by decide +kernel
theorem dX11_bestFor_2 : decode cX11_bestFor 2 = .ok (.invokevirtual 180, 3) := by decide +kernel
theorem dX11_bestFor_5 : decode cX11_bestFor 5 = .ok (.aload_n 0, 1) := by decide +kernel
theorem dX11_bestFor_6 : decode cX11_bestFor 6 = .ok (.iload_n 2, 1) := by decide +kernel
theorem dX11_bestFor_7 : decode cX11_bestFor 7 = .ok (.invokevirtual 204, 3) := by decide +kernel
set_option maxRecDepth 100000 in
set_option maxHeartbeats 4000000 in
theorem mX11_bestFor_1 (l : Launch) (hl9 : l.stackTraces = false) (D : va_G) (Y : Nat → ClassId) (h0 : Nat) (h1 : Nat) (g0 : Nat) (g1 : Nat) (g2 : Nat) (g3 : Nat) (g4 : Nat) (g5 : Nat) (g6 : Nat) (g7 : Nat) (h2 : Nat) (h3 : Nat) (g8 : Nat) (g9 : Nat) (g10 : Nat) (g11 : Nat) (g12 : Nat) (g13 : Nat) (g14 : Nat) (g15 : Nat) (g16 : Nat) (g17 : Nat) (g18 : Nat) (p0 : Int32) (p1 : Int32) (sz : Nat) : vx_Met l yX11_bestFor (WSm yX11_bestFor cX11_bestFor 3 (some .int)) (mkR 7 2 12 103) (PreX D Y [.ref h0, .int p0, .int p1] [(h0, oC 12 [.ref h1, .ref g0, .ref g1, .ref g2, .ref g3, .ref g4, .ref g5, .ref g6, .ref g7, .long 0]), (h1, oC 2 [.ref h2, .ref h3, .ref g8, .ref g9, .ref g10, .ref g11, .ref g12, .ref g13, .ref g14, .ref g15, .ref g16, .int 0]), (h2, oC 3 [.ref g17, .int 1]), (h3, oC 3 [.ref g18, .int 0])] sz) (QI D (fun (r : Int32) (u : Unit) => False) (fun (_ : Unit) => [(h0, oC 12 [.ref h1, .ref g0, .ref g1, .ref g2, .ref g3, .ref g4, .ref g5, .ref g6, .ref g7, .long 0]), (h1, oC 2 [.ref h2, .ref h3, .ref g8, .ref g9, .ref g10, .ref g11, .ref g12, .ref g13, .ref g14, .ref g15, .ref g16, .int 0]), (h2, oC 3 [.ref g17, .int 1]), (h3, oC 3 [.ref g18, .int 0])]) (va_A [(h0, oC 12 [.ref h1, .ref g0, .ref g1, .ref g2, .ref g3, .ref g4, .ref g5, .ref g6, .ref g7, .long 0]), (h1, oC 2 [.ref h2, .ref h3, .ref g8, .ref g9, .ref g10, .ref g11, .ref g12, .ref g13, .ref g14, .ref g15, .ref g16, .int 0]), (h2, oC 3 [.ref g17, .int 1]), (h3, oC 3 [.ref g18, .int 0])] sz)) (XW D (fun (E : String) (u : Unit) => (E = "java/lang/IndexOutOfBoundsException" ∧ p0 < 0) ∨ (E = "java/lang/IndexOutOfBoundsException" ∧ ¬ p0 < 0 ∧ 1 ≤ p0) ∨ (E = "java/lang/IndexOutOfBoundsException" ∧ p0 = 0 ∧ p1 < 0) ∨ (E = "java/lang/IndexOutOfBoundsException" ∧ p0 = 0 ∧ ¬ p1 < 0)) (fun (_ : Unit) => [(h0, oC 12 [.ref h1, .ref g0, .ref g1, .ref g2, .ref g3, .ref g4, .ref g5, .ref g6, .ref g7, .long 0]), (h1, oC 2 [.ref h2, .ref h3, .ref g8, .ref g9, .ref g10, .ref g11, .ref g12, .ref g13, .ref g14, .ref g15, .ref g16, .int 0]), (h2, oC 3 [.ref g17, .int 1]), (h3, oC 3 [.ref g18, .int 0])]) (va_A [(h0, oC 12 [.ref h1, .ref g0, .ref g1, .ref g2, .ref g3, .ref g4, .ref g5, .ref g6, .ref g7, .long 0]), (h1, oC 2 [.ref h2, .ref h3, .ref g8, .ref g9, .ref g10, .ref g11, .ref g12, .ref g13, .ref g14, .ref g15, .ref g16, .int 0]), (h2, oC 3 [.ref g17, .int 1]), (h3, oC 3 [.ref g18, .int 0])] sz)) 2 12 (va_A [(h0, oC 12 [.ref h1, .ref g0, .ref g1, .ref g2, .ref g3, .ref g4, .ref g5, .ref g6, .ref g7, .long 0]), (h1, oC 2 [.ref h2, .ref h3, .ref g8, .ref g9, .ref g10, .ref g11, .ref g12, .ref g13, .ref g14, .ref g15, .ref g16, .int 0]), (h2, oC 3 [.ref g17, .int 1]), (h3, oC 3 [.ref g18, .int 0])] sz) :=
  xmet_of (by decide +kernel) (Nat.le_of_ble_eq_true rfl) (fun p e s m args below meth c B EB hout hsz => by
    have B : VB p s m args meth c D Y (va_A [(h0, oC 12 [.ref h1, .ref g0, .ref g1, .ref g2, .ref g3, .ref g4, .ref g5, .ref g6, .ref g7, .long 0]), (h1, oC 2 [.ref h2, .ref h3, .ref g8, .ref g9, .ref g10, .ref g11, .ref g12, .ref g13, .ref g14, .ref g15, .ref g16, .int 0]), (h2, oC 3 [.ref g17, .int 1]), (h3, oC 3 [.ref g18, .int 0])] sz) cX11_bestFor 3 RX11 (some .int) := B
    refine V_aload_n 0 B dX11_bestFor_0 0 rfl ?_
    refine V_iload_n 1 B dX11_bestFor_1 1 rfl ?_
    refine V_xvv 2 B EB (st := []) (As := [.int p0]) (fun sz => mX11_needMode_1 l hl9 D Y (h0) (h1) (g0) (g1) (g2) (g3) (g4) (g5) (g6) (g7) (h2) (h3) (g8) (g9) (g10) (g11) (g12) (g13) (g14) (g15) (g16) (g17) (p0) sz) glV_RX11_180 ⟨rfl, rfl⟩ ⟨(Nat.le_of_ble_eq_true rfl), (Nat.le_of_ble_eq_true rfl)⟩ ⟨(Nat.le_of_ble_eq_true rfl), (Nat.le_of_ble_eq_true rfl)⟩ [0, 0, 0] rfl 12 0 rfl rfl rfl rfl (Nat.le_of_ble_eq_true rfl) rfl (fun _ _ => rfl) (fun _ _ _ => rfl) dX11_bestFor_2 (fun E u0 w0 => ?_) (fun u0 w0 => ?_)
    ·
      rcases w0 with ⟨rfl, k1⟩ | ⟨rfl, k2, k3⟩
      ·
        exact VX_out 2 B hout () (Or.inl ⟨rfl, k1⟩) rfl (Nat.le_of_ble_eq_true rfl) (Nat.le_of_ble_eq_true rfl)
      ·
        exact VX_out 2 B hout () (Or.inr (Or.inl ⟨rfl, k2, k3⟩)) rfl (Nat.le_of_ble_eq_true rfl) (Nat.le_of_ble_eq_true rfl)
    ·
      have k4 := w0
      refine V_ws [(h0, oC 12 [.ref h1, .ref g0, .ref g1, .ref g2, .ref g3, .ref g4, .ref g5, .ref g6, .ref g7, .long 0]), (h1, oC 2 [.ref h2, .ref h3, .ref g8, .ref g9, .ref g10, .ref g11, .ref g12, .ref g13, .ref g14, .ref g15, .ref g16, .int 0]), (h2, oC 3 [.ref g17, .int 1]), (h3, oC 3 [.ref g18, .int 0])] rfl ?_
      obtain rfl : p0 = 0 := k4
      refine V_aload_n 5 B dX11_bestFor_5 0 rfl ?_
      refine V_iload_n 6 B dX11_bestFor_6 2 rfl ?_
      refine V_xvv 7 B EB (st := []) (As := [.int p1]) (fun sz => mX11_needCommand_1 l hl9 D Y (h0) (h1) (g0) (g1) (g2) (g3) (g4) (g5) (g6) (g7) (h2) (h3) (g8) (g9) (g10) (g11) (g12) (g13) (g14) (g15) (g16) (g18) (p1) sz) glV_RX11_204 ⟨rfl, rfl⟩ ⟨(Nat.le_of_ble_eq_true rfl), (Nat.le_of_ble_eq_true rfl)⟩ ⟨(Nat.le_of_ble_eq_true rfl), (Nat.le_of_ble_eq_true rfl)⟩ [0, 0, 1] rfl 12 0 rfl rfl rfl rfl (Nat.le_of_ble_eq_true rfl) rfl (fun _ _ => rfl) (fun _ _ _ => rfl) dX11_bestFor_7 (fun E u5 w5 => ?_) (fun u5 w5 => ?_)
      ·
        rcases w5 with ⟨rfl, k6⟩ | ⟨rfl, k7⟩
        ·
          exact VX_out 7 B hout () (Or.inr (Or.inr (Or.inl ⟨rfl, rfl, k6⟩))) rfl (Nat.le_of_ble_eq_true rfl) (Nat.le_of_ble_eq_true rfl)
        ·
          exact VX_out 7 B hout () (Or.inr (Or.inr (Or.inr ⟨rfl, rfl, k7⟩))) rfl (Nat.le_of_ble_eq_true rfl) (Nat.le_of_ble_eq_true rfl)
      ·
        exact w5.elim)
theorem dX11_effort_0 : decode cX11_effort 0 = .ok (.aload_n 0, 1) := by decide +kernel
theorem dX11_effort_1 : decode cX11_effort 1 = .ok (.iload_n 1, 1) := by decide +kernel
theorem dX11_effort_2 : decode cX11_effort 2 = .ok (.invokevirtual 180, 3) := by decide +kernel
theorem dX11_effort_5 : decode cX11_effort 5 = .ok (.aload_n 0, 1) := by decide +kernel
theorem dX11_effort_6 : decode cX11_effort 6 = .ok (.getfield 30, 3) := by decide +kernel
theorem dX11_effort_9 : decode cX11_effort 9 = .ok (.iload_n 1, 1) := by decide +kernel
theorem dX11_effort_10 : decode cX11_effort 10 = .ok (.invokevirtual 270, 3) := by decide +kernel
theorem dX11_effort_13 : decode cX11_effort 13 = .ok (.lconst 0, 1) := by decide +kernel
theorem dX11_effort_14 : decode cX11_effort 14 = .ok (.lstore_n 2, 1) := by decide +kernel
theorem dX11_effort_15 : decode cX11_effort 15 = .ok (.iconst 0, 1) := by decide +kernel
theorem dX11_effort_16 : decode cX11_effort 16 = .ok (.istore 4, 2) := by decide +kernel
theorem dX11_effort_18 : decode cX11_effort 18 = .ok (.iload 4, 2) := by decide +kernel
theorem dX11_effort_20 : decode cX11_effort 20 = .ok (.aload_n 0, 1) := by decide +kernel
theorem dX11_effort_21 : decode cX11_effort 21 = .ok (.getfield 10, 3) := by decide +kernel
theorem dX11_effort_24 : decode cX11_effort 24 = .ok (.getfield 119, 3) := by decide +kernel
theorem dX11_effort_27 : decode cX11_effort 27 = .ok (.invokevirtual 95, 3) := by decide +kernel
theorem dX11_effort_30 : decode cX11_effort 30 = .ok (.if_icmp .ge 59, 3) := by decide +kernel
theorem dX11_effort_89 : decode cX11_effort 89 = .ok (.lload_n 2, 1) := by decide +kernel
theorem dX11_effort_90 : decode cX11_effort 90 = .ok (.lreturn, 1) := by decide +kernel
set_option maxRecDepth 100000 in
set_option maxHeartbeats 4000000 in
theorem mX11_effort_1 (l : Launch) (hl9 : l.stackTraces = false) (D : va_G) (Y : Nat → ClassId) (h0 : Nat) (h1 : Nat) (g0 : Nat) (g1 : Nat) (g2 : Nat) (h6 : Nat) (g3 : Nat) (g4 : Nat) (g5 : Nat) (g6 : Nat) (h2 : Nat) (h4 : Nat) (g7 : Nat) (g8 : Nat) (g9 : Nat) (h5 : Nat) (g10 : Nat) (g11 : Nat) (g12 : Nat) (g13 : Nat) (g14 : Nat) (h3 : Nat) (g15 : Nat) (g16 : Nat) (h7 : Nat) (h9 : Nat) (g17 : Nat) (g18 : Nat) (h8 : Nat) (g19 : Nat) (p0 : Int32) (sz : Nat) : vx_Met l yX11_effort (WSm yX11_effort cX11_effort 6 (some .long)) (mkR 7 1 6 103) (PreX D Y [.ref h0, .int p0] [(h0, oC 12 [.ref h1, .ref g0, .ref g1, .ref g2, .ref h6, .ref g3, .ref g4, .ref g5, .ref g6, .long 0]), (h1, oC 2 [.ref h2, .ref h4, .ref g7, .ref g8, .ref g9, .ref h5, .ref g10, .ref g11, .ref g12, .ref g13, .ref g14, .int 0]), (h2, oC 3 [.ref h3, .int 1]), (h3, aI Y 6 (upd (fun _ => 0) 0 (-1))), (h4, oC 3 [.ref g15, .int 0]), (h5, oC 3 [.ref g16, .int 0]), (h6, oC 11 [.ref h1, .ref h7, .ref h9, .ref g17, .ref g18]), (h7, oC 3 [.ref h8, .int 0]), (h8, aI Y 6 (fun _ => 0)), (h9, oC 3 [.ref g19, .int 0])] sz) (QJ D (fun (r : Int64) (u : Unit) => p0 = 0 ∧ 0 = r) (fun (_ : Unit) => [(h0, oC 12 [.ref h1, .ref g0, .ref g1, .ref g2, .ref h6, .ref g3, .ref g4, .ref g5, .ref g6, .long 0]), (h1, oC 2 [.ref h2, .ref h4, .ref g7, .ref g8, .ref g9, .ref h5, .ref g10, .ref g11, .ref g12, .ref g13, .ref g14, .int 0]), (h2, oC 3 [.ref h3, .int 1]), (h3, aI Y 6 (upd (fun _ => 0) 0 (-1))), (h4, oC 3 [.ref g15, .int 0]), (h5, oC 3 [.ref g16, .int 0]), (h6, oC 11 [.ref h1, .ref h7, .ref h9, .ref g17, .ref g18]), (h7, oC 3 [.ref h8, .int 6]), (h8, aI Y 6 (upd (upd (upd (upd (upd (upd (upd (fun _ => 0) 0 (-1)) 1 (-1)) 2 (-1)) 3 (-1)) 4 (-1)) 5 (-1)) 0 0)), (h9, oC 3 [.ref g19, .int 0])]) (va_A [(h0, oC 12 [.ref h1, .ref g0, .ref g1, .ref g2, .ref h6, .ref g3, .ref g4, .ref g5, .ref g6, .long 0]), (h1, oC 2 [.ref h2, .ref h4, .ref g7, .ref g8, .ref g9, .ref h5, .ref g10, .ref g11, .ref g12, .ref g13, .ref g14, .int 0]), (h2, oC 3 [.ref h3, .int 1]), (h3, aI Y 6 (upd (fun _ => 0) 0 (-1))), (h4, oC 3 [.ref g15, .int 0]), (h5, oC 3 [.ref g16, .int 0]), (h6, oC 11 [.ref h1, .ref h7, .ref h9, .ref g17, .ref g18]), (h7, oC 3 [.ref h8, .int 0]), (h8, aI Y 6 (fun _ => 0)), (h9, oC 3 [.ref g19, .int 0])] sz)) (XW D (fun (E : String) (u : Unit) => (E = "java/lang/IndexOutOfBoundsException" ∧ p0 < 0) ∨ (E = "java/lang/IndexOutOfBoundsException" ∧ ¬ p0 < 0 ∧ 1 ≤ p0)) (fun (_ : Unit) => [(h0, oC 12 [.ref h1, .ref g0, .ref g1, .ref g2, .ref h6, .ref g3, .ref g4, .ref g5, .ref g6, .long 0]), (h1, oC 2 [.ref h2, .ref h4, .ref g7, .ref g8, .ref g9, .ref h5, .ref g10, .ref g11, .ref g12, .ref g13, .ref g14, .int 0]), (h2, oC 3 [.ref h3, .int 1]), (h3, aI Y 6 (upd (fun _ => 0) 0 (-1))), (h4, oC 3 [.ref g15, .int 0]), (h5, oC 3 [.ref g16, .int 0]), (h6, oC 11 [.ref h1, .ref h7, .ref h9, .ref g17, .ref g18]), (h7, oC 3 [.ref h8, .int 0]), (h8, aI Y 6 (fun _ => 0)), (h9, oC 3 [.ref g19, .int 0])]) (va_A [(h0, oC 12 [.ref h1, .ref g0, .ref g1, .ref g2, .ref h6, .ref g3, .ref g4, .ref g5, .ref g6, .long 0]), (h1, oC 2 [.ref h2, .ref h4, .ref g7, .ref g8, .ref g9, .ref h5, .ref g10, .ref g11, .ref g12, .ref g13, .ref g14, .int 0]), (h2, oC 3 [.ref h3, .int 1]), (h3, aI Y 6 (upd (fun _ => 0) 0 (-1))), (h4, oC 3 [.ref g15, .int 0]), (h5, oC 3 [.ref g16, .int 0]), (h6, oC 11 [.ref h1, .ref h7, .ref h9, .ref g17, .ref g18]), (h7, oC 3 [.ref h8, .int 0]), (h8, aI Y 6 (fun _ => 0)), (h9, oC 3 [.ref g19, .int 0])] sz)) 1 6 (va_A [(h0, oC 12 [.ref h1, .ref g0, .ref g1, .ref g2, .ref h6, .ref g3, .ref g4, .ref g5, .ref g6, .long 0]), (h1, oC 2 [.ref h2, .ref h4, .ref g7, .ref g8, .ref g9, .ref h5, .ref g10, .ref g11, .ref g12, .ref g13, .ref g14, .int 0]), (h2, oC 3 [.ref h3, .int 1]), (h3, aI Y 6 (upd (fun _ => 0) 0 (-1))), (h4, oC 3 [.ref g15, .int 0]), (h5, oC 3 [.ref g16, .int 0]), (h6, oC 11 [.ref h1, .ref h7, .ref h9, .ref g17, .ref g18]), (h7, oC 3 [.ref h8, .int 0]), (h8, aI Y 6 (fun _ => 0)), (h9, oC 3 [.ref g19, .int 0])] sz) :=
  xmet_of (by decide +kernel) (Nat.le_of_ble_eq_true rfl) (fun p e s m args below meth c B EB hout hsz => by
    have B : VB p s m args meth c D Y (va_A [(h0, oC 12 [.ref h1, .ref g0, .ref g1, .ref g2, .ref h6, .ref g3, .ref g4, .ref g5, .ref g6, .long 0]), (h1, oC 2 [.ref h2, .ref h4, .ref g7, .ref g8, .ref g9, .ref h5, .ref g10, .ref g11, .ref g12, .ref g13, .ref g14, .int 0]), (h2, oC 3 [.ref h3, .int 1]), (h3, aI Y 6 (upd (fun _ => 0) 0 (-1))), (h4, oC 3 [.ref g15, .int 0]), (h5, oC 3 [.ref g16, .int 0]), (h6, oC 11 [.ref h1, .ref h7, .ref h9, .ref g17, .ref g18]), (h7, oC 3 [.ref h8, .int 0]), (h8, aI Y 6 (fun _ => 0)), (h9, oC 3 [.ref g19, .int 0])] sz) cX11_effort 6 RX11 (some .long) := B
    refine V_aload_n 0 B dX11_effort_0 0 rfl ?_
    refine V_iload_n 1 B dX11_effort_1 1 rfl ?_
    refine V_xvv 2 B EB (st := []) (As := [.int p0]) (fun sz => mX11_needMode_1 l hl9 D Y (h0) (h1) (g0) (g1) (g2) (h6) (g3) (g4) (g5) (g6) (h2) (h4) (g7) (g8) (g9) (h5) (g10) (g11) (g12) (g13) (g14) (h3) (p0) sz) glV_RX11_180 ⟨rfl, rfl⟩ ⟨(Nat.le_of_ble_eq_true rfl), (Nat.le_of_ble_eq_true rfl)⟩ ⟨(Nat.le_of_ble_eq_true rfl), (Nat.le_of_ble_eq_true rfl)⟩ [0, 0, 0] rfl 12 0 rfl rfl rfl rfl (Nat.le_of_ble_eq_true rfl) rfl (fun _ _ => rfl) (fun _ _ _ => rfl) dX11_effort_2 (fun E u0 w0 => ?_) (fun u0 w0 => ?_)
    ·
      rcases w0 with ⟨rfl, k1⟩ | ⟨rfl, k2, k3⟩
      ·
        exact VX_out 2 B hout () (Or.inl ⟨rfl, k1⟩) rfl (Nat.le_of_ble_eq_true rfl) (Nat.le_of_ble_eq_true rfl)
      ·
        exact VX_out 2 B hout () (Or.inr ⟨rfl, k2, k3⟩) rfl (Nat.le_of_ble_eq_true rfl) (Nat.le_of_ble_eq_true rfl)
    ·
      have k4 := w0
      refine V_ws [(h0, oC 12 [.ref h1, .ref g0, .ref g1, .ref g2, .ref h6, .ref g3, .ref g4, .ref g5, .ref g6, .long 0]), (h1, oC 2 [.ref h2, .ref h4, .ref g7, .ref g8, .ref g9, .ref h5, .ref g10, .ref g11, .ref g12, .ref g13, .ref g14, .int 0]), (h2, oC 3 [.ref h3, .int 1]), (h3, aI Y 6 (upd (fun _ => 0) 0 (-1))), (h4, oC 3 [.ref g15, .int 0]), (h5, oC 3 [.ref g16, .int 0]), (h6, oC 11 [.ref h1, .ref h7, .ref h9, .ref g17, .ref g18]), (h7, oC 3 [.ref h8, .int 0]), (h8, aI Y 6 (fun _ => 0)), (h9, oC 3 [.ref g19, .int 0])] rfl ?_
      obtain rfl : p0 = 0 := k4
      refine V_aload_n 5 B dX11_effort_5 0 rfl ?_
      refine V_get 6 B gf_RX11_30 0 rfl rfl dX11_effort_6 ?_
      refine V_iload_n 9 B dX11_effort_9 1 rfl ?_
      refine V_cvv 10 B (st := []) (As := [.int 0]) (fun sz => mX10_gather_1 l D Y (h6) (h1) (h2) (h4) (g7) (g8) (g9) (h5) (g10) (g11) (g12) (g13) (g14) (h3) (g16) (h7) (h9) (g17) (g18) (h8) (g19) sz) glV_RX11_270 ⟨rfl, rfl⟩ ⟨(Nat.le_of_ble_eq_true rfl), (Nat.le_of_ble_eq_true rfl)⟩ ⟨(Nat.le_of_ble_eq_true rfl), (Nat.le_of_ble_eq_true rfl)⟩ [1, 0, 0, 1, 0, 0, 0, 0] rfl 11 4 rfl rfl rfl rfl (Nat.le_of_ble_eq_true rfl) rfl (fun _ _ => rfl) dX11_effort_10 (fun u5 w5 => ?_)
      refine V_ws [(h0, oC 12 [.ref h1, .ref g0, .ref g1, .ref g2, .ref h6, .ref g3, .ref g4, .ref g5, .ref g6, .long 0]), (h1, oC 2 [.ref h2, .ref h4, .ref g7, .ref g8, .ref g9, .ref h5, .ref g10, .ref g11, .ref g12, .ref g13, .ref g14, .int 0]), (h2, oC 3 [.ref h3, .int 1]), (h3, aI Y 6 (upd (fun _ => 0) 0 (-1))), (h4, oC 3 [.ref g15, .int 0]), (h5, oC 3 [.ref g16, .int 0]), (h6, oC 11 [.ref h1, .ref h7, .ref h9, .ref g17, .ref g18]), (h7, oC 3 [.ref h8, .int 6]), (h8, aI Y 6 (upd (upd (upd (upd (upd (upd (upd (fun _ => 0) 0 (-1)) 1 (-1)) 2 (-1)) 3 (-1)) 4 (-1)) 5 (-1)) 0 0)), (h9, oC 3 [.ref g19, .int 0])] rfl ?_
      refine V_lconst 13 B (v := 0) dX11_effort_13 (by decide +kernel) ?_
      refine V_lstore_n 14 B (lv2 := [(2, .long 0), (0, .ref h0), (1, .int 0)]) dX11_effort_14 (by decide) rfl ?_
      refine V_iconst 15 B (v := 0) dX11_effort_15 (by decide +kernel) ?_
      refine V_istore 16 B (lv2 := [(4, .int 0), (2, .long 0), (0, .ref h0), (1, .int 0)]) dX11_effort_16 (by decide) rfl ?_
      refine V_iload 18 B dX11_effort_18 0 rfl ?_
      refine V_aload_n 20 B dX11_effort_20 2 rfl ?_
      refine V_get 21 B gf_RX11_10 0 rfl rfl dX11_effort_21 ?_
      refine V_get 24 B gf_RX11_119 1 rfl rfl dX11_effort_24 ?_
      refine V_cvi 27 B (st := [.int 0]) (As := []) (fun sz => mX1_size_1 l D Y (h4) (g15) sz) glV_RX11_95 ⟨rfl, rfl⟩ ⟨(Nat.le_of_ble_eq_true rfl), (Nat.le_of_ble_eq_true rfl)⟩ ⟨(Nat.le_of_ble_eq_true rfl), (Nat.le_of_ble_eq_true rfl)⟩ [4] rfl 3 0 rfl rfl rfl rfl (Nat.le_of_ble_eq_true rfl) rfl (fun _ _ _ => rfl) dX11_effort_27 (fun r6 u6 w6 => ?_)
      obtain rfl := w6
      refine V_ws [(h0, oC 12 [.ref h1, .ref g0, .ref g1, .ref g2, .ref h6, .ref g3, .ref g4, .ref g5, .ref g6, .long 0]), (h1, oC 2 [.ref h2, .ref h4, .ref g7, .ref g8, .ref g9, .ref h5, .ref g10, .ref g11, .ref g12, .ref g13, .ref g14, .int 0]), (h2, oC 3 [.ref h3, .int 1]), (h3, aI Y 6 (upd (fun _ => 0) 0 (-1))), (h4, oC 3 [.ref g15, .int 0]), (h5, oC 3 [.ref g16, .int 0]), (h6, oC 11 [.ref h1, .ref h7, .ref h9, .ref g17, .ref g18]), (h7, oC 3 [.ref h8, .int 6]), (h8, aI Y 6 (upd (upd (upd (upd (upd (upd (upd (fun _ => 0) 0 (-1)) 1 (-1)) 2 (-1)) 3 (-1)) 4 (-1)) 5 (-1)) 0 0)), (h9, oC 3 [.ref g19, .int 0])] rfl ?_
      refine V_icmp_ge_t 30 B 89 dX11_effort_30 (by decide) (by decide +kernel) ?_
      refine V_lload_n 89 B dX11_effort_89 1 rfl ?_
      refine V_xret ?_
      exact V_lret 90 B dX11_effort_90 () ⟨rfl, rfl⟩ rfl)
