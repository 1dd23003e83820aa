theorem dX11_look_0 : decode cX11_look 0 = .ok (.aload_n 0, 1) := by decide +kernel
theorem dX11_look_1 : decode cX11_look 1 = .ok (.iload_n 1, 1) := by decide +kernel
theorem dX11_look_2 : decode cX11_look 2 = .ok (.invokevirtual 180, 3) := by decide +kernel
theorem dX11_look_5 : decode cX11_look 5 = .ok (.aload_n 0, 1) := by decide +kernel
theorem dX11_look_6 : decode cX11_look 6 = .ok (.getfield 68, 3) := by decide +kernel
theorem dX11_look_9 : decode cX11_look 9 = .ok (.lconst 0, 1) := by decide +kernel
theorem dX11_look_10 : decode cX11_look 10 = .ok (.lcmp, 1) := by decide +kernel
theorem dX11_look_11 : decode cX11_look 11 = .ok (.ifCond .ne 6, 3) := by decide +kernel
theorem dX11_look_17 : decode cX11_look 17 = .ok (.aload_n 0, 1) := by decide +kernel
theorem dX11_look_18 : decode cX11_look 18 = .ok (.getfield 30, 3) := by decide +kernel
theorem dX11_look_21 : decode cX11_look 21 = .ok (.iload_n 1, 1) := by decide +kernel
theorem dX11_look_22 : decode cX11_look 22 = .ok (.invokevirtual 264, 3) := by decide +kernel
theorem dX10_standIn_0 : decode cX10_standIn 0 = .ok (.aload_n 0, 1) := by decide +kernel
theorem dX10_standIn_1 : decode cX10_standIn 1 = .ok (.getfield 20, 3) := by decide +kernel
theorem gf_RX10_20 : GF RX10 20 11 1 := ⟨RX10, TX10, 5, rfl, inw_X10, Nat.le_of_ble_eq_true rfl, (mT2 1 rfl rfl)⟩
theorem dX10_standIn_4 : decode cX10_standIn 4 = .ok (.iconst (-1), 1) := by decide +kernel
theorem dX10_standIn_5 : decode cX10_standIn 5 = .ok (.bipush 6, 2) := by decide +kernel
theorem dX10_standIn_7 : decode cX10_standIn 7 = .ok (.invokevirtual 37, 3) := by decide +kernel
set_option maxRecDepth 100000 in
set_option maxHeartbeats 4000000 in
theorem sX1_refill_2 (l : Launch) (D : va_G) (Y : Nat → ClassId) (h0 : Nat) (h1 : Nat) (p0 : Int32) (f0 : Nat → Int32) (p1 : Int32) (p2 : Int32) (sz : Nat) : Met l yX1_refill (WSm yX1_refill cX1_refill 4 none) (mkR 0 0 0 0) (PreG EX D Y [.ref h0, .int p1, .int p2] [(h0, oC 3 [.ref h1, .int p0]), (h1, aI Y 6 f0)] sz) (QV D (fun (_ : UU) => True) (fun (u : UU) => [(h0, oC 3 [.ref h1, .int (u.1 0)]), (h1, aI Y 6 (u.2.2.1 0))]) (va_A [(h0, oC 3 [.ref h1, .int p0]), (h1, aI Y 6 f0)] sz)) 0 0 (va_A [(h0, oC 3 [.ref h1, .int p0]), (h1, aI Y 6 f0)] sz) :=
  gmet_of (by decide +kernel) (Nat.le_of_ble_eq_true rfl) (fun p e s m args below meth c B EB hsz => by
    have B : VB p s m args meth c D Y (va_A [(h0, oC 3 [.ref h1, .int p0]), (h1, aI Y 6 f0)] sz) cX1_refill 4 RX1 none := B
    refine V_aload_n 0 B dX1_refill_0 0 rfl ?_
    refine V_iconst 1 B (v := 0) dX1_refill_1 (by decide +kernel) ?_
    refine V_put 2 B gp_RX1_21 0 rfl (Nat.le_of_ble_eq_true rfl) rfl rfl dX1_refill_2 [(h0, oC 3 [.ref h1, .int 0]), (h1, aI Y 6 f0)] rfl ?_
    refine V_iconst 5 B (v := 0) dX1_refill_5 (by decide +kernel) ?_
    refine V_istore_n 6 B (lv2 := [(3, .int 0), (0, .ref h0), (1, .int p1), (2, .int p2)]) dX1_refill_6 (by decide) rfl ?_
    refine V_wloop (α := UU) (fun a => (2147483647 - ((a.1 0)).toInt).toNat) (fun a => 0 ≤ ((a.1 0)).toInt) (fun a => [(3, .int (a.1 0)), (0, .ref h0), (1, .int p1), (2, .int p2)]) (fun a => [(h0, oC 3 [.ref h1, .int (a.1 1)]), (h1, aI Y 6 (a.2.2.1 0))]) (mkU [0, 0] [] [f0] [] []) (show (0 : Int) ≤ (0 : Int32).toInt by decide +kernel) rfl rfl (fun a0 hI2 IH1 => ?_)
    refine V_lv [(3, .int (a0.1 0)), (0, .ref h0), (1, .int p1), (2, .int p2)] [0, 1, 2, 3] rfl ?_
    refine V_ws [(h0, oC 3 [.ref h1, .int (a0.1 1)]), (h1, aI Y 6 (a0.2.2.1 0))] rfl ?_
    refine V_iload_n 7 B dX1_refill_7 0 rfl ?_
    refine V_iload_n 8 B dX1_refill_8 3 rfl ?_
    refine V_icmp_ge 9 B 44 dX1_refill_9 (by decide) (fun k3 => ?_) (fun k3 => ?_)
    ·
      exact V_vret 44 B dX1_refill_44 (mkU [(a0.1 1)] [] [(a0.2.2.1 0)] [] []) trivial rfl
    ·
      refine V_iload_n 12 B dX1_refill_12 0 rfl ?_
      refine V_aload_n 13 B dX1_refill_13 1 rfl ?_
      refine V_get 14 B gf_RX1_15 0 rfl rfl dX1_refill_14 ?_
      refine V_alenI 17 B (v := 6) 1 rfl (by decide +kernel) dX1_refill_17 ?_
      refine V_icmp_ge 18 B 44 dX1_refill_18 (by decide) (fun k4 => ?_) (fun k4 => ?_)
      ·
        exact V_vret 44 B dX1_refill_44 (mkU [(a0.1 1)] [] [(a0.2.2.1 0)] [] []) trivial rfl
      ·
        refine V_aload_n 21 B dX1_refill_21 1 rfl ?_
        refine V_get 22 B gf_RX1_15 0 rfl rfl dX1_refill_22 ?_
        refine V_iload_n 25 B dX1_refill_25 0 rfl ?_
        refine V_iload_n 26 B dX1_refill_26 2 rfl ?_
        refine V_iast 27 B 1 rfl (vpin_b hI2 (b_nge k4 (n := 5) (by decide +kernel)) (by decide)) dX1_refill_27 [(h0, oC 3 [.ref h1, .int (a0.1 1)]), (h1, aI Y 6 (upd (a0.2.2.1 0) ((a0.1 0) : Int32).toNatClampNeg p1))] rfl ?_
        refine V_aload_n 28 B dX1_refill_28 1 rfl ?_
        refine V_dup 29 B dX1_refill_29 rfl ?_
        refine V_get 30 B gf_RX1_21 0 rfl rfl dX1_refill_30 ?_
        refine V_iconst 33 B (v := 1) dX1_refill_33 (by decide +kernel) ?_
        refine V_iadd 34 B dX1_refill_34 rfl ?_
        refine V_nmi (fun j5 _ => ?_)
        refine V_put 35 B gp_RX1_21 0 rfl (Nat.le_of_ble_eq_true rfl) rfl rfl dX1_refill_35 [(h0, oC 3 [.ref h1, .int j5]), (h1, aI Y 6 (upd (a0.2.2.1 0) ((a0.1 0) : Int32).toNatClampNeg p1))] rfl ?_
        refine V_iinc 38 B (v := ((a0.1 0) + Int32.ofInt 1)) (lv2 := [(3, .int ((a0.1 0) + Int32.ofInt 1)), (0, .ref h0), (1, .int p1), (2, .int p2)]) dX1_refill_38 0 rfl rfl (by decide) rfl ?_
        refine V_goto 41 B 7 dX1_refill_41 (by decide) ?_
        refine V_lv [(3, .int ((a0.1 0) + Int32.ofInt 1)), (0, .ref h0), (1, .int p1), (2, .int p2)] [0, 1, 2, 3] rfl ?_
        exact IH1 (mkU [((a0.1 0) + Int32.ofInt 1), j5] [] [(upd (a0.2.2.1 0) ((a0.1 0) : Int32).toNatClampNeg p1)] [] []) (Int.le_trans (by decide) (o_add_lo (c := Int32.ofInt 1) hI2 (b_nge k4 (n := 5) (by decide +kernel)) (by decide +kernel) (by decide +kernel) (k := 1) (by decide +kernel))) (up_dec (x := (a0.1 0)) (c := Int32.ofInt 1) (by decide +kernel) hI2 (Int.le_trans (b_nge k4 (n := 5) (by decide +kernel)) (by decide)) (by decide)))
theorem glV_RX10_37 : GLV RX10 37 yX1_refill RX1 cX1_refill 4 none 2 := ⟨⟨(mT4 54 rfl rfl), (mT3 157 rfl rfl), (mT3 158 rfl rfl), (mT1 3 rfl rfl), (mT3 159 rfl rfl)⟩, by decide +kernel⟩
theorem dX10_standIn_10 : decode cX10_standIn 10 = .ok (.iload_n 1, 1) := by decide +kernel
theorem dX10_standIn_11 : decode cX10_standIn 11 = .ok (.istore_n 2, 1) := by decide +kernel
theorem dX10_standIn_12 : decode cX10_standIn 12 = .ok (.iconst 0, 1) := by decide +kernel
theorem dX10_standIn_13 : decode cX10_standIn 13 = .ok (.istore_n 3, 1) := by decide +kernel
theorem dX10_standIn_14 : decode cX10_standIn 14 = .ok (.iload_n 3, 1) := by decide +kernel
theorem dX10_standIn_15 : decode cX10_standIn 15 = .ok (.bipush 6, 2) := by decide +kernel
theorem dX10_standIn_17 : decode cX10_standIn 17 = .ok (.if_icmp .ge 35, 3) := by decide +kernel
theorem dX10_standIn_52 : decode cX10_standIn 52 = .ok (.return_, 1) := by decide +kernel
theorem dX10_standIn_20 : decode cX10_standIn 20 = .ok (.iload_n 2, 1) := by decide +kernel
theorem dX10_standIn_21 : decode cX10_standIn 21 = .ok (.iconst (-1), 1) := by decide +kernel
theorem dX10_standIn_22 : decode cX10_standIn 22 = .ok (.if_icmp .eq 30, 3) := by decide +kernel
theorem dX10_standIn_25 : decode cX10_standIn 25 = .ok (.aload_n 0, 1) := by decide +kernel
theorem dX10_standIn_26 : decode cX10_standIn 26 = .ok (.getfield 20, 3) := by decide +kernel
theorem dX10_standIn_29 : decode cX10_standIn 29 = .ok (.iload_n 2, 1) := by decide +kernel
theorem dX10_standIn_30 : decode cX10_standIn 30 = .ok (.iload_n 3, 1) := by decide +kernel
theorem dX10_standIn_31 : decode cX10_standIn 31 = .ok (.invokevirtual 41, 3) := by decide +kernel
set_option maxRecDepth 100000 in
set_option maxHeartbeats 4000000 in
theorem sX1_put_2 (l : Launch) (D : va_G) (Y : Nat → ClassId) (h0 : Nat) (h1 : Nat) (p0 : Int32) (f0 : Nat → Int32) (p1 : Int32) (p2 : Int32) (sz : Nat) : Met l yX1_put (WSm yX1_put cX1_put 3 none) (mkR 0 0 0 0) (PreG EX D Y [.ref h0, .int p1, .int p2] [(h0, oC 3 [.ref h1, .int p0]), (h1, aI Y 6 f0)] sz) (QV D (fun (_ : UU) => True) (fun (u : UU) => [(h0, oC 3 [.ref h1, .int p0]), (h1, aI Y 6 (u.2.2.1 0))]) (va_A [(h0, oC 3 [.ref h1, .int p0]), (h1, aI Y 6 f0)] sz)) 0 0 (va_A [(h0, oC 3 [.ref h1, .int p0]), (h1, aI Y 6 f0)] sz) :=
  gmet_of (by decide +kernel) (Nat.le_of_ble_eq_true rfl) (fun p e s m args below meth c B EB hsz => by
    have B : VB p s m args meth c D Y (va_A [(h0, oC 3 [.ref h1, .int p0]), (h1, aI Y 6 f0)] sz) cX1_put 3 RX1 none := B
    refine V_iload_n 0 B dX1_put_0 1 rfl ?_
    refine V_if_lt 1 B 28 dX1_put_1 (by decide) (fun k0 => ?_) (fun k0 => ?_)
    ·
      exact V_vret 28 B dX1_put_28 (mkU [] [] [f0] [] []) trivial rfl
    ·
      refine V_iload_n 4 B dX1_put_4 1 rfl ?_
      refine V_aload_n 5 B dX1_put_5 0 rfl ?_
      refine V_get 6 B gf_RX1_21 0 rfl rfl dX1_put_6 ?_
      refine V_icmp_ge 9 B 28 dX1_put_9 (by decide) (fun k1 => ?_) (fun k1 => ?_)
      ·
        exact V_vret 28 B dX1_put_28 (mkU [] [] [f0] [] []) trivial rfl
      ·
        refine V_iload_n 12 B dX1_put_12 1 rfl ?_
        refine V_aload_n 13 B dX1_put_13 0 rfl ?_
        refine V_get 14 B gf_RX1_15 0 rfl rfl dX1_put_14 ?_
        refine V_alenI 17 B (v := 6) 1 rfl (by decide +kernel) dX1_put_17 ?_
        refine V_icmp_ge 18 B 28 dX1_put_18 (by decide) (fun k2 => ?_) (fun k2 => ?_)
        ·
          exact V_vret 28 B dX1_put_28 (mkU [] [] [f0] [] []) trivial rfl
        ·
          refine V_aload_n 21 B dX1_put_21 0 rfl ?_
          refine V_get 22 B gf_RX1_15 0 rfl rfl dX1_put_22 ?_
          refine V_iload_n 25 B dX1_put_25 1 rfl ?_
          refine V_iload_n 26 B dX1_put_26 2 rfl ?_
          refine V_iast 27 B 1 rfl (vpin_b (b_nlt k0 (n := 0) (by decide +kernel)) (b_nge k2 (n := 5) (by decide +kernel)) (by decide)) dX1_put_27 [(h0, oC 3 [.ref h1, .int p0]), (h1, aI Y 6 (upd f0 (p1 : Int32).toNatClampNeg p2))] rfl ?_
          exact V_vret 28 B dX1_put_28 (mkU [] [] [(upd f0 (p1 : Int32).toNatClampNeg p2)] [] []) trivial rfl)
theorem glV_RX10_41 : GLV RX10 41 yX1_put RX1 cX1_put 3 none 2 := ⟨⟨(mT4 55 rfl rfl), (mT3 162 rfl rfl), (mT3 163 rfl rfl), (mT1 3 rfl rfl), (mT3 164 rfl rfl)⟩, by decide +kernel⟩
theorem dX10_standIn_34 : decode cX10_standIn 34 = .ok (.aload_n 0, 1) := by decide +kernel
theorem dX10_standIn_35 : decode cX10_standIn 35 = .ok (.getfield 9, 3) := by decide +kernel
theorem gf_RX10_9 : GF RX10 9 11 0 := ⟨RX10, TX10, 5, rfl, inw_X10, Nat.le_of_ble_eq_true rfl, (mT2 0 rfl rfl)⟩
theorem dX10_standIn_38 : decode cX10_standIn 38 = .ok (.getfield 44, 3) := by decide +kernel
theorem gf_RX10_44 : GF RX10 44 2 0 := ⟨RX0, TX0, 12, rfl, inw_X0, Nat.le_of_ble_eq_true rfl, (mT1 160 rfl rfl)⟩
theorem dX10_standIn_41 : decode cX10_standIn 41 = .ok (.iload_n 2, 1) := by decide +kernel
theorem dX10_standIn_42 : decode cX10_standIn 42 = .ok (.invokevirtual 49, 3) := by decide +kernel
theorem glV_RX10_49 : GLV RX10 49 yX1_at RX1 cX1_at 2 (some .int) 1 := ⟨⟨(mT4 56 rfl rfl), (mT3 134 rfl rfl), (mT3 135 rfl rfl), (mT1 3 rfl rfl), (mT3 136 rfl rfl)⟩, by decide +kernel⟩
theorem dX10_standIn_45 : decode cX10_standIn 45 = .ok (.istore_n 2, 1) := by decide +kernel
theorem dX10_standIn_46 : decode cX10_standIn 46 = .ok (.iinc 3 1, 3) := by decide +kernel
theorem dX10_standIn_49 : decode cX10_standIn 49 = .ok (.goto (-35), 3) := by decide +kernel
set_option maxRecDepth 100000 in
set_option maxHeartbeats 4000000 in
theorem sX10_standIn_1 (l : Launch) (D : va_G) (Y : Nat → ClassId) (h0 : Nat) (h1 : Nat) (h2 : Nat) (h3 : Nat) (h4 : Nat) (h5 : Nat) (g0 : Nat) (g1 : Nat) (g2 : Nat) (g3 : Nat) (g4 : Nat) (g5 : Nat) (g6 : Nat) (g7 : Nat) (g8 : Nat) (g9 : Nat) (g10 : Nat) (g11 : Nat) (g12 : Nat) (p0 : Int32) (p1 : Int32) (f0 : Nat → Int32) (p2 : Int32) (f1 : Nat → Int32) (p3 : Int32) (sz : Nat) : Met l yX10_standIn (WSm yX10_standIn cX10_standIn 4 none) (mkR 1 0 0 23) (PreG EX D Y [.ref h3, .int p3] [(h0, oC 2 [.ref h1, .ref g0, .ref g1, .ref g2, .ref g3, .ref g4, .ref g5, .ref g6, .ref g7, .ref g8, .ref g9, .int p0]), (h1, oC 3 [.ref h2, .int p1]), (h2, aI Y 6 f0), (h3, oC 11 [.ref h0, .ref h4, .ref g10, .ref g11, .ref g12]), (h4, oC 3 [.ref h5, .int p2]), (h5, aI Y 6 f1)] sz) (QV D (fun (_ : UU) => True) (fun (u : UU) => [(h0, oC 2 [.ref h1, .ref g0, .ref g1, .ref g2, .ref g3, .ref g4, .ref g5, .ref g6, .ref g7, .ref g8, .ref g9, .int p0]), (h1, oC 3 [.ref h2, .int p1]), (h2, aI Y 6 f0), (h3, oC 11 [.ref h0, .ref h4, .ref g10, .ref g11, .ref g12]), (h4, oC 3 [.ref h5, .int (u.1 0)]), (h5, aI Y 6 (u.2.2.1 0))]) (va_A [(h0, oC 2 [.ref h1, .ref g0, .ref g1, .ref g2, .ref g3, .ref g4, .ref g5, .ref g6, .ref g7, .ref g8, .ref g9, .int p0]), (h1, oC 3 [.ref h2, .int p1]), (h2, aI Y 6 f0), (h3, oC 11 [.ref h0, .ref h4, .ref g10, .ref g11, .ref g12]), (h4, oC 3 [.ref h5, .int p2]), (h5, aI Y 6 f1)] sz)) 0 0 (va_A [(h0, oC 2 [.ref h1, .ref g0, .ref g1, .ref g2, .ref g3, .ref g4, .ref g5, .ref g6, .ref g7, .ref g8, .ref g9, .int p0]), (h1, oC 3 [.ref h2, .int p1]), (h2, aI Y 6 f0), (h3, oC 11 [.ref h0, .ref h4, .ref g10, .ref g11, .ref g12]), (h4, oC 3 [.ref h5, .int p2]), (h5, aI Y 6 f1)] sz) :=
  gmet_of (by decide +kernel) (Nat.le_of_ble_eq_true rfl) (fun p e s m args below meth c B EB hsz => by
    have B : VB p s m args meth c D Y (va_A [(h0, oC 2 [.ref h1, .ref g0, .ref g1, .ref g2, .ref g3, .ref g4, .ref g5, .ref g6, .ref g7, .ref g8, .ref g9, .int p0]), (h1, oC 3 [.ref h2, .int p1]), (h2, aI Y 6 f0), (h3, oC 11 [.ref h0, .ref h4, .ref g10, .ref g11, .ref g12]), (h4, oC 3 [.ref h5, .int p2]), (h5, aI Y 6 f1)] sz) cX10_standIn 4 RX10 none := B
    refine V_aload_n 0 B dX10_standIn_0 0 rfl ?_
    refine V_get 1 B gf_RX10_20 3 rfl rfl dX10_standIn_1 ?_
    refine V_iconst 4 B (v := (-1)) dX10_standIn_4 (by decide +kernel) ?_
    refine V_bipush 5 B (v := 6) dX10_standIn_5 (by decide +kernel) ?_
    refine V_gvv 7 B envX EB (st := []) (As := [.int (-1), .int 6]) (fun sz => sX1_refill_2 l D Y h4 h5 p2 f1 (-1) 6 sz) glV_RX10_37 ⟨rfl, rfl⟩ ⟨(Nat.le_of_ble_eq_true rfl), (Nat.le_of_ble_eq_true rfl)⟩ ⟨(Nat.le_of_ble_eq_true rfl), (Nat.le_of_ble_eq_true rfl)⟩ [4, 0] rfl 3 0 rfl rfl rfl rfl (Nat.le_of_ble_eq_true rfl) rfl (fun _ _ => rfl) dX10_standIn_7 (fun u1 w2 => ?_)
    refine V_ws [(h0, oC 2 [.ref h1, .ref g0, .ref g1, .ref g2, .ref g3, .ref g4, .ref g5, .ref g6, .ref g7, .ref g8, .ref g9, .int p0]), (h1, oC 3 [.ref h2, .int p1]), (h2, aI Y 6 f0), (h3, oC 11 [.ref h0, .ref h4, .ref g10, .ref g11, .ref g12]), (h4, oC 3 [.ref h5, .int (u1.1 0)]), (h5, aI Y 6 (u1.2.2.1 0))] rfl ?_
    refine V_iload_n 10 B dX10_standIn_10 1 rfl ?_
    refine V_istore_n 11 B (lv2 := [(2, .int p3), (0, .ref h3), (1, .int p3)]) dX10_standIn_11 (by decide) rfl ?_
    refine V_iconst 12 B (v := 0) dX10_standIn_12 (by decide +kernel) ?_
    refine V_istore_n 13 B (lv2 := [(3, .int 0), (2, .int p3), (0, .ref h3), (1, .int p3)]) dX10_standIn_13 (by decide) rfl ?_
    refine V_wloop (α := UU) (fun a => (2147483647 - ((a.1 0)).toInt).toNat) (fun a => 0 ≤ ((a.1 0)).toInt) (fun a => [(3, .int (a.1 0)), (2, .int (a.1 1)), (0, .ref h3), (1, .int p3)]) (fun a => [(h0, oC 2 [.ref h1, .ref g0, .ref g1, .ref g2, .ref g3, .ref g4, .ref g5, .ref g6, .ref g7, .ref g8, .ref g9, .int p0]), (h1, oC 3 [.ref h2, .int p1]), (h2, aI Y 6 f0), (h3, oC 11 [.ref h0, .ref h4, .ref g10, .ref g11, .ref g12]), (h4, oC 3 [.ref h5, .int (a.1 2)]), (h5, aI Y 6 (a.2.2.1 0))]) (mkU [0, p3, (u1.1 0)] [] [(u1.2.2.1 0)] [] []) (show (0 : Int) ≤ (0 : Int32).toInt by decide +kernel) rfl rfl (fun a3 hI5 IH4 => ?_)
    refine V_lv [(3, .int (a3.1 0)), (2, .int (a3.1 1)), (0, .ref h3), (1, .int p3)] [0, 1, 2, 3] rfl ?_
    refine V_ws [(h0, oC 2 [.ref h1, .ref g0, .ref g1, .ref g2, .ref g3, .ref g4, .ref g5, .ref g6, .ref g7, .ref g8, .ref g9, .int p0]), (h1, oC 3 [.ref h2, .int p1]), (h2, aI Y 6 f0), (h3, oC 11 [.ref h0, .ref h4, .ref g10, .ref g11, .ref g12]), (h4, oC 3 [.ref h5, .int (a3.1 2)]), (h5, aI Y 6 (a3.2.2.1 0))] rfl ?_
    refine V_iload_n 14 B dX10_standIn_14 0 rfl ?_
    refine V_bipush 15 B (v := 6) dX10_standIn_15 (by decide +kernel) ?_
    refine V_icmp_ge 17 B 52 dX10_standIn_17 (by decide) (fun k6 => ?_) (fun k6 => ?_)
    ·
      exact V_vret 52 B dX10_standIn_52 (mkU [(a3.1 2)] [] [(a3.2.2.1 0)] [] []) trivial rfl
    ·
      refine V_iload_n 20 B dX10_standIn_20 1 rfl ?_
      refine V_iconst 21 B (v := (-1)) dX10_standIn_21 (by decide +kernel) ?_
      refine V_icmp_eq 22 B 52 dX10_standIn_22 (by decide) (fun k7 => ?_) (fun k7 => ?_)
      ·
        exact V_vret 52 B dX10_standIn_52 (mkU [(a3.1 2)] [] [(a3.2.2.1 0)] [] []) trivial rfl
      ·
        refine V_aload_n 25 B dX10_standIn_25 2 rfl ?_
        refine V_get 26 B gf_RX10_20 3 rfl rfl dX10_standIn_26 ?_
        refine V_iload_n 29 B dX10_standIn_29 1 rfl ?_
        refine V_iload_n 30 B dX10_standIn_30 0 rfl ?_
        refine V_gvv 31 B envX EB (st := []) (As := [.int (a3.1 1), .int (a3.1 0)]) (fun sz => sX1_put_2 l D Y h4 h5 (a3.1 2) (a3.2.2.1 0) (a3.1 1) (a3.1 0) sz) glV_RX10_41 ⟨rfl, rfl⟩ ⟨(Nat.le_of_ble_eq_true rfl), (Nat.le_of_ble_eq_true rfl)⟩ ⟨(Nat.le_of_ble_eq_true rfl), (Nat.le_of_ble_eq_true rfl)⟩ [4, 0] rfl 3 0 rfl rfl rfl rfl (Nat.le_of_ble_eq_true rfl) rfl (fun _ _ => rfl) dX10_standIn_31 (fun u9 w10 => ?_)
        refine V_ws [(h0, oC 2 [.ref h1, .ref g0, .ref g1, .ref g2, .ref g3, .ref g4, .ref g5, .ref g6, .ref g7, .ref g8, .ref g9, .int p0]), (h1, oC 3 [.ref h2, .int p1]), (h2, aI Y 6 f0), (h3, oC 11 [.ref h0, .ref h4, .ref g10, .ref g11, .ref g12]), (h4, oC 3 [.ref h5, .int (a3.1 2)]), (h5, aI Y 6 (u9.2.2.1 0))] rfl ?_
        refine V_aload_n 34 B dX10_standIn_34 2 rfl ?_
        refine V_get 35 B gf_RX10_9 3 rfl rfl dX10_standIn_35 ?_
        refine V_get 38 B gf_RX10_44 0 rfl rfl dX10_standIn_38 ?_
        refine V_iload_n 41 B dX10_standIn_41 1 rfl ?_
        refine V_gvi 42 B envX EB (st := []) (As := [.int (a3.1 1)]) (fun sz => sX1_at_4 l D Y h1 h2 p1 f0 (a3.1 1) sz) glV_RX10_49 ⟨rfl, rfl⟩ ⟨(Nat.le_of_ble_eq_true rfl), (Nat.le_of_ble_eq_true rfl)⟩ ⟨(Nat.le_of_ble_eq_true rfl), (Nat.le_of_ble_eq_true rfl)⟩ [1, 0] rfl 3 0 rfl rfl rfl rfl (Nat.le_of_ble_eq_true rfl) rfl (fun _ _ _ => rfl) dX10_standIn_42 (fun j11 u12 w13 => ?_)
        refine V_ws [(h0, oC 2 [.ref h1, .ref g0, .ref g1, .ref g2, .ref g3, .ref g4, .ref g5, .ref g6, .ref g7, .ref g8, .ref g9, .int p0]), (h1, oC 3 [.ref h2, .int p1]), (h2, aI Y 6 f0), (h3, oC 11 [.ref h0, .ref h4, .ref g10, .ref g11, .ref g12]), (h4, oC 3 [.ref h5, .int (a3.1 2)]), (h5, aI Y 6 (u9.2.2.1 0))] rfl ?_
        refine V_istore_n 45 B (lv2 := [(2, .int j11), (3, .int (a3.1 0)), (0, .ref h3), (1, .int p3)]) dX10_standIn_45 (by decide) rfl ?_
        refine V_iinc 46 B (v := ((a3.1 0) + Int32.ofInt 1)) (lv2 := [(3, .int ((a3.1 0) + Int32.ofInt 1)), (2, .int j11), (0, .ref h3), (1, .int p3)]) dX10_standIn_46 1 rfl rfl (by decide) rfl ?_
        refine V_goto 49 B 14 dX10_standIn_49 (by decide) ?_
        refine V_lv [(3, .int ((a3.1 0) + Int32.ofInt 1)), (2, .int j11), (0, .ref h3), (1, .int p3)] [0, 1, 2, 3] rfl ?_
        exact IH4 (mkU [((a3.1 0) + Int32.ofInt 1), j11, (a3.1 2)] [] [(u9.2.2.1 0)] [] []) (Int.le_trans (by decide) (o_add_lo (c := Int32.ofInt 1) hI5 (b_nge k6 (n := 5) (by decide +kernel)) (by decide +kernel) (by decide +kernel) (k := 1) (by decide +kernel))) (up_dec (x := (a3.1 0)) (c := Int32.ofInt 1) (by decide +kernel) hI5 (Int.le_trans (b_nge k6 (n := 5) (by decide +kernel)) (by decide)) (by decide)))
theorem glV_RX11_264 : GLV RX11 264 yX10_standIn RX10 cX10_standIn 4 none 1 := ⟨⟨(mT6 54 rfl rfl), (mT4 51 rfl rfl), (mT4 52 rfl rfl), (mT1 8 rfl rfl), (mT4 53 rfl rfl)⟩, by decide +kernel⟩
theorem dX11_look_25 : decode cX11_look 25 = .ok (.aload_n 0, 1) := by decide +kernel
theorem dX11_look_26 : decode cX11_look 26 = .ok (.getfield 30, 3) := by decide +kernel
theorem dX11_look_29 : decode cX11_look 29 = .ok (.aload_n 0, 1) := by decide +kernel
theorem dX11_look_30 : decode cX11_look 30 = .ok (.getfield 68, 3) := by decide +kernel
theorem dX11_look_33 : decode cX11_look 33 = .ok (.invokevirtual 267, 3) := by decide +kernel
theorem dX10_seenWith_0 : decode cX10_seenWith 0 = .ok (.iconst 0, 1) := by decide +kernel
theorem dX10_seenWith_1 : decode cX10_seenWith 1 = .ok (.istore_n 3, 1) := by decide +kernel
theorem dX10_seenWith_2 : decode cX10_seenWith 2 = .ok (.iload_n 3, 1) := by decide +kernel
theorem dX10_seenWith_3 : decode cX10_seenWith 3 = .ok (.aload_n 0, 1) := by decide +kernel
theorem dX10_seenWith_4 : decode cX10_seenWith 4 = .ok (.getfield 9, 3) := by decide +kernel
theorem dX10_seenWith_7 : decode cX10_seenWith 7 = .ok (.getfield 53, 3) := by decide +kernel
theorem gf_RX10_53 : GF RX10 53 2 5 := ⟨RX0, TX0, 12, rfl, inw_X0, Nat.le_of_ble_eq_true rfl, (mT1 179 rfl rfl)⟩
theorem dX10_seenWith_10 : decode cX10_seenWith 10 = .ok (.invokevirtual 62, 3) := by decide +kernel
theorem glV_RX10_62 : GLV RX10 62 yX1_size RX1 cX1_size 1 (some .int) 0 := ⟨⟨(mT4 61 rfl rfl), (mT3 47 rfl rfl), (mT3 48 rfl rfl), (mT1 3 rfl rfl), (mT3 49 rfl rfl)⟩, by decide +kernel⟩
theorem dX10_seenWith_13 : decode cX10_seenWith 13 = .ok (.if_icmp .ge 35, 3) := by decide +kernel
theorem dX10_seenWith_48 : decode cX10_seenWith 48 = .ok (.iconst (-1), 1) := by decide +kernel
theorem dX10_seenWith_49 : decode cX10_seenWith 49 = .ok (.ireturn, 1) := by decide +kernel
theorem dX10_seenWith_16 : decode cX10_seenWith 16 = .ok (.aload_n 0, 1) := by decide +kernel
theorem dX10_seenWith_17 : decode cX10_seenWith 17 = .ok (.getfield 9, 3) := by decide +kernel
theorem dX10_seenWith_20 : decode cX10_seenWith 20 = .ok (.getfield 56, 3) := by decide +kernel
theorem gf_RX10_56 : GF RX10 56 2 7 := ⟨RX0, TX0, 12, rfl, inw_X0, Nat.le_of_ble_eq_true rfl, (mT1 187 rfl rfl)⟩
theorem dX10_seenWith_23 : decode cX10_seenWith 23 = .ok (.iload_n 3, 1) := by decide +kernel
theorem dX10_seenWith_24 : decode cX10_seenWith 24 = .ok (.invokevirtual 59, 3) := by decide +kernel
theorem glV_RX10_59 : GLV RX10 59 yX5_at RX5 cX5_at 2 (some .long) 1 := ⟨⟨(mT4 62 rfl rfl), (mT3 138 rfl rfl), (mT3 139 rfl rfl), (mT1 5 rfl rfl), (mT3 140 rfl rfl)⟩, by decide +kernel⟩
theorem dX10_seenWith_27 : decode cX10_seenWith 27 = .ok (.lload_n 1, 1) := by decide +kernel
theorem dX10_seenWith_28 : decode cX10_seenWith 28 = .ok (.lcmp, 1) := by decide +kernel
theorem dX10_seenWith_29 : decode cX10_seenWith 29 = .ok (.ifCond .ne 13, 3) := by decide +kernel
theorem dX10_seenWith_42 : decode cX10_seenWith 42 = .ok (.iinc 3 1, 3) := by decide +kernel
theorem dX10_seenWith_45 : decode cX10_seenWith 45 = .ok (.goto (-43), 3) := by decide +kernel
theorem dX10_seenWith_32 : decode cX10_seenWith 32 = .ok (.aload_n 0, 1) := by decide +kernel
theorem dX10_seenWith_33 : decode cX10_seenWith 33 = .ok (.iload_n 3, 1) := by decide +kernel
theorem dX10_seenWith_34 : decode cX10_seenWith 34 = .ok (.invokevirtual 78, 3) := by decide +kernel
theorem dX10_isSeen_0 : decode cX10_isSeen 0 = .ok (.aload_n 0, 1) := by decide +kernel
theorem dX10_isSeen_1 : decode cX10_isSeen 1 = .ok (.getfield 20, 3) := by decide +kernel
theorem dX10_isSeen_4 : decode cX10_isSeen 4 = .ok (.aload_n 0, 1) := by decide +kernel
theorem dX10_isSeen_5 : decode cX10_isSeen 5 = .ok (.getfield 9, 3) := by decide +kernel
theorem dX10_isSeen_8 : decode cX10_isSeen 8 = .ok (.getfield 53, 3) := by decide +kernel
theorem dX10_isSeen_11 : decode cX10_isSeen 11 = .ok (.iload_n 1, 1) := by decide +kernel
theorem dX10_isSeen_12 : decode cX10_isSeen 12 = .ok (.invokevirtual 49, 3) := by decide +kernel
theorem dX10_isSeen_15 : decode cX10_isSeen 15 = .ok (.invokevirtual 49, 3) := by decide +kernel
theorem dX10_isSeen_18 : decode cX10_isSeen 18 = .ok (.istore_n 2, 1) := by decide +kernel
theorem dX10_isSeen_19 : decode cX10_isSeen 19 = .ok (.aload_n 0, 1) := by decide +kernel
theorem dX10_isSeen_20 : decode cX10_isSeen 20 = .ok (.getfield 9, 3) := by decide +kernel
theorem dX10_isSeen_23 : decode cX10_isSeen 23 = .ok (.getfield 56, 3) := by decide +kernel
theorem dX10_isSeen_26 : decode cX10_isSeen 26 = .ok (.iload_n 1, 1) := by decide +kernel
theorem dX10_isSeen_27 : decode cX10_isSeen 27 = .ok (.invokevirtual 59, 3) := by decide +kernel
theorem dX10_isSeen_30 : decode cX10_isSeen 30 = .ok (.lstore_n 3, 1) := by decide +kernel
theorem dX10_isSeen_31 : decode cX10_isSeen 31 = .ok (.iconst 0, 1) := by decide +kernel
theorem dX10_isSeen_32 : decode cX10_isSeen 32 = .ok (.istore 5, 2) := by decide +kernel
theorem dX10_isSeen_34 : decode cX10_isSeen 34 = .ok (.iload 5, 2) := by decide +kernel
theorem dX10_isSeen_36 : decode cX10_isSeen 36 = .ok (.aload_n 0, 1) := by decide +kernel
theorem dX10_isSeen_37 : decode cX10_isSeen 37 = .ok (.getfield 9, 3) := by decide +kernel
theorem dX10_isSeen_40 : decode cX10_isSeen 40 = .ok (.getfield 53, 3) := by decide +kernel
theorem dX10_isSeen_43 : decode cX10_isSeen 43 = .ok (.invokevirtual 62, 3) := by decide +kernel
theorem dX10_isSeen_46 : decode cX10_isSeen 46 = .ok (.if_icmp .ge 63, 3) := by decide +kernel
theorem dX10_isSeen_109 : decode cX10_isSeen 109 = .ok (.iload_n 2, 1) := by decide +kernel
theorem dX10_isSeen_110 : decode cX10_isSeen 110 = .ok (.iconst (-1), 1) := by decide +kernel
theorem dX10_isSeen_111 : decode cX10_isSeen 111 = .ok (.if_icmp .eq 7, 3) := by decide +kernel
theorem dX10_isSeen_118 : decode cX10_isSeen 118 = .ok (.iconst 0, 1) := by decide +kernel
theorem dX10_isSeen_119 : decode cX10_isSeen 119 = .ok (.ireturn, 1) := by decide +kernel
theorem dX10_isSeen_114 : decode cX10_isSeen 114 = .ok (.iconst 1, 1) := by decide +kernel
theorem dX10_isSeen_115 : decode cX10_isSeen 115 = .ok (.goto 4, 3) := by decide +kernel
theorem dX10_isSeen_49 : decode cX10_isSeen 49 = .ok (.aload_n 0, 1) := by decide +kernel
theorem dX10_isSeen_50 : decode cX10_isSeen 50 = .ok (.getfield 20, 3) := by decide +kernel
theorem dX10_isSeen_53 : decode cX10_isSeen 53 = .ok (.aload_n 0, 1) := by decide +kernel
theorem dX10_isSeen_54 : decode cX10_isSeen 54 = .ok (.getfield 9, 3) := by decide +kernel
theorem dX10_isSeen_57 : decode cX10_isSeen 57 = .ok (.getfield 53, 3) := by decide +kernel
theorem dX10_isSeen_60 : decode cX10_isSeen 60 = .ok (.iload 5, 2) := by decide +kernel
theorem dX10_isSeen_62 : decode cX10_isSeen 62 = .ok (.invokevirtual 49, 3) := by decide +kernel
theorem dX10_isSeen_65 : decode cX10_isSeen 65 = .ok (.invokevirtual 49, 3) := by decide +kernel
theorem dX10_isSeen_68 : decode cX10_isSeen 68 = .ok (.istore 6, 2) := by decide +kernel
theorem dX10_isSeen_70 : decode cX10_isSeen 70 = .ok (.iload 6, 2) := by decide +kernel
theorem dX10_isSeen_72 : decode cX10_isSeen 72 = .ok (.iconst (-1), 1) := by decide +kernel
theorem dX10_isSeen_73 : decode cX10_isSeen 73 = .ok (.if_icmp .eq 30, 3) := by decide +kernel
theorem dX10_isSeen_103 : decode cX10_isSeen 103 = .ok (.iinc 5 1, 3) := by decide +kernel
theorem dX10_isSeen_106 : decode cX10_isSeen 106 = .ok (.goto (-72), 3) := by decide +kernel
theorem dX10_isSeen_76 : decode cX10_isSeen 76 = .ok (.iload 6, 2) := by decide +kernel
theorem dX10_isSeen_78 : decode cX10_isSeen 78 = .ok (.iload_n 2, 1) := by decide +kernel
theorem dX10_isSeen_79 : decode cX10_isSeen 79 = .ok (.if_icmp .ge 24, 3) := by decide +kernel
theorem dX10_isSeen_82 : decode cX10_isSeen 82 = .ok (.aload_n 0, 1) := by decide +kernel
theorem dX10_isSeen_83 : decode cX10_isSeen 83 = .ok (.getfield 9, 3) := by decide +kernel
theorem dX10_isSeen_86 : decode cX10_isSeen 86 = .ok (.getfield 56, 3) := by decide +kernel
theorem dX10_isSeen_89 : decode cX10_isSeen 89 = .ok (.iload 5, 2) := by decide +kernel
theorem dX10_isSeen_91 : decode cX10_isSeen 91 = .ok (.invokevirtual 59, 3) := by decide +kernel
theorem dX10_isSeen_94 : decode cX10_isSeen 94 = .ok (.lload_n 3, 1) := by decide +kernel
theorem dX10_isSeen_95 : decode cX10_isSeen 95 = .ok (.invokestatic 66, 3) := by decide +kernel
theorem glS_RX10_66 : GLS RX10 66 yX6_clashBetween cX6_clashBetween 9 (some .boolean) 2 := ⟨⟨(mT4 67 rfl rfl), (mT3 108 rfl rfl), (mT1 18 rfl rfl), (mT3 109 rfl rfl)⟩, by decide +kernel⟩
theorem dX10_isSeen_98 : decode cX10_isSeen 98 = .ok (.ifCond .eq 5, 3) := by decide +kernel
theorem dX10_isSeen_101 : decode cX10_isSeen 101 = .ok (.iconst 0, 1) := by decide +kernel
theorem dX10_isSeen_102 : decode cX10_isSeen 102 = .ok (.ireturn, 1) := by decide +kernel
set_option maxRecDepth 100000 in
set_option maxHeartbeats 4000000 in
theorem sX10_isSeen_1 (l : Launch) (D : va_G) (Y : Nat → ClassId) (h0 : Nat) (h1 : Nat) (h2 : Nat) (h3 : Nat) (h4 : Nat) (h5 : Nat) (h6 : Nat) (h7 : Nat) (g0 : Nat) (g1 : Nat) (g2 : Nat) (g3 : Nat) (g4 : Nat) (g5 : Nat) (g6 : Nat) (g7 : Nat) (g8 : Nat) (g9 : Nat) (g10 : Nat) (g11 : Nat) (p0 : Int32) (p1 : Int32) (f0 : Nat → Int32) (p2 : Int32) (f1 : Nat → Int64) (p3 : Int32) (f2 : Nat → Int32) (p4 : Int32) (sz : Nat) : Met l yX10_isSeen (WSm yX10_isSeen cX10_isSeen 7 (some .boolean)) (mkR 1 0 0 28) (PreG EX D Y [.ref h5, .int p4] [(h0, oC 2 [.ref g0, .ref g1, .ref g2, .ref g3, .ref g4, .ref h1, .ref g5, .ref h3, .ref g6, .ref g7, .ref g8, .int p0]), (h1, oC 3 [.ref h2, .int p1]), (h2, aI Y 80 f0), (h3, oC 7 [.ref h4, .int p2]), (h4, aJ Y 80 f1), (h5, oC 11 [.ref h0, .ref h6, .ref g9, .ref g10, .ref g11]), (h6, oC 3 [.ref h7, .int p3]), (h7, aI Y 6 f2)] sz) (QI D (fun (r : Int32) (_ : UU) => r = 0 ∨ r = 1) (fun (u : UU) => [(h0, oC 2 [.ref g0, .ref g1, .ref g2, .ref g3, .ref g4, .ref h1, .ref g5, .ref h3, .ref g6, .ref g7, .ref g8, .int p0]), (h1, oC 3 [.ref h2, .int p1]), (h2, aI Y 80 f0), (h3, oC 7 [.ref h4, .int p2]), (h4, aJ Y 80 f1), (h5, oC 11 [.ref h0, .ref h6, .ref g9, .ref g10, .ref g11]), (h6, oC 3 [.ref h7, .int p3]), (h7, aI Y 6 f2)]) (va_A [(h0, oC 2 [.ref g0, .ref g1, .ref g2, .ref g3, .ref g4, .ref h1, .ref g5, .ref h3, .ref g6, .ref g7, .ref g8, .int p0]), (h1, oC 3 [.ref h2, .int p1]), (h2, aI Y 80 f0), (h3, oC 7 [.ref h4, .int p2]), (h4, aJ Y 80 f1), (h5, oC 11 [.ref h0, .ref h6, .ref g9, .ref g10, .ref g11]), (h6, oC 3 [.ref h7, .int p3]), (h7, aI Y 6 f2)] sz)) 0 0 (va_A [(h0, oC 2 [.ref g0, .ref g1, .ref g2, .ref g3, .ref g4, .ref h1, .ref g5, .ref h3, .ref g6, .ref g7, .ref g8, .int p0]), (h1, oC 3 [.ref h2, .int p1]), (h2, aI Y 80 f0), (h3, oC 7 [.ref h4, .int p2]), (h4, aJ Y 80 f1), (h5, oC 11 [.ref h0, .ref h6, .ref g9, .ref g10, .ref g11]), (h6, oC 3 [.ref h7, .int p3]), (h7, aI Y 6 f2)] sz) :=
  gmet_of (by decide +kernel) (Nat.le_of_ble_eq_true rfl) (fun p e s m args below meth c B EB hsz => by
    have B : VB p s m args meth c D Y (va_A [(h0, oC 2 [.ref g0, .ref g1, .ref g2, .ref g3, .ref g4, .ref h1, .ref g5, .ref h3, .ref g6, .ref g7, .ref g8, .int p0]), (h1, oC 3 [.ref h2, .int p1]), (h2, aI Y 80 f0), (h3, oC 7 [.ref h4, .int p2]), (h4, aJ Y 80 f1), (h5, oC 11 [.ref h0, .ref h6, .ref g9, .ref g10, .ref g11]), (h6, oC 3 [.ref h7, .int p3]), (h7, aI Y 6 f2)] sz) cX10_isSeen 7 RX10 (some .boolean) := B
    refine V_aload_n 0 B dX10_isSeen_0 0 rfl ?_
    refine V_get 1 B gf_RX10_20 5 rfl rfl dX10_isSeen_1 ?_
    refine V_aload_n 4 B dX10_isSeen_4 0 rfl ?_
    refine V_get 5 B gf_RX10_9 5 rfl rfl dX10_isSeen_5 ?_
    refine V_get 8 B gf_RX10_53 0 rfl rfl dX10_isSeen_8 ?_
    refine V_iload_n 11 B dX10_isSeen_11 1 rfl ?_
    refine V_gvi 12 B envX EB (st := [.ref h6]) (As := [.int p4]) (fun sz => sX1_at_3 l D Y h1 h2 p1 f0 p4 sz) glV_RX10_49 ⟨rfl, rfl⟩ ⟨(Nat.le_of_ble_eq_true rfl), (Nat.le_of_ble_eq_true rfl)⟩ ⟨(Nat.le_of_ble_eq_true rfl), (Nat.le_of_ble_eq_true rfl)⟩ [1, 0] rfl 3 0 rfl rfl rfl rfl (Nat.le_of_ble_eq_true rfl) rfl (fun _ _ _ => rfl) dX10_isSeen_12 (fun j0 u1 w2 => ?_)
    refine V_ws [(h0, oC 2 [.ref g0, .ref g1, .ref g2, .ref g3, .ref g4, .ref h1, .ref g5, .ref h3, .ref g6, .ref g7, .ref g8, .int p0]), (h1, oC 3 [.ref h2, .int p1]), (h2, aI Y 80 f0), (h3, oC 7 [.ref h4, .int p2]), (h4, aJ Y 80 f1), (h5, oC 11 [.ref h0, .ref h6, .ref g9, .ref g10, .ref g11]), (h6, oC 3 [.ref h7, .int p3]), (h7, aI Y 6 f2)] rfl ?_
    refine V_gvi 15 B envX EB (st := []) (As := [.int j0]) (fun sz => sX1_at_4 l D Y h6 h7 p3 f2 j0 sz) glV_RX10_49 ⟨rfl, rfl⟩ ⟨(Nat.le_of_ble_eq_true rfl), (Nat.le_of_ble_eq_true rfl)⟩ ⟨(Nat.le_of_ble_eq_true rfl), (Nat.le_of_ble_eq_true rfl)⟩ [6, 0] rfl 3 0 rfl rfl rfl rfl (Nat.le_of_ble_eq_true rfl) rfl (fun _ _ _ => rfl) dX10_isSeen_15 (fun j3 u4 w5 => ?_)
    refine V_ws [(h0, oC 2 [.ref g0, .ref g1, .ref g2, .ref g3, .ref g4, .ref h1, .ref g5, .ref h3, .ref g6, .ref g7, .ref g8, .int p0]), (h1, oC 3 [.ref h2, .int p1]), (h2, aI Y 80 f0), (h3, oC 7 [.ref h4, .int p2]), (h4, aJ Y 80 f1), (h5, oC 11 [.ref h0, .ref h6, .ref g9, .ref g10, .ref g11]), (h6, oC 3 [.ref h7, .int p3]), (h7, aI Y 6 f2)] rfl ?_
    refine V_istore_n 18 B (lv2 := [(2, .int j3), (0, .ref h5), (1, .int p4)]) dX10_isSeen_18 (by decide) rfl ?_
    refine V_aload_n 19 B dX10_isSeen_19 1 rfl ?_
    refine V_get 20 B gf_RX10_9 5 rfl rfl dX10_isSeen_20 ?_
    refine V_get 23 B gf_RX10_56 0 rfl rfl dX10_isSeen_23 ?_
    refine V_iload_n 26 B dX10_isSeen_26 2 rfl ?_
    refine V_gvl 27 B envX EB (st := []) (As := [.int p4]) (fun sz => sX5_at_1 l D Y h3 h4 p2 f1 p4 sz) glV_RX10_59 ⟨rfl, rfl⟩ ⟨(Nat.le_of_ble_eq_true rfl), (Nat.le_of_ble_eq_true rfl)⟩ ⟨(Nat.le_of_ble_eq_true rfl), (Nat.le_of_ble_eq_true rfl)⟩ [3, 0] rfl 7 0 rfl rfl rfl rfl (Nat.le_of_ble_eq_true rfl) rfl (fun _ _ _ => rfl) dX10_isSeen_27 (fun o6 u7 w8 => ?_)
    refine V_ws [(h0, oC 2 [.ref g0, .ref g1, .ref g2, .ref g3, .ref g4, .ref h1, .ref g5, .ref h3, .ref g6, .ref g7, .ref g8, .int p0]), (h1, oC 3 [.ref h2, .int p1]), (h2, aI Y 80 f0), (h3, oC 7 [.ref h4, .int p2]), (h4, aJ Y 80 f1), (h5, oC 11 [.ref h0, .ref h6, .ref g9, .ref g10, .ref g11]), (h6, oC 3 [.ref h7, .int p3]), (h7, aI Y 6 f2)] rfl ?_
    refine V_lstore_n 30 B (lv2 := [(3, .long o6), (2, .int j3), (0, .ref h5), (1, .int p4)]) dX10_isSeen_30 (by decide) rfl ?_
    refine V_iconst 31 B (v := 0) dX10_isSeen_31 (by decide +kernel) ?_
    refine V_istore 32 B (lv2 := [(5, .int 0), (3, .long o6), (2, .int j3), (0, .ref h5), (1, .int p4)]) dX10_isSeen_32 (by decide) rfl ?_
    refine V_wloop (α := UU) (fun a => (2147483647 - ((a.1 0)).toInt).toNat) (fun a => 0 ≤ ((a.1 0)).toInt) (fun a => [(5, .int (a.1 0)), (3, .long o6), (2, .int j3), (0, .ref h5), (1, .int p4)]) (fun a => [(h0, oC 2 [.ref g0, .ref g1, .ref g2, .ref g3, .ref g4, .ref h1, .ref g5, .ref h3, .ref g6, .ref g7, .ref g8, .int p0]), (h1, oC 3 [.ref h2, .int p1]), (h2, aI Y 80 f0), (h3, oC 7 [.ref h4, .int p2]), (h4, aJ Y 80 f1), (h5, oC 11 [.ref h0, .ref h6, .ref g9, .ref g10, .ref g11]), (h6, oC 3 [.ref h7, .int p3]), (h7, aI Y 6 f2)]) (mkU [0] [] [] [] []) (show (0 : Int) ≤ (0 : Int32).toInt by decide +kernel) rfl rfl (fun a9 hI11 IH10 => ?_)
    refine V_lv [(5, .int (a9.1 0)), (3, .long o6), (2, .int j3), (0, .ref h5), (1, .int p4)] [0, 1, 2, 3, 4] rfl ?_
    refine V_ws [(h0, oC 2 [.ref g0, .ref g1, .ref g2, .ref g3, .ref g4, .ref h1, .ref g5, .ref h3, .ref g6, .ref g7, .ref g8, .int p0]), (h1, oC 3 [.ref h2, .int p1]), (h2, aI Y 80 f0), (h3, oC 7 [.ref h4, .int p2]), (h4, aJ Y 80 f1), (h5, oC 11 [.ref h0, .ref h6, .ref g9, .ref g10, .ref g11]), (h6, oC 3 [.ref h7, .int p3]), (h7, aI Y 6 f2)] rfl ?_
    refine V_iload 34 B dX10_isSeen_34 0 rfl ?_
    refine V_aload_n 36 B dX10_isSeen_36 3 rfl ?_
    refine V_get 37 B gf_RX10_9 5 rfl rfl dX10_isSeen_37 ?_
    refine V_get 40 B gf_RX10_53 0 rfl rfl dX10_isSeen_40 ?_
    refine V_gvi 43 B envX EB (st := [.int (a9.1 0)]) (As := []) (fun sz => sX1_size_1 l D Y h1 h2 p1 sz) glV_RX10_62 ⟨rfl, rfl⟩ ⟨(Nat.le_of_ble_eq_true rfl), (Nat.le_of_ble_eq_true rfl)⟩ ⟨(Nat.le_of_ble_eq_true rfl), (Nat.le_of_ble_eq_true rfl)⟩ [1] rfl 3 0 rfl rfl rfl rfl (Nat.le_of_ble_eq_true rfl) rfl (fun _ _ _ => rfl) dX10_isSeen_43 (fun j12 u13 w14 => ?_)
    refine V_ws [(h0, oC 2 [.ref g0, .ref g1, .ref g2, .ref g3, .ref g4, .ref h1, .ref g5, .ref h3, .ref g6, .ref g7, .ref g8, .int p0]), (h1, oC 3 [.ref h2, .int p1]), (h2, aI Y 80 f0), (h3, oC 7 [.ref h4, .int p2]), (h4, aJ Y 80 f1), (h5, oC 11 [.ref h0, .ref h6, .ref g9, .ref g10, .ref g11]), (h6, oC 3 [.ref h7, .int p3]), (h7, aI Y 6 f2)] rfl ?_
    refine V_icmp_ge 46 B 109 dX10_isSeen_46 (by decide) (fun k15 => ?_) (fun k15 => ?_)
    ·
      refine V_iload_n 109 B dX10_isSeen_109 2 rfl ?_
      refine V_iconst 110 B (v := (-1)) dX10_isSeen_110 (by decide +kernel) ?_
      refine V_icmp_eq 111 B 118 dX10_isSeen_111 (by decide) (fun k16 => ?_) (fun k16 => ?_)
      ·
        obtain rfl : j3 = (-1) := k16
        refine V_iconst 118 B (v := 0) dX10_isSeen_118 (by decide +kernel) ?_
        exact V_zret 119 B rfl dX10_isSeen_119 (mkU [] [] [] [] []) (Or.inl rfl) rfl
      ·
        refine V_iconst 114 B (v := 1) dX10_isSeen_114 (by decide +kernel) ?_
        refine V_goto 115 B 119 dX10_isSeen_115 (by decide) ?_
        exact V_zret 119 B rfl dX10_isSeen_119 (mkU [] [] [] [] []) (Or.inr rfl) rfl
    ·
      refine V_aload_n 49 B dX10_isSeen_49 3 rfl ?_
      refine V_get 50 B gf_RX10_20 5 rfl rfl dX10_isSeen_50 ?_
      refine V_aload_n 53 B dX10_isSeen_53 3 rfl ?_
      refine V_get 54 B gf_RX10_9 5 rfl rfl dX10_isSeen_54 ?_
      refine V_get 57 B gf_RX10_53 0 rfl rfl dX10_isSeen_57 ?_
      refine V_iload 60 B dX10_isSeen_60 0 rfl ?_
      refine V_gvi 62 B envX EB (st := [.ref h6]) (As := [.int (a9.1 0)]) (fun sz => sX1_at_3 l D Y h1 h2 p1 f0 (a9.1 0) sz) glV_RX10_49 ⟨rfl, rfl⟩ ⟨(Nat.le_of_ble_eq_true rfl), (Nat.le_of_ble_eq_true rfl)⟩ ⟨(Nat.le_of_ble_eq_true rfl), (Nat.le_of_ble_eq_true rfl)⟩ [1, 0] rfl 3 0 rfl rfl rfl rfl (Nat.le_of_ble_eq_true rfl) rfl (fun _ _ _ => rfl) dX10_isSeen_62 (fun j17 u18 w19 => ?_)
      refine V_ws [(h0, oC 2 [.ref g0, .ref g1, .ref g2, .ref g3, .ref g4, .ref h1, .ref g5, .ref h3, .ref g6, .ref g7, .ref g8, .int p0]), (h1, oC 3 [.ref h2, .int p1]), (h2, aI Y 80 f0), (h3, oC 7 [.ref h4, .int p2]), (h4, aJ Y 80 f1), (h5, oC 11 [.ref h0, .ref h6, .ref g9, .ref g10, .ref g11]), (h6, oC 3 [.ref h7, .int p3]), (h7, aI Y 6 f2)] rfl ?_
      refine V_gvi 65 B envX EB (st := []) (As := [.int j17]) (fun sz => sX1_at_4 l D Y h6 h7 p3 f2 j17 sz) glV_RX10_49 ⟨rfl, rfl⟩ ⟨(Nat.le_of_ble_eq_true rfl), (Nat.le_of_ble_eq_true rfl)⟩ ⟨(Nat.le_of_ble_eq_true rfl), (Nat.le_of_ble_eq_true rfl)⟩ [6, 0] rfl 3 0 rfl rfl rfl rfl (Nat.le_of_ble_eq_true rfl) rfl (fun _ _ _ => rfl) dX10_isSeen_65 (fun j20 u21 w22 => ?_)
      refine V_ws [(h0, oC 2 [.ref g0, .ref g1, .ref g2, .ref g3, .ref g4, .ref h1, .ref g5, .ref h3, .ref g6, .ref g7, .ref g8, .int p0]), (h1, oC 3 [.ref h2, .int p1]), (h2, aI Y 80 f0), (h3, oC 7 [.ref h4, .int p2]), (h4, aJ Y 80 f1), (h5, oC 11 [.ref h0, .ref h6, .ref g9, .ref g10, .ref g11]), (h6, oC 3 [.ref h7, .int p3]), (h7, aI Y 6 f2)] rfl ?_
      refine V_istore 68 B (lv2 := [(6, .int j20), (5, .int (a9.1 0)), (3, .long o6), (2, .int j3), (0, .ref h5), (1, .int p4)]) dX10_isSeen_68 (by decide) rfl ?_
      refine V_iload 70 B dX10_isSeen_70 0 rfl ?_
      refine V_iconst 72 B (v := (-1)) dX10_isSeen_72 (by decide +kernel) ?_
      refine V_icmp_eq 73 B 103 dX10_isSeen_73 (by decide) (fun k23 => ?_) (fun k23 => ?_)
      ·
        obtain rfl : j20 = (-1) := k23
        refine V_iinc 103 B (v := ((a9.1 0) + Int32.ofInt 1)) (lv2 := [(5, .int ((a9.1 0) + Int32.ofInt 1)), (6, .int (-1)), (3, .long o6), (2, .int j3), (0, .ref h5), (1, .int p4)]) dX10_isSeen_103 1 rfl rfl (by decide) rfl ?_
        refine V_goto 106 B 34 dX10_isSeen_106 (by decide) ?_
        refine V_lv [(5, .int ((a9.1 0) + Int32.ofInt 1)), (3, .long o6), (2, .int j3), (0, .ref h5), (1, .int p4)] [0, 2, 3, 4, 5] rfl ?_
        exact IH10 (mkU [((a9.1 0) + Int32.ofInt 1)] [] [] [] []) (Int.le_trans (by decide) (o_add_lo (c := Int32.ofInt 1) hI11 (o_lt_hi (o_nle k15) (i_hi j12) (k := 2147483646) (by decide +kernel)) (by decide +kernel) (by decide +kernel) (k := 1) (by decide +kernel))) (up_dec (x := (a9.1 0)) (c := Int32.ofInt 1) (by decide +kernel) hI11 (o_lt_hi (o_nle k15) (i_hi j12) (k := 2147483646) (by decide +kernel)) (by decide))
      ·
        refine V_iload 76 B dX10_isSeen_76 0 rfl ?_
        refine V_iload_n 78 B dX10_isSeen_78 3 rfl ?_
        refine V_icmp_ge 79 B 103 dX10_isSeen_79 (by decide) (fun k24 => ?_) (fun k24 => ?_)
        ·
          refine V_iinc 103 B (v := ((a9.1 0) + Int32.ofInt 1)) (lv2 := [(5, .int ((a9.1 0) + Int32.ofInt 1)), (6, .int j20), (3, .long o6), (2, .int j3), (0, .ref h5), (1, .int p4)]) dX10_isSeen_103 1 rfl rfl (by decide) rfl ?_
          refine V_goto 106 B 34 dX10_isSeen_106 (by decide) ?_
          refine V_lv [(5, .int ((a9.1 0) + Int32.ofInt 1)), (3, .long o6), (2, .int j3), (0, .ref h5), (1, .int p4)] [0, 2, 3, 4, 5] rfl ?_
          exact IH10 (mkU [((a9.1 0) + Int32.ofInt 1)] [] [] [] []) (Int.le_trans (by decide) (o_add_lo (c := Int32.ofInt 1) hI11 (o_lt_hi (o_nle k15) (i_hi j12) (k := 2147483646) (by decide +kernel)) (by decide +kernel) (by decide +kernel) (k := 1) (by decide +kernel))) (up_dec (x := (a9.1 0)) (c := Int32.ofInt 1) (by decide +kernel) hI11 (o_lt_hi (o_nle k15) (i_hi j12) (k := 2147483646) (by decide +kernel)) (by decide))
        ·
          refine V_aload_n 82 B dX10_isSeen_82 4 rfl ?_
          refine V_get 83 B gf_RX10_9 5 rfl rfl dX10_isSeen_83 ?_
          refine V_get 86 B gf_RX10_56 0 rfl rfl dX10_isSeen_86 ?_
          refine V_iload 89 B dX10_isSeen_89 1 rfl ?_
          refine V_gvl 91 B envX EB (st := []) (As := [.int (a9.1 0)]) (fun sz => sX5_at_1 l D Y h3 h4 p2 f1 (a9.1 0) sz) glV_RX10_59 ⟨rfl, rfl⟩ ⟨(Nat.le_of_ble_eq_true rfl), (Nat.le_of_ble_eq_true rfl)⟩ ⟨(Nat.le_of_ble_eq_true rfl), (Nat.le_of_ble_eq_true rfl)⟩ [3, 0] rfl 7 0 rfl rfl rfl rfl (Nat.le_of_ble_eq_true rfl) rfl (fun _ _ _ => rfl) dX10_isSeen_91 (fun o25 u26 w27 => ?_)
          refine V_ws [(h0, oC 2 [.ref g0, .ref g1, .ref g2, .ref g3, .ref g4, .ref h1, .ref g5, .ref h3, .ref g6, .ref g7, .ref g8, .int p0]), (h1, oC 3 [.ref h2, .int p1]), (h2, aI Y 80 f0), (h3, oC 7 [.ref h4, .int p2]), (h4, aJ Y 80 f1), (h5, oC 11 [.ref h0, .ref h6, .ref g9, .ref g10, .ref g11]), (h6, oC 3 [.ref h7, .int p3]), (h7, aI Y 6 f2)] rfl ?_
          refine V_lload_n 94 B dX10_isSeen_94 2 rfl ?_
          refine V_gsi 95 B envX EB (st := []) (As := [.long o25, .long o6]) (fun sz => sX6_clashBetween_1 l D Y  o25 o6 sz) glS_RX10_66 ⟨rfl, rfl⟩ ⟨(Nat.le_of_ble_eq_true rfl), (Nat.le_of_ble_eq_true rfl)⟩ ⟨(Nat.le_of_ble_eq_true rfl), (Nat.le_of_ble_eq_true rfl)⟩ [] rfl rfl (Nat.le_of_ble_eq_true rfl) rfl (fun _ _ _ => rfl) dX10_isSeen_95 (fun j28 u29 w30 => ?_)
          refine V_ws [(h0, oC 2 [.ref g0, .ref g1, .ref g2, .ref g3, .ref g4, .ref h1, .ref g5, .ref h3, .ref g6, .ref g7, .ref g8, .int p0]), (h1, oC 3 [.ref h2, .int p1]), (h2, aI Y 80 f0), (h3, oC 7 [.ref h4, .int p2]), (h4, aJ Y 80 f1), (h5, oC 11 [.ref h0, .ref h6, .ref g9, .ref g10, .ref g11]), (h6, oC 3 [.ref h7, .int p3]), (h7, aI Y 6 f2)] rfl ?_
          rcases w30 with rfl | rfl
          ·
            refine V_if_eq_t 98 B 103 dX10_isSeen_98 (by decide) (by decide +kernel) ?_
            refine V_iinc 103 B (v := ((a9.1 0) + Int32.ofInt 1)) (lv2 := [(5, .int ((a9.1 0) + Int32.ofInt 1)), (6, .int j20), (3, .long o6), (2, .int j3), (0, .ref h5), (1, .int p4)]) dX10_isSeen_103 1 rfl rfl (by decide) rfl ?_
            refine V_goto 106 B 34 dX10_isSeen_106 (by decide) ?_
            refine V_lv [(5, .int ((a9.1 0) + Int32.ofInt 1)), (3, .long o6), (2, .int j3), (0, .ref h5), (1, .int p4)] [0, 2, 3, 4, 5] rfl ?_
            exact IH10 (mkU [((a9.1 0) + Int32.ofInt 1)] [] [] [] []) (Int.le_trans (by decide) (o_add_lo (c := Int32.ofInt 1) hI11 (o_lt_hi (o_nle k15) (i_hi j12) (k := 2147483646) (by decide +kernel)) (by decide +kernel) (by decide +kernel) (k := 1) (by decide +kernel))) (up_dec (x := (a9.1 0)) (c := Int32.ofInt 1) (by decide +kernel) hI11 (o_lt_hi (o_nle k15) (i_hi j12) (k := 2147483646) (by decide +kernel)) (by decide))
          ·
            refine V_if_eq_f 98 B 103 dX10_isSeen_98 (by decide) (by decide +kernel) ?_
            refine V_iconst 101 B (v := 0) dX10_isSeen_101 (by decide +kernel) ?_
            exact V_zret 102 B rfl dX10_isSeen_102 (mkU [] [] [] [] []) (Or.inl rfl) rfl)
theorem glV_RX10_78 : GLV RX10 78 yX10_isSeen RX10 cX10_isSeen 7 (some .boolean) 1 := ⟨⟨(mT4 63 rfl rfl), (mT4 64 rfl rfl), (mT4 65 rfl rfl), (mT1 8 rfl rfl), (mT4 66 rfl rfl)⟩, by decide +kernel⟩
theorem dX10_seenWith_37 : decode cX10_seenWith 37 = .ok (.ifCond .eq 5, 3) := by decide +kernel
theorem dX10_seenWith_40 : decode cX10_seenWith 40 = .ok (.iload_n 3, 1) := by decide +kernel
theorem dX10_seenWith_41 : decode cX10_seenWith 41 = .ok (.ireturn, 1) := by decide +kernel
set_option maxRecDepth 100000 in
set_option maxHeartbeats 4000000 in
theorem sX10_seenWith_1 (l : Launch) (D : va_G) (Y : Nat → ClassId) (h0 : Nat) (h1 : Nat) (h2 : Nat) (h3 : Nat) (h4 : Nat) (h5 : Nat) (h6 : Nat) (h7 : Nat) (g0 : Nat) (g1 : Nat) (g2 : Nat) (g3 : Nat) (g4 : Nat) (g5 : Nat) (g6 : Nat) (g7 : Nat) (g8 : Nat) (g9 : Nat) (g10 : Nat) (g11 : Nat) (p0 : Int32) (p1 : Int32) (f0 : Nat → Int32) (p2 : Int32) (f1 : Nat → Int64) (p3 : Int32) (f2 : Nat → Int32) (p4 : Int64) (sz : Nat) : Met l yX10_seenWith (WSm yX10_seenWith cX10_seenWith 4 (some .int)) (mkR 2 0 0 54) (PreG EX D Y [.ref h5, .long p4] [(h0, oC 2 [.ref g0, .ref g1, .ref g2, .ref g3, .ref g4, .ref h1, .ref g5, .ref h3, .ref g6, .ref g7, .ref g8, .int p0]), (h1, oC 3 [.ref h2, .int p1]), (h2, aI Y 80 f0), (h3, oC 7 [.ref h4, .int p2]), (h4, aJ Y 80 f1), (h5, oC 11 [.ref h0, .ref h6, .ref g9, .ref g10, .ref g11]), (h6, oC 3 [.ref h7, .int p3]), (h7, aI Y 6 f2)] sz) (QI D (fun (_ : Int32) (_ : UU) => True) (fun (u : UU) => [(h0, oC 2 [.ref g0, .ref g1, .ref g2, .ref g3, .ref g4, .ref h1, .ref g5, .ref h3, .ref g6, .ref g7, .ref g8, .int p0]), (h1, oC 3 [.ref h2, .int p1]), (h2, aI Y 80 f0), (h3, oC 7 [.ref h4, .int p2]), (h4, aJ Y 80 f1), (h5, oC 11 [.ref h0, .ref h6, .ref g9, .ref g10, .ref g11]), (h6, oC 3 [.ref h7, .int p3]), (h7, aI Y 6 f2)]) (va_A [(h0, oC 2 [.ref g0, .ref g1, .ref g2, .ref g3, .ref g4, .ref h1, .ref g5, .ref h3, .ref g6, .ref g7, .ref g8, .int p0]), (h1, oC 3 [.ref h2, .int p1]), (h2, aI Y 80 f0), (h3, oC 7 [.ref h4, .int p2]), (h4, aJ Y 80 f1), (h5, oC 11 [.ref h0, .ref h6, .ref g9, .ref g10, .ref g11]), (h6, oC 3 [.ref h7, .int p3]), (h7, aI Y 6 f2)] sz)) 0 0 (va_A [(h0, oC 2 [.ref g0, .ref g1, .ref g2, .ref g3, .ref g4, .ref h1, .ref g5, .ref h3, .ref g6, .ref g7, .ref g8, .int p0]), (h1, oC 3 [.ref h2, .int p1]), (h2, aI Y 80 f0), (h3, oC 7 [.ref h4, .int p2]), (h4, aJ Y 80 f1), (h5, oC 11 [.ref h0, .ref h6, .ref g9, .ref g10, .ref g11]), (h6, oC 3 [.ref h7, .int p3]), (h7, aI Y 6 f2)] sz) :=
  gmet_of (by decide +kernel) (Nat.le_of_ble_eq_true rfl) (fun p e s m args below meth c B EB hsz => by
    have B : VB p s m args meth c D Y (va_A [(h0, oC 2 [.ref g0, .ref g1, .ref g2, .ref g3, .ref g4, .ref h1, .ref g5, .ref h3, .ref g6, .ref g7, .ref g8, .int p0]), (h1, oC 3 [.ref h2, .int p1]), (h2, aI Y 80 f0), (h3, oC 7 [.ref h4, .int p2]), (h4, aJ Y 80 f1), (h5, oC 11 [.ref h0, .ref h6, .ref g9, .ref g10, .ref g11]), (h6, oC 3 [.ref h7, .int p3]), (h7, aI Y 6 f2)] sz) cX10_seenWith 4 RX10 (some .int) := B
    refine V_iconst 0 B (v := 0) dX10_seenWith_0 (by decide +kernel) ?_
    refine V_istore_n 1 B (lv2 := [(3, .int 0), (0, .ref h5), (1, .long p4)]) dX10_seenWith_1 (by decide) rfl ?_
    refine V_wloop (α := UU) (fun a => (2147483647 - ((a.1 0)).toInt).toNat) (fun a => 0 ≤ ((a.1 0)).toInt) (fun a => [(3, .int (a.1 0)), (0, .ref h5), (1, .long p4)]) (fun a => [(h0, oC 2 [.ref g0, .ref g1, .ref g2, .ref g3, .ref g4, .ref h1, .ref g5, .ref h3, .ref g6, .ref g7, .ref g8, .int p0]), (h1, oC 3 [.ref h2, .int p1]), (h2, aI Y 80 f0), (h3, oC 7 [.ref h4, .int p2]), (h4, aJ Y 80 f1), (h5, oC 11 [.ref h0, .ref h6, .ref g9, .ref g10, .ref g11]), (h6, oC 3 [.ref h7, .int p3]), (h7, aI Y 6 f2)]) (mkU [0] [] [] [] []) (show (0 : Int) ≤ (0 : Int32).toInt by decide +kernel) rfl rfl (fun a0 hI2 IH1 => ?_)
    refine V_lv [(3, .int (a0.1 0)), (0, .ref h5), (1, .long p4)] [0, 1, 2] rfl ?_
    refine V_ws [(h0, oC 2 [.ref g0, .ref g1, .ref g2, .ref g3, .ref g4, .ref h1, .ref g5, .ref h3, .ref g6, .ref g7, .ref g8, .int p0]), (h1, oC 3 [.ref h2, .int p1]), (h2, aI Y 80 f0), (h3, oC 7 [.ref h4, .int p2]), (h4, aJ Y 80 f1), (h5, oC 11 [.ref h0, .ref h6, .ref g9, .ref g10, .ref g11]), (h6, oC 3 [.ref h7, .int p3]), (h7, aI Y 6 f2)] rfl ?_
    refine V_iload_n 2 B dX10_seenWith_2 0 rfl ?_
    refine V_aload_n 3 B dX10_seenWith_3 1 rfl ?_
    refine V_get 4 B gf_RX10_9 5 rfl rfl dX10_seenWith_4 ?_
    refine V_get 7 B gf_RX10_53 0 rfl rfl dX10_seenWith_7 ?_
    refine V_gvi 10 B envX EB (st := [.int (a0.1 0)]) (As := []) (fun sz => sX1_size_1 l D Y h1 h2 p1 sz) glV_RX10_62 ⟨rfl, rfl⟩ ⟨(Nat.le_of_ble_eq_true rfl), (Nat.le_of_ble_eq_true rfl)⟩ ⟨(Nat.le_of_ble_eq_true rfl), (Nat.le_of_ble_eq_true rfl)⟩ [1] rfl 3 0 rfl rfl rfl rfl (Nat.le_of_ble_eq_true rfl) rfl (fun _ _ _ => rfl) dX10_seenWith_10 (fun j3 u4 w5 => ?_)
    refine V_ws [(h0, oC 2 [.ref g0, .ref g1, .ref g2, .ref g3, .ref g4, .ref h1, .ref g5, .ref h3, .ref g6, .ref g7, .ref g8, .int p0]), (h1, oC 3 [.ref h2, .int p1]), (h2, aI Y 80 f0), (h3, oC 7 [.ref h4, .int p2]), (h4, aJ Y 80 f1), (h5, oC 11 [.ref h0, .ref h6, .ref g9, .ref g10, .ref g11]), (h6, oC 3 [.ref h7, .int p3]), (h7, aI Y 6 f2)] rfl ?_
    refine V_icmp_ge 13 B 48 dX10_seenWith_13 (by decide) (fun k6 => ?_) (fun k6 => ?_)
    ·
      refine V_iconst 48 B (v := (-1)) dX10_seenWith_48 (by decide +kernel) ?_
      exact V_iret 49 B dX10_seenWith_49 (mkU [] [] [] [] []) trivial rfl
    ·
      refine V_aload_n 16 B dX10_seenWith_16 1 rfl ?_
      refine V_get 17 B gf_RX10_9 5 rfl rfl dX10_seenWith_17 ?_
      refine V_get 20 B gf_RX10_56 0 rfl rfl dX10_seenWith_20 ?_
      refine V_iload_n 23 B dX10_seenWith_23 0 rfl ?_
      refine V_gvl 24 B envX EB (st := []) (As := [.int (a0.1 0)]) (fun sz => sX5_at_1 l D Y h3 h4 p2 f1 (a0.1 0) sz) glV_RX10_59 ⟨rfl, rfl⟩ ⟨(Nat.le_of_ble_eq_true rfl), (Nat.le_of_ble_eq_true rfl)⟩ ⟨(Nat.le_of_ble_eq_true rfl), (Nat.le_of_ble_eq_true rfl)⟩ [3, 0] rfl 7 0 rfl rfl rfl rfl (Nat.le_of_ble_eq_true rfl) rfl (fun _ _ _ => rfl) dX10_seenWith_24 (fun o7 u8 w9 => ?_)
      refine V_ws [(h0, oC 2 [.ref g0, .ref g1, .ref g2, .ref g3, .ref g4, .ref h1, .ref g5, .ref h3, .ref g6, .ref g7, .ref g8, .int p0]), (h1, oC 3 [.ref h2, .int p1]), (h2, aI Y 80 f0), (h3, oC 7 [.ref h4, .int p2]), (h4, aJ Y 80 f1), (h5, oC 11 [.ref h0, .ref h6, .ref g9, .ref g10, .ref g11]), (h6, oC 3 [.ref h7, .int p3]), (h7, aI Y 6 f2)] rfl ?_
      refine V_lload_n 27 B dX10_seenWith_27 2 rfl ?_
      refine V_lcmp 28 B dX10_seenWith_28 rfl ?_
      refine V_nmi (fun j10 _ => ?_)
      refine V_if_ne 29 B 42 dX10_seenWith_29 (by decide) (fun k11 => ?_) (fun k11 => ?_)
      ·
        refine V_iinc 42 B (v := ((a0.1 0) + Int32.ofInt 1)) (lv2 := [(3, .int ((a0.1 0) + Int32.ofInt 1)), (0, .ref h5), (1, .long p4)]) dX10_seenWith_42 0 rfl rfl (by decide) rfl ?_
        refine V_goto 45 B 2 dX10_seenWith_45 (by decide) ?_
        refine V_lv [(3, .int ((a0.1 0) + Int32.ofInt 1)), (0, .ref h5), (1, .long p4)] [0, 1, 2] rfl ?_
        exact IH1 (mkU [((a0.1 0) + Int32.ofInt 1)] [] [] [] []) (Int.le_trans (by decide) (o_add_lo (c := Int32.ofInt 1) hI2 (o_lt_hi (o_nle k6) (i_hi j3) (k := 2147483646) (by decide +kernel)) (by decide +kernel) (by decide +kernel) (k := 1) (by decide +kernel))) (up_dec (x := (a0.1 0)) (c := Int32.ofInt 1) (by decide +kernel) hI2 (o_lt_hi (o_nle k6) (i_hi j3) (k := 2147483646) (by decide +kernel)) (by decide))
      ·
        obtain rfl : j10 = 0 := k11
        refine V_aload_n 32 B dX10_seenWith_32 1 rfl ?_
        refine V_iload_n 33 B dX10_seenWith_33 0 rfl ?_
        refine V_gvi 34 B envX EB (st := []) (As := [.int (a0.1 0)]) (fun sz => sX10_isSeen_1 l D Y h0 h1 h2 h3 h4 h5 h6 h7 g0 g1 g2 g3 g4 g5 g6 g7 g8 g9 g10 g11 p0 p1 f0 p2 f1 p3 f2 (a0.1 0) sz) glV_RX10_78 ⟨rfl, rfl⟩ ⟨(Nat.le_of_ble_eq_true rfl), (Nat.le_of_ble_eq_true rfl)⟩ ⟨(Nat.le_of_ble_eq_true rfl), (Nat.le_of_ble_eq_true rfl)⟩ [0, 0, 0, 0, 0, 0, 0, 0] rfl 11 5 rfl rfl rfl rfl (Nat.le_of_ble_eq_true rfl) rfl (fun _ _ _ => rfl) dX10_seenWith_34 (fun j12 u13 w14 => ?_)
        refine V_ws [(h0, oC 2 [.ref g0, .ref g1, .ref g2, .ref g3, .ref g4, .ref h1, .ref g5, .ref h3, .ref g6, .ref g7, .ref g8, .int p0]), (h1, oC 3 [.ref h2, .int p1]), (h2, aI Y 80 f0), (h3, oC 7 [.ref h4, .int p2]), (h4, aJ Y 80 f1), (h5, oC 11 [.ref h0, .ref h6, .ref g9, .ref g10, .ref g11]), (h6, oC 3 [.ref h7, .int p3]), (h7, aI Y 6 f2)] rfl ?_
        rcases w14 with rfl | rfl
        ·
          refine V_if_eq_t 37 B 42 dX10_seenWith_37 (by decide) (by decide +kernel) ?_
          refine V_iinc 42 B (v := ((a0.1 0) + Int32.ofInt 1)) (lv2 := [(3, .int ((a0.1 0) + Int32.ofInt 1)), (0, .ref h5), (1, .long p4)]) dX10_seenWith_42 0 rfl rfl (by decide) rfl ?_
          refine V_goto 45 B 2 dX10_seenWith_45 (by decide) ?_
          refine V_lv [(3, .int ((a0.1 0) + Int32.ofInt 1)), (0, .ref h5), (1, .long p4)] [0, 1, 2] rfl ?_
          exact IH1 (mkU [((a0.1 0) + Int32.ofInt 1)] [] [] [] []) (Int.le_trans (by decide) (o_add_lo (c := Int32.ofInt 1) hI2 (o_lt_hi (o_nle k6) (i_hi j3) (k := 2147483646) (by decide +kernel)) (by decide +kernel) (by decide +kernel) (k := 1) (by decide +kernel))) (up_dec (x := (a0.1 0)) (c := Int32.ofInt 1) (by decide +kernel) hI2 (o_lt_hi (o_nle k6) (i_hi j3) (k := 2147483646) (by decide +kernel)) (by decide))
        ·
          refine V_if_eq_f 37 B 42 dX10_seenWith_37 (by decide) (by decide +kernel) ?_
          refine V_iload_n 40 B dX10_seenWith_40 0 rfl ?_
          exact V_iret 41 B dX10_seenWith_41 (mkU [] [] [] [] []) trivial rfl)
theorem glV_RX11_267 : GLV RX11 267 yX10_seenWith RX10 cX10_seenWith 4 (some .int) 1 := ⟨⟨(mT6 55 rfl rfl), (mT4 58 rfl rfl), (mT4 59 rfl rfl), (mT1 8 rfl rfl), (mT4 60 rfl rfl)⟩, by decide +kernel⟩
theorem dX11_look_36 : decode cX11_look 36 = .ok (.ireturn, 1) := by decide +kernel
theorem dX11_look_14 : decode cX11_look 14 = .ok (.bipush (-4), 2) := by decide +kernel
theorem dX11_look_16 : decode cX11_look 16 = .ok (.ireturn, 1) := by decide +kernel
set_option maxRecDepth 100000 in
set_option maxHeartbeats 4000000 in
theorem sX11_look_1 (l : Launch) (hl9 : l.stackTraces = false) (D : va_G) (Y : Nat → ClassId) (h0 : Nat) (h1 : Nat) (h2 : Nat) (h3 : Nat) (h4 : Nat) (h5 : Nat) (h6 : Nat) (h7 : Nat) (h8 : Nat) (h9 : Nat) (h10 : Nat) (g0 : Nat) (g1 : Nat) (g2 : Nat) (g3 : Nat) (g4 : Nat) (g5 : Nat) (g6 : Nat) (g7 : Nat) (g8 : Nat) (g9 : Nat) (g10 : Nat) (g11 : Nat) (g12 : Nat) (g13 : Nat) (g14 : Nat) (g15 : Nat) (g16 : Nat) (g17 : Nat) (p0 : Int64) (p1 : Int32) (p2 : Int32) (f0 : Nat → Int32) (p3 : Int32) (f1 : Nat → Int32) (p4 : Int32) (f2 : Nat → Int64) (p5 : Int32) (f3 : Nat → Int32) (p6 : Int32) (sz : Nat) : vx_Met l yX11_look (WSm yX11_look cX11_look 2 (some .int)) (mkR 7 1 6 103) (PreX D Y [.ref h0, .int p6] [(h0, oC 12 [.ref h1, .ref g0, .ref g1, .ref g2, .ref h8, .ref g3, .ref g4, .ref g5, .ref g6, .long p0]), (h1, oC 2 [.ref h2, .ref g7, .ref g8, .ref g9, .ref g10, .ref h4, .ref g11, .ref h6, .ref g12, .ref g13, .ref g14, .int p1]), (h2, oC 3 [.ref h3, .int p2]), (h3, aI Y 6 f0), (h4, oC 3 [.ref h5, .int p3]), (h5, aI Y 80 f1), (h6, oC 7 [.ref h7, .int p4]), (h7, aJ Y 80 f2), (h8, oC 11 [.ref h1, .ref h9, .ref g15, .ref g16, .ref g17]), (h9, oC 3 [.ref h10, .int p5]), (h10, aI Y 6 f3)] sz) (QI D (fun (_ : Int32) (_ : UU) => True) (fun (u : UU) => [(h0, oC 12 [.ref h1, .ref g0, .ref g1, .ref g2, .ref h8, .ref g3, .ref g4, .ref g5, .ref g6, .long p0]), (h1, oC 2 [.ref h2, .ref g7, .ref g8, .ref g9, .ref g10, .ref h4, .ref g11, .ref h6, .ref g12, .ref g13, .ref g14, .int p1]), (h2, oC 3 [.ref h3, .int p2]), (h3, aI Y 6 f0), (h4, oC 3 [.ref h5, .int p3]), (h5, aI Y 80 f1), (h6, oC 7 [.ref h7, .int p4]), (h7, aJ Y 80 f2), (h8, oC 11 [.ref h1, .ref h9, .ref g15, .ref g16, .ref g17]), (h9, oC 3 [.ref h10, .int (u.1 0)]), (h10, aI Y 6 (u.2.2.1 0))]) (va_A [(h0, oC 12 [.ref h1, .ref g0, .ref g1, .ref g2, .ref h8, .ref g3, .ref g4, .ref g5, .ref g6, .long p0]), (h1, oC 2 [.ref h2, .ref g7, .ref g8, .ref g9, .ref g10, .ref h4, .ref g11, .ref h6, .ref g12, .ref g13, .ref g14, .int p1]), (h2, oC 3 [.ref h3, .int p2]), (h3, aI Y 6 f0), (h4, oC 3 [.ref h5, .int p3]), (h5, aI Y 80 f1), (h6, oC 7 [.ref h7, .int p4]), (h7, aJ Y 80 f2), (h8, oC 11 [.ref h1, .ref h9, .ref g15, .ref g16, .ref g17]), (h9, oC 3 [.ref h10, .int p5]), (h10, aI Y 6 f3)] sz)) (XW D (fun (E : String) (_ : UU) => E = "java/lang/IndexOutOfBoundsException") (fun (u : UU) => [(h0, oC 12 [.ref h1, .ref g0, .ref g1, .ref g2, .ref h8, .ref g3, .ref g4, .ref g5, .ref g6, .long p0]), (h1, oC 2 [.ref h2, .ref g7, .ref g8, .ref g9, .ref g10, .ref h4, .ref g11, .ref h6, .ref g12, .ref g13, .ref g14, .int p1]), (h2, oC 3 [.ref h3, .int p2]), (h3, aI Y 6 f0), (h4, oC 3 [.ref h5, .int p3]), (h5, aI Y 80 f1), (h6, oC 7 [.ref h7, .int p4]), (h7, aJ Y 80 f2), (h8, oC 11 [.ref h1, .ref h9, .ref g15, .ref g16, .ref g17]), (h9, oC 3 [.ref h10, .int (u.1 0)]), (h10, aI Y 6 (u.2.2.1 0))]) (va_A [(h0, oC 12 [.ref h1, .ref g0, .ref g1, .ref g2, .ref h8, .ref g3, .ref g4, .ref g5, .ref g6, .long p0]), (h1, oC 2 [.ref h2, .ref g7, .ref g8, .ref g9, .ref g10, .ref h4, .ref g11, .ref h6, .ref g12, .ref g13, .ref g14, .int p1]), (h2, oC 3 [.ref h3, .int p2]), (h3, aI Y 6 f0), (h4, oC 3 [.ref h5, .int p3]), (h5, aI Y 80 f1), (h6, oC 7 [.ref h7, .int p4]), (h7, aJ Y 80 f2), (h8, oC 11 [.ref h1, .ref h9, .ref g15, .ref g16, .ref g17]), (h9, oC 3 [.ref h10, .int p5]), (h10, aI Y 6 f3)] sz)) 1 6 (va_A [(h0, oC 12 [.ref h1, .ref g0, .ref g1, .ref g2, .ref h8, .ref g3, .ref g4, .ref g5, .ref g6, .long p0]), (h1, oC 2 [.ref h2, .ref g7, .ref g8, .ref g9, .ref g10, .ref h4, .ref g11, .ref h6, .ref g12, .ref g13, .ref g14, .int p1]), (h2, oC 3 [.ref h3, .int p2]), (h3, aI Y 6 f0), (h4, oC 3 [.ref h5, .int p3]), (h5, aI Y 80 f1), (h6, oC 7 [.ref h7, .int p4]), (h7, aJ Y 80 f2), (h8, oC 11 [.ref h1, .ref h9, .ref g15, .ref g16, .ref g17]), (h9, oC 3 [.ref h10, .int p5]), (h10, aI Y 6 f3)] sz) :=
  xmet_of (by decide +kernel) (Nat.le_of_ble_eq_true rfl) (fun p e s m args below meth c B EB hout hsz => by
    have B : VB p s m args meth c D Y (va_A [(h0, oC 12 [.ref h1, .ref g0, .ref g1, .ref g2, .ref h8, .ref g3, .ref g4, .ref g5, .ref g6, .long p0]), (h1, oC 2 [.ref h2, .ref g7, .ref g8, .ref g9, .ref g10, .ref h4, .ref g11, .ref h6, .ref g12, .ref g13, .ref g14, .int p1]), (h2, oC 3 [.ref h3, .int p2]), (h3, aI Y 6 f0), (h4, oC 3 [.ref h5, .int p3]), (h5, aI Y 80 f1), (h6, oC 7 [.ref h7, .int p4]), (h7, aJ Y 80 f2), (h8, oC 11 [.ref h1, .ref h9, .ref g15, .ref g16, .ref g17]), (h9, oC 3 [.ref h10, .int p5]), (h10, aI Y 6 f3)] sz) cX11_look 2 RX11 (some .int) := B
    refine V_aload_n 0 B dX11_look_0 0 rfl ?_
    refine V_iload_n 1 B dX11_look_1 1 rfl ?_
    refine V_xvv 2 B EB (st := []) (As := [.int p6]) (fun sz => sX11_needMode_1 l hl9 D Y h0 h1 h2 g0 g1 g2 h8 g3 g4 g5 g6 g7 g8 g9 g10 h4 g11 h6 g12 g13 g14 h3 p0 p1 p2 p6 sz) glV_RX11_180 ⟨rfl, rfl⟩ ⟨(Nat.le_of_ble_eq_true rfl), (Nat.le_of_ble_eq_true rfl)⟩ ⟨(Nat.le_of_ble_eq_true rfl), (Nat.le_of_ble_eq_true rfl)⟩ [0, 0, 0] rfl 12 0 rfl rfl rfl rfl (Nat.le_of_ble_eq_true rfl) rfl (fun _ _ => rfl) (fun _ _ _ => rfl) dX11_look_2 (fun E u1 w2 => ?_) (fun u1 w2 => ?_)
    ·
      obtain rfl := w2
      exact VX_out 2 B hout (mkU [p5] [] [f3] [] []) rfl rfl (Nat.le_of_ble_eq_true rfl) (Nat.le_of_ble_eq_true rfl)
    ·
      refine V_ws [(h0, oC 12 [.ref h1, .ref g0, .ref g1, .ref g2, .ref h8, .ref g3, .ref g4, .ref g5, .ref g6, .long p0]), (h1, oC 2 [.ref h2, .ref g7, .ref g8, .ref g9, .ref g10, .ref h4, .ref g11, .ref h6, .ref g12, .ref g13, .ref g14, .int p1]), (h2, oC 3 [.ref h3, .int p2]), (h3, aI Y 6 f0), (h4, oC 3 [.ref h5, .int p3]), (h5, aI Y 80 f1), (h6, oC 7 [.ref h7, .int p4]), (h7, aJ Y 80 f2), (h8, oC 11 [.ref h1, .ref h9, .ref g15, .ref g16, .ref g17]), (h9, oC 3 [.ref h10, .int p5]), (h10, aI Y 6 f3)] rfl ?_
      refine V_aload_n 5 B dX11_look_5 0 rfl ?_
      refine V_get 6 B gf_RX11_68 0 rfl rfl dX11_look_6 ?_
      refine V_lconst 9 B (v := 0) dX11_look_9 (by decide +kernel) ?_
      refine V_lcmp 10 B dX11_look_10 rfl ?_
      refine V_nmi (fun j3 _ => ?_)
      refine V_if_ne 11 B 17 dX11_look_11 (by decide) (fun k4 => ?_) (fun k4 => ?_)
      ·
        refine V_aload_n 17 B dX11_look_17 0 rfl ?_
        refine V_get 18 B gf_RX11_30 0 rfl rfl dX11_look_18 ?_
        refine V_iload_n 21 B dX11_look_21 1 rfl ?_
        refine V_gvv 22 B envX EB (st := []) (As := [.int p6]) (fun sz => sX10_standIn_1 l D Y h1 h2 h3 h8 h9 h10 g7 g8 g9 g10 h4 g11 h6 g12 g13 g14 g15 g16 g17 p1 p2 f0 p5 f3 p6 sz) glV_RX11_264 ⟨rfl, rfl⟩ ⟨(Nat.le_of_ble_eq_true rfl), (Nat.le_of_ble_eq_true rfl)⟩ ⟨(Nat.le_of_ble_eq_true rfl), (Nat.le_of_ble_eq_true rfl)⟩ [1, 0, 0, 4, 0, 0] rfl 11 3 rfl rfl rfl rfl (Nat.le_of_ble_eq_true rfl) rfl (fun _ _ => rfl) dX11_look_22 (fun u6 w7 => ?_)
        refine V_ws [(h0, oC 12 [.ref h1, .ref g0, .ref g1, .ref g2, .ref h8, .ref g3, .ref g4, .ref g5, .ref g6, .long p0]), (h1, oC 2 [.ref h2, .ref g7, .ref g8, .ref g9, .ref g10, .ref h4, .ref g11, .ref h6, .ref g12, .ref g13, .ref g14, .int p1]), (h2, oC 3 [.ref h3, .int p2]), (h3, aI Y 6 f0), (h4, oC 3 [.ref h5, .int p3]), (h5, aI Y 80 f1), (h6, oC 7 [.ref h7, .int p4]), (h7, aJ Y 80 f2), (h8, oC 11 [.ref h1, .ref h9, .ref g15, .ref g16, .ref g17]), (h9, oC 3 [.ref h10, .int (u6.1 0)]), (h10, aI Y 6 (u6.2.2.1 0))] rfl ?_
        refine V_aload_n 25 B dX11_look_25 0 rfl ?_
        refine V_get 26 B gf_RX11_30 0 rfl rfl dX11_look_26 ?_
        refine V_aload_n 29 B dX11_look_29 0 rfl ?_
        refine V_get 30 B gf_RX11_68 0 rfl rfl dX11_look_30 ?_
        refine V_gvi 33 B envX EB (st := []) (As := [.long p0]) (fun sz => sX10_seenWith_1 l D Y h1 h4 h5 h6 h7 h8 h9 h10 h2 g7 g8 g9 g10 g11 g12 g13 g14 g15 g16 g17 p1 p3 f1 p4 f2 (u6.1 0) (u6.2.2.1 0) p0 sz) glV_RX11_267 ⟨rfl, rfl⟩ ⟨(Nat.le_of_ble_eq_true rfl), (Nat.le_of_ble_eq_true rfl)⟩ ⟨(Nat.le_of_ble_eq_true rfl), (Nat.le_of_ble_eq_true rfl)⟩ [1, 2, 0, 0, 0, 0, 0, 0] rfl 11 5 rfl rfl rfl rfl (Nat.le_of_ble_eq_true rfl) rfl (fun _ _ _ => rfl) dX11_look_33 (fun j8 u9 w10 => ?_)
        refine V_ws [(h0, oC 12 [.ref h1, .ref g0, .ref g1, .ref g2, .ref h8, .ref g3, .ref g4, .ref g5, .ref g6, .long p0]), (h1, oC 2 [.ref h2, .ref g7, .ref g8, .ref g9, .ref g10, .ref h4, .ref g11, .ref h6, .ref g12, .ref g13, .ref g14, .int p1]), (h2, oC 3 [.ref h3, .int p2]), (h3, aI Y 6 f0), (h4, oC 3 [.ref h5, .int p3]), (h5, aI Y 80 f1), (h6, oC 7 [.ref h7, .int p4]), (h7, aJ Y 80 f2), (h8, oC 11 [.ref h1, .ref h9, .ref g15, .ref g16, .ref g17]), (h9, oC 3 [.ref h10, .int (u6.1 0)]), (h10, aI Y 6 (u6.2.2.1 0))] rfl ?_
        refine V_xret ?_
        refine V_widen (k := 1) (n := 6) (Nat.le_of_ble_eq_true rfl) (Nat.le_of_ble_eq_true rfl) ?_
        exact V_iret 36 B dX11_look_36 (mkU [(u6.1 0)] [] [(u6.2.2.1 0)] [] []) trivial rfl
      ·
        obtain rfl : j3 = 0 := k4
        refine V_bipush 14 B (v := (-4)) dX11_look_14 (by decide +kernel) ?_
        refine V_xret ?_
        refine V_widen (k := 1) (n := 6) (Nat.le_of_ble_eq_true rfl) (Nat.le_of_ble_eq_true rfl) ?_
        exact V_iret 16 B dX11_look_16 (mkU [p5] [] [f3] [] []) trivial rfl)
theorem dX11_continuations_0 : decode cX11_continuations 0 = .ok (.aload_n 0, 1) := by decide +kernel
theorem dX11_continuations_1 : decode cX11_continuations 1 = .ok (.iload_n 1, 1) := by decide +kernel
theorem dX11_continuations_2 : decode cX11_continuations 2 = .ok (.invokevirtual 180, 3) := by decide +kernel
theorem dX11_continuations_5 : decode cX11_continuations 5 = .ok (.aload_n 0, 1) := by decide +kernel
theorem dX11_continuations_6 : decode cX11_continuations 6 = .ok (.getfield 30, 3) := by decide +kernel
theorem dX11_continuations_9 : decode cX11_continuations 9 = .ok (.iload_n 1, 1) := by decide +kernel
theorem dX11_continuations_10 : decode cX11_continuations 10 = .ok (.invokevirtual 270, 3) := by decide +kernel
theorem dX10_gather_0 : decode cX10_gather 0 = .ok (.aload_n 0, 1) := by decide +kernel
theorem dX10_gather_1 : decode cX10_gather 1 = .ok (.iload_n 1, 1) := by decide +kernel
theorem dX10_gather_2 : decode cX10_gather 2 = .ok (.invokevirtual 72, 3) := by decide +kernel
theorem glV_RX10_72 : GLV RX10 72 yX10_standIn RX10 cX10_standIn 4 none 1 := ⟨⟨(mT6 67 rfl rfl), (mT4 51 rfl rfl), (mT4 52 rfl rfl), (mT1 8 rfl rfl), (mT4 53 rfl rfl)⟩, by decide +kernel⟩
theorem dX10_gather_5 : decode cX10_gather 5 = .ok (.aload_n 0, 1) := by decide +kernel
theorem dX10_gather_6 : decode cX10_gather 6 = .ok (.getfield 24, 3) := by decide +kernel
theorem gf_RX10_24 : GF RX10 24 11 2 := ⟨RX10, TX10, 5, rfl, inw_X10, Nat.le_of_ble_eq_true rfl, (mT2 2 rfl rfl)⟩
theorem dX10_gather_9 : decode cX10_gather 9 = .ok (.invokevirtual 75, 3) := by decide +kernel
theorem glV_RX10_75 : GLV RX10 75 yX1_clear RX1 cX1_clear 1 none 0 := ⟨⟨(mT6 68 rfl rfl), (mT2 184 rfl rfl), (mT2 185 rfl rfl), (mT1 3 rfl rfl), (mT2 186 rfl rfl)⟩, by decide +kernel⟩
theorem dX10_gather_12 : decode cX10_gather 12 = .ok (.iconst 0, 1) := by decide +kernel
theorem dX10_gather_13 : decode cX10_gather 13 = .ok (.istore_n 2, 1) := by decide +kernel
theorem dX10_gather_14 : decode cX10_gather 14 = .ok (.iload_n 2, 1) := by decide +kernel
theorem dX10_gather_15 : decode cX10_gather 15 = .ok (.aload_n 0, 1) := by decide +kernel
theorem dX10_gather_16 : decode cX10_gather 16 = .ok (.getfield 9, 3) := by decide +kernel
theorem dX10_gather_19 : decode cX10_gather 19 = .ok (.getfield 53, 3) := by decide +kernel
theorem dX10_gather_22 : decode cX10_gather 22 = .ok (.invokevirtual 62, 3) := by decide +kernel
theorem dX10_gather_25 : decode cX10_gather 25 = .ok (.if_icmp .ge 26, 3) := by decide +kernel
theorem dX10_gather_51 : decode cX10_gather 51 = .ok (.return_, 1) := by decide +kernel
theorem dX10_gather_28 : decode cX10_gather 28 = .ok (.aload_n 0, 1) := by decide +kernel
theorem dX10_gather_29 : decode cX10_gather 29 = .ok (.iload_n 2, 1) := by decide +kernel
theorem dX10_gather_30 : decode cX10_gather 30 = .ok (.invokevirtual 78, 3) := by decide +kernel
theorem dX10_gather_33 : decode cX10_gather 33 = .ok (.ifCond .eq 12, 3) := by decide +kernel
theorem dX10_gather_45 : decode cX10_gather 45 = .ok (.iinc 2 1, 3) := by decide +kernel
theorem dX10_gather_48 : decode cX10_gather 48 = .ok (.goto (-34), 3) := by decide +kernel
theorem dX10_gather_36 : decode cX10_gather 36 = .ok (.aload_n 0, 1) := by decide +kernel
theorem dX10_gather_37 : decode cX10_gather 37 = .ok (.getfield 24, 3) := by decide +kernel
theorem dX10_gather_40 : decode cX10_gather 40 = .ok (.iload_n 2, 1) := by decide +kernel
theorem dX10_gather_41 : decode cX10_gather 41 = .ok (.invokevirtual 82, 3) := by decide +kernel
theorem glV_RX10_82 : GLV RX10 82 yX1_push RX1 cX1_push 2 (some .boolean) 1 := ⟨⟨(mT6 69 rfl rfl), (mT1 156 rfl rfl), (mT1 157 rfl rfl), (mT1 3 rfl rfl), (mT1 158 rfl rfl)⟩, by decide +kernel⟩
theorem dX10_gather_44 : decode cX10_gather 44 = .ok (.pop, 1) := by decide +kernel
set_option maxRecDepth 100000 in
set_option maxHeartbeats 4000000 in
theorem sX10_gather_1 (l : Launch) (D : va_G) (Y : Nat → ClassId) (h0 : Nat) (h1 : Nat) (h2 : Nat) (h3 : Nat) (h4 : Nat) (h5 : Nat) (h6 : Nat) (h7 : Nat) (h8 : Nat) (h9 : Nat) (h10 : Nat) (h11 : Nat) (g0 : Nat) (g1 : Nat) (g2 : Nat) (g3 : Nat) (g4 : Nat) (g5 : Nat) (g6 : Nat) (g7 : Nat) (g8 : Nat) (g9 : Nat) (p0 : Int32) (p1 : Int32) (f0 : Nat → Int32) (p2 : Int32) (f1 : Nat → Int32) (p3 : Int32) (f2 : Nat → Int64) (p4 : Int32) (f3 : Nat → Int32) (p5 : Int32) (f4 : Nat → Int32) (p6 : Int32) (sz : Nat) : Met l yX10_gather (WSm yX10_gather cX10_gather 3 none) (mkR 2 0 0 54) (PreG EX D Y [.ref h7, .int p6] [(h0, oC 2 [.ref h1, .ref g0, .ref g1, .ref g2, .ref g3, .ref h3, .ref g4, .ref h5, .ref g5, .ref g6, .ref g7, .int p0]), (h1, oC 3 [.ref h2, .int p1]), (h2, aI Y 6 f0), (h3, oC 3 [.ref h4, .int p2]), (h4, aI Y 80 f1), (h5, oC 7 [.ref h6, .int p3]), (h6, aJ Y 80 f2), (h7, oC 11 [.ref h0, .ref h8, .ref h10, .ref g8, .ref g9]), (h8, oC 3 [.ref h9, .int p4]), (h9, aI Y 6 f3), (h10, oC 3 [.ref h11, .int p5]), (h11, aI Y 80 f4)] sz) (QV D (fun (_ : UU) => True) (fun (u : UU) => [(h0, oC 2 [.ref h1, .ref g0, .ref g1, .ref g2, .ref g3, .ref h3, .ref g4, .ref h5, .ref g5, .ref g6, .ref g7, .int p0]), (h1, oC 3 [.ref h2, .int p1]), (h2, aI Y 6 f0), (h3, oC 3 [.ref h4, .int p2]), (h4, aI Y 80 f1), (h5, oC 7 [.ref h6, .int p3]), (h6, aJ Y 80 f2), (h7, oC 11 [.ref h0, .ref h8, .ref h10, .ref g8, .ref g9]), (h8, oC 3 [.ref h9, .int (u.1 0)]), (h9, aI Y 6 (u.2.2.1 0)), (h10, oC 3 [.ref h11, .int (u.1 1)]), (h11, aI Y 80 (u.2.2.1 1))]) (va_A [(h0, oC 2 [.ref h1, .ref g0, .ref g1, .ref g2, .ref g3, .ref h3, .ref g4, .ref h5, .ref g5, .ref g6, .ref g7, .int p0]), (h1, oC 3 [.ref h2, .int p1]), (h2, aI Y 6 f0), (h3, oC 3 [.ref h4, .int p2]), (h4, aI Y 80 f1), (h5, oC 7 [.ref h6, .int p3]), (h6, aJ Y 80 f2), (h7, oC 11 [.ref h0, .ref h8, .ref h10, .ref g8, .ref g9]), (h8, oC 3 [.ref h9, .int p4]), (h9, aI Y 6 f3), (h10, oC 3 [.ref h11, .int p5]), (h11, aI Y 80 f4)] sz)) 0 0 (va_A [(h0, oC 2 [.ref h1, .ref g0, .ref g1, .ref g2, .ref g3, .ref h3, .ref g4, .ref h5, .ref g5, .ref g6, .ref g7, .int p0]), (h1, oC 3 [.ref h2, .int p1]), (h2, aI Y 6 f0), (h3, oC 3 [.ref h4, .int p2]), (h4, aI Y 80 f1), (h5, oC 7 [.ref h6, .int p3]), (h6, aJ Y 80 f2), (h7, oC 11 [.ref h0, .ref h8, .ref h10, .ref g8, .ref g9]), (h8, oC 3 [.ref h9, .int p4]), (h9, aI Y 6 f3), (h10, oC 3 [.ref h11, .int p5]), (h11, aI Y 80 f4)] sz) :=
  gmet_of (by decide +kernel) (Nat.le_of_ble_eq_true rfl) (fun p e s m args below meth c B EB hsz => by
    have B : VB p s m args meth c D Y (va_A [(h0, oC 2 [.ref h1, .ref g0, .ref g1, .ref g2, .ref g3, .ref h3, .ref g4, .ref h5, .ref g5, .ref g6, .ref g7, .int p0]), (h1, oC 3 [.ref h2, .int p1]), (h2, aI Y 6 f0), (h3, oC 3 [.ref h4, .int p2]), (h4, aI Y 80 f1), (h5, oC 7 [.ref h6, .int p3]), (h6, aJ Y 80 f2), (h7, oC 11 [.ref h0, .ref h8, .ref h10, .ref g8, .ref g9]), (h8, oC 3 [.ref h9, .int p4]), (h9, aI Y 6 f3), (h10, oC 3 [.ref h11, .int p5]), (h11, aI Y 80 f4)] sz) cX10_gather 3 RX10 none := B
    refine V_aload_n 0 B dX10_gather_0 0 rfl ?_
    refine V_iload_n 1 B dX10_gather_1 1 rfl ?_
    refine V_gvv 2 B envX EB (st := []) (As := [.int p6]) (fun sz => sX10_standIn_1 l D Y h0 h1 h2 h7 h8 h9 g0 g1 g2 g3 h3 g4 h5 g5 g6 g7 h10 g8 g9 p0 p1 f0 p4 f3 p6 sz) glV_RX10_72 ⟨rfl, rfl⟩ ⟨(Nat.le_of_ble_eq_true rfl), (Nat.le_of_ble_eq_true rfl)⟩ ⟨(Nat.le_of_ble_eq_true rfl), (Nat.le_of_ble_eq_true rfl)⟩ [0, 0, 0, 4, 0, 0] rfl 11 3 rfl rfl rfl rfl (Nat.le_of_ble_eq_true rfl) rfl (fun _ _ => rfl) dX10_gather_2 (fun u1 w2 => ?_)
    refine V_ws [(h0, oC 2 [.ref h1, .ref g0, .ref g1, .ref g2, .ref g3, .ref h3, .ref g4, .ref h5, .ref g5, .ref g6, .ref g7, .int p0]), (h1, oC 3 [.ref h2, .int p1]), (h2, aI Y 6 f0), (h3, oC 3 [.ref h4, .int p2]), (h4, aI Y 80 f1), (h5, oC 7 [.ref h6, .int p3]), (h6, aJ Y 80 f2), (h7, oC 11 [.ref h0, .ref h8, .ref h10, .ref g8, .ref g9]), (h8, oC 3 [.ref h9, .int (u1.1 0)]), (h9, aI Y 6 (u1.2.2.1 0)), (h10, oC 3 [.ref h11, .int p5]), (h11, aI Y 80 f4)] rfl ?_
    refine V_aload_n 5 B dX10_gather_5 0 rfl ?_
    refine V_get 6 B gf_RX10_24 7 rfl rfl dX10_gather_6 ?_
    refine V_gvv 9 B envX EB (st := []) (As := []) (fun sz => sX1_clear_1 l D Y h10 h11 p5 sz) glV_RX10_75 ⟨rfl, rfl⟩ ⟨(Nat.le_of_ble_eq_true rfl), (Nat.le_of_ble_eq_true rfl)⟩ ⟨(Nat.le_of_ble_eq_true rfl), (Nat.le_of_ble_eq_true rfl)⟩ [10] rfl 3 0 rfl rfl rfl rfl (Nat.le_of_ble_eq_true rfl) rfl (fun _ _ => rfl) dX10_gather_9 (fun u4 w5 => ?_)
    refine V_ws [(h0, oC 2 [.ref h1, .ref g0, .ref g1, .ref g2, .ref g3, .ref h3, .ref g4, .ref h5, .ref g5, .ref g6, .ref g7, .int p0]), (h1, oC 3 [.ref h2, .int p1]), (h2, aI Y 6 f0), (h3, oC 3 [.ref h4, .int p2]), (h4, aI Y 80 f1), (h5, oC 7 [.ref h6, .int p3]), (h6, aJ Y 80 f2), (h7, oC 11 [.ref h0, .ref h8, .ref h10, .ref g8, .ref g9]), (h8, oC 3 [.ref h9, .int (u1.1 0)]), (h9, aI Y 6 (u1.2.2.1 0)), (h10, oC 3 [.ref h11, .int (u4.1 0)]), (h11, aI Y 80 f4)] rfl ?_
    refine V_iconst 12 B (v := 0) dX10_gather_12 (by decide +kernel) ?_
    refine V_istore_n 13 B (lv2 := [(2, .int 0), (0, .ref h7), (1, .int p6)]) dX10_gather_13 (by decide) rfl ?_
    refine V_wloop (α := UU) (fun a => (2147483647 - ((a.1 0)).toInt).toNat) (fun a => 0 ≤ ((a.1 0)).toInt) (fun a => [(2, .int (a.1 0)), (0, .ref h7), (1, .int p6)]) (fun a => [(h0, oC 2 [.ref h1, .ref g0, .ref g1, .ref g2, .ref g3, .ref h3, .ref g4, .ref h5, .ref g5, .ref g6, .ref g7, .int p0]), (h1, oC 3 [.ref h2, .int p1]), (h2, aI Y 6 f0), (h3, oC 3 [.ref h4, .int p2]), (h4, aI Y 80 f1), (h5, oC 7 [.ref h6, .int p3]), (h6, aJ Y 80 f2), (h7, oC 11 [.ref h0, .ref h8, .ref h10, .ref g8, .ref g9]), (h8, oC 3 [.ref h9, .int (a.1 1)]), (h9, aI Y 6 (a.2.2.1 0)), (h10, oC 3 [.ref h11, .int (a.1 2)]), (h11, aI Y 80 (a.2.2.1 1))]) (mkU [0, (u1.1 0), (u4.1 0)] [] [(u1.2.2.1 0), f4] [] []) (show (0 : Int) ≤ (0 : Int32).toInt by decide +kernel) rfl rfl (fun a6 hI8 IH7 => ?_)
    refine V_lv [(2, .int (a6.1 0)), (0, .ref h7), (1, .int p6)] [0, 1, 2] rfl ?_
    refine V_ws [(h0, oC 2 [.ref h1, .ref g0, .ref g1, .ref g2, .ref g3, .ref h3, .ref g4, .ref h5, .ref g5, .ref g6, .ref g7, .int p0]), (h1, oC 3 [.ref h2, .int p1]), (h2, aI Y 6 f0), (h3, oC 3 [.ref h4, .int p2]), (h4, aI Y 80 f1), (h5, oC 7 [.ref h6, .int p3]), (h6, aJ Y 80 f2), (h7, oC 11 [.ref h0, .ref h8, .ref h10, .ref g8, .ref g9]), (h8, oC 3 [.ref h9, .int (a6.1 1)]), (h9, aI Y 6 (a6.2.2.1 0)), (h10, oC 3 [.ref h11, .int (a6.1 2)]), (h11, aI Y 80 (a6.2.2.1 1))] rfl ?_
    refine V_iload_n 14 B dX10_gather_14 0 rfl ?_
    refine V_aload_n 15 B dX10_gather_15 1 rfl ?_
    refine V_get 16 B gf_RX10_9 7 rfl rfl dX10_gather_16 ?_
    refine V_get 19 B gf_RX10_53 0 rfl rfl dX10_gather_19 ?_
    refine V_gvi 22 B envX EB (st := [.int (a6.1 0)]) (As := []) (fun sz => sX1_size_1 l D Y h3 h4 p2 sz) glV_RX10_62 ⟨rfl, rfl⟩ ⟨(Nat.le_of_ble_eq_true rfl), (Nat.le_of_ble_eq_true rfl)⟩ ⟨(Nat.le_of_ble_eq_true rfl), (Nat.le_of_ble_eq_true rfl)⟩ [3] rfl 3 0 rfl rfl rfl rfl (Nat.le_of_ble_eq_true rfl) rfl (fun _ _ _ => rfl) dX10_gather_22 (fun j9 u10 w11 => ?_)
    refine V_ws [(h0, oC 2 [.ref h1, .ref g0, .ref g1, .ref g2, .ref g3, .ref h3, .ref g4, .ref h5, .ref g5, .ref g6, .ref g7, .int p0]), (h1, oC 3 [.ref h2, .int p1]), (h2, aI Y 6 f0), (h3, oC 3 [.ref h4, .int p2]), (h4, aI Y 80 f1), (h5, oC 7 [.ref h6, .int p3]), (h6, aJ Y 80 f2), (h7, oC 11 [.ref h0, .ref h8, .ref h10, .ref g8, .ref g9]), (h8, oC 3 [.ref h9, .int (a6.1 1)]), (h9, aI Y 6 (a6.2.2.1 0)), (h10, oC 3 [.ref h11, .int (a6.1 2)]), (h11, aI Y 80 (a6.2.2.1 1))] rfl ?_
    refine V_icmp_ge 25 B 51 dX10_gather_25 (by decide) (fun k12 => ?_) (fun k12 => ?_)
    ·
      exact V_vret 51 B dX10_gather_51 (mkU [(a6.1 1), (a6.1 2)] [] [(a6.2.2.1 0), (a6.2.2.1 1)] [] []) trivial rfl
    ·
      refine V_aload_n 28 B dX10_gather_28 1 rfl ?_
      refine V_iload_n 29 B dX10_gather_29 0 rfl ?_
      refine V_gvi 30 B envX EB (st := []) (As := [.int (a6.1 0)]) (fun sz => sX10_isSeen_1 l D Y h0 h3 h4 h5 h6 h7 h8 h9 h1 g0 g1 g2 g3 g4 g5 g6 g7 h10 g8 g9 p0 p2 f1 p3 f2 (a6.1 1) (a6.2.2.1 0) (a6.1 0) sz) glV_RX10_78 ⟨rfl, rfl⟩ ⟨(Nat.le_of_ble_eq_true rfl), (Nat.le_of_ble_eq_true rfl)⟩ ⟨(Nat.le_of_ble_eq_true rfl), (Nat.le_of_ble_eq_true rfl)⟩ [0, 2, 0, 0, 0, 0, 0, 0] rfl 11 5 rfl rfl rfl rfl (Nat.le_of_ble_eq_true rfl) rfl (fun _ _ _ => rfl) dX10_gather_30 (fun j13 u14 w15 => ?_)
      refine V_ws [(h0, oC 2 [.ref h1, .ref g0, .ref g1, .ref g2, .ref g3, .ref h3, .ref g4, .ref h5, .ref g5, .ref g6, .ref g7, .int p0]), (h1, oC 3 [.ref h2, .int p1]), (h2, aI Y 6 f0), (h3, oC 3 [.ref h4, .int p2]), (h4, aI Y 80 f1), (h5, oC 7 [.ref h6, .int p3]), (h6, aJ Y 80 f2), (h7, oC 11 [.ref h0, .ref h8, .ref h10, .ref g8, .ref g9]), (h8, oC 3 [.ref h9, .int (a6.1 1)]), (h9, aI Y 6 (a6.2.2.1 0)), (h10, oC 3 [.ref h11, .int (a6.1 2)]), (h11, aI Y 80 (a6.2.2.1 1))] rfl ?_
      rcases w15 with rfl | rfl
      ·
        refine V_if_eq_t 33 B 45 dX10_gather_33 (by decide) (by decide +kernel) ?_
        refine V_iinc 45 B (v := ((a6.1 0) + Int32.ofInt 1)) (lv2 := [(2, .int ((a6.1 0) + Int32.ofInt 1)), (0, .ref h7), (1, .int p6)]) dX10_gather_45 0 rfl rfl (by decide) rfl ?_
        refine V_goto 48 B 14 dX10_gather_48 (by decide) ?_
        refine V_lv [(2, .int ((a6.1 0) + Int32.ofInt 1)), (0, .ref h7), (1, .int p6)] [0, 1, 2] rfl ?_
        exact IH7 (mkU [((a6.1 0) + Int32.ofInt 1), (a6.1 1), (a6.1 2)] [] [(a6.2.2.1 0), (a6.2.2.1 1)] [] []) (Int.le_trans (by decide) (o_add_lo (c := Int32.ofInt 1) hI8 (o_lt_hi (o_nle k12) (i_hi j9) (k := 2147483646) (by decide +kernel)) (by decide +kernel) (by decide +kernel) (k := 1) (by decide +kernel))) (up_dec (x := (a6.1 0)) (c := Int32.ofInt 1) (by decide +kernel) hI8 (o_lt_hi (o_nle k12) (i_hi j9) (k := 2147483646) (by decide +kernel)) (by decide))
      ·
        refine V_if_eq_f 33 B 45 dX10_gather_33 (by decide) (by decide +kernel) ?_
        refine V_aload_n 36 B dX10_gather_36 1 rfl ?_
        refine V_get 37 B gf_RX10_24 7 rfl rfl dX10_gather_37 ?_
        refine V_iload_n 40 B dX10_gather_40 0 rfl ?_
        refine V_gvi 41 B envX EB (st := []) (As := [.int (a6.1 0)]) (fun sz => sX1_push_4 l D Y h10 h11 (a6.1 2) (a6.2.2.1 1) (a6.1 0) sz) glV_RX10_82 ⟨rfl, rfl⟩ ⟨(Nat.le_of_ble_eq_true rfl), (Nat.le_of_ble_eq_true rfl)⟩ ⟨(Nat.le_of_ble_eq_true rfl), (Nat.le_of_ble_eq_true rfl)⟩ [10, 0] rfl 3 0 rfl rfl rfl rfl (Nat.le_of_ble_eq_true rfl) rfl (fun _ _ _ => rfl) dX10_gather_41 (fun j16 u17 w18 => ?_)
        refine V_ws [(h0, oC 2 [.ref h1, .ref g0, .ref g1, .ref g2, .ref g3, .ref h3, .ref g4, .ref h5, .ref g5, .ref g6, .ref g7, .int p0]), (h1, oC 3 [.ref h2, .int p1]), (h2, aI Y 6 f0), (h3, oC 3 [.ref h4, .int p2]), (h4, aI Y 80 f1), (h5, oC 7 [.ref h6, .int p3]), (h6, aJ Y 80 f2), (h7, oC 11 [.ref h0, .ref h8, .ref h10, .ref g8, .ref g9]), (h8, oC 3 [.ref h9, .int (a6.1 1)]), (h9, aI Y 6 (a6.2.2.1 0)), (h10, oC 3 [.ref h11, .int (u17.1 0)]), (h11, aI Y 80 (u17.2.2.1 0))] rfl ?_
        rcases w18 with rfl | rfl
        ·
          refine V_pop 44 B dX10_gather_44 rfl ?_
          refine V_iinc 45 B (v := ((a6.1 0) + Int32.ofInt 1)) (lv2 := [(2, .int ((a6.1 0) + Int32.ofInt 1)), (0, .ref h7), (1, .int p6)]) dX10_gather_45 0 rfl rfl (by decide) rfl ?_
          refine V_goto 48 B 14 dX10_gather_48 (by decide) ?_
          refine V_lv [(2, .int ((a6.1 0) + Int32.ofInt 1)), (0, .ref h7), (1, .int p6)] [0, 1, 2] rfl ?_
          exact IH7 (mkU [((a6.1 0) + Int32.ofInt 1), (a6.1 1), (u17.1 0)] [] [(a6.2.2.1 0), (u17.2.2.1 0)] [] []) (Int.le_trans (by decide) (o_add_lo (c := Int32.ofInt 1) hI8 (o_lt_hi (o_nle k12) (i_hi j9) (k := 2147483646) (by decide +kernel)) (by decide +kernel) (by decide +kernel) (k := 1) (by decide +kernel))) (up_dec (x := (a6.1 0)) (c := Int32.ofInt 1) (by decide +kernel) hI8 (o_lt_hi (o_nle k12) (i_hi j9) (k := 2147483646) (by decide +kernel)) (by decide))
        ·
          refine V_pop 44 B dX10_gather_44 rfl ?_
          refine V_iinc 45 B (v := ((a6.1 0) + Int32.ofInt 1)) (lv2 := [(2, .int ((a6.1 0) + Int32.ofInt 1)), (0, .ref h7), (1, .int p6)]) dX10_gather_45 0 rfl rfl (by decide) rfl ?_
          refine V_goto 48 B 14 dX10_gather_48 (by decide) ?_
          refine V_lv [(2, .int ((a6.1 0) + Int32.ofInt 1)), (0, .ref h7), (1, .int p6)] [0, 1, 2] rfl ?_
          exact IH7 (mkU [((a6.1 0) + Int32.ofInt 1), (a6.1 1), (u17.1 0)] [] [(a6.2.2.1 0), (u17.2.2.1 0)] [] []) (Int.le_trans (by decide) (o_add_lo (c := Int32.ofInt 1) hI8 (o_lt_hi (o_nle k12) (i_hi j9) (k := 2147483646) (by decide +kernel)) (by decide +kernel) (by decide +kernel) (k := 1) (by decide +kernel))) (up_dec (x := (a6.1 0)) (c := Int32.ofInt 1) (by decide +kernel) hI8 (o_lt_hi (o_nle k12) (i_hi j9) (k := 2147483646) (by decide +kernel)) (by decide)))
theorem glV_RX11_270 : GLV RX11 270 yX10_gather RX10 cX10_gather 3 none 1 := ⟨⟨(mT6 63 rfl rfl), (mT6 64 rfl rfl), (mT6 65 rfl rfl), (mT1 8 rfl rfl), (mT6 66 rfl rfl)⟩, by decide +kernel⟩
theorem dX11_continuations_13 : decode cX11_continuations 13 = .ok (.aload_n 0, 1) := by decide +kernel
theorem dX11_continuations_14 : decode cX11_continuations 14 = .ok (.getfield 30, 3) := by decide +kernel
theorem dX11_continuations_17 : decode cX11_continuations 17 = .ok (.aload_n 0, 1) := by decide +kernel
theorem dX11_continuations_18 : decode cX11_continuations 18 = .ok (.getfield 68, 3) := by decide +kernel
theorem dX11_continuations_21 : decode cX11_continuations 21 = .ok (.invokevirtual 273, 3) := by decide +kernel
theorem dX10_countLonger_0 : decode cX10_countLonger 0 = .ok (.iconst 0, 1) := by decide +kernel
theorem dX10_countLonger_1 : decode cX10_countLonger 1 = .ok (.istore_n 3, 1) := by decide +kernel
theorem dX10_countLonger_2 : decode cX10_countLonger 2 = .ok (.iconst 0, 1) := by decide +kernel
theorem dX10_countLonger_3 : decode cX10_countLonger 3 = .ok (.istore 4, 2) := by decide +kernel
theorem dX10_countLonger_5 : decode cX10_countLonger 5 = .ok (.iload 4, 2) := by decide +kernel
theorem dX10_countLonger_7 : decode cX10_countLonger 7 = .ok (.aload_n 0, 1) := by decide +kernel
theorem dX10_countLonger_8 : decode cX10_countLonger 8 = .ok (.getfield 24, 3) := by decide +kernel
theorem dX10_countLonger_11 : decode cX10_countLonger 11 = .ok (.invokevirtual 62, 3) := by decide +kernel
theorem dX10_countLonger_14 : decode cX10_countLonger 14 = .ok (.if_icmp .ge 38, 3) := by decide +kernel
theorem dX10_countLonger_52 : decode cX10_countLonger 52 = .ok (.iload_n 3, 1) := by decide +kernel
theorem dX10_countLonger_53 : decode cX10_countLonger 53 = .ok (.ireturn, 1) := by decide +kernel
theorem dX10_countLonger_17 : decode cX10_countLonger 17 = .ok (.lload_n 1, 1) := by decide +kernel
theorem dX10_countLonger_18 : decode cX10_countLonger 18 = .ok (.aload_n 0, 1) := by decide +kernel
theorem dX10_countLonger_19 : decode cX10_countLonger 19 = .ok (.getfield 9, 3) := by decide +kernel
theorem dX10_countLonger_22 : decode cX10_countLonger 22 = .ok (.getfield 56, 3) := by decide +kernel
theorem dX10_countLonger_25 : decode cX10_countLonger 25 = .ok (.aload_n 0, 1) := by decide +kernel
theorem dX10_countLonger_26 : decode cX10_countLonger 26 = .ok (.getfield 24, 3) := by decide +kernel
theorem dX10_countLonger_29 : decode cX10_countLonger 29 = .ok (.iload 4, 2) := by decide +kernel
theorem dX10_countLonger_31 : decode cX10_countLonger 31 = .ok (.invokevirtual 49, 3) := by decide +kernel
theorem dX10_countLonger_34 : decode cX10_countLonger 34 = .ok (.invokevirtual 59, 3) := by decide +kernel
theorem dX10_countLonger_37 : decode cX10_countLonger 37 = .ok (.invokestatic 85, 3) := by decide +kernel
theorem dX6_isProperPrefix_0 : decode cX6_isProperPrefix 0 = .ok (.lload_n 0, 1) := by decide +kernel
theorem dX6_isProperPrefix_1 : decode cX6_isProperPrefix 1 = .ok (.invokestatic 13, 3) := by decide +kernel
theorem dX6_isProperPrefix_4 : decode cX6_isProperPrefix 4 = .ok (.lload_n 2, 1) := by decide +kernel
theorem dX6_isProperPrefix_5 : decode cX6_isProperPrefix 5 = .ok (.invokestatic 13, 3) := by decide +kernel
theorem dX6_isProperPrefix_8 : decode cX6_isProperPrefix 8 = .ok (.if_icmp .ge 15, 3) := by decide +kernel
theorem dX6_isProperPrefix_23 : decode cX6_isProperPrefix 23 = .ok (.iconst 0, 1) := by decide +kernel
theorem dX6_isProperPrefix_24 : decode cX6_isProperPrefix 24 = .ok (.ireturn, 1) := by decide +kernel
theorem dX6_isProperPrefix_11 : decode cX6_isProperPrefix 11 = .ok (.lload_n 0, 1) := by decide +kernel
theorem dX6_isProperPrefix_12 : decode cX6_isProperPrefix 12 = .ok (.lload_n 2, 1) := by decide +kernel
theorem dX6_isProperPrefix_13 : decode cX6_isProperPrefix 13 = .ok (.invokestatic 17, 3) := by decide +kernel
theorem glS_RX6_17 : GLS RX6 17 yX6_clashBetween cX6_clashBetween 9 (some .boolean) 2 := ⟨⟨(mT4 97 rfl rfl), (mT3 108 rfl rfl), (mT1 18 rfl rfl), (mT3 109 rfl rfl)⟩, by decide +kernel⟩
theorem dX6_isProperPrefix_16 : decode cX6_isProperPrefix 16 = .ok (.ifCond .eq 7, 3) := by decide +kernel
theorem dX6_isProperPrefix_19 : decode cX6_isProperPrefix 19 = .ok (.iconst 1, 1) := by decide +kernel
theorem dX6_isProperPrefix_20 : decode cX6_isProperPrefix 20 = .ok (.goto 4, 3) := by decide +kernel
set_option maxRecDepth 100000 in
set_option maxHeartbeats 4000000 in
theorem sX6_isProperPrefix_1 (l : Launch) (D : va_G) (Y : Nat → ClassId) (p0 : Int64) (p1 : Int64) (sz : Nat) : Met l yX6_isProperPrefix (WSm yX6_isProperPrefix cX6_isProperPrefix 4 (some .boolean)) (mkR 1 0 0 28) (PreG EX D Y [.long p0, .long p1] [] sz) (QI D (fun (r : Int32) (_ : UU) => r = 0 ∨ r = 1) (fun (u : UU) => []) (va_A [] sz)) 0 0 (va_A [] sz) :=
  gmet_of (by decide +kernel) (Nat.le_of_ble_eq_true rfl) (fun p e s m args below meth c B EB hsz => by
    have B : VB p s m args meth c D Y (va_A [] sz) cX6_isProperPrefix 4 RX6 (some .boolean) := B
    refine V_lload_n 0 B dX6_isProperPrefix_0 0 rfl ?_
    refine V_gsi 1 B envX EB (st := []) (As := [.long p0]) (fun sz => sX6_lengthOf_1 l D Y  p0 sz) glS_RX6_13 ⟨rfl, rfl⟩ ⟨(Nat.le_of_ble_eq_true rfl), (Nat.le_of_ble_eq_true rfl)⟩ ⟨(Nat.le_of_ble_eq_true rfl), (Nat.le_of_ble_eq_true rfl)⟩ [] rfl rfl (Nat.le_of_ble_eq_true rfl) rfl (fun _ _ _ => rfl) dX6_isProperPrefix_1 (fun j0 u1 w2 => ?_)
    refine V_ws [] rfl ?_
    refine V_lload_n 4 B dX6_isProperPrefix_4 1 rfl ?_
    refine V_gsi 5 B envX EB (st := [.int j0]) (As := [.long p1]) (fun sz => sX6_lengthOf_1 l D Y  p1 sz) glS_RX6_13 ⟨rfl, rfl⟩ ⟨(Nat.le_of_ble_eq_true rfl), (Nat.le_of_ble_eq_true rfl)⟩ ⟨(Nat.le_of_ble_eq_true rfl), (Nat.le_of_ble_eq_true rfl)⟩ [] rfl rfl (Nat.le_of_ble_eq_true rfl) rfl (fun _ _ _ => rfl) dX6_isProperPrefix_5 (fun j3 u4 w5 => ?_)
    refine V_ws [] rfl ?_
    refine V_icmp_ge 8 B 23 dX6_isProperPrefix_8 (by decide) (fun k6 => ?_) (fun k6 => ?_)
    ·
      refine V_iconst 23 B (v := 0) dX6_isProperPrefix_23 (by decide +kernel) ?_
      exact V_zret 24 B rfl dX6_isProperPrefix_24 (mkU [] [] [] [] []) (Or.inl rfl) rfl
    ·
      refine V_lload_n 11 B dX6_isProperPrefix_11 0 rfl ?_
      refine V_lload_n 12 B dX6_isProperPrefix_12 1 rfl ?_
      refine V_gsi 13 B envX EB (st := []) (As := [.long p0, .long p1]) (fun sz => sX6_clashBetween_1 l D Y  p0 p1 sz) glS_RX6_17 ⟨rfl, rfl⟩ ⟨(Nat.le_of_ble_eq_true rfl), (Nat.le_of_ble_eq_true rfl)⟩ ⟨(Nat.le_of_ble_eq_true rfl), (Nat.le_of_ble_eq_true rfl)⟩ [] rfl rfl (Nat.le_of_ble_eq_true rfl) rfl (fun _ _ _ => rfl) dX6_isProperPrefix_13 (fun j7 u8 w9 => ?_)
      refine V_ws [] rfl ?_
      rcases w9 with rfl | rfl
      ·
        refine V_if_eq_t 16 B 23 dX6_isProperPrefix_16 (by decide) (by decide +kernel) ?_
        refine V_iconst 23 B (v := 0) dX6_isProperPrefix_23 (by decide +kernel) ?_
        exact V_zret 24 B rfl dX6_isProperPrefix_24 (mkU [] [] [] [] []) (Or.inl rfl) rfl
      ·
        refine V_if_eq_f 16 B 23 dX6_isProperPrefix_16 (by decide) (by decide +kernel) ?_
        refine V_iconst 19 B (v := 1) dX6_isProperPrefix_19 (by decide +kernel) ?_
        refine V_goto 20 B 24 dX6_isProperPrefix_20 (by decide) ?_
        exact V_zret 24 B rfl dX6_isProperPrefix_24 (mkU [] [] [] [] []) (Or.inr rfl) rfl)
theorem glS_RX10_85 : GLS RX10 85 yX6_isProperPrefix cX6_isProperPrefix 4 (some .boolean) 2 := ⟨⟨(mT4 94 rfl rfl), (mT4 95 rfl rfl), (mT1 18 rfl rfl), (mT4 96 rfl rfl)⟩, by decide +kernel⟩
theorem dX10_countLonger_40 : decode cX10_countLonger 40 = .ok (.ifCond .eq 6, 3) := by decide +kernel
theorem dX10_countLonger_46 : decode cX10_countLonger 46 = .ok (.iinc 4 1, 3) := by decide +kernel
theorem dX10_countLonger_49 : decode cX10_countLonger 49 = .ok (.goto (-44), 3) := by decide +kernel
theorem dX10_countLonger_43 : decode cX10_countLonger 43 = .ok (.iinc 3 1, 3) := by decide +kernel
set_option maxRecDepth 100000 in
set_option maxHeartbeats 4000000 in
theorem sX10_countLonger_1 (l : Launch) (D : va_G) (Y : Nat → ClassId) (h0 : Nat) (h1 : Nat) (h2 : Nat) (h3 : Nat) (h4 : Nat) (h5 : Nat) (g0 : Nat) (g1 : Nat) (g2 : Nat) (g3 : Nat) (g4 : Nat) (g5 : Nat) (g6 : Nat) (g7 : Nat) (g8 : Nat) (g9 : Nat) (g10 : Nat) (g11 : Nat) (g12 : Nat) (p0 : Int32) (p1 : Int32) (f0 : Nat → Int64) (p2 : Int32) (f1 : Nat → Int32) (p3 : Int64) (sz : Nat) : Met l yX10_countLonger (WSm yX10_countLonger cX10_countLonger 5 (some .int)) (mkR 2 0 0 51) (PreG EX D Y [.ref h3, .long p3] [(h0, oC 2 [.ref g0, .ref g1, .ref g2, .ref g3, .ref g4, .ref g5, .ref g6, .ref h1, .ref g7, .ref g8, .ref g9, .int p0]), (h1, oC 7 [.ref h2, .int p1]), (h2, aJ Y 80 f0), (h3, oC 11 [.ref h0, .ref g10, .ref h4, .ref g11, .ref g12]), (h4, oC 3 [.ref h5, .int p2]), (h5, aI Y 80 f1)] sz) (QI D (fun (_ : Int32) (_ : UU) => True) (fun (u : UU) => [(h0, oC 2 [.ref g0, .ref g1, .ref g2, .ref g3, .ref g4, .ref g5, .ref g6, .ref h1, .ref g7, .ref g8, .ref g9, .int p0]), (h1, oC 7 [.ref h2, .int p1]), (h2, aJ Y 80 f0), (h3, oC 11 [.ref h0, .ref g10, .ref h4, .ref g11, .ref g12]), (h4, oC 3 [.ref h5, .int p2]), (h5, aI Y 80 f1)]) (va_A [(h0, oC 2 [.ref g0, .ref g1, .ref g2, .ref g3, .ref g4, .ref g5, .ref g6, .ref h1, .ref g7, .ref g8, .ref g9, .int p0]), (h1, oC 7 [.ref h2, .int p1]), (h2, aJ Y 80 f0), (h3, oC 11 [.ref h0, .ref g10, .ref h4, .ref g11, .ref g12]), (h4, oC 3 [.ref h5, .int p2]), (h5, aI Y 80 f1)] sz)) 0 0 (va_A [(h0, oC 2 [.ref g0, .ref g1, .ref g2, .ref g3, .ref g4, .ref g5, .ref g6, .ref h1, .ref g7, .ref g8, .ref g9, .int p0]), (h1, oC 7 [.ref h2, .int p1]), (h2, aJ Y 80 f0), (h3, oC 11 [.ref h0, .ref g10, .ref h4, .ref g11, .ref g12]), (h4, oC 3 [.ref h5, .int p2]), (h5, aI Y 80 f1)] sz) :=
  gmet_of (by decide +kernel) (Nat.le_of_ble_eq_true rfl) (fun p e s m args below meth c B EB hsz => by
    have B : VB p s m args meth c D Y (va_A [(h0, oC 2 [.ref g0, .ref g1, .ref g2, .ref g3, .ref g4, .ref g5, .ref g6, .ref h1, .ref g7, .ref g8, .ref g9, .int p0]), (h1, oC 7 [.ref h2, .int p1]), (h2, aJ Y 80 f0), (h3, oC 11 [.ref h0, .ref g10, .ref h4, .ref g11, .ref g12]), (h4, oC 3 [.ref h5, .int p2]), (h5, aI Y 80 f1)] sz) cX10_countLonger 5 RX10 (some .int) := B
    refine V_iconst 0 B (v := 0) dX10_countLonger_0 (by decide +kernel) ?_
    refine V_istore_n 1 B (lv2 := [(3, .int 0), (0, .ref h3), (1, .long p3)]) dX10_countLonger_1 (by decide) rfl ?_
    refine V_iconst 2 B (v := 0) dX10_countLonger_2 (by decide +kernel) ?_
    refine V_istore 3 B (lv2 := [(4, .int 0), (3, .int 0), (0, .ref h3), (1, .long p3)]) dX10_countLonger_3 (by decide) rfl ?_
    refine V_wloop (α := UU) (fun a => (2147483647 - ((a.1 0)).toInt).toNat) (fun a => 0 ≤ ((a.1 0)).toInt) (fun a => [(4, .int (a.1 0)), (3, .int (a.1 1)), (0, .ref h3), (1, .long p3)]) (fun a => [(h0, oC 2 [.ref g0, .ref g1, .ref g2, .ref g3, .ref g4, .ref g5, .ref g6, .ref h1, .ref g7, .ref g8, .ref g9, .int p0]), (h1, oC 7 [.ref h2, .int p1]), (h2, aJ Y 80 f0), (h3, oC 11 [.ref h0, .ref g10, .ref h4, .ref g11, .ref g12]), (h4, oC 3 [.ref h5, .int p2]), (h5, aI Y 80 f1)]) (mkU [0, 0] [] [] [] []) (show (0 : Int) ≤ (0 : Int32).toInt by decide +kernel) rfl rfl (fun a0 hI2 IH1 => ?_)
    refine V_lv [(4, .int (a0.1 0)), (3, .int (a0.1 1)), (0, .ref h3), (1, .long p3)] [0, 1, 2, 3] rfl ?_
    refine V_ws [(h0, oC 2 [.ref g0, .ref g1, .ref g2, .ref g3, .ref g4, .ref g5, .ref g6, .ref h1, .ref g7, .ref g8, .ref g9, .int p0]), (h1, oC 7 [.ref h2, .int p1]), (h2, aJ Y 80 f0), (h3, oC 11 [.ref h0, .ref g10, .ref h4, .ref g11, .ref g12]), (h4, oC 3 [.ref h5, .int p2]), (h5, aI Y 80 f1)] rfl ?_
    refine V_iload 5 B dX10_countLonger_5 0 rfl ?_
    refine V_aload_n 7 B dX10_countLonger_7 2 rfl ?_
    refine V_get 8 B gf_RX10_24 3 rfl rfl dX10_countLonger_8 ?_
    refine V_gvi 11 B envX EB (st := [.int (a0.1 0)]) (As := []) (fun sz => sX1_size_1 l D Y h4 h5 p2 sz) glV_RX10_62 ⟨rfl, rfl⟩ ⟨(Nat.le_of_ble_eq_true rfl), (Nat.le_of_ble_eq_true rfl)⟩ ⟨(Nat.le_of_ble_eq_true rfl), (Nat.le_of_ble_eq_true rfl)⟩ [4] rfl 3 0 rfl rfl rfl rfl (Nat.le_of_ble_eq_true rfl) rfl (fun _ _ _ => rfl) dX10_countLonger_11 (fun j3 u4 w5 => ?_)
    refine V_ws [(h0, oC 2 [.ref g0, .ref g1, .ref g2, .ref g3, .ref g4, .ref g5, .ref g6, .ref h1, .ref g7, .ref g8, .ref g9, .int p0]), (h1, oC 7 [.ref h2, .int p1]), (h2, aJ Y 80 f0), (h3, oC 11 [.ref h0, .ref g10, .ref h4, .ref g11, .ref g12]), (h4, oC 3 [.ref h5, .int p2]), (h5, aI Y 80 f1)] rfl ?_
    refine V_icmp_ge 14 B 52 dX10_countLonger_14 (by decide) (fun k6 => ?_) (fun k6 => ?_)
    ·
      refine V_iload_n 52 B dX10_countLonger_52 1 rfl ?_
      exact V_iret 53 B dX10_countLonger_53 (mkU [] [] [] [] []) trivial rfl
    ·
      refine V_lload_n 17 B dX10_countLonger_17 3 rfl ?_
      refine V_aload_n 18 B dX10_countLonger_18 2 rfl ?_
      refine V_get 19 B gf_RX10_9 3 rfl rfl dX10_countLonger_19 ?_
      refine V_get 22 B gf_RX10_56 0 rfl rfl dX10_countLonger_22 ?_
      refine V_aload_n 25 B dX10_countLonger_25 2 rfl ?_
      refine V_get 26 B gf_RX10_24 3 rfl rfl dX10_countLonger_26 ?_
      refine V_iload 29 B dX10_countLonger_29 0 rfl ?_
      refine V_gvi 31 B envX EB (st := [.ref h1, .long p3]) (As := [.int (a0.1 0)]) (fun sz => sX1_at_3 l D Y h4 h5 p2 f1 (a0.1 0) sz) glV_RX10_49 ⟨rfl, rfl⟩ ⟨(Nat.le_of_ble_eq_true rfl), (Nat.le_of_ble_eq_true rfl)⟩ ⟨(Nat.le_of_ble_eq_true rfl), (Nat.le_of_ble_eq_true rfl)⟩ [4, 0] rfl 3 0 rfl rfl rfl rfl (Nat.le_of_ble_eq_true rfl) rfl (fun _ _ _ => rfl) dX10_countLonger_31 (fun j7 u8 w9 => ?_)
      refine V_ws [(h0, oC 2 [.ref g0, .ref g1, .ref g2, .ref g3, .ref g4, .ref g5, .ref g6, .ref h1, .ref g7, .ref g8, .ref g9, .int p0]), (h1, oC 7 [.ref h2, .int p1]), (h2, aJ Y 80 f0), (h3, oC 11 [.ref h0, .ref g10, .ref h4, .ref g11, .ref g12]), (h4, oC 3 [.ref h5, .int p2]), (h5, aI Y 80 f1)] rfl ?_
      refine V_gvl 34 B envX EB (st := [.long p3]) (As := [.int j7]) (fun sz => sX5_at_1 l D Y h1 h2 p1 f0 j7 sz) glV_RX10_59 ⟨rfl, rfl⟩ ⟨(Nat.le_of_ble_eq_true rfl), (Nat.le_of_ble_eq_true rfl)⟩ ⟨(Nat.le_of_ble_eq_true rfl), (Nat.le_of_ble_eq_true rfl)⟩ [1, 0] rfl 7 0 rfl rfl rfl rfl (Nat.le_of_ble_eq_true rfl) rfl (fun _ _ _ => rfl) dX10_countLonger_34 (fun o10 u11 w12 => ?_)
      refine V_ws [(h0, oC 2 [.ref g0, .ref g1, .ref g2, .ref g3, .ref g4, .ref g5, .ref g6, .ref h1, .ref g7, .ref g8, .ref g9, .int p0]), (h1, oC 7 [.ref h2, .int p1]), (h2, aJ Y 80 f0), (h3, oC 11 [.ref h0, .ref g10, .ref h4, .ref g11, .ref g12]), (h4, oC 3 [.ref h5, .int p2]), (h5, aI Y 80 f1)] rfl ?_
      refine V_gsi 37 B envX EB (st := []) (As := [.long p3, .long o10]) (fun sz => sX6_isProperPrefix_1 l D Y  p3 o10 sz) glS_RX10_85 ⟨rfl, rfl⟩ ⟨(Nat.le_of_ble_eq_true rfl), (Nat.le_of_ble_eq_true rfl)⟩ ⟨(Nat.le_of_ble_eq_true rfl), (Nat.le_of_ble_eq_true rfl)⟩ [] rfl rfl (Nat.le_of_ble_eq_true rfl) rfl (fun _ _ _ => rfl) dX10_countLonger_37 (fun j13 u14 w15 => ?_)
      refine V_ws [(h0, oC 2 [.ref g0, .ref g1, .ref g2, .ref g3, .ref g4, .ref g5, .ref g6, .ref h1, .ref g7, .ref g8, .ref g9, .int p0]), (h1, oC 7 [.ref h2, .int p1]), (h2, aJ Y 80 f0), (h3, oC 11 [.ref h0, .ref g10, .ref h4, .ref g11, .ref g12]), (h4, oC 3 [.ref h5, .int p2]), (h5, aI Y 80 f1)] rfl ?_
      rcases w15 with rfl | rfl
      ·
        refine V_if_eq_t 40 B 46 dX10_countLonger_40 (by decide) (by decide +kernel) ?_
        refine V_iinc 46 B (v := ((a0.1 0) + Int32.ofInt 1)) (lv2 := [(4, .int ((a0.1 0) + Int32.ofInt 1)), (3, .int (a0.1 1)), (0, .ref h3), (1, .long p3)]) dX10_countLonger_46 0 rfl rfl (by decide) rfl ?_
        refine V_goto 49 B 5 dX10_countLonger_49 (by decide) ?_
        refine V_lv [(4, .int ((a0.1 0) + Int32.ofInt 1)), (3, .int (a0.1 1)), (0, .ref h3), (1, .long p3)] [0, 1, 2, 3] rfl ?_
        exact IH1 (mkU [((a0.1 0) + Int32.ofInt 1), (a0.1 1)] [] [] [] []) (Int.le_trans (by decide) (o_add_lo (c := Int32.ofInt 1) hI2 (o_lt_hi (o_nle k6) (i_hi j3) (k := 2147483646) (by decide +kernel)) (by decide +kernel) (by decide +kernel) (k := 1) (by decide +kernel))) (up_dec (x := (a0.1 0)) (c := Int32.ofInt 1) (by decide +kernel) hI2 (o_lt_hi (o_nle k6) (i_hi j3) (k := 2147483646) (by decide +kernel)) (by decide))
      ·
        refine V_if_eq_f 40 B 46 dX10_countLonger_40 (by decide) (by decide +kernel) ?_
        refine V_iinc 43 B (v := ((a0.1 1) + Int32.ofInt 1)) (lv2 := [(3, .int ((a0.1 1) + Int32.ofInt 1)), (4, .int (a0.1 0)), (0, .ref h3), (1, .long p3)]) dX10_countLonger_43 1 rfl rfl (by decide) rfl ?_
        refine V_iinc 46 B (v := ((a0.1 0) + Int32.ofInt 1)) (lv2 := [(4, .int ((a0.1 0) + Int32.ofInt 1)), (3, .int ((a0.1 1) + Int32.ofInt 1)), (0, .ref h3), (1, .long p3)]) dX10_countLonger_46 1 rfl rfl (by decide) rfl ?_
        refine V_goto 49 B 5 dX10_countLonger_49 (by decide) ?_
        refine V_lv [(4, .int ((a0.1 0) + Int32.ofInt 1)), (3, .int ((a0.1 1) + Int32.ofInt 1)), (0, .ref h3), (1, .long p3)] [0, 1, 2, 3] rfl ?_
        exact IH1 (mkU [((a0.1 0) + Int32.ofInt 1), ((a0.1 1) + Int32.ofInt 1)] [] [] [] []) (Int.le_trans (by decide) (o_add_lo (c := Int32.ofInt 1) hI2 (o_lt_hi (o_nle k6) (i_hi j3) (k := 2147483646) (by decide +kernel)) (by decide +kernel) (by decide +kernel) (k := 1) (by decide +kernel))) (up_dec (x := (a0.1 0)) (c := Int32.ofInt 1) (by decide +kernel) hI2 (o_lt_hi (o_nle k6) (i_hi j3) (k := 2147483646) (by decide +kernel)) (by decide)))
theorem glV_RX11_273 : GLV RX11 273 yX10_countLonger RX10 cX10_countLonger 5 (some .int) 1 := ⟨⟨(mT6 70 rfl rfl), (mT6 71 rfl rfl), (mT6 72 rfl rfl), (mT1 8 rfl rfl), (mT6 73 rfl rfl)⟩, by decide +kernel⟩
theorem dX11_continuations_24 : decode cX11_continuations 24 = .ok (.ireturn, 1) := by decide +kernel
set_option maxRecDepth 100000 in
set_option maxHeartbeats 4000000 in
theorem sX11_continuations_1 (l : Launch) (hl9 : l.stackTraces = false) (D : va_G) (Y : Nat → ClassId) (h0 : Nat) (h1 : Nat) (h2 : Nat) (h3 : Nat) (h4 : Nat) (h5 : Nat) (h6 : Nat) (h7 : Nat) (h8 : Nat) (h9 : Nat) (h10 : Nat) (h11 : Nat) (h12 : Nat) (g0 : Nat) (g1 : Nat) (g2 : Nat) (g3 : Nat) (g4 : Nat) (g5 : Nat) (g6 : Nat) (g7 : Nat) (g8 : Nat) (g9 : Nat) (g10 : Nat) (g11 : Nat) (g12 : Nat) (g13 : Nat) (g14 : Nat) (g15 : Nat) (g16 : Nat) (p0 : Int64) (p1 : Int32) (p2 : Int32) (f0 : Nat → Int32) (p3 : Int32) (f1 : Nat → Int32) (p4 : Int32) (f2 : Nat → Int64) (p5 : Int32) (f3 : Nat → Int32) (p6 : Int32) (f4 : Nat → Int32) (p7 : Int32) (sz : Nat) : vx_Met l yX11_continuations (WSm yX11_continuations cX11_continuations 2 (some .int)) (mkR 7 1 6 103) (PreX D Y [.ref h0, .int p7] [(h0, oC 12 [.ref h1, .ref g0, .ref g1, .ref g2, .ref h8, .ref g3, .ref g4, .ref g5, .ref g6, .long p0]), (h1, oC 2 [.ref h2, .ref g7, .ref g8, .ref g9, .ref g10, .ref h4, .ref g11, .ref h6, .ref g12, .ref g13, .ref g14, .int p1]), (h2, oC 3 [.ref h3, .int p2]), (h3, aI Y 6 f0), (h4, oC 3 [.ref h5, .int p3]), (h5, aI Y 80 f1), (h6, oC 7 [.ref h7, .int p4]), (h7, aJ Y 80 f2), (h8, oC 11 [.ref h1, .ref h9, .ref h11, .ref g15, .ref g16]), (h9, oC 3 [.ref h10, .int p5]), (h10, aI Y 6 f3), (h11, oC 3 [.ref h12, .int p6]), (h12, aI Y 80 f4)] sz) (QI D (fun (_ : Int32) (_ : UU) => True) (fun (u : UU) => [(h0, oC 12 [.ref h1, .ref g0, .ref g1, .ref g2, .ref h8, .ref g3, .ref g4, .ref g5, .ref g6, .long p0]), (h1, oC 2 [.ref h2, .ref g7, .ref g8, .ref g9, .ref g10, .ref h4, .ref g11, .ref h6, .ref g12, .ref g13, .ref g14, .int p1]), (h2, oC 3 [.ref h3, .int p2]), (h3, aI Y 6 f0), (h4, oC 3 [.ref h5, .int p3]), (h5, aI Y 80 f1), (h6, oC 7 [.ref h7, .int p4]), (h7, aJ Y 80 f2), (h8, oC 11 [.ref h1, .ref h9, .ref h11, .ref g15, .ref g16]), (h9, oC 3 [.ref h10, .int (u.1 0)]), (h10, aI Y 6 (u.2.2.1 0)), (h11, oC 3 [.ref h12, .int (u.1 1)]), (h12, aI Y 80 (u.2.2.1 1))]) (va_A [(h0, oC 12 [.ref h1, .ref g0, .ref g1, .ref g2, .ref h8, .ref g3, .ref g4, .ref g5, .ref g6, .long p0]), (h1, oC 2 [.ref h2, .ref g7, .ref g8, .ref g9, .ref g10, .ref h4, .ref g11, .ref h6, .ref g12, .ref g13, .ref g14, .int p1]), (h2, oC 3 [.ref h3, .int p2]), (h3, aI Y 6 f0), (h4, oC 3 [.ref h5, .int p3]), (h5, aI Y 80 f1), (h6, oC 7 [.ref h7, .int p4]), (h7, aJ Y 80 f2), (h8, oC 11 [.ref h1, .ref h9, .ref h11, .ref g15, .ref g16]), (h9, oC 3 [.ref h10, .int p5]), (h10, aI Y 6 f3), (h11, oC 3 [.ref h12, .int p6]), (h12, aI Y 80 f4)] sz)) (XW D (fun (E : String) (_ : UU) => E = "java/lang/IndexOutOfBoundsException") (fun (u : UU) => [(h0, oC 12 [.ref h1, .ref g0, .ref g1, .ref g2, .ref h8, .ref g3, .ref g4, .ref g5, .ref g6, .long p0]), (h1, oC 2 [.ref h2, .ref g7, .ref g8, .ref g9, .ref g10, .ref h4, .ref g11, .ref h6, .ref g12, .ref g13, .ref g14, .int p1]), (h2, oC 3 [.ref h3, .int p2]), (h3, aI Y 6 f0), (h4, oC 3 [.ref h5, .int p3]), (h5, aI Y 80 f1), (h6, oC 7 [.ref h7, .int p4]), (h7, aJ Y 80 f2), (h8, oC 11 [.ref h1, .ref h9, .ref h11, .ref g15, .ref g16]), (h9, oC 3 [.ref h10, .int (u.1 0)]), (h10, aI Y 6 (u.2.2.1 0)), (h11, oC 3 [.ref h12, .int (u.1 1)]), (h12, aI Y 80 (u.2.2.1 1))]) (va_A [(h0, oC 12 [.ref h1, .ref g0, .ref g1, .ref g2, .ref h8, .ref g3, .ref g4, .ref g5, .ref g6, .long p0]), (h1, oC 2 [.ref h2, .ref g7, .ref g8, .ref g9, .ref g10, .ref h4, .ref g11, .ref h6, .ref g12, .ref g13, .ref g14, .int p1]), (h2, oC 3 [.ref h3, .int p2]), (h3, aI Y 6 f0), (h4, oC 3 [.ref h5, .int p3]), (h5, aI Y 80 f1), (h6, oC 7 [.ref h7, .int p4]), (h7, aJ Y 80 f2), (h8, oC 11 [.ref h1, .ref h9, .ref h11, .ref g15, .ref g16]), (h9, oC 3 [.ref h10, .int p5]), (h10, aI Y 6 f3), (h11, oC 3 [.ref h12, .int p6]), (h12, aI Y 80 f4)] sz)) 1 6 (va_A [(h0, oC 12 [.ref h1, .ref g0, .ref g1, .ref g2, .ref h8, .ref g3, .ref g4, .ref g5, .ref g6, .long p0]), (h1, oC 2 [.ref h2, .ref g7, .ref g8, .ref g9, .ref g10, .ref h4, .ref g11, .ref h6, .ref g12, .ref g13, .ref g14, .int p1]), (h2, oC 3 [.ref h3, .int p2]), (h3, aI Y 6 f0), (h4, oC 3 [.ref h5, .int p3]), (h5, aI Y 80 f1), (h6, oC 7 [.ref h7, .int p4]), (h7, aJ Y 80 f2), (h8, oC 11 [.ref h1, .ref h9, .ref h11, .ref g15, .ref g16]), (h9, oC 3 [.ref h10, .int p5]), (h10, aI Y 6 f3), (h11, oC 3 [.ref h12, .int p6]), (h12, aI Y 80 f4)] sz) :=
  xmet_of (by decide +kernel) (Nat.le_of_ble_eq_true rfl) (fun p e s m args below meth c B EB hout hsz => by
    have B : VB p s m args meth c D Y (va_A [(h0, oC 12 [.ref h1, .ref g0, .ref g1, .ref g2, .ref h8, .ref g3, .ref g4, .ref g5, .ref g6, .long p0]), (h1, oC 2 [.ref h2, .ref g7, .ref g8, .ref g9, .ref g10, .ref h4, .ref g11, .ref h6, .ref g12, .ref g13, .ref g14, .int p1]), (h2, oC 3 [.ref h3, .int p2]), (h3, aI Y 6 f0), (h4, oC 3 [.ref h5, .int p3]), (h5, aI Y 80 f1), (h6, oC 7 [.ref h7, .int p4]), (h7, aJ Y 80 f2), (h8, oC 11 [.ref h1, .ref h9, .ref h11, .ref g15, .ref g16]), (h9, oC 3 [.ref h10, .int p5]), (h10, aI Y 6 f3), (h11, oC 3 [.ref h12, .int p6]), (h12, aI Y 80 f4)] sz) cX11_continuations 2 RX11 (some .int) := B
    refine V_aload_n 0 B dX11_continuations_0 0 rfl ?_
    refine V_iload_n 1 B dX11_continuations_1 1 rfl ?_
    refine V_xvv 2 B EB (st := []) (As := [.int p7]) (fun sz => sX11_needMode_1 l hl9 D Y h0 h1 h2 g0 g1 g2 h8 g3 g4 g5 g6 g7 g8 g9 g10 h4 g11 h6 g12 g13 g14 h3 p0 p1 p2 p7 sz) glV_RX11_180 ⟨rfl, rfl⟩ ⟨(Nat.le_of_ble_eq_true rfl), (Nat.le_of_ble_eq_true rfl)⟩ ⟨(Nat.le_of_ble_eq_true rfl), (Nat.le_of_ble_eq_true rfl)⟩ [0, 0, 0] rfl 12 0 rfl rfl rfl rfl (Nat.le_of_ble_eq_true rfl) rfl (fun _ _ => rfl) (fun _ _ _ => rfl) dX11_continuations_2 (fun E u1 w2 => ?_) (fun u1 w2 => ?_)
    ·
      obtain rfl := w2
      exact VX_out 2 B hout (mkU [p5, p6] [] [f3, f4] [] []) rfl rfl (Nat.le_of_ble_eq_true rfl) (Nat.le_of_ble_eq_true rfl)
    ·
      refine V_ws [(h0, oC 12 [.ref h1, .ref g0, .ref g1, .ref g2, .ref h8, .ref g3, .ref g4, .ref g5, .ref g6, .long p0]), (h1, oC 2 [.ref h2, .ref g7, .ref g8, .ref g9, .ref g10, .ref h4, .ref g11, .ref h6, .ref g12, .ref g13, .ref g14, .int p1]), (h2, oC 3 [.ref h3, .int p2]), (h3, aI Y 6 f0), (h4, oC 3 [.ref h5, .int p3]), (h5, aI Y 80 f1), (h6, oC 7 [.ref h7, .int p4]), (h7, aJ Y 80 f2), (h8, oC 11 [.ref h1, .ref h9, .ref h11, .ref g15, .ref g16]), (h9, oC 3 [.ref h10, .int p5]), (h10, aI Y 6 f3), (h11, oC 3 [.ref h12, .int p6]), (h12, aI Y 80 f4)] rfl ?_
      refine V_aload_n 5 B dX11_continuations_5 0 rfl ?_
      refine V_get 6 B gf_RX11_30 0 rfl rfl dX11_continuations_6 ?_
      refine V_iload_n 9 B dX11_continuations_9 1 rfl ?_
      refine V_gvv 10 B envX EB (st := []) (As := [.int p7]) (fun sz => sX10_gather_1 l D Y h1 h2 h3 h4 h5 h6 h7 h8 h9 h10 h11 h12 g7 g8 g9 g10 g11 g12 g13 g14 g15 g16 p1 p2 f0 p3 f1 p4 f2 p5 f3 p6 f4 p7 sz) glV_RX11_270 ⟨rfl, rfl⟩ ⟨(Nat.le_of_ble_eq_true rfl), (Nat.le_of_ble_eq_true rfl)⟩ ⟨(Nat.le_of_ble_eq_true rfl), (Nat.le_of_ble_eq_true rfl)⟩ [1, 0, 0, 0, 0, 0, 0, 0, 0, 0, 0, 0] rfl 11 7 rfl rfl rfl rfl (Nat.le_of_ble_eq_true rfl) rfl (fun _ _ => rfl) dX11_continuations_10 (fun u4 w5 => ?_)
      refine V_ws [(h0, oC 12 [.ref h1, .ref g0, .ref g1, .ref g2, .ref h8, .ref g3, .ref g4, .ref g5, .ref g6, .long p0]), (h1, oC 2 [.ref h2, .ref g7, .ref g8, .ref g9, .ref g10, .ref h4, .ref g11, .ref h6, .ref g12, .ref g13, .ref g14, .int p1]), (h2, oC 3 [.ref h3, .int p2]), (h3, aI Y 6 f0), (h4, oC 3 [.ref h5, .int p3]), (h5, aI Y 80 f1), (h6, oC 7 [.ref h7, .int p4]), (h7, aJ Y 80 f2), (h8, oC 11 [.ref h1, .ref h9, .ref h11, .ref g15, .ref g16]), (h9, oC 3 [.ref h10, .int (u4.1 0)]), (h10, aI Y 6 (u4.2.2.1 0)), (h11, oC 3 [.ref h12, .int (u4.1 1)]), (h12, aI Y 80 (u4.2.2.1 1))] rfl ?_
      refine V_aload_n 13 B dX11_continuations_13 0 rfl ?_
      refine V_get 14 B gf_RX11_30 0 rfl rfl dX11_continuations_14 ?_
      refine V_aload_n 17 B dX11_continuations_17 0 rfl ?_
      refine V_get 18 B gf_RX11_68 0 rfl rfl dX11_continuations_18 ?_
      refine V_gvi 21 B envX EB (st := []) (As := [.long p0]) (fun sz => sX10_countLonger_1 l D Y h1 h6 h7 h8 h11 h12 h2 g7 g8 g9 g10 h4 g11 g12 g13 g14 h9 g15 g16 p1 p4 f2 (u4.1 1) (u4.2.2.1 1) p0 sz) glV_RX11_273 ⟨rfl, rfl⟩ ⟨(Nat.le_of_ble_eq_true rfl), (Nat.le_of_ble_eq_true rfl)⟩ ⟨(Nat.le_of_ble_eq_true rfl), (Nat.le_of_ble_eq_true rfl)⟩ [1, 4, 0, 0, 2, 0] rfl 11 3 rfl rfl rfl rfl (Nat.le_of_ble_eq_true rfl) rfl (fun _ _ _ => rfl) dX11_continuations_21 (fun j6 u7 w8 => ?_)
      refine V_ws [(h0, oC 12 [.ref h1, .ref g0, .ref g1, .ref g2, .ref h8, .ref g3, .ref g4, .ref g5, .ref g6, .long p0]), (h1, oC 2 [.ref h2, .ref g7, .ref g8, .ref g9, .ref g10, .ref h4, .ref g11, .ref h6, .ref g12, .ref g13, .ref g14, .int p1]), (h2, oC 3 [.ref h3, .int p2]), (h3, aI Y 6 f0), (h4, oC 3 [.ref h5, .int p3]), (h5, aI Y 80 f1), (h6, oC 7 [.ref h7, .int p4]), (h7, aJ Y 80 f2), (h8, oC 11 [.ref h1, .ref h9, .ref h11, .ref g15, .ref g16]), (h9, oC 3 [.ref h10, .int (u4.1 0)]), (h10, aI Y 6 (u4.2.2.1 0)), (h11, oC 3 [.ref h12, .int (u4.1 1)]), (h12, aI Y 80 (u4.2.2.1 1))] rfl ?_
      refine V_xret ?_
      refine V_widen (k := 1) (n := 6) (Nat.le_of_ble_eq_true rfl) (Nat.le_of_ble_eq_true rfl) ?_
      exact V_iret 24 B dX11_continuations_24 (mkU [(u4.1 0), (u4.1 1)] [] [(u4.2.2.1 0), (u4.2.2.1 1)] [] []) trivial rfl)
theorem dX11_visible_0 : decode cX11_visible 0 = .ok (.aload_n 0, 1) := by decide +kernel
theorem dX11_visible_1 : decode cX11_visible 1 = .ok (.iload_n 1, 1) := by decide +kernel
theorem dX11_visible_2 : decode cX11_visible 2 = .ok (.invokevirtual 180, 3) := by decide +kernel
theorem dX11_visible_5 : decode cX11_visible 5 = .ok (.aload_n 0, 1) := by decide +kernel
theorem dX11_visible_6 : decode cX11_visible 6 = .ok (.getfield 30, 3) := by decide +kernel
theorem dX11_visible_9 : decode cX11_visible 9 = .ok (.iload_n 1, 1) := by decide +kernel
theorem dX11_visible_10 : decode cX11_visible 10 = .ok (.invokevirtual 270, 3) := by decide +kernel
theorem dX11_visible_13 : decode cX11_visible 13 = .ok (.aload_n 0, 1) := by decide +kernel
theorem dX11_visible_14 : decode cX11_visible 14 = .ok (.getfield 30, 3) := by decide +kernel
theorem dX11_visible_17 : decode cX11_visible 17 = .ok (.getfield 276, 3) := by decide +kernel
theorem gf_RX11_276 : GF RX11 276 11 2 := ⟨RX10, TX10, 5, rfl, inw_X10, Nat.le_of_ble_eq_true rfl, (mT2 3 rfl rfl)⟩
theorem dX11_visible_20 : decode cX11_visible 20 = .ok (.invokevirtual 95, 3) := by decide +kernel
theorem dX11_visible_23 : decode cX11_visible 23 = .ok (.ireturn, 1) := by decide +kernel
set_option maxRecDepth 100000 in
set_option maxHeartbeats 4000000 in
theorem sX11_visible_1 (l : Launch) (hl9 : l.stackTraces = false) (D : va_G) (Y : Nat → ClassId) (h0 : Nat) (h1 : Nat) (h2 : Nat) (h3 : Nat) (h4 : Nat) (h5 : Nat) (h6 : Nat) (h7 : Nat) (h8 : Nat) (h9 : Nat) (h10 : Nat) (h11 : Nat) (h12 : Nat) (g0 : Nat) (g1 : Nat) (g2 : Nat) (g3 : Nat) (g4 : Nat) (g5 : Nat) (g6 : Nat) (g7 : Nat) (g8 : Nat) (g9 : Nat) (g10 : Nat) (g11 : Nat) (g12 : Nat) (g13 : Nat) (g14 : Nat) (g15 : Nat) (g16 : Nat) (p0 : Int64) (p1 : Int32) (p2 : Int32) (f0 : Nat → Int32) (p3 : Int32) (f1 : Nat → Int32) (p4 : Int32) (f2 : Nat → Int64) (p5 : Int32) (f3 : Nat → Int32) (p6 : Int32) (f4 : Nat → Int32) (p7 : Int32) (sz : Nat) : vx_Met l yX11_visible (WSm yX11_visible cX11_visible 2 (some .int)) (mkR 7 1 6 103) (PreX D Y [.ref h0, .int p7] [(h0, oC 12 [.ref h1, .ref g0, .ref g1, .ref g2, .ref h8, .ref g3, .ref g4, .ref g5, .ref g6, .long p0]), (h1, oC 2 [.ref h2, .ref g7, .ref g8, .ref g9, .ref g10, .ref h4, .ref g11, .ref h6, .ref g12, .ref g13, .ref g14, .int p1]), (h2, oC 3 [.ref h3, .int p2]), (h3, aI Y 6 f0), (h4, oC 3 [.ref h5, .int p3]), (h5, aI Y 80 f1), (h6, oC 7 [.ref h7, .int p4]), (h7, aJ Y 80 f2), (h8, oC 11 [.ref h1, .ref h9, .ref h11, .ref g15, .ref g16]), (h9, oC 3 [.ref h10, .int p5]), (h10, aI Y 6 f3), (h11, oC 3 [.ref h12, .int p6]), (h12, aI Y 80 f4)] sz) (QI D (fun (_ : Int32) (_ : UU) => True) (fun (u : UU) => [(h0, oC 12 [.ref h1, .ref g0, .ref g1, .ref g2, .ref h8, .ref g3, .ref g4, .ref g5, .ref g6, .long p0]), (h1, oC 2 [.ref h2, .ref g7, .ref g8, .ref g9, .ref g10, .ref h4, .ref g11, .ref h6, .ref g12, .ref g13, .ref g14, .int p1]), (h2, oC 3 [.ref h3, .int p2]), (h3, aI Y 6 f0), (h4, oC 3 [.ref h5, .int p3]), (h5, aI Y 80 f1), (h6, oC 7 [.ref h7, .int p4]), (h7, aJ Y 80 f2), (h8, oC 11 [.ref h1, .ref h9, .ref h11, .ref g15, .ref g16]), (h9, oC 3 [.ref h10, .int (u.1 0)]), (h10, aI Y 6 (u.2.2.1 0)), (h11, oC 3 [.ref h12, .int (u.1 1)]), (h12, aI Y 80 (u.2.2.1 1))]) (va_A [(h0, oC 12 [.ref h1, .ref g0, .ref g1, .ref g2, .ref h8, .ref g3, .ref g4, .ref g5, .ref g6, .long p0]), (h1, oC 2 [.ref h2, .ref g7, .ref g8, .ref g9, .ref g10, .ref h4, .ref g11, .ref h6, .ref g12, .ref g13, .ref g14, .int p1]), (h2, oC 3 [.ref h3, .int p2]), (h3, aI Y 6 f0), (h4, oC 3 [.ref h5, .int p3]), (h5, aI Y 80 f1), (h6, oC 7 [.ref h7, .int p4]), (h7, aJ Y 80 f2), (h8, oC 11 [.ref h1, .ref h9, .ref h11, .ref g15, .ref g16]), (h9, oC 3 [.ref h10, .int p5]), (h10, aI Y 6 f3), (h11, oC 3 [.ref h12, .int p6]), (h12, aI Y 80 f4)] sz)) (XW D (fun (E : String) (_ : UU) => E = "java/lang/IndexOutOfBoundsException") (fun (u : UU) => [(h0, oC 12 [.ref h1, .ref g0, .ref g1, .ref g2, .ref h8, .ref g3, .ref g4, .ref g5, .ref g6, .long p0]), (h1, oC 2 [.ref h2, .ref g7, .ref g8, .ref g9, .ref g10, .ref h4, .ref g11, .ref h6, .ref g12, .ref g13, .ref g14, .int p1]), (h2, oC 3 [.ref h3, .int p2]), (h3, aI Y 6 f0), (h4, oC 3 [.ref h5, .int p3]), (h5, aI Y 80 f1), (h6, oC 7 [.ref h7, .int p4]), (h7, aJ Y 80 f2), (h8, oC 11 [.ref h1, .ref h9, .ref h11, .ref g15, .ref g16]), (h9, oC 3 [.ref h10, .int (u.1 0)]), (h10, aI Y 6 (u.2.2.1 0)), (h11, oC 3 [.ref h12, .int (u.1 1)]), (h12, aI Y 80 (u.2.2.1 1))]) (va_A [(h0, oC 12 [.ref h1, .ref g0, .ref g1, .ref g2, .ref h8, .ref g3, .ref g4, .ref g5, .ref g6, .long p0]), (h1, oC 2 [.ref h2, .ref g7, .ref g8, .ref g9, .ref g10, .ref h4, .ref g11, .ref h6, .ref g12, .ref g13, .ref g14, .int p1]), (h2, oC 3 [.ref h3, .int p2]), (h3, aI Y 6 f0), (h4, oC 3 [.ref h5, .int p3]), (h5, aI Y 80 f1), (h6, oC 7 [.ref h7, .int p4]), (h7, aJ Y 80 f2), (h8, oC 11 [.ref h1, .ref h9, .ref h11, .ref g15, .ref g16]), (h9, oC 3 [.ref h10, .int p5]), (h10, aI Y 6 f3), (h11, oC 3 [.ref h12, .int p6]), (h12, aI Y 80 f4)] sz)) 1 6 (va_A [(h0, oC 12 [.ref h1, .ref g0, .ref g1, .ref g2, .ref h8, .ref g3, .ref g4, .ref g5, .ref g6, .long p0]), (h1, oC 2 [.ref h2, .ref g7, .ref g8, .ref g9, .ref g10, .ref h4, .ref g11, .ref h6, .ref g12, .ref g13, .ref g14, .int p1]), (h2, oC 3 [.ref h3, .int p2]), (h3, aI Y 6 f0), (h4, oC 3 [.ref h5, .int p3]), (h5, aI Y 80 f1), (h6, oC 7 [.ref h7, .int p4]), (h7, aJ Y 80 f2), (h8, oC 11 [.ref h1, .ref h9, .ref h11, .ref g15, .ref g16]), (h9, oC 3 [.ref h10, .int p5]), (h10, aI Y 6 f3), (h11, oC 3 [.ref h12, .int p6]), (h12, aI Y 80 f4)] sz) :=
  xmet_of (by decide +kernel) (Nat.le_of_ble_eq_true rfl) (fun p e s m args below meth c B EB hout hsz => by
    have B : VB p s m args meth c D Y (va_A [(h0, oC 12 [.ref h1, .ref g0, .ref g1, .ref g2, .ref h8, .ref g3, .ref g4, .ref g5, .ref g6, .long p0]), (h1, oC 2 [.ref h2, .ref g7, .ref g8, .ref g9, .ref g10, .ref h4, .ref g11, .ref h6, .ref g12, .ref g13, .ref g14, .int p1]), (h2, oC 3 [.ref h3, .int p2]), (h3, aI Y 6 f0), (h4, oC 3 [.ref h5, .int p3]), (h5, aI Y 80 f1), (h6, oC 7 [.ref h7, .int p4]), (h7, aJ Y 80 f2), (h8, oC 11 [.ref h1, .ref h9, .ref h11, .ref g15, .ref g16]), (h9, oC 3 [.ref h10, .int p5]), (h10, aI Y 6 f3), (h11, oC 3 [.ref h12, .int p6]), (h12, aI Y 80 f4)] sz) cX11_visible 2 RX11 (some .int) := B
    refine V_aload_n 0 B dX11_visible_0 0 rfl ?_
    refine V_iload_n 1 B dX11_visible_1 1 rfl ?_
    refine V_xvv 2 B EB (st := []) (As := [.int p7]) (fun sz => sX11_needMode_1 l hl9 D Y h0 h1 h2 g0 g1 g2 h8 g3 g4 g5 g6 g7 g8 g9 g10 h4 g11 h6 g12 g13 g14 h3 p0 p1 p2 p7 sz) glV_RX11_180 ⟨rfl, rfl⟩ ⟨(Nat.le_of_ble_eq_true rfl), (Nat.le_of_ble_eq_true rfl)⟩ ⟨(Nat.le_of_ble_eq_true rfl), (Nat.le_of_ble_eq_true rfl)⟩ [0, 0, 0] rfl 12 0 rfl rfl rfl rfl (Nat.le_of_ble_eq_true rfl) rfl (fun _ _ => rfl) (fun _ _ _ => rfl) dX11_visible_2 (fun E u1 w2 => ?_) (fun u1 w2 => ?_)
    ·
      obtain rfl := w2
      exact VX_out 2 B hout (mkU [p5, p6] [] [f3, f4] [] []) rfl rfl (Nat.le_of_ble_eq_true rfl) (Nat.le_of_ble_eq_true rfl)
    ·
      refine V_ws [(h0, oC 12 [.ref h1, .ref g0, .ref g1, .ref g2, .ref h8, .ref g3, .ref g4, .ref g5, .ref g6, .long p0]), (h1, oC 2 [.ref h2, .ref g7, .ref g8, .ref g9, .ref g10, .ref h4, .ref g11, .ref h6, .ref g12, .ref g13, .ref g14, .int p1]), (h2, oC 3 [.ref h3, .int p2]), (h3, aI Y 6 f0), (h4, oC 3 [.ref h5, .int p3]), (h5, aI Y 80 f1), (h6, oC 7 [.ref h7, .int p4]), (h7, aJ Y 80 f2), (h8, oC 11 [.ref h1, .ref h9, .ref h11, .ref g15, .ref g16]), (h9, oC 3 [.ref h10, .int p5]), (h10, aI Y 6 f3), (h11, oC 3 [.ref h12, .int p6]), (h12, aI Y 80 f4)] rfl ?_
      refine V_aload_n 5 B dX11_visible_5 0 rfl ?_
      refine V_get 6 B gf_RX11_30 0 rfl rfl dX11_visible_6 ?_
      refine V_iload_n 9 B dX11_visible_9 1 rfl ?_
      refine V_gvv 10 B envX EB (st := []) (As := [.int p7]) (fun sz => sX10_gather_1 l D Y h1 h2 h3 h4 h5 h6 h7 h8 h9 h10 h11 h12 g7 g8 g9 g10 g11 g12 g13 g14 g15 g16 p1 p2 f0 p3 f1 p4 f2 p5 f3 p6 f4 p7 sz) glV_RX11_270 ⟨rfl, rfl⟩ ⟨(Nat.le_of_ble_eq_true rfl), (Nat.le_of_ble_eq_true rfl)⟩ ⟨(Nat.le_of_ble_eq_true rfl), (Nat.le_of_ble_eq_true rfl)⟩ [1, 0, 0, 0, 0, 0, 0, 0, 0, 0, 0, 0] rfl 11 7 rfl rfl rfl rfl (Nat.le_of_ble_eq_true rfl) rfl (fun _ _ => rfl) dX11_visible_10 (fun u4 w5 => ?_)
      refine V_ws [(h0, oC 12 [.ref h1, .ref g0, .ref g1, .ref g2, .ref h8, .ref g3, .ref g4, .ref g5, .ref g6, .long p0]), (h1, oC 2 [.ref h2, .ref g7, .ref g8, .ref g9, .ref g10, .ref h4, .ref g11, .ref h6, .ref g12, .ref g13, .ref g14, .int p1]), (h2, oC 3 [.ref h3, .int p2]), (h3, aI Y 6 f0), (h4, oC 3 [.ref h5, .int p3]), (h5, aI Y 80 f1), (h6, oC 7 [.ref h7, .int p4]), (h7, aJ Y 80 f2), (h8, oC 11 [.ref h1, .ref h9, .ref h11, .ref g15, .ref g16]), (h9, oC 3 [.ref h10, .int (u4.1 0)]), (h10, aI Y 6 (u4.2.2.1 0)), (h11, oC 3 [.ref h12, .int (u4.1 1)]), (h12, aI Y 80 (u4.2.2.1 1))] rfl ?_
      refine V_aload_n 13 B dX11_visible_13 0 rfl ?_
      refine V_get 14 B gf_RX11_30 0 rfl rfl dX11_visible_14 ?_
      refine V_get 17 B gf_RX11_276 8 rfl rfl dX11_visible_17 ?_
      refine V_gvi 20 B envX EB (st := []) (As := []) (fun sz => sX1_size_1 l D Y h11 h12 (u4.1 1) sz) glV_RX11_95 ⟨rfl, rfl⟩ ⟨(Nat.le_of_ble_eq_true rfl), (Nat.le_of_ble_eq_true rfl)⟩ ⟨(Nat.le_of_ble_eq_true rfl), (Nat.le_of_ble_eq_true rfl)⟩ [11] rfl 3 0 rfl rfl rfl rfl (Nat.le_of_ble_eq_true rfl) rfl (fun _ _ _ => rfl) dX11_visible_20 (fun j6 u7 w8 => ?_)
      refine V_ws [(h0, oC 12 [.ref h1, .ref g0, .ref g1, .ref g2, .ref h8, .ref g3, .ref g4, .ref g5, .ref g6, .long p0]), (h1, oC 2 [.ref h2, .ref g7, .ref g8, .ref g9, .ref g10, .ref h4, .ref g11, .ref h6, .ref g12, .ref g13, .ref g14, .int p1]), (h2, oC 3 [.ref h3, .int p2]), (h3, aI Y 6 f0), (h4, oC 3 [.ref h5, .int p3]), (h5, aI Y 80 f1), (h6, oC 7 [.ref h7, .int p4]), (h7, aJ Y 80 f2), (h8, oC 11 [.ref h1, .ref h9, .ref h11, .ref g15, .ref g16]), (h9, oC 3 [.ref h10, .int (u4.1 0)]), (h10, aI Y 6 (u4.2.2.1 0)), (h11, oC 3 [.ref h12, .int (u4.1 1)]), (h12, aI Y 80 (u4.2.2.1 1))] rfl ?_
      refine V_xret ?_
      refine V_widen (k := 1) (n := 6) (Nat.le_of_ble_eq_true rfl) (Nat.le_of_ble_eq_true rfl) ?_
      exact V_iret 23 B dX11_visible_23 (mkU [(u4.1 0), (u4.1 1)] [] [(u4.2.2.1 0), (u4.2.2.1 1)] [] []) trivial rfl)
theorem dX11_visibleAt_0 : decode cX11_visibleAt 0 = .ok (.aload_n 0, 1) := by decide +kernel
theorem dX11_visibleAt_1 : decode cX11_visibleAt 1 = .ok (.iload_n 1, 1) := by decide +kernel
theorem dX11_visibleAt_2 : decode cX11_visibleAt 2 = .ok (.invokevirtual 180, 3) := by decide +kernel
theorem dX11_visibleAt_5 : decode cX11_visibleAt 5 = .ok (.aload_n 0, 1) := by decide +kernel
theorem dX11_visibleAt_6 : decode cX11_visibleAt 6 = .ok (.getfield 30, 3) := by decide +kernel
theorem dX11_visibleAt_9 : decode cX11_visibleAt 9 = .ok (.iload_n 1, 1) := by decide +kernel
theorem dX11_visibleAt_10 : decode cX11_visibleAt 10 = .ok (.invokevirtual 270, 3) := by decide +kernel
theorem dX11_visibleAt_13 : decode cX11_visibleAt 13 = .ok (.aload_n 0, 1) := by decide +kernel
theorem dX11_visibleAt_14 : decode cX11_visibleAt 14 = .ok (.getfield 30, 3) := by decide +kernel
theorem dX11_visibleAt_17 : decode cX11_visibleAt 17 = .ok (.invokevirtual 279, 3) := by decide +kernel
theorem dX10_sortSeen_0 : decode cX10_sortSeen 0 = .ok (.iconst 1, 1) := by decide +kernel
theorem dX10_sortSeen_1 : decode cX10_sortSeen 1 = .ok (.istore_n 1, 1) := by decide +kernel
theorem dX10_sortSeen_2 : decode cX10_sortSeen 2 = .ok (.iload_n 1, 1) := by decide +kernel
theorem dX10_sortSeen_3 : decode cX10_sortSeen 3 = .ok (.aload_n 0, 1) := by decide +kernel
theorem dX10_sortSeen_4 : decode cX10_sortSeen 4 = .ok (.getfield 24, 3) := by decide +kernel
theorem dX10_sortSeen_7 : decode cX10_sortSeen 7 = .ok (.invokevirtual 62, 3) := by decide +kernel
theorem dX10_sortSeen_10 : decode cX10_sortSeen 10 = .ok (.if_icmp .ge 100, 3) := by decide +kernel
theorem dX10_sortSeen_110 : decode cX10_sortSeen 110 = .ok (.return_, 1) := by decide +kernel
theorem dX10_sortSeen_13 : decode cX10_sortSeen 13 = .ok (.aload_n 0, 1) := by decide +kernel
theorem dX10_sortSeen_14 : decode cX10_sortSeen 14 = .ok (.getfield 24, 3) := by decide +kernel
theorem dX10_sortSeen_17 : decode cX10_sortSeen 17 = .ok (.iload_n 1, 1) := by decide +kernel
theorem dX10_sortSeen_18 : decode cX10_sortSeen 18 = .ok (.invokevirtual 49, 3) := by decide +kernel
theorem dX10_sortSeen_21 : decode cX10_sortSeen 21 = .ok (.istore_n 2, 1) := by decide +kernel
theorem dX10_sortSeen_22 : decode cX10_sortSeen 22 = .ok (.aload_n 0, 1) := by decide +kernel
theorem dX10_sortSeen_23 : decode cX10_sortSeen 23 = .ok (.getfield 9, 3) := by decide +kernel
theorem dX10_sortSeen_26 : decode cX10_sortSeen 26 = .ok (.getfield 56, 3) := by decide +kernel
theorem dX10_sortSeen_29 : decode cX10_sortSeen 29 = .ok (.iload_n 2, 1) := by decide +kernel
theorem dX10_sortSeen_30 : decode cX10_sortSeen 30 = .ok (.invokevirtual 59, 3) := by decide +kernel
theorem dX10_sortSeen_33 : decode cX10_sortSeen 33 = .ok (.lstore_n 3, 1) := by decide +kernel
theorem dX10_sortSeen_34 : decode cX10_sortSeen 34 = .ok (.iload_n 1, 1) := by decide +kernel
theorem dX10_sortSeen_35 : decode cX10_sortSeen 35 = .ok (.istore 5, 2) := by decide +kernel
theorem dX10_sortSeen_37 : decode cX10_sortSeen 37 = .ok (.iload 5, 2) := by decide +kernel
theorem dX10_sortSeen_39 : decode cX10_sortSeen 39 = .ok (.ifCond .le 55, 3) := by decide +kernel
theorem dX10_sortSeen_94 : decode cX10_sortSeen 94 = .ok (.aload_n 0, 1) := by decide +kernel
theorem dX10_sortSeen_95 : decode cX10_sortSeen 95 = .ok (.getfield 24, 3) := by decide +kernel
theorem dX10_sortSeen_98 : decode cX10_sortSeen 98 = .ok (.iload 5, 2) := by decide +kernel
theorem dX10_sortSeen_100 : decode cX10_sortSeen 100 = .ok (.iload_n 2, 1) := by decide +kernel
theorem dX10_sortSeen_101 : decode cX10_sortSeen 101 = .ok (.invokevirtual 41, 3) := by decide +kernel
set_option maxRecDepth 100000 in
set_option maxHeartbeats 4000000 in
theorem sX1_put_3 (l : Launch) (D : va_G) (Y : Nat → ClassId) (h0 : Nat) (h1 : Nat) (p0 : Int32) (f0 : Nat → Int32) (p1 : Int32) (p2 : Int32) (sz : Nat) : Met l yX1_put (WSm yX1_put cX1_put 3 none) (mkR 0 0 0 0) (PreG EX D Y [.ref h0, .int p1, .int p2] [(h0, oC 3 [.ref h1, .int p0]), (h1, aI Y 80 f0)] sz) (QV D (fun (_ : UU) => True) (fun (u : UU) => [(h0, oC 3 [.ref h1, .int p0]), (h1, aI Y 80 (u.2.2.1 0))]) (va_A [(h0, oC 3 [.ref h1, .int p0]), (h1, aI Y 80 f0)] sz)) 0 0 (va_A [(h0, oC 3 [.ref h1, .int p0]), (h1, aI Y 80 f0)] sz) :=
  gmet_of (by decide +kernel) (Nat.le_of_ble_eq_true rfl) (fun p e s m args below meth c B EB hsz => by
    have B : VB p s m args meth c D Y (va_A [(h0, oC 3 [.ref h1, .int p0]), (h1, aI Y 80 f0)] sz) cX1_put 3 RX1 none := B
    refine V_iload_n 0 B dX1_put_0 1 rfl ?_
    refine V_if_lt 1 B 28 dX1_put_1 (by decide) (fun k0 => ?_) (fun k0 => ?_)
    ·
      exact V_vret 28 B dX1_put_28 (mkU [] [] [f0] [] []) trivial rfl
    ·
      refine V_iload_n 4 B dX1_put_4 1 rfl ?_
      refine V_aload_n 5 B dX1_put_5 0 rfl ?_
      refine V_get 6 B gf_RX1_21 0 rfl rfl dX1_put_6 ?_
      refine V_icmp_ge 9 B 28 dX1_put_9 (by decide) (fun k1 => ?_) (fun k1 => ?_)
      ·
        exact V_vret 28 B dX1_put_28 (mkU [] [] [f0] [] []) trivial rfl
      ·
        refine V_iload_n 12 B dX1_put_12 1 rfl ?_
        refine V_aload_n 13 B dX1_put_13 0 rfl ?_
        refine V_get 14 B gf_RX1_15 0 rfl rfl dX1_put_14 ?_
        refine V_alenI 17 B (v := 80) 1 rfl (by decide +kernel) dX1_put_17 ?_
        refine V_icmp_ge 18 B 28 dX1_put_18 (by decide) (fun k2 => ?_) (fun k2 => ?_)
        ·
          exact V_vret 28 B dX1_put_28 (mkU [] [] [f0] [] []) trivial rfl
        ·
          refine V_aload_n 21 B dX1_put_21 0 rfl ?_
          refine V_get 22 B gf_RX1_15 0 rfl rfl dX1_put_22 ?_
          refine V_iload_n 25 B dX1_put_25 1 rfl ?_
          refine V_iload_n 26 B dX1_put_26 2 rfl ?_
          refine V_iast 27 B 1 rfl (vpin_b (b_nlt k0 (n := 0) (by decide +kernel)) (b_nge k2 (n := 79) (by decide +kernel)) (by decide)) dX1_put_27 [(h0, oC 3 [.ref h1, .int p0]), (h1, aI Y 80 (upd f0 (p1 : Int32).toNatClampNeg p2))] rfl ?_
          exact V_vret 28 B dX1_put_28 (mkU [] [] [(upd f0 (p1 : Int32).toNatClampNeg p2)] [] []) trivial rfl)
theorem dX10_sortSeen_104 : decode cX10_sortSeen 104 = .ok (.iinc 1 1, 3) := by decide +kernel
theorem dX10_sortSeen_107 : decode cX10_sortSeen 107 = .ok (.goto (-105), 3) := by decide +kernel
theorem dX10_sortSeen_42 : decode cX10_sortSeen 42 = .ok (.aload_n 0, 1) := by decide +kernel
theorem dX10_sortSeen_43 : decode cX10_sortSeen 43 = .ok (.getfield 9, 3) := by decide +kernel
theorem dX10_sortSeen_46 : decode cX10_sortSeen 46 = .ok (.getfield 56, 3) := by decide +kernel
theorem dX10_sortSeen_49 : decode cX10_sortSeen 49 = .ok (.aload_n 0, 1) := by decide +kernel
theorem dX10_sortSeen_50 : decode cX10_sortSeen 50 = .ok (.getfield 24, 3) := by decide +kernel
theorem dX10_sortSeen_53 : decode cX10_sortSeen 53 = .ok (.iload 5, 2) := by decide +kernel
theorem dX10_sortSeen_55 : decode cX10_sortSeen 55 = .ok (.iconst 1, 1) := by decide +kernel
theorem dX10_sortSeen_56 : decode cX10_sortSeen 56 = .ok (.isub, 1) := by decide +kernel
theorem dX10_sortSeen_57 : decode cX10_sortSeen 57 = .ok (.invokevirtual 49, 3) := by decide +kernel
theorem dX10_sortSeen_60 : decode cX10_sortSeen 60 = .ok (.invokevirtual 59, 3) := by decide +kernel
theorem dX10_sortSeen_63 : decode cX10_sortSeen 63 = .ok (.lload_n 3, 1) := by decide +kernel
theorem dX10_sortSeen_64 : decode cX10_sortSeen 64 = .ok (.lcmp, 1) := by decide +kernel
theorem dX10_sortSeen_65 : decode cX10_sortSeen 65 = .ok (.ifCond .le 29, 3) := by decide +kernel
theorem dX10_sortSeen_68 : decode cX10_sortSeen 68 = .ok (.aload_n 0, 1) := by decide +kernel
theorem dX10_sortSeen_69 : decode cX10_sortSeen 69 = .ok (.getfield 24, 3) := by decide +kernel
theorem dX10_sortSeen_72 : decode cX10_sortSeen 72 = .ok (.iload 5, 2) := by decide +kernel
theorem dX10_sortSeen_74 : decode cX10_sortSeen 74 = .ok (.aload_n 0, 1) := by decide +kernel
theorem dX10_sortSeen_75 : decode cX10_sortSeen 75 = .ok (.getfield 24, 3) := by decide +kernel
theorem dX10_sortSeen_78 : decode cX10_sortSeen 78 = .ok (.iload 5, 2) := by decide +kernel
theorem dX10_sortSeen_80 : decode cX10_sortSeen 80 = .ok (.iconst 1, 1) := by decide +kernel
theorem dX10_sortSeen_81 : decode cX10_sortSeen 81 = .ok (.isub, 1) := by decide +kernel
theorem dX10_sortSeen_82 : decode cX10_sortSeen 82 = .ok (.invokevirtual 49, 3) := by decide +kernel
theorem dX10_sortSeen_85 : decode cX10_sortSeen 85 = .ok (.invokevirtual 41, 3) := by decide +kernel
theorem dX10_sortSeen_88 : decode cX10_sortSeen 88 = .ok (.iinc 5 (-1), 3) := by decide +kernel
theorem dX10_sortSeen_91 : decode cX10_sortSeen 91 = .ok (.goto (-54), 3) := by decide +kernel
set_option maxRecDepth 100000 in
set_option maxHeartbeats 4000000 in
theorem sX10_sortSeen_1 (l : Launch) (D : va_G) (Y : Nat → ClassId) (h0 : Nat) (h1 : Nat) (h2 : Nat) (h3 : Nat) (h4 : Nat) (h5 : Nat) (g0 : Nat) (g1 : Nat) (g2 : Nat) (g3 : Nat) (g4 : Nat) (g5 : Nat) (g6 : Nat) (g7 : Nat) (g8 : Nat) (g9 : Nat) (g10 : Nat) (g11 : Nat) (g12 : Nat) (p0 : Int32) (p1 : Int32) (f0 : Nat → Int64) (p2 : Int32) (f1 : Nat → Int32) (sz : Nat) : Met l yX10_sortSeen (WSm yX10_sortSeen cX10_sortSeen 6 none) (mkR 1 0 0 22) (PreG EX D Y [.ref h3] [(h0, oC 2 [.ref g0, .ref g1, .ref g2, .ref g3, .ref g4, .ref g5, .ref g6, .ref h1, .ref g7, .ref g8, .ref g9, .int p0]), (h1, oC 7 [.ref h2, .int p1]), (h2, aJ Y 80 f0), (h3, oC 11 [.ref h0, .ref g10, .ref h4, .ref g11, .ref g12]), (h4, oC 3 [.ref h5, .int p2]), (h5, aI Y 80 f1)] sz) (QV D (fun (_ : UU) => True) (fun (u : UU) => [(h0, oC 2 [.ref g0, .ref g1, .ref g2, .ref g3, .ref g4, .ref g5, .ref g6, .ref h1, .ref g7, .ref g8, .ref g9, .int p0]), (h1, oC 7 [.ref h2, .int p1]), (h2, aJ Y 80 f0), (h3, oC 11 [.ref h0, .ref g10, .ref h4, .ref g11, .ref g12]), (h4, oC 3 [.ref h5, .int p2]), (h5, aI Y 80 (u.2.2.1 0))]) (va_A [(h0, oC 2 [.ref g0, .ref g1, .ref g2, .ref g3, .ref g4, .ref g5, .ref g6, .ref h1, .ref g7, .ref g8, .ref g9, .int p0]), (h1, oC 7 [.ref h2, .int p1]), (h2, aJ Y 80 f0), (h3, oC 11 [.ref h0, .ref g10, .ref h4, .ref g11, .ref g12]), (h4, oC 3 [.ref h5, .int p2]), (h5, aI Y 80 f1)] sz)) 0 0 (va_A [(h0, oC 2 [.ref g0, .ref g1, .ref g2, .ref g3, .ref g4, .ref g5, .ref g6, .ref h1, .ref g7, .ref g8, .ref g9, .int p0]), (h1, oC 7 [.ref h2, .int p1]), (h2, aJ Y 80 f0), (h3, oC 11 [.ref h0, .ref g10, .ref h4, .ref g11, .ref g12]), (h4, oC 3 [.ref h5, .int p2]), (h5, aI Y 80 f1)] sz) :=
  gmet_of (by decide +kernel) (Nat.le_of_ble_eq_true rfl) (fun p e s m args below meth c B EB hsz => by
    have B : VB p s m args meth c D Y (va_A [(h0, oC 2 [.ref g0, .ref g1, .ref g2, .ref g3, .ref g4, .ref g5, .ref g6, .ref h1, .ref g7, .ref g8, .ref g9, .int p0]), (h1, oC 7 [.ref h2, .int p1]), (h2, aJ Y 80 f0), (h3, oC 11 [.ref h0, .ref g10, .ref h4, .ref g11, .ref g12]), (h4, oC 3 [.ref h5, .int p2]), (h5, aI Y 80 f1)] sz) cX10_sortSeen 6 RX10 none := B
    refine V_iconst 0 B (v := 1) dX10_sortSeen_0 (by decide +kernel) ?_
    refine V_istore_n 1 B (lv2 := [(1, .int 1), (0, .ref h3)]) dX10_sortSeen_1 (by decide) rfl ?_
    refine V_wloop (α := UU) (fun a => (2147483647 - ((a.1 0)).toInt).toNat) (fun a => 1 ≤ ((a.1 0)).toInt) (fun a => [(1, .int (a.1 0)), (0, .ref h3)]) (fun a => [(h0, oC 2 [.ref g0, .ref g1, .ref g2, .ref g3, .ref g4, .ref g5, .ref g6, .ref h1, .ref g7, .ref g8, .ref g9, .int p0]), (h1, oC 7 [.ref h2, .int p1]), (h2, aJ Y 80 f0), (h3, oC 11 [.ref h0, .ref g10, .ref h4, .ref g11, .ref g12]), (h4, oC 3 [.ref h5, .int p2]), (h5, aI Y 80 (a.2.2.1 0))]) (mkU [1] [] [f1] [] []) (show (1 : Int) ≤ (1 : Int32).toInt by decide +kernel) rfl rfl (fun a0 hI2 IH1 => ?_)
    refine V_lv [(1, .int (a0.1 0)), (0, .ref h3)] [0, 1] rfl ?_
    refine V_ws [(h0, oC 2 [.ref g0, .ref g1, .ref g2, .ref g3, .ref g4, .ref g5, .ref g6, .ref h1, .ref g7, .ref g8, .ref g9, .int p0]), (h1, oC 7 [.ref h2, .int p1]), (h2, aJ Y 80 f0), (h3, oC 11 [.ref h0, .ref g10, .ref h4, .ref g11, .ref g12]), (h4, oC 3 [.ref h5, .int p2]), (h5, aI Y 80 (a0.2.2.1 0))] rfl ?_
    refine V_iload_n 2 B dX10_sortSeen_2 0 rfl ?_
    refine V_aload_n 3 B dX10_sortSeen_3 1 rfl ?_
    refine V_get 4 B gf_RX10_24 3 rfl rfl dX10_sortSeen_4 ?_
    refine V_gvi 7 B envX EB (st := [.int (a0.1 0)]) (As := []) (fun sz => sX1_size_1 l D Y h4 h5 p2 sz) glV_RX10_62 ⟨rfl, rfl⟩ ⟨(Nat.le_of_ble_eq_true rfl), (Nat.le_of_ble_eq_true rfl)⟩ ⟨(Nat.le_of_ble_eq_true rfl), (Nat.le_of_ble_eq_true rfl)⟩ [4] rfl 3 0 rfl rfl rfl rfl (Nat.le_of_ble_eq_true rfl) rfl (fun _ _ _ => rfl) dX10_sortSeen_7 (fun j3 u4 w5 => ?_)
    refine V_ws [(h0, oC 2 [.ref g0, .ref g1, .ref g2, .ref g3, .ref g4, .ref g5, .ref g6, .ref h1, .ref g7, .ref g8, .ref g9, .int p0]), (h1, oC 7 [.ref h2, .int p1]), (h2, aJ Y 80 f0), (h3, oC 11 [.ref h0, .ref g10, .ref h4, .ref g11, .ref g12]), (h4, oC 3 [.ref h5, .int p2]), (h5, aI Y 80 (a0.2.2.1 0))] rfl ?_
    refine V_icmp_ge 10 B 110 dX10_sortSeen_10 (by decide) (fun k6 => ?_) (fun k6 => ?_)
    ·
      exact V_vret 110 B dX10_sortSeen_110 (mkU [] [] [(a0.2.2.1 0)] [] []) trivial rfl
    ·
      refine V_aload_n 13 B dX10_sortSeen_13 1 rfl ?_
      refine V_get 14 B gf_RX10_24 3 rfl rfl dX10_sortSeen_14 ?_
      refine V_iload_n 17 B dX10_sortSeen_17 0 rfl ?_
      refine V_gvi 18 B envX EB (st := []) (As := [.int (a0.1 0)]) (fun sz => sX1_at_3 l D Y h4 h5 p2 (a0.2.2.1 0) (a0.1 0) sz) glV_RX10_49 ⟨rfl, rfl⟩ ⟨(Nat.le_of_ble_eq_true rfl), (Nat.le_of_ble_eq_true rfl)⟩ ⟨(Nat.le_of_ble_eq_true rfl), (Nat.le_of_ble_eq_true rfl)⟩ [4, 0] rfl 3 0 rfl rfl rfl rfl (Nat.le_of_ble_eq_true rfl) rfl (fun _ _ _ => rfl) dX10_sortSeen_18 (fun j7 u8 w9 => ?_)
      refine V_ws [(h0, oC 2 [.ref g0, .ref g1, .ref g2, .ref g3, .ref g4, .ref g5, .ref g6, .ref h1, .ref g7, .ref g8, .ref g9, .int p0]), (h1, oC 7 [.ref h2, .int p1]), (h2, aJ Y 80 f0), (h3, oC 11 [.ref h0, .ref g10, .ref h4, .ref g11, .ref g12]), (h4, oC 3 [.ref h5, .int p2]), (h5, aI Y 80 (a0.2.2.1 0))] rfl ?_
      refine V_istore_n 21 B (lv2 := [(2, .int j7), (1, .int (a0.1 0)), (0, .ref h3)]) dX10_sortSeen_21 (by decide) rfl ?_
      refine V_aload_n 22 B dX10_sortSeen_22 2 rfl ?_
      refine V_get 23 B gf_RX10_9 3 rfl rfl dX10_sortSeen_23 ?_
      refine V_get 26 B gf_RX10_56 0 rfl rfl dX10_sortSeen_26 ?_
      refine V_iload_n 29 B dX10_sortSeen_29 0 rfl ?_
      refine V_gvl 30 B envX EB (st := []) (As := [.int j7]) (fun sz => sX5_at_1 l D Y h1 h2 p1 f0 j7 sz) glV_RX10_59 ⟨rfl, rfl⟩ ⟨(Nat.le_of_ble_eq_true rfl), (Nat.le_of_ble_eq_true rfl)⟩ ⟨(Nat.le_of_ble_eq_true rfl), (Nat.le_of_ble_eq_true rfl)⟩ [1, 0] rfl 7 0 rfl rfl rfl rfl (Nat.le_of_ble_eq_true rfl) rfl (fun _ _ _ => rfl) dX10_sortSeen_30 (fun o10 u11 w12 => ?_)
      refine V_ws [(h0, oC 2 [.ref g0, .ref g1, .ref g2, .ref g3, .ref g4, .ref g5, .ref g6, .ref h1, .ref g7, .ref g8, .ref g9, .int p0]), (h1, oC 7 [.ref h2, .int p1]), (h2, aJ Y 80 f0), (h3, oC 11 [.ref h0, .ref g10, .ref h4, .ref g11, .ref g12]), (h4, oC 3 [.ref h5, .int p2]), (h5, aI Y 80 (a0.2.2.1 0))] rfl ?_
      refine V_lstore_n 33 B (lv2 := [(3, .long o10), (2, .int j7), (1, .int (a0.1 0)), (0, .ref h3)]) dX10_sortSeen_33 (by decide) rfl ?_
      refine V_iload_n 34 B dX10_sortSeen_34 2 rfl ?_
      refine V_istore 35 B (lv2 := [(5, .int (a0.1 0)), (3, .long o10), (2, .int j7), (1, .int (a0.1 0)), (0, .ref h3)]) dX10_sortSeen_35 (by decide) rfl ?_
      refine V_wloop (α := UU) (fun a => (((a.1 0)).toInt + 1).toNat) (fun a => True) (fun a => [(5, .int (a.1 0)), (3, .long o10), (2, .int j7), (1, .int (a0.1 0)), (0, .ref h3)]) (fun a => [(h0, oC 2 [.ref g0, .ref g1, .ref g2, .ref g3, .ref g4, .ref g5, .ref g6, .ref h1, .ref g7, .ref g8, .ref g9, .int p0]), (h1, oC 7 [.ref h2, .int p1]), (h2, aJ Y 80 f0), (h3, oC 11 [.ref h0, .ref g10, .ref h4, .ref g11, .ref g12]), (h4, oC 3 [.ref h5, .int p2]), (h5, aI Y 80 (a.2.2.1 0))]) (mkU [(a0.1 0)] [] [(a0.2.2.1 0)] [] []) trivial rfl rfl (fun a13 hI15 IH14 => ?_)
      refine V_lv [(5, .int (a13.1 0)), (3, .long o10), (2, .int j7), (1, .int (a0.1 0)), (0, .ref h3)] [0, 1, 2, 3, 4] rfl ?_
      refine V_ws [(h0, oC 2 [.ref g0, .ref g1, .ref g2, .ref g3, .ref g4, .ref g5, .ref g6, .ref h1, .ref g7, .ref g8, .ref g9, .int p0]), (h1, oC 7 [.ref h2, .int p1]), (h2, aJ Y 80 f0), (h3, oC 11 [.ref h0, .ref g10, .ref h4, .ref g11, .ref g12]), (h4, oC 3 [.ref h5, .int p2]), (h5, aI Y 80 (a13.2.2.1 0))] rfl ?_
      refine V_iload 37 B dX10_sortSeen_37 0 rfl ?_
      refine V_if_le 39 B 94 dX10_sortSeen_39 (by decide) (fun k16 => ?_) (fun k16 => ?_)
      ·
        refine V_aload_n 94 B dX10_sortSeen_94 4 rfl ?_
        refine V_get 95 B gf_RX10_24 3 rfl rfl dX10_sortSeen_95 ?_
        refine V_iload 98 B dX10_sortSeen_98 0 rfl ?_
        refine V_iload_n 100 B dX10_sortSeen_100 2 rfl ?_
        refine V_gvv 101 B envX EB (st := []) (As := [.int (a13.1 0), .int j7]) (fun sz => sX1_put_3 l D Y h4 h5 p2 (a13.2.2.1 0) (a13.1 0) j7 sz) glV_RX10_41 ⟨rfl, rfl⟩ ⟨(Nat.le_of_ble_eq_true rfl), (Nat.le_of_ble_eq_true rfl)⟩ ⟨(Nat.le_of_ble_eq_true rfl), (Nat.le_of_ble_eq_true rfl)⟩ [4, 0] rfl 3 0 rfl rfl rfl rfl (Nat.le_of_ble_eq_true rfl) rfl (fun _ _ => rfl) dX10_sortSeen_101 (fun u18 w19 => ?_)
        refine V_ws [(h0, oC 2 [.ref g0, .ref g1, .ref g2, .ref g3, .ref g4, .ref g5, .ref g6, .ref h1, .ref g7, .ref g8, .ref g9, .int p0]), (h1, oC 7 [.ref h2, .int p1]), (h2, aJ Y 80 f0), (h3, oC 11 [.ref h0, .ref g10, .ref h4, .ref g11, .ref g12]), (h4, oC 3 [.ref h5, .int p2]), (h5, aI Y 80 (u18.2.2.1 0))] rfl ?_
        refine V_iinc 104 B (v := ((a0.1 0) + Int32.ofInt 1)) (lv2 := [(1, .int ((a0.1 0) + Int32.ofInt 1)), (5, .int (a13.1 0)), (3, .long o10), (2, .int j7), (0, .ref h3)]) dX10_sortSeen_104 3 rfl rfl (by decide) rfl ?_
        refine V_goto 107 B 2 dX10_sortSeen_107 (by decide) ?_
        refine V_lv [(1, .int ((a0.1 0) + Int32.ofInt 1)), (0, .ref h3)] [0, 4] rfl ?_
        exact IH1 (mkU [((a0.1 0) + Int32.ofInt 1)] [] [(u18.2.2.1 0)] [] []) (Int.le_trans (by decide) (o_add_lo (c := Int32.ofInt 1) hI2 (o_lt_hi (o_nle k6) (i_hi j3) (k := 2147483646) (by decide +kernel)) (by decide +kernel) (by decide +kernel) (k := 2) (by decide +kernel))) (up_dec (x := (a0.1 0)) (c := Int32.ofInt 1) (by decide +kernel) hI2 (o_lt_hi (o_nle k6) (i_hi j3) (k := 2147483646) (by decide +kernel)) (by decide))
      ·
        refine V_aload_n 42 B dX10_sortSeen_42 4 rfl ?_
        refine V_get 43 B gf_RX10_9 3 rfl rfl dX10_sortSeen_43 ?_
        refine V_get 46 B gf_RX10_56 0 rfl rfl dX10_sortSeen_46 ?_
        refine V_aload_n 49 B dX10_sortSeen_49 4 rfl ?_
        refine V_get 50 B gf_RX10_24 3 rfl rfl dX10_sortSeen_50 ?_
        refine V_iload 53 B dX10_sortSeen_53 0 rfl ?_
        refine V_iconst 55 B (v := 1) dX10_sortSeen_55 (by decide +kernel) ?_
        refine V_isub 56 B dX10_sortSeen_56 rfl ?_
        refine V_gvi 57 B envX EB (st := [.ref h1]) (As := [.int ((a13.1 0) - 1)]) (fun sz => sX1_at_3 l D Y h4 h5 p2 (a13.2.2.1 0) ((a13.1 0) - 1) sz) glV_RX10_49 ⟨rfl, rfl⟩ ⟨(Nat.le_of_ble_eq_true rfl), (Nat.le_of_ble_eq_true rfl)⟩ ⟨(Nat.le_of_ble_eq_true rfl), (Nat.le_of_ble_eq_true rfl)⟩ [4, 0] rfl 3 0 rfl rfl rfl rfl (Nat.le_of_ble_eq_true rfl) rfl (fun _ _ _ => rfl) dX10_sortSeen_57 (fun j20 u21 w22 => ?_)
        refine V_ws [(h0, oC 2 [.ref g0, .ref g1, .ref g2, .ref g3, .ref g4, .ref g5, .ref g6, .ref h1, .ref g7, .ref g8, .ref g9, .int p0]), (h1, oC 7 [.ref h2, .int p1]), (h2, aJ Y 80 f0), (h3, oC 11 [.ref h0, .ref g10, .ref h4, .ref g11, .ref g12]), (h4, oC 3 [.ref h5, .int p2]), (h5, aI Y 80 (a13.2.2.1 0))] rfl ?_
        refine V_gvl 60 B envX EB (st := []) (As := [.int j20]) (fun sz => sX5_at_1 l D Y h1 h2 p1 f0 j20 sz) glV_RX10_59 ⟨rfl, rfl⟩ ⟨(Nat.le_of_ble_eq_true rfl), (Nat.le_of_ble_eq_true rfl)⟩ ⟨(Nat.le_of_ble_eq_true rfl), (Nat.le_of_ble_eq_true rfl)⟩ [1, 0] rfl 7 0 rfl rfl rfl rfl (Nat.le_of_ble_eq_true rfl) rfl (fun _ _ _ => rfl) dX10_sortSeen_60 (fun o23 u24 w25 => ?_)
        refine V_ws [(h0, oC 2 [.ref g0, .ref g1, .ref g2, .ref g3, .ref g4, .ref g5, .ref g6, .ref h1, .ref g7, .ref g8, .ref g9, .int p0]), (h1, oC 7 [.ref h2, .int p1]), (h2, aJ Y 80 f0), (h3, oC 11 [.ref h0, .ref g10, .ref h4, .ref g11, .ref g12]), (h4, oC 3 [.ref h5, .int p2]), (h5, aI Y 80 (a13.2.2.1 0))] rfl ?_
        refine V_lload_n 63 B dX10_sortSeen_63 1 rfl ?_
        refine V_lcmp 64 B dX10_sortSeen_64 rfl ?_
        refine V_nmi (fun j26 _ => ?_)
        refine V_if_le 65 B 94 dX10_sortSeen_65 (by decide) (fun k27 => ?_) (fun k27 => ?_)
        ·
          refine V_aload_n 94 B dX10_sortSeen_94 4 rfl ?_
          refine V_get 95 B gf_RX10_24 3 rfl rfl dX10_sortSeen_95 ?_
          refine V_iload 98 B dX10_sortSeen_98 0 rfl ?_
          refine V_iload_n 100 B dX10_sortSeen_100 2 rfl ?_
          refine V_gvv 101 B envX EB (st := []) (As := [.int (a13.1 0), .int j7]) (fun sz => sX1_put_3 l D Y h4 h5 p2 (a13.2.2.1 0) (a13.1 0) j7 sz) glV_RX10_41 ⟨rfl, rfl⟩ ⟨(Nat.le_of_ble_eq_true rfl), (Nat.le_of_ble_eq_true rfl)⟩ ⟨(Nat.le_of_ble_eq_true rfl), (Nat.le_of_ble_eq_true rfl)⟩ [4, 0] rfl 3 0 rfl rfl rfl rfl (Nat.le_of_ble_eq_true rfl) rfl (fun _ _ => rfl) dX10_sortSeen_101 (fun u29 w30 => ?_)
          refine V_ws [(h0, oC 2 [.ref g0, .ref g1, .ref g2, .ref g3, .ref g4, .ref g5, .ref g6, .ref h1, .ref g7, .ref g8, .ref g9, .int p0]), (h1, oC 7 [.ref h2, .int p1]), (h2, aJ Y 80 f0), (h3, oC 11 [.ref h0, .ref g10, .ref h4, .ref g11, .ref g12]), (h4, oC 3 [.ref h5, .int p2]), (h5, aI Y 80 (u29.2.2.1 0))] rfl ?_
          refine V_iinc 104 B (v := ((a0.1 0) + Int32.ofInt 1)) (lv2 := [(1, .int ((a0.1 0) + Int32.ofInt 1)), (5, .int (a13.1 0)), (3, .long o10), (2, .int j7), (0, .ref h3)]) dX10_sortSeen_104 3 rfl rfl (by decide) rfl ?_
          refine V_goto 107 B 2 dX10_sortSeen_107 (by decide) ?_
          refine V_lv [(1, .int ((a0.1 0) + Int32.ofInt 1)), (0, .ref h3)] [0, 4] rfl ?_
          exact IH1 (mkU [((a0.1 0) + Int32.ofInt 1)] [] [(u29.2.2.1 0)] [] []) (Int.le_trans (by decide) (o_add_lo (c := Int32.ofInt 1) hI2 (o_lt_hi (o_nle k6) (i_hi j3) (k := 2147483646) (by decide +kernel)) (by decide +kernel) (by decide +kernel) (k := 2) (by decide +kernel))) (up_dec (x := (a0.1 0)) (c := Int32.ofInt 1) (by decide +kernel) hI2 (o_lt_hi (o_nle k6) (i_hi j3) (k := 2147483646) (by decide +kernel)) (by decide))
        ·
          refine V_aload_n 68 B dX10_sortSeen_68 4 rfl ?_
          refine V_get 69 B gf_RX10_24 3 rfl rfl dX10_sortSeen_69 ?_
          refine V_iload 72 B dX10_sortSeen_72 0 rfl ?_
          refine V_aload_n 74 B dX10_sortSeen_74 4 rfl ?_
          refine V_get 75 B gf_RX10_24 3 rfl rfl dX10_sortSeen_75 ?_
          refine V_iload 78 B dX10_sortSeen_78 0 rfl ?_
          refine V_iconst 80 B (v := 1) dX10_sortSeen_80 (by decide +kernel) ?_
          refine V_isub 81 B dX10_sortSeen_81 rfl ?_
          refine V_gvi 82 B envX EB (st := [.int (a13.1 0), .ref h4]) (As := [.int ((a13.1 0) - 1)]) (fun sz => sX1_at_3 l D Y h4 h5 p2 (a13.2.2.1 0) ((a13.1 0) - 1) sz) glV_RX10_49 ⟨rfl, rfl⟩ ⟨(Nat.le_of_ble_eq_true rfl), (Nat.le_of_ble_eq_true rfl)⟩ ⟨(Nat.le_of_ble_eq_true rfl), (Nat.le_of_ble_eq_true rfl)⟩ [4, 0] rfl 3 0 rfl rfl rfl rfl (Nat.le_of_ble_eq_true rfl) rfl (fun _ _ _ => rfl) dX10_sortSeen_82 (fun j31 u32 w33 => ?_)
          refine V_ws [(h0, oC 2 [.ref g0, .ref g1, .ref g2, .ref g3, .ref g4, .ref g5, .ref g6, .ref h1, .ref g7, .ref g8, .ref g9, .int p0]), (h1, oC 7 [.ref h2, .int p1]), (h2, aJ Y 80 f0), (h3, oC 11 [.ref h0, .ref g10, .ref h4, .ref g11, .ref g12]), (h4, oC 3 [.ref h5, .int p2]), (h5, aI Y 80 (a13.2.2.1 0))] rfl ?_
          refine V_gvv 85 B envX EB (st := []) (As := [.int (a13.1 0), .int j31]) (fun sz => sX1_put_3 l D Y h4 h5 p2 (a13.2.2.1 0) (a13.1 0) j31 sz) glV_RX10_41 ⟨rfl, rfl⟩ ⟨(Nat.le_of_ble_eq_true rfl), (Nat.le_of_ble_eq_true rfl)⟩ ⟨(Nat.le_of_ble_eq_true rfl), (Nat.le_of_ble_eq_true rfl)⟩ [4, 0] rfl 3 0 rfl rfl rfl rfl (Nat.le_of_ble_eq_true rfl) rfl (fun _ _ => rfl) dX10_sortSeen_85 (fun u35 w36 => ?_)
          refine V_ws [(h0, oC 2 [.ref g0, .ref g1, .ref g2, .ref g3, .ref g4, .ref g5, .ref g6, .ref h1, .ref g7, .ref g8, .ref g9, .int p0]), (h1, oC 7 [.ref h2, .int p1]), (h2, aJ Y 80 f0), (h3, oC 11 [.ref h0, .ref g10, .ref h4, .ref g11, .ref g12]), (h4, oC 3 [.ref h5, .int p2]), (h5, aI Y 80 (u35.2.2.1 0))] rfl ?_
          refine V_iinc 88 B (v := ((a13.1 0) + Int32.ofInt (-1))) (lv2 := [(5, .int ((a13.1 0) + Int32.ofInt (-1))), (3, .long o10), (2, .int j7), (1, .int (a0.1 0)), (0, .ref h3)]) dX10_sortSeen_88 0 rfl rfl (by decide) rfl ?_
          refine V_goto 91 B 37 dX10_sortSeen_91 (by decide) ?_
          refine V_lv [(5, .int ((a13.1 0) + Int32.ofInt (-1))), (3, .long o10), (2, .int j7), (1, .int (a0.1 0)), (0, .ref h3)] [0, 1, 2, 3, 4] rfl ?_
          exact IH14 (mkU [((a13.1 0) + Int32.ofInt (-1))] [] [(u35.2.2.1 0)] [] []) trivial (dn_dec (x := (a13.1 0)) (c := Int32.ofInt (-1)) (k := 1) (by decide +kernel) (by decide) (by decide) (b_nle k16 (n := 1) (by decide +kernel)) (by decide) (i_hi (a13.1 0)) (by decide)))
