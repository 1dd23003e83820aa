theorem inw_X0 : ∀ w ∈ u_ws RX0 TX0 12, w ∈ lw_good := by decide +kernel
theorem gn_RX11_7 : GN RX11 7 2 12 [.null, .null, .null, .null, .null, .null, .null, .null, .null, .null, .null, .int 0] := ⟨RX0, TX0, 12, tyX0, rfl, inw_X0, tyX0_ok, (mT1 36 rfl rfl), (mT1 37 rfl rfl), (mT1 2 rfl rfl), (by decide +kernel), rfl⟩
theorem inw_X1 : ∀ w ∈ u_ws RX1 TX1 2, w ∈ lw_good := by decide +kernel
theorem gn_RX0_9 : GN RX0 9 3 2 [.null, .int 0] := ⟨RX1, TX1, 2, tyX1, rfl, inw_X1, tyX1_ok, (mT1 42 rfl rfl), (mT1 43 rfl rfl), (mT1 3 rfl rfl), (by decide +kernel), rfl⟩
theorem gm_RX1_9 : GM RX1 9 Lib.Math.max.name Lib.Math.max.code := ⟨(mT1 48 rfl rfl), (mT1 49 rfl rfl), (mT1 4 rfl rfl), (mT1 50 rfl rfl)⟩
theorem dX1_init_0 : decode cX1_init 0 = .ok (.aload_n 0, 1) := by decide +kernel
theorem dX1_init_1 : decode cX1_init 1 = .ok (.invokespecial 3, 3) := by decide +kernel
theorem dX1_init_4 : decode cX1_init 4 = .ok (.aload_n 0, 1) := by decide +kernel
theorem dX1_init_5 : decode cX1_init 5 = .ok (.iload_n 1, 1) := by decide +kernel
theorem dX1_init_6 : decode cX1_init 6 = .ok (.iconst 0, 1) := by decide +kernel
theorem dX1_init_7 : decode cX1_init 7 = .ok (.invokestatic 9, 3) := by decide +kernel
theorem dX1_init_10 : decode cX1_init 10 = .ok (.newarray .int, 2) := by decide +kernel
theorem dX1_init_12 : decode cX1_init 12 = .ok (.putfield 15, 3) := by decide +kernel
theorem gp_RX1_15 : GP RX1 15 3 0 (.array .int) true := ⟨RX1, TX1, 2, ⟨rfl, inw_X1, Nat.le_of_ble_eq_true rfl, (mT1 51 rfl rfl)⟩, ⟨tyX1, tyX1_ok⟩, nmX1, rfl, by decide +kernel, fun _ => rfl⟩
theorem dX1_init_15 : decode cX1_init 15 = .ok (.aload_n 0, 1) := by decide +kernel
theorem dX1_init_16 : decode cX1_init 16 = .ok (.iconst 0, 1) := by decide +kernel
theorem dX1_init_17 : decode cX1_init 17 = .ok (.putfield 21, 3) := by decide +kernel
theorem gp_RX1_21 : GP RX1 21 3 1 .int false := ⟨RX1, TX1, 2, ⟨rfl, inw_X1, Nat.le_of_ble_eq_true rfl, (mT1 52 rfl rfl)⟩, ⟨tyX1, tyX1_ok⟩, nmX1, rfl, by decide +kernel, fun h => nomatch h⟩
theorem dX1_init_20 : decode cX1_init 20 = .ok (.return_, 1) := by decide +kernel
set_option maxRecDepth 100000 in
set_option maxHeartbeats 4000000 in
theorem mX1_init_1 (l : Launch) (D : va_G) (Y : Nat → ClassId) (h0 : Nat) (sz : Nat) : Met l yX1_init (WSm yX1_init cX1_init 2 none) (mkR 1 1 6 14) (PreC D Y [.ref h0, .int 6] [(h0, oC 3 [.null, .int 0])] sz) (QV D (fun (u : va_W) => ∃ a0 : Nat, u = [(h0, oC 3 [.ref a0, .int 0]), (a0, aI Y 6 (fun _ => 0))]) (fun (u : va_W) => u) (va_A [(h0, oC 3 [.null, .int 0])] sz)) 1 6 (va_A [(h0, oC 3 [.null, .int 0])] sz) :=
  met_of (by decide +kernel) (Nat.le_of_ble_eq_true rfl) (fun p e s m args below meth c B hin hsz => by
    have B : VB p s m args meth c D Y (va_A [(h0, oC 3 [.null, .int 0])] sz) cX1_init 2 RX1 none := B
    refine V_aload_n 0 B dX1_init_0 0 rfl ?_
    refine V_objInit 1 B (mT1 47 rfl rfl) (mT1 34 rfl rfl) (mT1 35 rfl rfl) dX1_init_1 (Nat.le_of_ble_eq_true rfl) (Nat.le_of_ble_eq_true rfl) ?_
    refine V_aload_n 4 B dX1_init_4 0 rfl ?_
    refine V_iload_n 5 B dX1_init_5 1 rfl ?_
    refine V_iconst 6 B (v := 0) dX1_init_6 (by decide +kernel) ?_
    refine V_mmax 7 B (v := 6) gm_RX1_9 dX1_init_7 (Nat.le_of_ble_eq_true rfl) (Nat.le_of_ble_eq_true rfl) (Nat.le_of_ble_eq_true rfl) (Nat.le_of_ble_eq_true rfl) (by decide +kernel) ?_
    refine V_newaI 10 B (N := 6) dX1_init_10 (mT1 58 rfl rfl) (by decide +kernel) (by decide +kernel) (by decide +kernel) (Nat.le_of_ble_eq_true rfl) (Nat.le_of_ble_eq_true rfl) (fun q0 => ?_)
    refine V_ws [(h0, oC 3 [.null, .int 0]), (q0, aI Y 6 (fun _ => 0))] rfl ?_
    refine V_putF 12 B hin gp_RX1_15 0 rfl (Nat.le_of_ble_eq_true rfl) rfl rfl dX1_init_12 [(h0, oC 3 [.ref q0, .int 0]), (q0, aI Y 6 (fun _ => 0))] rfl ?_
    refine V_aload_n 15 B dX1_init_15 0 rfl ?_
    refine V_iconst 16 B (v := 0) dX1_init_16 (by decide +kernel) ?_
    refine V_put 17 B gp_RX1_21 0 rfl (Nat.le_of_ble_eq_true rfl) rfl rfl dX1_init_17 [(h0, oC 3 [.ref q0, .int 0]), (q0, aI Y 6 (fun _ => 0))] rfl ?_
    exact V_vret 20 B dX1_init_20 [(h0, oC 3 [.ref q0, .int 0]), (q0, aI Y 6 (fun _ => 0))] ⟨q0, rfl⟩ rfl)
set_option maxRecDepth 100000 in
set_option maxHeartbeats 4000000 in
theorem mX1_init_2 (l : Launch) (D : va_G) (Y : Nat → ClassId) (h0 : Nat) (sz : Nat) : Met l yX1_init (WSm yX1_init cX1_init 2 none) (mkR 1 1 40 14) (PreC D Y [.ref h0, .int 40] [(h0, oC 3 [.null, .int 0])] sz) (QV D (fun (u : va_W) => ∃ a0 : Nat, u = [(h0, oC 3 [.ref a0, .int 0]), (a0, aI Y 40 (fun _ => 0))]) (fun (u : va_W) => u) (va_A [(h0, oC 3 [.null, .int 0])] sz)) 1 40 (va_A [(h0, oC 3 [.null, .int 0])] sz) :=
  met_of (by decide +kernel) (Nat.le_of_ble_eq_true rfl) (fun p e s m args below meth c B hin hsz => by
    have B : VB p s m args meth c D Y (va_A [(h0, oC 3 [.null, .int 0])] sz) cX1_init 2 RX1 none := B
    refine V_aload_n 0 B dX1_init_0 0 rfl ?_
    refine V_objInit 1 B (mT1 47 rfl rfl) (mT1 34 rfl rfl) (mT1 35 rfl rfl) dX1_init_1 (Nat.le_of_ble_eq_true rfl) (Nat.le_of_ble_eq_true rfl) ?_
    refine V_aload_n 4 B dX1_init_4 0 rfl ?_
    refine V_iload_n 5 B dX1_init_5 1 rfl ?_
    refine V_iconst 6 B (v := 0) dX1_init_6 (by decide +kernel) ?_
    refine V_mmax 7 B (v := 40) gm_RX1_9 dX1_init_7 (Nat.le_of_ble_eq_true rfl) (Nat.le_of_ble_eq_true rfl) (Nat.le_of_ble_eq_true rfl) (Nat.le_of_ble_eq_true rfl) (by decide +kernel) ?_
    refine V_newaI 10 B (N := 40) dX1_init_10 (mT1 58 rfl rfl) (by decide +kernel) (by decide +kernel) (by decide +kernel) (Nat.le_of_ble_eq_true rfl) (Nat.le_of_ble_eq_true rfl) (fun q0 => ?_)
    refine V_ws [(h0, oC 3 [.null, .int 0]), (q0, aI Y 40 (fun _ => 0))] rfl ?_
    refine V_putF 12 B hin gp_RX1_15 0 rfl (Nat.le_of_ble_eq_true rfl) rfl rfl dX1_init_12 [(h0, oC 3 [.ref q0, .int 0]), (q0, aI Y 40 (fun _ => 0))] rfl ?_
    refine V_aload_n 15 B dX1_init_15 0 rfl ?_
    refine V_iconst 16 B (v := 0) dX1_init_16 (by decide +kernel) ?_
    refine V_put 17 B gp_RX1_21 0 rfl (Nat.le_of_ble_eq_true rfl) rfl rfl dX1_init_17 [(h0, oC 3 [.ref q0, .int 0]), (q0, aI Y 40 (fun _ => 0))] rfl ?_
    exact V_vret 20 B dX1_init_20 [(h0, oC 3 [.ref q0, .int 0]), (q0, aI Y 40 (fun _ => 0))] ⟨q0, rfl⟩ rfl)
theorem inw_X5 : ∀ w ∈ u_ws RX5 TX5 2, w ∈ lw_good := by decide +kernel
theorem gn_RX0_29 : GN RX0 29 7 2 [.null, .int 0] := ⟨RX5, TX5, 2, tyX5, rfl, inw_X5, tyX5_ok, (mT1 59 rfl rfl), (mT1 60 rfl rfl), (mT1 5 rfl rfl), (by decide +kernel), rfl⟩
theorem gm_RX5_7 : GM RX5 7 Lib.Math.max.name Lib.Math.max.code := ⟨(mT1 65 rfl rfl), (mT1 49 rfl rfl), (mT1 4 rfl rfl), (mT1 50 rfl rfl)⟩
theorem dX5_init_0 : decode cX5_init 0 = .ok (.aload_n 0, 1) := by decide +kernel
theorem dX5_init_1 : decode cX5_init 1 = .ok (.invokespecial 1, 3) := by decide +kernel
theorem dX5_init_4 : decode cX5_init 4 = .ok (.aload_n 0, 1) := by decide +kernel
theorem dX5_init_5 : decode cX5_init 5 = .ok (.iload_n 1, 1) := by decide +kernel
theorem dX5_init_6 : decode cX5_init 6 = .ok (.iconst 0, 1) := by decide +kernel
theorem dX5_init_7 : decode cX5_init 7 = .ok (.invokestatic 7, 3) := by decide +kernel
theorem dX5_init_10 : decode cX5_init 10 = .ok (.newarray .long, 2) := by decide +kernel
theorem dX5_init_12 : decode cX5_init 12 = .ok (.putfield 13, 3) := by decide +kernel
theorem gp_RX5_13 : GP RX5 13 7 0 (.array .long) true := ⟨RX5, TX5, 2, ⟨rfl, inw_X5, Nat.le_of_ble_eq_true rfl, (mT1 66 rfl rfl)⟩, ⟨tyX5, tyX5_ok⟩, nmX5, rfl, by decide +kernel, fun _ => rfl⟩
theorem dX5_init_15 : decode cX5_init 15 = .ok (.aload_n 0, 1) := by decide +kernel
theorem dX5_init_16 : decode cX5_init 16 = .ok (.iconst 0, 1) := by decide +kernel
theorem dX5_init_17 : decode cX5_init 17 = .ok (.putfield 19, 3) := by decide +kernel
theorem gp_RX5_19 : GP RX5 19 7 1 .int false := ⟨RX5, TX5, 2, ⟨rfl, inw_X5, Nat.le_of_ble_eq_true rfl, (mT1 67 rfl rfl)⟩, ⟨tyX5, tyX5_ok⟩, nmX5, rfl, by decide +kernel, fun h => nomatch h⟩
theorem dX5_init_20 : decode cX5_init 20 = .ok (.return_, 1) := by decide +kernel
set_option maxRecDepth 100000 in
set_option maxHeartbeats 4000000 in
theorem mX5_init_1 (l : Launch) (D : va_G) (Y : Nat → ClassId) (h0 : Nat) (sz : Nat) : Met l yX5_init (WSm yX5_init cX5_init 2 none) (mkR 1 1 6 14) (PreC D Y [.ref h0, .int 6] [(h0, oC 7 [.null, .int 0])] sz) (QV D (fun (u : va_W) => ∃ a0 : Nat, u = [(h0, oC 7 [.ref a0, .int 0]), (a0, aJ Y 6 (fun _ => 0))]) (fun (u : va_W) => u) (va_A [(h0, oC 7 [.null, .int 0])] sz)) 1 6 (va_A [(h0, oC 7 [.null, .int 0])] sz) :=
  met_of (by decide +kernel) (Nat.le_of_ble_eq_true rfl) (fun p e s m args below meth c B hin hsz => by
    have B : VB p s m args meth c D Y (va_A [(h0, oC 7 [.null, .int 0])] sz) cX5_init 2 RX5 none := B
    refine V_aload_n 0 B dX5_init_0 0 rfl ?_
    refine V_objInit 1 B (mT1 64 rfl rfl) (mT1 34 rfl rfl) (mT1 35 rfl rfl) dX5_init_1 (Nat.le_of_ble_eq_true rfl) (Nat.le_of_ble_eq_true rfl) ?_
    refine V_aload_n 4 B dX5_init_4 0 rfl ?_
    refine V_iload_n 5 B dX5_init_5 1 rfl ?_
    refine V_iconst 6 B (v := 0) dX5_init_6 (by decide +kernel) ?_
    refine V_mmax 7 B (v := 6) gm_RX5_7 dX5_init_7 (Nat.le_of_ble_eq_true rfl) (Nat.le_of_ble_eq_true rfl) (Nat.le_of_ble_eq_true rfl) (Nat.le_of_ble_eq_true rfl) (by decide +kernel) ?_
    refine V_newaJ 10 B (N := 6) dX5_init_10 (mT1 73 rfl rfl) (by decide +kernel) (by decide +kernel) (by decide +kernel) (Nat.le_of_ble_eq_true rfl) (Nat.le_of_ble_eq_true rfl) (fun q0 => ?_)
    refine V_ws [(h0, oC 7 [.null, .int 0]), (q0, aJ Y 6 (fun _ => 0))] rfl ?_
    refine V_putF 12 B hin gp_RX5_13 0 rfl (Nat.le_of_ble_eq_true rfl) rfl rfl dX5_init_12 [(h0, oC 7 [.ref q0, .int 0]), (q0, aJ Y 6 (fun _ => 0))] rfl ?_
    refine V_aload_n 15 B dX5_init_15 0 rfl ?_
    refine V_iconst 16 B (v := 0) dX5_init_16 (by decide +kernel) ?_
    refine V_put 17 B gp_RX5_19 0 rfl (Nat.le_of_ble_eq_true rfl) rfl rfl dX5_init_17 [(h0, oC 7 [.ref q0, .int 0]), (q0, aJ Y 6 (fun _ => 0))] rfl ?_
    exact V_vret 20 B dX5_init_20 [(h0, oC 7 [.ref q0, .int 0]), (q0, aJ Y 6 (fun _ => 0))] ⟨q0, rfl⟩ rfl)
set_option maxRecDepth 100000 in
set_option maxHeartbeats 4000000 in
theorem mX1_init_3 (l : Launch) (D : va_G) (Y : Nat → ClassId) (h0 : Nat) (sz : Nat) : Met l yX1_init (WSm yX1_init cX1_init 2 none) (mkR 1 1 80 14) (PreC D Y [.ref h0, .int 80] [(h0, oC 3 [.null, .int 0])] sz) (QV D (fun (u : va_W) => ∃ a0 : Nat, u = [(h0, oC 3 [.ref a0, .int 0]), (a0, aI Y 80 (fun _ => 0))]) (fun (u : va_W) => u) (va_A [(h0, oC 3 [.null, .int 0])] sz)) 1 80 (va_A [(h0, oC 3 [.null, .int 0])] sz) :=
  met_of (by decide +kernel) (Nat.le_of_ble_eq_true rfl) (fun p e s m args below meth c B hin hsz => by
    have B : VB p s m args meth c D Y (va_A [(h0, oC 3 [.null, .int 0])] sz) cX1_init 2 RX1 none := B
    refine V_aload_n 0 B dX1_init_0 0 rfl ?_
    refine V_objInit 1 B (mT1 47 rfl rfl) (mT1 34 rfl rfl) (mT1 35 rfl rfl) dX1_init_1 (Nat.le_of_ble_eq_true rfl) (Nat.le_of_ble_eq_true rfl) ?_
    refine V_aload_n 4 B dX1_init_4 0 rfl ?_
    refine V_iload_n 5 B dX1_init_5 1 rfl ?_
    refine V_iconst 6 B (v := 0) dX1_init_6 (by decide +kernel) ?_
    refine V_mmax 7 B (v := 80) gm_RX1_9 dX1_init_7 (Nat.le_of_ble_eq_true rfl) (Nat.le_of_ble_eq_true rfl) (Nat.le_of_ble_eq_true rfl) (Nat.le_of_ble_eq_true rfl) (by decide +kernel) ?_
    refine V_newaI 10 B (N := 80) dX1_init_10 (mT1 58 rfl rfl) (by decide +kernel) (by decide +kernel) (by decide +kernel) (Nat.le_of_ble_eq_true rfl) (Nat.le_of_ble_eq_true rfl) (fun q0 => ?_)
    refine V_ws [(h0, oC 3 [.null, .int 0]), (q0, aI Y 80 (fun _ => 0))] rfl ?_
    refine V_putF 12 B hin gp_RX1_15 0 rfl (Nat.le_of_ble_eq_true rfl) rfl rfl dX1_init_12 [(h0, oC 3 [.ref q0, .int 0]), (q0, aI Y 80 (fun _ => 0))] rfl ?_
    refine V_aload_n 15 B dX1_init_15 0 rfl ?_
    refine V_iconst 16 B (v := 0) dX1_init_16 (by decide +kernel) ?_
    refine V_put 17 B gp_RX1_21 0 rfl (Nat.le_of_ble_eq_true rfl) rfl rfl dX1_init_17 [(h0, oC 3 [.ref q0, .int 0]), (q0, aI Y 80 (fun _ => 0))] rfl ?_
    exact V_vret 20 B dX1_init_20 [(h0, oC 3 [.ref q0, .int 0]), (q0, aI Y 80 (fun _ => 0))] ⟨q0, rfl⟩ rfl)
set_option maxRecDepth 100000 in
set_option maxHeartbeats 4000000 in
theorem mX5_init_2 (l : Launch) (D : va_G) (Y : Nat → ClassId) (h0 : Nat) (sz : Nat) : Met l yX5_init (WSm yX5_init cX5_init 2 none) (mkR 1 1 80 14) (PreC D Y [.ref h0, .int 80] [(h0, oC 7 [.null, .int 0])] sz) (QV D (fun (u : va_W) => ∃ a0 : Nat, u = [(h0, oC 7 [.ref a0, .int 0]), (a0, aJ Y 80 (fun _ => 0))]) (fun (u : va_W) => u) (va_A [(h0, oC 7 [.null, .int 0])] sz)) 1 80 (va_A [(h0, oC 7 [.null, .int 0])] sz) :=
  met_of (by decide +kernel) (Nat.le_of_ble_eq_true rfl) (fun p e s m args below meth c B hin hsz => by
    have B : VB p s m args meth c D Y (va_A [(h0, oC 7 [.null, .int 0])] sz) cX5_init 2 RX5 none := B
    refine V_aload_n 0 B dX5_init_0 0 rfl ?_
    refine V_objInit 1 B (mT1 64 rfl rfl) (mT1 34 rfl rfl) (mT1 35 rfl rfl) dX5_init_1 (Nat.le_of_ble_eq_true rfl) (Nat.le_of_ble_eq_true rfl) ?_
    refine V_aload_n 4 B dX5_init_4 0 rfl ?_
    refine V_iload_n 5 B dX5_init_5 1 rfl ?_
    refine V_iconst 6 B (v := 0) dX5_init_6 (by decide +kernel) ?_
    refine V_mmax 7 B (v := 80) gm_RX5_7 dX5_init_7 (Nat.le_of_ble_eq_true rfl) (Nat.le_of_ble_eq_true rfl) (Nat.le_of_ble_eq_true rfl) (Nat.le_of_ble_eq_true rfl) (by decide +kernel) ?_
    refine V_newaJ 10 B (N := 80) dX5_init_10 (mT1 73 rfl rfl) (by decide +kernel) (by decide +kernel) (by decide +kernel) (Nat.le_of_ble_eq_true rfl) (Nat.le_of_ble_eq_true rfl) (fun q0 => ?_)
    refine V_ws [(h0, oC 7 [.null, .int 0]), (q0, aJ Y 80 (fun _ => 0))] rfl ?_
    refine V_putF 12 B hin gp_RX5_13 0 rfl (Nat.le_of_ble_eq_true rfl) rfl rfl dX5_init_12 [(h0, oC 7 [.ref q0, .int 0]), (q0, aJ Y 80 (fun _ => 0))] rfl ?_
    refine V_aload_n 15 B dX5_init_15 0 rfl ?_
    refine V_iconst 16 B (v := 0) dX5_init_16 (by decide +kernel) ?_
    refine V_put 17 B gp_RX5_19 0 rfl (Nat.le_of_ble_eq_true rfl) rfl rfl dX5_init_17 [(h0, oC 7 [.ref q0, .int 0]), (q0, aJ Y 80 (fun _ => 0))] rfl ?_
    exact V_vret 20 B dX5_init_20 [(h0, oC 7 [.ref q0, .int 0]), (q0, aJ Y 80 (fun _ => 0))] ⟨q0, rfl⟩ rfl)
set_option maxRecDepth 100000 in
set_option maxHeartbeats 4000000 in
theorem mX5_init_3 (l : Launch) (D : va_G) (Y : Nat → ClassId) (h0 : Nat) (sz : Nat) : Met l yX5_init (WSm yX5_init cX5_init 2 none) (mkR 1 1 10 14) (PreC D Y [.ref h0, .int 10] [(h0, oC 7 [.null, .int 0])] sz) (QV D (fun (u : va_W) => ∃ a0 : Nat, u = [(h0, oC 7 [.ref a0, .int 0]), (a0, aJ Y 10 (fun _ => 0))]) (fun (u : va_W) => u) (va_A [(h0, oC 7 [.null, .int 0])] sz)) 1 10 (va_A [(h0, oC 7 [.null, .int 0])] sz) :=
  met_of (by decide +kernel) (Nat.le_of_ble_eq_true rfl) (fun p e s m args below meth c B hin hsz => by
    have B : VB p s m args meth c D Y (va_A [(h0, oC 7 [.null, .int 0])] sz) cX5_init 2 RX5 none := B
    refine V_aload_n 0 B dX5_init_0 0 rfl ?_
    refine V_objInit 1 B (mT1 64 rfl rfl) (mT1 34 rfl rfl) (mT1 35 rfl rfl) dX5_init_1 (Nat.le_of_ble_eq_true rfl) (Nat.le_of_ble_eq_true rfl) ?_
    refine V_aload_n 4 B dX5_init_4 0 rfl ?_
    refine V_iload_n 5 B dX5_init_5 1 rfl ?_
    refine V_iconst 6 B (v := 0) dX5_init_6 (by decide +kernel) ?_
    refine V_mmax 7 B (v := 10) gm_RX5_7 dX5_init_7 (Nat.le_of_ble_eq_true rfl) (Nat.le_of_ble_eq_true rfl) (Nat.le_of_ble_eq_true rfl) (Nat.le_of_ble_eq_true rfl) (by decide +kernel) ?_
    refine V_newaJ 10 B (N := 10) dX5_init_10 (mT1 73 rfl rfl) (by decide +kernel) (by decide +kernel) (by decide +kernel) (Nat.le_of_ble_eq_true rfl) (Nat.le_of_ble_eq_true rfl) (fun q0 => ?_)
    refine V_ws [(h0, oC 7 [.null, .int 0]), (q0, aJ Y 10 (fun _ => 0))] rfl ?_
    refine V_putF 12 B hin gp_RX5_13 0 rfl (Nat.le_of_ble_eq_true rfl) rfl rfl dX5_init_12 [(h0, oC 7 [.ref q0, .int 0]), (q0, aJ Y 10 (fun _ => 0))] rfl ?_
    refine V_aload_n 15 B dX5_init_15 0 rfl ?_
    refine V_iconst 16 B (v := 0) dX5_init_16 (by decide +kernel) ?_
    refine V_put 17 B gp_RX5_19 0 rfl (Nat.le_of_ble_eq_true rfl) rfl rfl dX5_init_17 [(h0, oC 7 [.ref q0, .int 0]), (q0, aJ Y 10 (fun _ => 0))] rfl ?_
    exact V_vret 20 B dX5_init_20 [(h0, oC 7 [.ref q0, .int 0]), (q0, aJ Y 10 (fun _ => 0))] ⟨q0, rfl⟩ rfl)
theorem inw_X2 : ∀ w ∈ u_ws RX2 TX2 4, w ∈ lw_good := by decide +kernel
theorem gn_RX0_48 : GN RX0 48 4 4 [.null, .null, .null, .int 0] := ⟨RX2, TX2, 4, tyX2, rfl, inw_X2, tyX2_ok, (mT1 74 rfl rfl), (mT1 75 rfl rfl), (mT1 6 rfl rfl), (by decide +kernel), rfl⟩
theorem gn_RX2_9 : GN RX2 9 3 2 [.null, .int 0] := ⟨RX1, TX1, 2, tyX1, rfl, inw_X1, tyX1_ok, (mT1 80 rfl rfl), (mT1 43 rfl rfl), (mT1 3 rfl rfl), (by decide +kernel), rfl⟩
set_option maxRecDepth 100000 in
set_option maxHeartbeats 4000000 in
theorem mX1_init_4 (l : Launch) (D : va_G) (Y : Nat → ClassId) (h0 : Nat) (sz : Nat) : Met l yX1_init (WSm yX1_init cX1_init 2 none) (mkR 1 1 4 14) (PreC D Y [.ref h0, .int 4] [(h0, oC 3 [.null, .int 0])] sz) (QV D (fun (u : va_W) => ∃ a0 : Nat, u = [(h0, oC 3 [.ref a0, .int 0]), (a0, aI Y 4 (fun _ => 0))]) (fun (u : va_W) => u) (va_A [(h0, oC 3 [.null, .int 0])] sz)) 1 4 (va_A [(h0, oC 3 [.null, .int 0])] sz) :=
  met_of (by decide +kernel) (Nat.le_of_ble_eq_true rfl) (fun p e s m args below meth c B hin hsz => by
    have B : VB p s m args meth c D Y (va_A [(h0, oC 3 [.null, .int 0])] sz) cX1_init 2 RX1 none := B
    refine V_aload_n 0 B dX1_init_0 0 rfl ?_
    refine V_objInit 1 B (mT1 47 rfl rfl) (mT1 34 rfl rfl) (mT1 35 rfl rfl) dX1_init_1 (Nat.le_of_ble_eq_true rfl) (Nat.le_of_ble_eq_true rfl) ?_
    refine V_aload_n 4 B dX1_init_4 0 rfl ?_
    refine V_iload_n 5 B dX1_init_5 1 rfl ?_
    refine V_iconst 6 B (v := 0) dX1_init_6 (by decide +kernel) ?_
    refine V_mmax 7 B (v := 4) gm_RX1_9 dX1_init_7 (Nat.le_of_ble_eq_true rfl) (Nat.le_of_ble_eq_true rfl) (Nat.le_of_ble_eq_true rfl) (Nat.le_of_ble_eq_true rfl) (by decide +kernel) ?_
    refine V_newaI 10 B (N := 4) dX1_init_10 (mT1 58 rfl rfl) (by decide +kernel) (by decide +kernel) (by decide +kernel) (Nat.le_of_ble_eq_true rfl) (Nat.le_of_ble_eq_true rfl) (fun q0 => ?_)
    refine V_ws [(h0, oC 3 [.null, .int 0]), (q0, aI Y 4 (fun _ => 0))] rfl ?_
    refine V_putF 12 B hin gp_RX1_15 0 rfl (Nat.le_of_ble_eq_true rfl) rfl rfl dX1_init_12 [(h0, oC 3 [.ref q0, .int 0]), (q0, aI Y 4 (fun _ => 0))] rfl ?_
    refine V_aload_n 15 B dX1_init_15 0 rfl ?_
    refine V_iconst 16 B (v := 0) dX1_init_16 (by decide +kernel) ?_
    refine V_put 17 B gp_RX1_21 0 rfl (Nat.le_of_ble_eq_true rfl) rfl rfl dX1_init_17 [(h0, oC 3 [.ref q0, .int 0]), (q0, aI Y 4 (fun _ => 0))] rfl ?_
    exact V_vret 20 B dX1_init_20 [(h0, oC 3 [.ref q0, .int 0]), (q0, aI Y 4 (fun _ => 0))] ⟨q0, rfl⟩ rfl)
set_option maxRecDepth 100000 in
set_option maxHeartbeats 4000000 in
theorem mX1_init_5 (l : Launch) (D : va_G) (Y : Nat → ClassId) (h0 : Nat) (sz : Nat) : Met l yX1_init (WSm yX1_init cX1_init 2 none) (mkR 1 1 104 14) (PreC D Y [.ref h0, .int 104] [(h0, oC 3 [.null, .int 0])] sz) (QV D (fun (u : va_W) => ∃ a0 : Nat, u = [(h0, oC 3 [.ref a0, .int 0]), (a0, aI Y 104 (fun _ => 0))]) (fun (u : va_W) => u) (va_A [(h0, oC 3 [.null, .int 0])] sz)) 1 104 (va_A [(h0, oC 3 [.null, .int 0])] sz) :=
  met_of (by decide +kernel) (Nat.le_of_ble_eq_true rfl) (fun p e s m args below meth c B hin hsz => by
    have B : VB p s m args meth c D Y (va_A [(h0, oC 3 [.null, .int 0])] sz) cX1_init 2 RX1 none := B
    refine V_aload_n 0 B dX1_init_0 0 rfl ?_
    refine V_objInit 1 B (mT1 47 rfl rfl) (mT1 34 rfl rfl) (mT1 35 rfl rfl) dX1_init_1 (Nat.le_of_ble_eq_true rfl) (Nat.le_of_ble_eq_true rfl) ?_
    refine V_aload_n 4 B dX1_init_4 0 rfl ?_
    refine V_iload_n 5 B dX1_init_5 1 rfl ?_
    refine V_iconst 6 B (v := 0) dX1_init_6 (by decide +kernel) ?_
    refine V_mmax 7 B (v := 104) gm_RX1_9 dX1_init_7 (Nat.le_of_ble_eq_true rfl) (Nat.le_of_ble_eq_true rfl) (Nat.le_of_ble_eq_true rfl) (Nat.le_of_ble_eq_true rfl) (by decide +kernel) ?_
    refine V_newaI 10 B (N := 104) dX1_init_10 (mT1 58 rfl rfl) (by decide +kernel) (by decide +kernel) (by decide +kernel) (Nat.le_of_ble_eq_true rfl) (Nat.le_of_ble_eq_true rfl) (fun q0 => ?_)
    refine V_ws [(h0, oC 3 [.null, .int 0]), (q0, aI Y 104 (fun _ => 0))] rfl ?_
    refine V_putF 12 B hin gp_RX1_15 0 rfl (Nat.le_of_ble_eq_true rfl) rfl rfl dX1_init_12 [(h0, oC 3 [.ref q0, .int 0]), (q0, aI Y 104 (fun _ => 0))] rfl ?_
    refine V_aload_n 15 B dX1_init_15 0 rfl ?_
    refine V_iconst 16 B (v := 0) dX1_init_16 (by decide +kernel) ?_
    refine V_put 17 B gp_RX1_21 0 rfl (Nat.le_of_ble_eq_true rfl) rfl rfl dX1_init_17 [(h0, oC 3 [.ref q0, .int 0]), (q0, aI Y 104 (fun _ => 0))] rfl ?_
    exact V_vret 20 B dX1_init_20 [(h0, oC 3 [.ref q0, .int 0]), (q0, aI Y 104 (fun _ => 0))] ⟨q0, rfl⟩ rfl)
theorem dX2_init_0 : decode cX2_init 0 = .ok (.aload_n 0, 1) := by decide +kernel
theorem dX2_init_1 : decode cX2_init 1 = .ok (.invokespecial 3, 3) := by decide +kernel
theorem dX2_init_4 : decode cX2_init 4 = .ok (.aload_n 0, 1) := by decide +kernel
theorem dX2_init_5 : decode cX2_init 5 = .ok (.new 9, 3) := by decide +kernel
theorem dX2_init_8 : decode cX2_init 8 = .ok (.dup, 1) := by decide +kernel
theorem dX2_init_9 : decode cX2_init 9 = .ok (.iconst 4, 1) := by decide +kernel
theorem dX2_init_10 : decode cX2_init 10 = .ok (.invokespecial 11, 3) := by decide +kernel
theorem glI_RX2_11 : GLI RX2 11 yX1_init cX1_init 2 1 := ⟨⟨(mT1 81 rfl rfl), (mT1 45 rfl rfl), (mT1 3 rfl rfl), (mT1 46 rfl rfl)⟩, by decide +kernel⟩
theorem dX2_init_13 : decode cX2_init 13 = .ok (.putfield 14, 3) := by decide +kernel
theorem gp_RX2_14 : GP RX2 14 4 0 (.object "ShortcutBook$IntRow") true := ⟨RX2, TX2, 4, ⟨rfl, inw_X2, Nat.le_of_ble_eq_true rfl, (mT1 82 rfl rfl)⟩, ⟨tyX2, tyX2_ok⟩, nmX2, rfl, by decide +kernel, fun _ => rfl⟩
theorem dX2_init_16 : decode cX2_init 16 = .ok (.aload_n 0, 1) := by decide +kernel
theorem dX2_init_17 : decode cX2_init 17 = .ok (.new 9, 3) := by decide +kernel
theorem dX2_init_20 : decode cX2_init 20 = .ok (.dup, 1) := by decide +kernel
theorem dX2_init_21 : decode cX2_init 21 = .ok (.iconst 4, 1) := by decide +kernel
theorem dX2_init_22 : decode cX2_init 22 = .ok (.invokespecial 11, 3) := by decide +kernel
theorem dX2_init_25 : decode cX2_init 25 = .ok (.putfield 20, 3) := by decide +kernel
theorem gp_RX2_20 : GP RX2 20 4 1 (.object "ShortcutBook$IntRow") true := ⟨RX2, TX2, 4, ⟨rfl, inw_X2, Nat.le_of_ble_eq_true rfl, (mT1 86 rfl rfl)⟩, ⟨tyX2, tyX2_ok⟩, nmX2, rfl, by decide +kernel, fun _ => rfl⟩
theorem dX2_init_28 : decode cX2_init 28 = .ok (.aload_n 0, 1) := by decide +kernel
theorem dX2_init_29 : decode cX2_init 29 = .ok (.new 9, 3) := by decide +kernel
theorem dX2_init_32 : decode cX2_init 32 = .ok (.dup, 1) := by decide +kernel
theorem dX2_init_33 : decode cX2_init 33 = .ok (.bipush 104, 2) := by decide +kernel
theorem dX2_init_35 : decode cX2_init 35 = .ok (.invokespecial 11, 3) := by decide +kernel
theorem dX2_init_38 : decode cX2_init 38 = .ok (.putfield 23, 3) := by decide +kernel
theorem gp_RX2_23 : GP RX2 23 4 2 (.object "ShortcutBook$IntRow") true := ⟨RX2, TX2, 4, ⟨rfl, inw_X2, Nat.le_of_ble_eq_true rfl, (mT1 89 rfl rfl)⟩, ⟨tyX2, tyX2_ok⟩, nmX2, rfl, by decide +kernel, fun _ => rfl⟩
theorem dX2_init_41 : decode cX2_init 41 = .ok (.aload_n 0, 1) := by decide +kernel
theorem dX2_init_42 : decode cX2_init 42 = .ok (.iconst 0, 1) := by decide +kernel
theorem dX2_init_43 : decode cX2_init 43 = .ok (.putfield 26, 3) := by decide +kernel
theorem gp_RX2_26 : GP RX2 26 4 3 .int false := ⟨RX2, TX2, 4, ⟨rfl, inw_X2, Nat.le_of_ble_eq_true rfl, (mT1 90 rfl rfl)⟩, ⟨tyX2, tyX2_ok⟩, nmX2, rfl, by decide +kernel, fun h => nomatch h⟩
theorem dX2_init_46 : decode cX2_init 46 = .ok (.return_, 1) := by decide +kernel
set_option maxRecDepth 100000 in
set_option maxHeartbeats 4000000 in
theorem mX2_init_1 (l : Launch) (D : va_G) (Y : Nat → ClassId) (h0 : Nat) (sz : Nat) : Met l yX2_init (WSm yX2_init cX2_init 1 none) (mkR 2 6 118 35) (PreC D Y [.ref h0] [(h0, oC 4 [.null, .null, .null, .int 0])] sz) (QV D (fun (u : va_W) => ∃ a0 a1 a2 a3 a4 a5 : Nat, u = [(h0, oC 4 [.ref a0, .ref a2, .ref a4, .int 0]), (a0, oC 3 [.ref a1, .int 0]), (a1, aI Y 4 (fun _ => 0)), (a2, oC 3 [.ref a3, .int 0]), (a3, aI Y 4 (fun _ => 0)), (a4, oC 3 [.ref a5, .int 0]), (a5, aI Y 104 (fun _ => 0))]) (fun (u : va_W) => u) (va_A [(h0, oC 4 [.null, .null, .null, .int 0])] sz)) 6 118 (va_A [(h0, oC 4 [.null, .null, .null, .int 0])] sz) :=
  met_of (by decide +kernel) (Nat.le_of_ble_eq_true rfl) (fun p e s m args below meth c B hin hsz => by
    have B : VB p s m args meth c D Y (va_A [(h0, oC 4 [.null, .null, .null, .int 0])] sz) cX2_init 1 RX2 none := B
    refine V_aload_n 0 B dX2_init_0 0 rfl ?_
    refine V_objInit 1 B (mT1 79 rfl rfl) (mT1 34 rfl rfl) (mT1 35 rfl rfl) dX2_init_1 (Nat.le_of_ble_eq_true rfl) (Nat.le_of_ble_eq_true rfl) ?_
    refine V_aload_n 4 B dX2_init_4 0 rfl ?_
    refine V_new 5 B gn_RX2_9 dX2_init_5 (Nat.le_of_ble_eq_true rfl) (Nat.le_of_ble_eq_true rfl) (fun q0 => ?_)
    refine V_ws [(h0, oC 4 [.null, .null, .null, .int 0]), (q0, oC 3 [.null, .int 0])] rfl ?_
    refine V_dup 8 B dX2_init_8 rfl ?_
    refine V_iconst 9 B (v := 4) dX2_init_9 (by decide +kernel) ?_
    refine V_civ 10 B (st := [.ref q0, .ref h0]) (As := [.int 4]) (fun sz => mX1_init_4 l D Y (q0) sz) glI_RX2_11 ⟨rfl, rfl⟩ ⟨(Nat.le_of_ble_eq_true rfl), (Nat.le_of_ble_eq_true rfl)⟩ ⟨(Nat.le_of_ble_eq_true rfl), (Nat.le_of_ble_eq_true rfl)⟩ [1] rfl rfl (Nat.le_of_ble_eq_true rfl) rfl (fun u w => by
        obtain ⟨u0x0, rfl⟩ := w
        rfl) dX2_init_10 (fun u0 w0 => ?_)
    obtain ⟨u0x0, rfl⟩ := w0
    refine V_ws [(h0, oC 4 [.null, .null, .null, .int 0]), (q0, oC 3 [.ref u0x0, .int 0]), (u0x0, aI Y 4 (fun _ => 0))] rfl ?_
    refine V_putF 13 B hin gp_RX2_14 0 rfl (Nat.le_of_ble_eq_true rfl) rfl rfl dX2_init_13 [(h0, oC 4 [.ref q0, .null, .null, .int 0]), (q0, oC 3 [.ref u0x0, .int 0]), (u0x0, aI Y 4 (fun _ => 0))] rfl ?_
    refine V_aload_n 16 B dX2_init_16 0 rfl ?_
    refine V_new 17 B gn_RX2_9 dX2_init_17 (Nat.le_of_ble_eq_true rfl) (Nat.le_of_ble_eq_true rfl) (fun q1 => ?_)
    refine V_ws [(h0, oC 4 [.ref q0, .null, .null, .int 0]), (q0, oC 3 [.ref u0x0, .int 0]), (u0x0, aI Y 4 (fun _ => 0)), (q1, oC 3 [.null, .int 0])] rfl ?_
    refine V_dup 20 B dX2_init_20 rfl ?_
    refine V_iconst 21 B (v := 4) dX2_init_21 (by decide +kernel) ?_
    refine V_civ 22 B (st := [.ref q1, .ref h0]) (As := [.int 4]) (fun sz => mX1_init_4 l D Y (q1) sz) glI_RX2_11 ⟨rfl, rfl⟩ ⟨(Nat.le_of_ble_eq_true rfl), (Nat.le_of_ble_eq_true rfl)⟩ ⟨(Nat.le_of_ble_eq_true rfl), (Nat.le_of_ble_eq_true rfl)⟩ [3] rfl rfl (Nat.le_of_ble_eq_true rfl) rfl (fun u w => by
        obtain ⟨u1x0, rfl⟩ := w
        rfl) dX2_init_22 (fun u1 w1 => ?_)
    obtain ⟨u1x0, rfl⟩ := w1
    refine V_ws [(h0, oC 4 [.ref q0, .null, .null, .int 0]), (q0, oC 3 [.ref u0x0, .int 0]), (u0x0, aI Y 4 (fun _ => 0)), (q1, oC 3 [.ref u1x0, .int 0]), (u1x0, aI Y 4 (fun _ => 0))] rfl ?_
    refine V_putF 25 B hin gp_RX2_20 0 rfl (Nat.le_of_ble_eq_true rfl) rfl rfl dX2_init_25 [(h0, oC 4 [.ref q0, .ref q1, .null, .int 0]), (q0, oC 3 [.ref u0x0, .int 0]), (u0x0, aI Y 4 (fun _ => 0)), (q1, oC 3 [.ref u1x0, .int 0]), (u1x0, aI Y 4 (fun _ => 0))] rfl ?_
    refine V_aload_n 28 B dX2_init_28 0 rfl ?_
    refine V_new 29 B gn_RX2_9 dX2_init_29 (Nat.le_of_ble_eq_true rfl) (Nat.le_of_ble_eq_true rfl) (fun q2 => ?_)
    refine V_ws [(h0, oC 4 [.ref q0, .ref q1, .null, .int 0]), (q0, oC 3 [.ref u0x0, .int 0]), (u0x0, aI Y 4 (fun _ => 0)), (q1, oC 3 [.ref u1x0, .int 0]), (u1x0, aI Y 4 (fun _ => 0)), (q2, oC 3 [.null, .int 0])] rfl ?_
    refine V_dup 32 B dX2_init_32 rfl ?_
    refine V_bipush 33 B (v := 104) dX2_init_33 (by decide +kernel) ?_
    refine V_civ 35 B (st := [.ref q2, .ref h0]) (As := [.int 104]) (fun sz => mX1_init_5 l D Y (q2) sz) glI_RX2_11 ⟨rfl, rfl⟩ ⟨(Nat.le_of_ble_eq_true rfl), (Nat.le_of_ble_eq_true rfl)⟩ ⟨(Nat.le_of_ble_eq_true rfl), (Nat.le_of_ble_eq_true rfl)⟩ [5] rfl rfl (Nat.le_of_ble_eq_true rfl) rfl (fun u w => by
        obtain ⟨u2x0, rfl⟩ := w
        rfl) dX2_init_35 (fun u2 w2 => ?_)
    obtain ⟨u2x0, rfl⟩ := w2
    refine V_ws [(h0, oC 4 [.ref q0, .ref q1, .null, .int 0]), (q0, oC 3 [.ref u0x0, .int 0]), (u0x0, aI Y 4 (fun _ => 0)), (q1, oC 3 [.ref u1x0, .int 0]), (u1x0, aI Y 4 (fun _ => 0)), (q2, oC 3 [.ref u2x0, .int 0]), (u2x0, aI Y 104 (fun _ => 0))] rfl ?_
    refine V_putF 38 B hin gp_RX2_23 0 rfl (Nat.le_of_ble_eq_true rfl) rfl rfl dX2_init_38 [(h0, oC 4 [.ref q0, .ref q1, .ref q2, .int 0]), (q0, oC 3 [.ref u0x0, .int 0]), (u0x0, aI Y 4 (fun _ => 0)), (q1, oC 3 [.ref u1x0, .int 0]), (u1x0, aI Y 4 (fun _ => 0)), (q2, oC 3 [.ref u2x0, .int 0]), (u2x0, aI Y 104 (fun _ => 0))] rfl ?_
    refine V_aload_n 41 B dX2_init_41 0 rfl ?_
    refine V_iconst 42 B (v := 0) dX2_init_42 (by decide +kernel) ?_
    refine V_put 43 B gp_RX2_26 0 rfl (Nat.le_of_ble_eq_true rfl) rfl rfl dX2_init_43 [(h0, oC 4 [.ref q0, .ref q1, .ref q2, .int 0]), (q0, oC 3 [.ref u0x0, .int 0]), (u0x0, aI Y 4 (fun _ => 0)), (q1, oC 3 [.ref u1x0, .int 0]), (u1x0, aI Y 4 (fun _ => 0)), (q2, oC 3 [.ref u2x0, .int 0]), (u2x0, aI Y 104 (fun _ => 0))] rfl ?_
    exact V_vret 46 B dX2_init_46 [(h0, oC 4 [.ref q0, .ref q1, .ref q2, .int 0]), (q0, oC 3 [.ref u0x0, .int 0]), (u0x0, aI Y 4 (fun _ => 0)), (q1, oC 3 [.ref u1x0, .int 0]), (u1x0, aI Y 4 (fun _ => 0)), (q2, oC 3 [.ref u2x0, .int 0]), (u2x0, aI Y 104 (fun _ => 0))] ⟨q0, u0x0, q1, u1x0, q2, u2x0, rfl⟩ rfl)
theorem inw_X8 : ∀ w ∈ u_ws RX8 TX8 9, w ∈ lw_good := by decide +kernel
theorem gn_RX0_55 : GN RX0 55 9 9 [.null, .int 0, .long 0, .int 0, .int 0, .int 0, .int 0, .int 0, .int 0] := ⟨RX8, TX8, 9, tyX8, rfl, inw_X8, tyX8_ok, (mT1 102 rfl rfl), (mT1 103 rfl rfl), (mT1 7 rfl rfl), (by decide +kernel), rfl⟩
theorem gn_RX8_9 : GN RX8 9 3 2 [.null, .int 0] := ⟨RX1, TX1, 2, tyX1, rfl, inw_X1, tyX1_ok, (mT1 108 rfl rfl), (mT1 43 rfl rfl), (mT1 3 rfl rfl), (by decide +kernel), rfl⟩
set_option maxRecDepth 100000 in
set_option maxHeartbeats 4000000 in
theorem mX1_init_6 (l : Launch) (D : va_G) (Y : Nat → ClassId) (h0 : Nat) (sz : Nat) : Met l yX1_init (WSm yX1_init cX1_init 2 none) (mkR 1 1 8 14) (PreC D Y [.ref h0, .int 8] [(h0, oC 3 [.null, .int 0])] sz) (QV D (fun (u : va_W) => ∃ a0 : Nat, u = [(h0, oC 3 [.ref a0, .int 0]), (a0, aI Y 8 (fun _ => 0))]) (fun (u : va_W) => u) (va_A [(h0, oC 3 [.null, .int 0])] sz)) 1 8 (va_A [(h0, oC 3 [.null, .int 0])] sz) :=
  met_of (by decide +kernel) (Nat.le_of_ble_eq_true rfl) (fun p e s m args below meth c B hin hsz => by
    have B : VB p s m args meth c D Y (va_A [(h0, oC 3 [.null, .int 0])] sz) cX1_init 2 RX1 none := B
    refine V_aload_n 0 B dX1_init_0 0 rfl ?_
    refine V_objInit 1 B (mT1 47 rfl rfl) (mT1 34 rfl rfl) (mT1 35 rfl rfl) dX1_init_1 (Nat.le_of_ble_eq_true rfl) (Nat.le_of_ble_eq_true rfl) ?_
    refine V_aload_n 4 B dX1_init_4 0 rfl ?_
    refine V_iload_n 5 B dX1_init_5 1 rfl ?_
    refine V_iconst 6 B (v := 0) dX1_init_6 (by decide +kernel) ?_
    refine V_mmax 7 B (v := 8) gm_RX1_9 dX1_init_7 (Nat.le_of_ble_eq_true rfl) (Nat.le_of_ble_eq_true rfl) (Nat.le_of_ble_eq_true rfl) (Nat.le_of_ble_eq_true rfl) (by decide +kernel) ?_
    refine V_newaI 10 B (N := 8) dX1_init_10 (mT1 58 rfl rfl) (by decide +kernel) (by decide +kernel) (by decide +kernel) (Nat.le_of_ble_eq_true rfl) (Nat.le_of_ble_eq_true rfl) (fun q0 => ?_)
    refine V_ws [(h0, oC 3 [.null, .int 0]), (q0, aI Y 8 (fun _ => 0))] rfl ?_
    refine V_putF 12 B hin gp_RX1_15 0 rfl (Nat.le_of_ble_eq_true rfl) rfl rfl dX1_init_12 [(h0, oC 3 [.ref q0, .int 0]), (q0, aI Y 8 (fun _ => 0))] rfl ?_
    refine V_aload_n 15 B dX1_init_15 0 rfl ?_
    refine V_iconst 16 B (v := 0) dX1_init_16 (by decide +kernel) ?_
    refine V_put 17 B gp_RX1_21 0 rfl (Nat.le_of_ble_eq_true rfl) rfl rfl dX1_init_17 [(h0, oC 3 [.ref q0, .int 0]), (q0, aI Y 8 (fun _ => 0))] rfl ?_
    exact V_vret 20 B dX1_init_20 [(h0, oC 3 [.ref q0, .int 0]), (q0, aI Y 8 (fun _ => 0))] ⟨q0, rfl⟩ rfl)
theorem dX8_init_0 : decode cX8_init 0 = .ok (.aload_n 0, 1) := by decide +kernel
theorem dX8_init_1 : decode cX8_init 1 = .ok (.invokespecial 3, 3) := by decide +kernel
theorem dX8_init_4 : decode cX8_init 4 = .ok (.aload_n 0, 1) := by decide +kernel
theorem dX8_init_5 : decode cX8_init 5 = .ok (.new 9, 3) := by decide +kernel
theorem dX8_init_8 : decode cX8_init 8 = .ok (.dup, 1) := by decide +kernel
theorem dX8_init_9 : decode cX8_init 9 = .ok (.bipush 8, 2) := by decide +kernel
theorem dX8_init_11 : decode cX8_init 11 = .ok (.invokespecial 11, 3) := by decide +kernel
theorem glI_RX8_11 : GLI RX8 11 yX1_init cX1_init 2 1 := ⟨⟨(mT1 109 rfl rfl), (mT1 45 rfl rfl), (mT1 3 rfl rfl), (mT1 46 rfl rfl)⟩, by decide +kernel⟩
theorem dX8_init_14 : decode cX8_init 14 = .ok (.putfield 14, 3) := by decide +kernel
theorem gp_RX8_14 : GP RX8 14 9 0 (.object "ShortcutBook$IntRow") true := ⟨RX8, TX8, 9, ⟨rfl, inw_X8, Nat.le_of_ble_eq_true rfl, (mT1 110 rfl rfl)⟩, ⟨tyX8, tyX8_ok⟩, nmX8, rfl, by decide +kernel, fun _ => rfl⟩
theorem dX8_init_17 : decode cX8_init 17 = .ok (.aload_n 0, 1) := by decide +kernel
theorem dX8_init_18 : decode cX8_init 18 = .ok (.iconst (-1), 1) := by decide +kernel
theorem dX8_init_19 : decode cX8_init 19 = .ok (.putfield 20, 3) := by decide +kernel
theorem gp_RX8_20 : GP RX8 20 9 3 .int false := ⟨RX8, TX8, 9, ⟨rfl, inw_X8, Nat.le_of_ble_eq_true rfl, (mT1 118 rfl rfl)⟩, ⟨tyX8, tyX8_ok⟩, nmX8, rfl, by decide +kernel, fun h => nomatch h⟩
theorem dX8_init_22 : decode cX8_init 22 = .ok (.return_, 1) := by decide +kernel
set_option maxRecDepth 100000 in
set_option maxHeartbeats 4000000 in
theorem mX8_init_1 (l : Launch) (D : va_G) (Y : Nat → ClassId) (h0 : Nat) (sz : Nat) : Met l yX8_init (WSm yX8_init cX8_init 1 none) (mkR 2 2 10 35) (PreC D Y [.ref h0] [(h0, oC 9 [.null, .int 0, .long 0, .int 0, .int 0, .int 0, .int 0, .int 0, .int 0])] sz) (QV D (fun (u : va_W) => ∃ a0 a1 : Nat, u = [(h0, oC 9 [.ref a0, .int 0, .long 0, .int (-1), .int 0, .int 0, .int 0, .int 0, .int 0]), (a0, oC 3 [.ref a1, .int 0]), (a1, aI Y 8 (fun _ => 0))]) (fun (u : va_W) => u) (va_A [(h0, oC 9 [.null, .int 0, .long 0, .int 0, .int 0, .int 0, .int 0, .int 0, .int 0])] sz)) 2 10 (va_A [(h0, oC 9 [.null, .int 0, .long 0, .int 0, .int 0, .int 0, .int 0, .int 0, .int 0])] sz) :=
  met_of (by decide +kernel) (Nat.le_of_ble_eq_true rfl) (fun p e s m args below meth c B hin hsz => by
    have B : VB p s m args meth c D Y (va_A [(h0, oC 9 [.null, .int 0, .long 0, .int 0, .int 0, .int 0, .int 0, .int 0, .int 0])] sz) cX8_init 1 RX8 none := B
    refine V_aload_n 0 B dX8_init_0 0 rfl ?_
    refine V_objInit 1 B (mT1 107 rfl rfl) (mT1 34 rfl rfl) (mT1 35 rfl rfl) dX8_init_1 (Nat.le_of_ble_eq_true rfl) (Nat.le_of_ble_eq_true rfl) ?_
    refine V_aload_n 4 B dX8_init_4 0 rfl ?_
    refine V_new 5 B gn_RX8_9 dX8_init_5 (Nat.le_of_ble_eq_true rfl) (Nat.le_of_ble_eq_true rfl) (fun q0 => ?_)
    refine V_ws [(h0, oC 9 [.null, .int 0, .long 0, .int 0, .int 0, .int 0, .int 0, .int 0, .int 0]), (q0, oC 3 [.null, .int 0])] rfl ?_
    refine V_dup 8 B dX8_init_8 rfl ?_
    refine V_bipush 9 B (v := 8) dX8_init_9 (by decide +kernel) ?_
    refine V_civ 11 B (st := [.ref q0, .ref h0]) (As := [.int 8]) (fun sz => mX1_init_6 l D Y (q0) sz) glI_RX8_11 ⟨rfl, rfl⟩ ⟨(Nat.le_of_ble_eq_true rfl), (Nat.le_of_ble_eq_true rfl)⟩ ⟨(Nat.le_of_ble_eq_true rfl), (Nat.le_of_ble_eq_true rfl)⟩ [1] rfl rfl (Nat.le_of_ble_eq_true rfl) rfl (fun u w => by
        obtain ⟨u0x0, rfl⟩ := w
        rfl) dX8_init_11 (fun u0 w0 => ?_)
    obtain ⟨u0x0, rfl⟩ := w0
    refine V_ws [(h0, oC 9 [.null, .int 0, .long 0, .int 0, .int 0, .int 0, .int 0, .int 0, .int 0]), (q0, oC 3 [.ref u0x0, .int 0]), (u0x0, aI Y 8 (fun _ => 0))] rfl ?_
    refine V_putF 14 B hin gp_RX8_14 0 rfl (Nat.le_of_ble_eq_true rfl) rfl rfl dX8_init_14 [(h0, oC 9 [.ref q0, .int 0, .long 0, .int 0, .int 0, .int 0, .int 0, .int 0, .int 0]), (q0, oC 3 [.ref u0x0, .int 0]), (u0x0, aI Y 8 (fun _ => 0))] rfl ?_
    refine V_aload_n 17 B dX8_init_17 0 rfl ?_
    refine V_iconst 18 B (v := (-1)) dX8_init_18 (by decide +kernel) ?_
    refine V_put 19 B gp_RX8_20 0 rfl (Nat.le_of_ble_eq_true rfl) rfl rfl dX8_init_19 [(h0, oC 9 [.ref q0, .int 0, .long 0, .int (-1), .int 0, .int 0, .int 0, .int 0, .int 0]), (q0, oC 3 [.ref u0x0, .int 0]), (u0x0, aI Y 8 (fun _ => 0))] rfl ?_
    exact V_vret 22 B dX8_init_22 [(h0, oC 9 [.ref q0, .int 0, .long 0, .int (-1), .int 0, .int 0, .int 0, .int 0, .int 0]), (q0, oC 3 [.ref u0x0, .int 0]), (u0x0, aI Y 8 (fun _ => 0))] ⟨q0, u0x0, rfl⟩ rfl)
theorem dX1_push_0 : decode cX1_push 0 = .ok (.aload_n 0, 1) := by decide +kernel
theorem dX1_push_1 : decode cX1_push 1 = .ok (.getfield 21, 3) := by decide +kernel
theorem gf_RX1_21 : GF RX1 21 3 1 := ⟨RX1, TX1, 2, rfl, inw_X1, Nat.le_of_ble_eq_true rfl, (mT1 52 rfl rfl)⟩
theorem dX1_push_4 : decode cX1_push 4 = .ok (.ifCond .lt 15, 3) := by decide +kernel
theorem dX1_push_7 : decode cX1_push 7 = .ok (.aload_n 0, 1) := by decide +kernel
theorem dX1_push_8 : decode cX1_push 8 = .ok (.getfield 21, 3) := by decide +kernel
theorem dX1_push_11 : decode cX1_push 11 = .ok (.aload_n 0, 1) := by decide +kernel
theorem dX1_push_12 : decode cX1_push 12 = .ok (.getfield 15, 3) := by decide +kernel
theorem gf_RX1_15 : GF RX1 15 3 0 := ⟨RX1, TX1, 2, rfl, inw_X1, Nat.le_of_ble_eq_true rfl, (mT1 51 rfl rfl)⟩
theorem dX1_push_15 : decode cX1_push 15 = .ok (.arraylength, 1) := by decide +kernel
theorem dX1_push_16 : decode cX1_push 16 = .ok (.if_icmp .lt 5, 3) := by decide +kernel
theorem dX1_push_21 : decode cX1_push 21 = .ok (.aload_n 0, 1) := by decide +kernel
theorem dX1_push_22 : decode cX1_push 22 = .ok (.getfield 15, 3) := by decide +kernel
theorem dX1_push_25 : decode cX1_push 25 = .ok (.aload_n 0, 1) := by decide +kernel
theorem dX1_push_26 : decode cX1_push 26 = .ok (.getfield 21, 3) := by decide +kernel
theorem dX1_push_29 : decode cX1_push 29 = .ok (.iload_n 1, 1) := by decide +kernel
theorem dX1_push_30 : decode cX1_push 30 = .ok (.iastore, 1) := by decide +kernel
theorem dX1_push_31 : decode cX1_push 31 = .ok (.aload_n 0, 1) := by decide +kernel
theorem dX1_push_32 : decode cX1_push 32 = .ok (.dup, 1) := by decide +kernel
theorem dX1_push_33 : decode cX1_push 33 = .ok (.getfield 21, 3) := by decide +kernel
theorem dX1_push_36 : decode cX1_push 36 = .ok (.iconst 1, 1) := by decide +kernel
theorem dX1_push_37 : decode cX1_push 37 = .ok (.iadd, 1) := by decide +kernel
theorem dX1_push_38 : decode cX1_push 38 = .ok (.putfield 21, 3) := by decide +kernel
theorem dX1_push_41 : decode cX1_push 41 = .ok (.iconst 1, 1) := by decide +kernel
theorem dX1_push_42 : decode cX1_push 42 = .ok (.ireturn, 1) := by decide +kernel
set_option maxRecDepth 100000 in
set_option maxHeartbeats 4000000 in
theorem mX1_push_1 (l : Launch) (D : va_G) (Y : Nat → ClassId) (h0 : Nat) (h1 : Nat) (sz : Nat) : Met l yX1_push (WSm yX1_push cX1_push 2 (some .boolean)) (mkR 0 0 0 0) (PreC D Y [.ref h0, .int (-1)] [(h0, oC 3 [.ref h1, .int 0]), (h1, aI Y 6 (fun _ => 0))] sz) (QI D (fun (r : Int32) (u : Unit) => 1 = r) (fun (_ : Unit) => [(h0, oC 3 [.ref h1, .int 1]), (h1, aI Y 6 (upd (fun _ => 0) 0 (-1)))]) (va_A [(h0, oC 3 [.ref h1, .int 0]), (h1, aI Y 6 (fun _ => 0))] sz)) 0 0 (va_A [(h0, oC 3 [.ref h1, .int 0]), (h1, aI Y 6 (fun _ => 0))] sz) :=
  met_of (by decide +kernel) (Nat.le_of_ble_eq_true rfl) (fun p e s m args below meth c B hin hsz => by
    have B : VB p s m args meth c D Y (va_A [(h0, oC 3 [.ref h1, .int 0]), (h1, aI Y 6 (fun _ => 0))] sz) cX1_push 2 RX1 (some .boolean) := B
    refine V_aload_n 0 B dX1_push_0 0 rfl ?_
    refine V_get 1 B gf_RX1_21 0 rfl rfl dX1_push_1 ?_
    refine V_if_lt_f 4 B 19 dX1_push_4 (by decide) (by decide +kernel) ?_
    refine V_aload_n 7 B dX1_push_7 0 rfl ?_
    refine V_get 8 B gf_RX1_21 0 rfl rfl dX1_push_8 ?_
    refine V_aload_n 11 B dX1_push_11 0 rfl ?_
    refine V_get 12 B gf_RX1_15 0 rfl rfl dX1_push_12 ?_
    refine V_alenI 15 B (v := 6) 1 rfl (by decide +kernel) dX1_push_15 ?_
    refine V_icmp_lt_t 16 B 21 dX1_push_16 (by decide) (by decide +kernel) ?_
    refine V_aload_n 21 B dX1_push_21 0 rfl ?_
    refine V_get 22 B gf_RX1_15 0 rfl rfl dX1_push_22 ?_
    refine V_aload_n 25 B dX1_push_25 0 rfl ?_
    refine V_get 26 B gf_RX1_21 0 rfl rfl dX1_push_26 ?_
    refine V_iload_n 29 B dX1_push_29 1 rfl ?_
    refine V_iast 30 B 1 rfl (vpin _ _ (by decide +kernel)) dX1_push_30 [(h0, oC 3 [.ref h1, .int 0]), (h1, aI Y 6 (upd (fun _ => 0) 0 (-1)))] rfl ?_
    refine V_aload_n 31 B dX1_push_31 0 rfl ?_
    refine V_dup 32 B dX1_push_32 rfl ?_
    refine V_get 33 B gf_RX1_21 0 rfl rfl dX1_push_33 ?_
    refine V_iconst 36 B (v := 1) dX1_push_36 (by decide +kernel) ?_
    refine V_iadd 37 B (v := 1) dX1_push_37 (by decide +kernel) ?_
    refine V_put 38 B gp_RX1_21 0 rfl (Nat.le_of_ble_eq_true rfl) rfl rfl dX1_push_38 [(h0, oC 3 [.ref h1, .int 1]), (h1, aI Y 6 (upd (fun _ => 0) 0 (-1)))] rfl ?_
    refine V_iconst 41 B (v := 1) dX1_push_41 (by decide +kernel) ?_
    exact V_zret 42 B rfl dX1_push_42 () rfl rfl)
theorem dX0_init_0 : decode cX0_init 0 = .ok (.aload_n 0, 1) := by decide +kernel
theorem dX0_init_1 : decode cX0_init 1 = .ok (.invokespecial 3, 3) := by decide +kernel
theorem dX0_init_4 : decode cX0_init 4 = .ok (.aload_n 0, 1) := by decide +kernel
theorem dX0_init_5 : decode cX0_init 5 = .ok (.new 9, 3) := by decide +kernel
theorem dX0_init_8 : decode cX0_init 8 = .ok (.dup, 1) := by decide +kernel
theorem dX0_init_9 : decode cX0_init 9 = .ok (.bipush 6, 2) := by decide +kernel
theorem dX0_init_11 : decode cX0_init 11 = .ok (.invokespecial 11, 3) := by decide +kernel
theorem glI_RX0_11 : GLI RX0 11 yX1_init cX1_init 2 1 := ⟨⟨(mT1 44 rfl rfl), (mT1 45 rfl rfl), (mT1 3 rfl rfl), (mT1 46 rfl rfl)⟩, by decide +kernel⟩
theorem dX0_init_14 : decode cX0_init 14 = .ok (.putfield 14, 3) := by decide +kernel
theorem gp_RX0_14 : GP RX0 14 2 0 (.object "ShortcutBook$IntRow") true := ⟨RX0, TX0, 12, ⟨rfl, inw_X0, Nat.le_of_ble_eq_true rfl, (mT1 159 rfl rfl)⟩, ⟨tyX0, tyX0_ok⟩, nmX0, rfl, by decide +kernel, fun _ => rfl⟩
theorem dX0_init_17 : decode cX0_init 17 = .ok (.aload_n 0, 1) := by decide +kernel
theorem dX0_init_18 : decode cX0_init 18 = .ok (.new 9, 3) := by decide +kernel
theorem dX0_init_21 : decode cX0_init 21 = .ok (.dup, 1) := by decide +kernel
theorem dX0_init_22 : decode cX0_init 22 = .ok (.bipush 40, 2) := by decide +kernel
theorem dX0_init_24 : decode cX0_init 24 = .ok (.invokespecial 11, 3) := by decide +kernel
theorem dX0_init_27 : decode cX0_init 27 = .ok (.putfield 20, 3) := by decide +kernel
theorem gp_RX0_20 : GP RX0 20 2 1 (.object "ShortcutBook$IntRow") true := ⟨RX0, TX0, 12, ⟨rfl, inw_X0, Nat.le_of_ble_eq_true rfl, (mT1 163 rfl rfl)⟩, ⟨tyX0, tyX0_ok⟩, nmX0, rfl, by decide +kernel, fun _ => rfl⟩
theorem dX0_init_30 : decode cX0_init 30 = .ok (.aload_n 0, 1) := by decide +kernel
theorem dX0_init_31 : decode cX0_init 31 = .ok (.new 9, 3) := by decide +kernel
theorem dX0_init_34 : decode cX0_init 34 = .ok (.dup, 1) := by decide +kernel
theorem dX0_init_35 : decode cX0_init 35 = .ok (.bipush 40, 2) := by decide +kernel
theorem dX0_init_37 : decode cX0_init 37 = .ok (.invokespecial 11, 3) := by decide +kernel
theorem dX0_init_40 : decode cX0_init 40 = .ok (.putfield 23, 3) := by decide +kernel
theorem gp_RX0_23 : GP RX0 23 2 2 (.object "ShortcutBook$IntRow") true := ⟨RX0, TX0, 12, ⟨rfl, inw_X0, Nat.le_of_ble_eq_true rfl, (mT1 167 rfl rfl)⟩, ⟨tyX0, tyX0_ok⟩, nmX0, rfl, by decide +kernel, fun _ => rfl⟩
theorem dX0_init_43 : decode cX0_init 43 = .ok (.aload_n 0, 1) := by decide +kernel
theorem dX0_init_44 : decode cX0_init 44 = .ok (.new 9, 3) := by decide +kernel
theorem dX0_init_47 : decode cX0_init 47 = .ok (.dup, 1) := by decide +kernel
theorem dX0_init_48 : decode cX0_init 48 = .ok (.bipush 40, 2) := by decide +kernel
theorem dX0_init_50 : decode cX0_init 50 = .ok (.invokespecial 11, 3) := by decide +kernel
theorem dX0_init_53 : decode cX0_init 53 = .ok (.putfield 26, 3) := by decide +kernel
theorem gp_RX0_26 : GP RX0 26 2 3 (.object "ShortcutBook$IntRow") true := ⟨RX0, TX0, 12, ⟨rfl, inw_X0, Nat.le_of_ble_eq_true rfl, (mT1 171 rfl rfl)⟩, ⟨tyX0, tyX0_ok⟩, nmX0, rfl, by decide +kernel, fun _ => rfl⟩
theorem dX0_init_56 : decode cX0_init 56 = .ok (.aload_n 0, 1) := by decide +kernel
theorem dX0_init_57 : decode cX0_init 57 = .ok (.new 29, 3) := by decide +kernel
theorem dX0_init_60 : decode cX0_init 60 = .ok (.dup, 1) := by decide +kernel
theorem dX0_init_61 : decode cX0_init 61 = .ok (.bipush 6, 2) := by decide +kernel
theorem dX0_init_63 : decode cX0_init 63 = .ok (.invokespecial 31, 3) := by decide +kernel
theorem glI_RX0_31 : GLI RX0 31 yX5_init cX5_init 2 1 := ⟨⟨(mT1 61 rfl rfl), (mT1 62 rfl rfl), (mT1 5 rfl rfl), (mT1 63 rfl rfl)⟩, by decide +kernel⟩
theorem dX0_init_66 : decode cX0_init 66 = .ok (.putfield 32, 3) := by decide +kernel
theorem gp_RX0_32 : GP RX0 32 2 4 (.object "ShortcutBook$SequenceRow") true := ⟨RX0, TX0, 12, ⟨rfl, inw_X0, Nat.le_of_ble_eq_true rfl, (mT1 174 rfl rfl)⟩, ⟨tyX0, tyX0_ok⟩, nmX0, rfl, by decide +kernel, fun _ => rfl⟩
theorem dX0_init_69 : decode cX0_init 69 = .ok (.aload_n 0, 1) := by decide +kernel
theorem dX0_init_70 : decode cX0_init 70 = .ok (.new 9, 3) := by decide +kernel
theorem dX0_init_73 : decode cX0_init 73 = .ok (.dup, 1) := by decide +kernel
theorem dX0_init_74 : decode cX0_init 74 = .ok (.bipush 80, 2) := by decide +kernel
theorem dX0_init_76 : decode cX0_init 76 = .ok (.invokespecial 11, 3) := by decide +kernel
theorem dX0_init_79 : decode cX0_init 79 = .ok (.putfield 36, 3) := by decide +kernel
theorem gp_RX0_36 : GP RX0 36 2 5 (.object "ShortcutBook$IntRow") true := ⟨RX0, TX0, 12, ⟨rfl, inw_X0, Nat.le_of_ble_eq_true rfl, (mT1 178 rfl rfl)⟩, ⟨tyX0, tyX0_ok⟩, nmX0, rfl, by decide +kernel, fun _ => rfl⟩
theorem dX0_init_82 : decode cX0_init 82 = .ok (.aload_n 0, 1) := by decide +kernel
theorem dX0_init_83 : decode cX0_init 83 = .ok (.new 9, 3) := by decide +kernel
theorem dX0_init_86 : decode cX0_init 86 = .ok (.dup, 1) := by decide +kernel
theorem dX0_init_87 : decode cX0_init 87 = .ok (.bipush 80, 2) := by decide +kernel
theorem dX0_init_89 : decode cX0_init 89 = .ok (.invokespecial 11, 3) := by decide +kernel
theorem dX0_init_92 : decode cX0_init 92 = .ok (.putfield 39, 3) := by decide +kernel
theorem gp_RX0_39 : GP RX0 39 2 6 (.object "ShortcutBook$IntRow") true := ⟨RX0, TX0, 12, ⟨rfl, inw_X0, Nat.le_of_ble_eq_true rfl, (mT1 182 rfl rfl)⟩, ⟨tyX0, tyX0_ok⟩, nmX0, rfl, by decide +kernel, fun _ => rfl⟩
theorem dX0_init_95 : decode cX0_init 95 = .ok (.aload_n 0, 1) := by decide +kernel
theorem dX0_init_96 : decode cX0_init 96 = .ok (.new 29, 3) := by decide +kernel
theorem dX0_init_99 : decode cX0_init 99 = .ok (.dup, 1) := by decide +kernel
theorem dX0_init_100 : decode cX0_init 100 = .ok (.bipush 80, 2) := by decide +kernel
theorem dX0_init_102 : decode cX0_init 102 = .ok (.invokespecial 31, 3) := by decide +kernel
theorem dX0_init_105 : decode cX0_init 105 = .ok (.putfield 42, 3) := by decide +kernel
theorem gp_RX0_42 : GP RX0 42 2 7 (.object "ShortcutBook$SequenceRow") true := ⟨RX0, TX0, 12, ⟨rfl, inw_X0, Nat.le_of_ble_eq_true rfl, (mT1 186 rfl rfl)⟩, ⟨tyX0, tyX0_ok⟩, nmX0, rfl, by decide +kernel, fun _ => rfl⟩
theorem dX0_init_108 : decode cX0_init 108 = .ok (.aload_n 0, 1) := by decide +kernel
theorem dX0_init_109 : decode cX0_init 109 = .ok (.new 29, 3) := by decide +kernel
theorem dX0_init_112 : decode cX0_init 112 = .ok (.dup, 1) := by decide +kernel
theorem dX0_init_113 : decode cX0_init 113 = .ok (.bipush 10, 2) := by decide +kernel
theorem dX0_init_115 : decode cX0_init 115 = .ok (.invokespecial 31, 3) := by decide +kernel
theorem dX0_init_118 : decode cX0_init 118 = .ok (.putfield 45, 3) := by decide +kernel
theorem gp_RX0_45 : GP RX0 45 2 8 (.object "ShortcutBook$SequenceRow") true := ⟨RX0, TX0, 12, ⟨rfl, inw_X0, Nat.le_of_ble_eq_true rfl, (mT1 190 rfl rfl)⟩, ⟨tyX0, tyX0_ok⟩, nmX0, rfl, by decide +kernel, fun _ => rfl⟩
theorem dX0_init_121 : decode cX0_init 121 = .ok (.aload_n 0, 1) := by decide +kernel
theorem dX0_init_122 : decode cX0_init 122 = .ok (.new 48, 3) := by decide +kernel
theorem dX0_init_125 : decode cX0_init 125 = .ok (.dup, 1) := by decide +kernel
theorem dX0_init_126 : decode cX0_init 126 = .ok (.invokespecial 50, 3) := by decide +kernel
theorem glI_RX0_50 : GLI RX0 50 yX2_init cX2_init 1 0 := ⟨⟨(mT1 76 rfl rfl), (mT1 77 rfl rfl), (mT1 6 rfl rfl), (mT1 78 rfl rfl)⟩, by decide +kernel⟩
theorem dX0_init_129 : decode cX0_init 129 = .ok (.putfield 51, 3) := by decide +kernel
theorem gp_RX0_51 : GP RX0 51 2 9 (.object "ShortcutBook$Layers") true := ⟨RX0, TX0, 12, ⟨rfl, inw_X0, Nat.le_of_ble_eq_true rfl, (mT1 193 rfl rfl)⟩, ⟨tyX0, tyX0_ok⟩, nmX0, rfl, by decide +kernel, fun _ => rfl⟩
theorem dX0_init_132 : decode cX0_init 132 = .ok (.aload_n 0, 1) := by decide +kernel
theorem dX0_init_133 : decode cX0_init 133 = .ok (.new 55, 3) := by decide +kernel
theorem dX0_init_136 : decode cX0_init 136 = .ok (.dup, 1) := by decide +kernel
theorem dX0_init_137 : decode cX0_init 137 = .ok (.invokespecial 57, 3) := by decide +kernel
theorem glI_RX0_57 : GLI RX0 57 yX8_init cX8_init 1 0 := ⟨⟨(mT1 104 rfl rfl), (mT1 105 rfl rfl), (mT1 7 rfl rfl), (mT1 106 rfl rfl)⟩, by decide +kernel⟩
theorem dX0_init_140 : decode cX0_init 140 = .ok (.putfield 58, 3) := by decide +kernel
theorem gp_RX0_58 : GP RX0 58 2 10 (.object "ShortcutBook$Typing") true := ⟨RX0, TX0, 12, ⟨rfl, inw_X0, Nat.le_of_ble_eq_true rfl, (mT1 198 rfl rfl)⟩, ⟨tyX0, tyX0_ok⟩, nmX0, rfl, by decide +kernel, fun _ => rfl⟩
theorem dX0_init_143 : decode cX0_init 143 = .ok (.aload_n 0, 1) := by decide +kernel
theorem dX0_init_144 : decode cX0_init 144 = .ok (.iconst 0, 1) := by decide +kernel
theorem dX0_init_145 : decode cX0_init 145 = .ok (.putfield 62, 3) := by decide +kernel
theorem gp_RX0_62 : GP RX0 62 2 11 .boolean false := ⟨RX0, TX0, 12, ⟨rfl, inw_X0, Nat.le_of_ble_eq_true rfl, (mT1 203 rfl rfl)⟩, ⟨tyX0, tyX0_ok⟩, nmX0, rfl, by decide +kernel, fun h => nomatch h⟩
theorem dX0_init_148 : decode cX0_init 148 = .ok (.aload_n 0, 1) := by decide +kernel
theorem dX0_init_149 : decode cX0_init 149 = .ok (.getfield 14, 3) := by decide +kernel
theorem gf_RX0_14 : GF RX0 14 2 0 := ⟨RX0, TX0, 12, rfl, inw_X0, Nat.le_of_ble_eq_true rfl, (mT1 159 rfl rfl)⟩
theorem dX0_init_152 : decode cX0_init 152 = .ok (.iconst (-1), 1) := by decide +kernel
theorem dX0_init_153 : decode cX0_init 153 = .ok (.invokevirtual 66, 3) := by decide +kernel
theorem glV_RX0_66 : GLV RX0 66 yX1_push RX1 cX1_push 2 (some .boolean) 1 := ⟨⟨(mT1 155 rfl rfl), (mT1 156 rfl rfl), (mT1 157 rfl rfl), (mT1 3 rfl rfl), (mT1 158 rfl rfl)⟩, by decide +kernel⟩
theorem dX0_init_156 : decode cX0_init 156 = .ok (.pop, 1) := by decide +kernel
theorem dX0_init_157 : decode cX0_init 157 = .ok (.return_, 1) := by decide +kernel
set_option maxRecDepth 100000 in
set_option maxHeartbeats 4000000 in
theorem mX0_init_1 (l : Launch) (D : va_G) (Y : Nat → ClassId) (h0 : Nat) (sz : Nat) : Met l yX0_init (WSm yX0_init cX0_init 1 none) (mkR 3 28 541 55) (PreC D Y [.ref h0] [(h0, oC 2 [.null, .null, .null, .null, .null, .null, .null, .null, .null, .null, .null, .int 0])] sz) (QV D (fun (u : va_W) => ∃ a0 a1 a2 a3 a4 a5 a6 a7 a8 a9 a10 a11 a12 a13 a14 a15 a16 a17 a18 a19 a20 a21 a22 a23 a24 a25 a26 a27 : Nat, u = [(h0, oC 2 [.ref a0, .ref a2, .ref a4, .ref a6, .ref a8, .ref a10, .ref a12, .ref a14, .ref a16, .ref a18, .ref a25, .int 0]), (a0, oC 3 [.ref a1, .int 1]), (a1, aI Y 6 (upd (fun _ => 0) 0 (-1))), (a2, oC 3 [.ref a3, .int 0]), (a3, aI Y 40 (fun _ => 0)), (a4, oC 3 [.ref a5, .int 0]), (a5, aI Y 40 (fun _ => 0)), (a6, oC 3 [.ref a7, .int 0]), (a7, aI Y 40 (fun _ => 0)), (a8, oC 7 [.ref a9, .int 0]), (a9, aJ Y 6 (fun _ => 0)), (a10, oC 3 [.ref a11, .int 0]), (a11, aI Y 80 (fun _ => 0)), (a12, oC 3 [.ref a13, .int 0]), (a13, aI Y 80 (fun _ => 0)), (a14, oC 7 [.ref a15, .int 0]), (a15, aJ Y 80 (fun _ => 0)), (a16, oC 7 [.ref a17, .int 0]), (a17, aJ Y 10 (fun _ => 0)), (a18, oC 4 [.ref a19, .ref a21, .ref a23, .int 0]), (a19, oC 3 [.ref a20, .int 0]), (a20, aI Y 4 (fun _ => 0)), (a21, oC 3 [.ref a22, .int 0]), (a22, aI Y 4 (fun _ => 0)), (a23, oC 3 [.ref a24, .int 0]), (a24, aI Y 104 (fun _ => 0)), (a25, oC 9 [.ref a26, .int 0, .long 0, .int (-1), .int 0, .int 0, .int 0, .int 0, .int 0]), (a26, oC 3 [.ref a27, .int 0]), (a27, aI Y 8 (fun _ => 0))]) (fun (u : va_W) => u) (va_A [(h0, oC 2 [.null, .null, .null, .null, .null, .null, .null, .null, .null, .null, .null, .int 0])] sz)) 28 541 (va_A [(h0, oC 2 [.null, .null, .null, .null, .null, .null, .null, .null, .null, .null, .null, .int 0])] sz) :=
  met_of (by decide +kernel) (Nat.le_of_ble_eq_true rfl) (fun p e s m args below meth c B hin hsz => by
    have B : VB p s m args meth c D Y (va_A [(h0, oC 2 [.null, .null, .null, .null, .null, .null, .null, .null, .null, .null, .null, .int 0])] sz) cX0_init 1 RX0 none := B
    refine V_aload_n 0 B dX0_init_0 0 rfl ?_
    refine V_objInit 1 B (mT1 41 rfl rfl) (mT1 34 rfl rfl) (mT1 35 rfl rfl) dX0_init_1 (Nat.le_of_ble_eq_true rfl) (Nat.le_of_ble_eq_true rfl) ?_
    refine V_aload_n 4 B dX0_init_4 0 rfl ?_
    refine V_new 5 B gn_RX0_9 dX0_init_5 (Nat.le_of_ble_eq_true rfl) (Nat.le_of_ble_eq_true rfl) (fun q0 => ?_)
    refine V_ws [(h0, oC 2 [.null, .null, .null, .null, .null, .null, .null, .null, .null, .null, .null, .int 0]), (q0, oC 3 [.null, .int 0])] rfl ?_
    refine V_dup 8 B dX0_init_8 rfl ?_
    refine V_bipush 9 B (v := 6) dX0_init_9 (by decide +kernel) ?_
    refine V_civ 11 B (st := [.ref q0, .ref h0]) (As := [.int 6]) (fun sz => mX1_init_1 l D Y (q0) sz) glI_RX0_11 ⟨rfl, rfl⟩ ⟨(Nat.le_of_ble_eq_true rfl), (Nat.le_of_ble_eq_true rfl)⟩ ⟨(Nat.le_of_ble_eq_true rfl), (Nat.le_of_ble_eq_true rfl)⟩ [1] rfl rfl (Nat.le_of_ble_eq_true rfl) rfl (fun u w => by
        obtain ⟨u0x0, rfl⟩ := w
        rfl) dX0_init_11 (fun u0 w0 => ?_)
    obtain ⟨u0x0, rfl⟩ := w0
    refine V_ws [(h0, oC 2 [.null, .null, .null, .null, .null, .null, .null, .null, .null, .null, .null, .int 0]), (q0, oC 3 [.ref u0x0, .int 0]), (u0x0, aI Y 6 (fun _ => 0))] rfl ?_
    refine V_putF 14 B hin gp_RX0_14 0 rfl (Nat.le_of_ble_eq_true rfl) rfl rfl dX0_init_14 [(h0, oC 2 [.ref q0, .null, .null, .null, .null, .null, .null, .null, .null, .null, .null, .int 0]), (q0, oC 3 [.ref u0x0, .int 0]), (u0x0, aI Y 6 (fun _ => 0))] rfl ?_
    refine V_aload_n 17 B dX0_init_17 0 rfl ?_
    refine V_new 18 B gn_RX0_9 dX0_init_18 (Nat.le_of_ble_eq_true rfl) (Nat.le_of_ble_eq_true rfl) (fun q1 => ?_)
    refine V_ws [(h0, oC 2 [.ref q0, .null, .null, .null, .null, .null, .null, .null, .null, .null, .null, .int 0]), (q0, oC 3 [.ref u0x0, .int 0]), (u0x0, aI Y 6 (fun _ => 0)), (q1, oC 3 [.null, .int 0])] rfl ?_
    refine V_dup 21 B dX0_init_21 rfl ?_
    refine V_bipush 22 B (v := 40) dX0_init_22 (by decide +kernel) ?_
    refine V_civ 24 B (st := [.ref q1, .ref h0]) (As := [.int 40]) (fun sz => mX1_init_2 l D Y (q1) sz) glI_RX0_11 ⟨rfl, rfl⟩ ⟨(Nat.le_of_ble_eq_true rfl), (Nat.le_of_ble_eq_true rfl)⟩ ⟨(Nat.le_of_ble_eq_true rfl), (Nat.le_of_ble_eq_true rfl)⟩ [3] rfl rfl (Nat.le_of_ble_eq_true rfl) rfl (fun u w => by
        obtain ⟨u1x0, rfl⟩ := w
        rfl) dX0_init_24 (fun u1 w1 => ?_)
    obtain ⟨u1x0, rfl⟩ := w1
    refine V_ws [(h0, oC 2 [.ref q0, .null, .null, .null, .null, .null, .null, .null, .null, .null, .null, .int 0]), (q0, oC 3 [.ref u0x0, .int 0]), (u0x0, aI Y 6 (fun _ => 0)), (q1, oC 3 [.ref u1x0, .int 0]), (u1x0, aI Y 40 (fun _ => 0))] rfl ?_
    refine V_putF 27 B hin gp_RX0_20 0 rfl (Nat.le_of_ble_eq_true rfl) rfl rfl dX0_init_27 [(h0, oC 2 [.ref q0, .ref q1, .null, .null, .null, .null, .null, .null, .null, .null, .null, .int 0]), (q0, oC 3 [.ref u0x0, .int 0]), (u0x0, aI Y 6 (fun _ => 0)), (q1, oC 3 [.ref u1x0, .int 0]), (u1x0, aI Y 40 (fun _ => 0))] rfl ?_
    refine V_aload_n 30 B dX0_init_30 0 rfl ?_
    refine V_new 31 B gn_RX0_9 dX0_init_31 (Nat.le_of_ble_eq_true rfl) (Nat.le_of_ble_eq_true rfl) (fun q2 => ?_)
    refine V_ws [(h0, oC 2 [.ref q0, .ref q1, .null, .null, .null, .null, .null, .null, .null, .null, .null, .int 0]), (q0, oC 3 [.ref u0x0, .int 0]), (u0x0, aI Y 6 (fun _ => 0)), (q1, oC 3 [.ref u1x0, .int 0]), (u1x0, aI Y 40 (fun _ => 0)), (q2, oC 3 [.null, .int 0])] rfl ?_
    refine V_dup 34 B dX0_init_34 rfl ?_
    refine V_bipush 35 B (v := 40) dX0_init_35 (by decide +kernel) ?_
    refine V_civ 37 B (st := [.ref q2, .ref h0]) (As := [.int 40]) (fun sz => mX1_init_2 l D Y (q2) sz) glI_RX0_11 ⟨rfl, rfl⟩ ⟨(Nat.le_of_ble_eq_true rfl), (Nat.le_of_ble_eq_true rfl)⟩ ⟨(Nat.le_of_ble_eq_true rfl), (Nat.le_of_ble_eq_true rfl)⟩ [5] rfl rfl (Nat.le_of_ble_eq_true rfl) rfl (fun u w => by
        obtain ⟨u2x0, rfl⟩ := w
        rfl) dX0_init_37 (fun u2 w2 => ?_)
    obtain ⟨u2x0, rfl⟩ := w2
    refine V_ws [(h0, oC 2 [.ref q0, .ref q1, .null, .null, .null, .null, .null, .null, .null, .null, .null, .int 0]), (q0, oC 3 [.ref u0x0, .int 0]), (u0x0, aI Y 6 (fun _ => 0)), (q1, oC 3 [.ref u1x0, .int 0]), (u1x0, aI Y 40 (fun _ => 0)), (q2, oC 3 [.ref u2x0, .int 0]), (u2x0, aI Y 40 (fun _ => 0))] rfl ?_
    refine V_putF 40 B hin gp_RX0_23 0 rfl (Nat.le_of_ble_eq_true rfl) rfl rfl dX0_init_40 [(h0, oC 2 [.ref q0, .ref q1, .ref q2, .null, .null, .null, .null, .null, .null, .null, .null, .int 0]), (q0, oC 3 [.ref u0x0, .int 0]), (u0x0, aI Y 6 (fun _ => 0)), (q1, oC 3 [.ref u1x0, .int 0]), (u1x0, aI Y 40 (fun _ => 0)), (q2, oC 3 [.ref u2x0, .int 0]), (u2x0, aI Y 40 (fun _ => 0))] rfl ?_
    refine V_aload_n 43 B dX0_init_43 0 rfl ?_
    refine V_new 44 B gn_RX0_9 dX0_init_44 (Nat.le_of_ble_eq_true rfl) (Nat.le_of_ble_eq_true rfl) (fun q3 => ?_)
    refine V_ws [(h0, oC 2 [.ref q0, .ref q1, .ref q2, .null, .null, .null, .null, .null, .null, .null, .null, .int 0]), (q0, oC 3 [.ref u0x0, .int 0]), (u0x0, aI Y 6 (fun _ => 0)), (q1, oC 3 [.ref u1x0, .int 0]), (u1x0, aI Y 40 (fun _ => 0)), (q2, oC 3 [.ref u2x0, .int 0]), (u2x0, aI Y 40 (fun _ => 0)), (q3, oC 3 [.null, .int 0])] rfl ?_
    refine V_dup 47 B dX0_init_47 rfl ?_
    refine V_bipush 48 B (v := 40) dX0_init_48 (by decide +kernel) ?_
    refine V_civ 50 B (st := [.ref q3, .ref h0]) (As := [.int 40]) (fun sz => mX1_init_2 l D Y (q3) sz) glI_RX0_11 ⟨rfl, rfl⟩ ⟨(Nat.le_of_ble_eq_true rfl), (Nat.le_of_ble_eq_true rfl)⟩ ⟨(Nat.le_of_ble_eq_true rfl), (Nat.le_of_ble_eq_true rfl)⟩ [7] rfl rfl (Nat.le_of_ble_eq_true rfl) rfl (fun u w => by
        obtain ⟨u3x0, rfl⟩ := w
        rfl) dX0_init_50 (fun u3 w3 => ?_)
    obtain ⟨u3x0, rfl⟩ := w3
    refine V_ws [(h0, oC 2 [.ref q0, .ref q1, .ref q2, .null, .null, .null, .null, .null, .null, .null, .null, .int 0]), (q0, oC 3 [.ref u0x0, .int 0]), (u0x0, aI Y 6 (fun _ => 0)), (q1, oC 3 [.ref u1x0, .int 0]), (u1x0, aI Y 40 (fun _ => 0)), (q2, oC 3 [.ref u2x0, .int 0]), (u2x0, aI Y 40 (fun _ => 0)), (q3, oC 3 [.ref u3x0, .int 0]), (u3x0, aI Y 40 (fun _ => 0))] rfl ?_
    refine V_putF 53 B hin gp_RX0_26 0 rfl (Nat.le_of_ble_eq_true rfl) rfl rfl dX0_init_53 [(h0, oC 2 [.ref q0, .ref q1, .ref q2, .ref q3, .null, .null, .null, .null, .null, .null, .null, .int 0]), (q0, oC 3 [.ref u0x0, .int 0]), (u0x0, aI Y 6 (fun _ => 0)), (q1, oC 3 [.ref u1x0, .int 0]), (u1x0, aI Y 40 (fun _ => 0)), (q2, oC 3 [.ref u2x0, .int 0]), (u2x0, aI Y 40 (fun _ => 0)), (q3, oC 3 [.ref u3x0, .int 0]), (u3x0, aI Y 40 (fun _ => 0))] rfl ?_
    refine V_aload_n 56 B dX0_init_56 0 rfl ?_
    refine V_new 57 B gn_RX0_29 dX0_init_57 (Nat.le_of_ble_eq_true rfl) (Nat.le_of_ble_eq_true rfl) (fun q4 => ?_)
    refine V_ws [(h0, oC 2 [.ref q0, .ref q1, .ref q2, .ref q3, .null, .null, .null, .null, .null, .null, .null, .int 0]), (q0, oC 3 [.ref u0x0, .int 0]), (u0x0, aI Y 6 (fun _ => 0)), (q1, oC 3 [.ref u1x0, .int 0]), (u1x0, aI Y 40 (fun _ => 0)), (q2, oC 3 [.ref u2x0, .int 0]), (u2x0, aI Y 40 (fun _ => 0)), (q3, oC 3 [.ref u3x0, .int 0]), (u3x0, aI Y 40 (fun _ => 0)), (q4, oC 7 [.null, .int 0])] rfl ?_
    refine V_dup 60 B dX0_init_60 rfl ?_
    refine V_bipush 61 B (v := 6) dX0_init_61 (by decide +kernel) ?_
    refine V_civ 63 B (st := [.ref q4, .ref h0]) (As := [.int 6]) (fun sz => mX5_init_1 l D Y (q4) sz) glI_RX0_31 ⟨rfl, rfl⟩ ⟨(Nat.le_of_ble_eq_true rfl), (Nat.le_of_ble_eq_true rfl)⟩ ⟨(Nat.le_of_ble_eq_true rfl), (Nat.le_of_ble_eq_true rfl)⟩ [9] rfl rfl (Nat.le_of_ble_eq_true rfl) rfl (fun u w => by
        obtain ⟨u4x0, rfl⟩ := w
        rfl) dX0_init_63 (fun u4 w4 => ?_)
    obtain ⟨u4x0, rfl⟩ := w4
    refine V_ws [(h0, oC 2 [.ref q0, .ref q1, .ref q2, .ref q3, .null, .null, .null, .null, .null, .null, .null, .int 0]), (q0, oC 3 [.ref u0x0, .int 0]), (u0x0, aI Y 6 (fun _ => 0)), (q1, oC 3 [.ref u1x0, .int 0]), (u1x0, aI Y 40 (fun _ => 0)), (q2, oC 3 [.ref u2x0, .int 0]), (u2x0, aI Y 40 (fun _ => 0)), (q3, oC 3 [.ref u3x0, .int 0]), (u3x0, aI Y 40 (fun _ => 0)), (q4, oC 7 [.ref u4x0, .int 0]), (u4x0, aJ Y 6 (fun _ => 0))] rfl ?_
    refine V_putF 66 B hin gp_RX0_32 0 rfl (Nat.le_of_ble_eq_true rfl) rfl rfl dX0_init_66 [(h0, oC 2 [.ref q0, .ref q1, .ref q2, .ref q3, .ref q4, .null, .null, .null, .null, .null, .null, .int 0]), (q0, oC 3 [.ref u0x0, .int 0]), (u0x0, aI Y 6 (fun _ => 0)), (q1, oC 3 [.ref u1x0, .int 0]), (u1x0, aI Y 40 (fun _ => 0)), (q2, oC 3 [.ref u2x0, .int 0]), (u2x0, aI Y 40 (fun _ => 0)), (q3, oC 3 [.ref u3x0, .int 0]), (u3x0, aI Y 40 (fun _ => 0)), (q4, oC 7 [.ref u4x0, .int 0]), (u4x0, aJ Y 6 (fun _ => 0))] rfl ?_
    refine V_aload_n 69 B dX0_init_69 0 rfl ?_
    refine V_new 70 B gn_RX0_9 dX0_init_70 (Nat.le_of_ble_eq_true rfl) (Nat.le_of_ble_eq_true rfl) (fun q5 => ?_)
    refine V_ws [(h0, oC 2 [.ref q0, .ref q1, .ref q2, .ref q3, .ref q4, .null, .null, .null, .null, .null, .null, .int 0]), (q0, oC 3 [.ref u0x0, .int 0]), (u0x0, aI Y 6 (fun _ => 0)), (q1, oC 3 [.ref u1x0, .int 0]), (u1x0, aI Y 40 (fun _ => 0)), (q2, oC 3 [.ref u2x0, .int 0]), (u2x0, aI Y 40 (fun _ => 0)), (q3, oC 3 [.ref u3x0, .int 0]), (u3x0, aI Y 40 (fun _ => 0)), (q4, oC 7 [.ref u4x0, .int 0]), (u4x0, aJ Y 6 (fun _ => 0)), (q5, oC 3 [.null, .int 0])] rfl ?_
    refine V_dup 73 B dX0_init_73 rfl ?_
    refine V_bipush 74 B (v := 80) dX0_init_74 (by decide +kernel) ?_
    refine V_civ 76 B (st := [.ref q5, .ref h0]) (As := [.int 80]) (fun sz => mX1_init_3 l D Y (q5) sz) glI_RX0_11 ⟨rfl, rfl⟩ ⟨(Nat.le_of_ble_eq_true rfl), (Nat.le_of_ble_eq_true rfl)⟩ ⟨(Nat.le_of_ble_eq_true rfl), (Nat.le_of_ble_eq_true rfl)⟩ [11] rfl rfl (Nat.le_of_ble_eq_true rfl) rfl (fun u w => by
        obtain ⟨u5x0, rfl⟩ := w
        rfl) dX0_init_76 (fun u5 w5 => ?_)
    obtain ⟨u5x0, rfl⟩ := w5
    refine V_ws [(h0, oC 2 [.ref q0, .ref q1, .ref q2, .ref q3, .ref q4, .null, .null, .null, .null, .null, .null, .int 0]), (q0, oC 3 [.ref u0x0, .int 0]), (u0x0, aI Y 6 (fun _ => 0)), (q1, oC 3 [.ref u1x0, .int 0]), (u1x0, aI Y 40 (fun _ => 0)), (q2, oC 3 [.ref u2x0, .int 0]), (u2x0, aI Y 40 (fun _ => 0)), (q3, oC 3 [.ref u3x0, .int 0]), (u3x0, aI Y 40 (fun _ => 0)), (q4, oC 7 [.ref u4x0, .int 0]), (u4x0, aJ Y 6 (fun _ => 0)), (q5, oC 3 [.ref u5x0, .int 0]), (u5x0, aI Y 80 (fun _ => 0))] rfl ?_
    refine V_putF 79 B hin gp_RX0_36 0 rfl (Nat.le_of_ble_eq_true rfl) rfl rfl dX0_init_79 [(h0, oC 2 [.ref q0, .ref q1, .ref q2, .ref q3, .ref q4, .ref q5, .null, .null, .null, .null, .null, .int 0]), (q0, oC 3 [.ref u0x0, .int 0]), (u0x0, aI Y 6 (fun _ => 0)), (q1, oC 3 [.ref u1x0, .int 0]), (u1x0, aI Y 40 (fun _ => 0)), (q2, oC 3 [.ref u2x0, .int 0]), (u2x0, aI Y 40 (fun _ => 0)), (q3, oC 3 [.ref u3x0, .int 0]), (u3x0, aI Y 40 (fun _ => 0)), (q4, oC 7 [.ref u4x0, .int 0]), (u4x0, aJ Y 6 (fun _ => 0)), (q5, oC 3 [.ref u5x0, .int 0]), (u5x0, aI Y 80 (fun _ => 0))] rfl ?_
    refine V_aload_n 82 B dX0_init_82 0 rfl ?_
    refine V_new 83 B gn_RX0_9 dX0_init_83 (Nat.le_of_ble_eq_true rfl) (Nat.le_of_ble_eq_true rfl) (fun q6 => ?_)
    refine V_ws [(h0, oC 2 [.ref q0, .ref q1, .ref q2, .ref q3, .ref q4, .ref q5, .null, .null, .null, .null, .null, .int 0]), (q0, oC 3 [.ref u0x0, .int 0]), (u0x0, aI Y 6 (fun _ => 0)), (q1, oC 3 [.ref u1x0, .int 0]), (u1x0, aI Y 40 (fun _ => 0)), (q2, oC 3 [.ref u2x0, .int 0]), (u2x0, aI Y 40 (fun _ => 0)), (q3, oC 3 [.ref u3x0, .int 0]), (u3x0, aI Y 40 (fun _ => 0)), (q4, oC 7 [.ref u4x0, .int 0]), (u4x0, aJ Y 6 (fun _ => 0)), (q5, oC 3 [.ref u5x0, .int 0]), (u5x0, aI Y 80 (fun _ => 0)), (q6, oC 3 [.null, .int 0])] rfl ?_
    refine V_dup 86 B dX0_init_86 rfl ?_
    refine V_bipush 87 B (v := 80) dX0_init_87 (by decide +kernel) ?_
    refine V_civ 89 B (st := [.ref q6, .ref h0]) (As := [.int 80]) (fun sz => mX1_init_3 l D Y (q6) sz) glI_RX0_11 ⟨rfl, rfl⟩ ⟨(Nat.le_of_ble_eq_true rfl), (Nat.le_of_ble_eq_true rfl)⟩ ⟨(Nat.le_of_ble_eq_true rfl), (Nat.le_of_ble_eq_true rfl)⟩ [13] rfl rfl (Nat.le_of_ble_eq_true rfl) rfl (fun u w => by
        obtain ⟨u6x0, rfl⟩ := w
        rfl) dX0_init_89 (fun u6 w6 => ?_)
    obtain ⟨u6x0, rfl⟩ := w6
    refine V_ws [(h0, oC 2 [.ref q0, .ref q1, .ref q2, .ref q3, .ref q4, .ref q5, .null, .null, .null, .null, .null, .int 0]), (q0, oC 3 [.ref u0x0, .int 0]), (u0x0, aI Y 6 (fun _ => 0)), (q1, oC 3 [.ref u1x0, .int 0]), (u1x0, aI Y 40 (fun _ => 0)), (q2, oC 3 [.ref u2x0, .int 0]), (u2x0, aI Y 40 (fun _ => 0)), (q3, oC 3 [.ref u3x0, .int 0]), (u3x0, aI Y 40 (fun _ => 0)), (q4, oC 7 [.ref u4x0, .int 0]), (u4x0, aJ Y 6 (fun _ => 0)), (q5, oC 3 [.ref u5x0, .int 0]), (u5x0, aI Y 80 (fun _ => 0)), (q6, oC 3 [.ref u6x0, .int 0]), (u6x0, aI Y 80 (fun _ => 0))] rfl ?_
    refine V_putF 92 B hin gp_RX0_39 0 rfl (Nat.le_of_ble_eq_true rfl) rfl rfl dX0_init_92 [(h0, oC 2 [.ref q0, .ref q1, .ref q2, .ref q3, .ref q4, .ref q5, .ref q6, .null, .null, .null, .null, .int 0]), (q0, oC 3 [.ref u0x0, .int 0]), (u0x0, aI Y 6 (fun _ => 0)), (q1, oC 3 [.ref u1x0, .int 0]), (u1x0, aI Y 40 (fun _ => 0)), (q2, oC 3 [.ref u2x0, .int 0]), (u2x0, aI Y 40 (fun _ => 0)), (q3, oC 3 [.ref u3x0, .int 0]), (u3x0, aI Y 40 (fun _ => 0)), (q4, oC 7 [.ref u4x0, .int 0]), (u4x0, aJ Y 6 (fun _ => 0)), (q5, oC 3 [.ref u5x0, .int 0]), (u5x0, aI Y 80 (fun _ => 0)), (q6, oC 3 [.ref u6x0, .int 0]), (u6x0, aI Y 80 (fun _ => 0))] rfl ?_
    refine V_aload_n 95 B dX0_init_95 0 rfl ?_
    refine V_new 96 B gn_RX0_29 dX0_init_96 (Nat.le_of_ble_eq_true rfl) (Nat.le_of_ble_eq_true rfl) (fun q7 => ?_)
    refine V_ws [(h0, oC 2 [.ref q0, .ref q1, .ref q2, .ref q3, .ref q4, .ref q5, .ref q6, .null, .null, .null, .null, .int 0]), (q0, oC 3 [.ref u0x0, .int 0]), (u0x0, aI Y 6 (fun _ => 0)), (q1, oC 3 [.ref u1x0, .int 0]), (u1x0, aI Y 40 (fun _ => 0)), (q2, oC 3 [.ref u2x0, .int 0]), (u2x0, aI Y 40 (fun _ => 0)), (q3, oC 3 [.ref u3x0, .int 0]), (u3x0, aI Y 40 (fun _ => 0)), (q4, oC 7 [.ref u4x0, .int 0]), (u4x0, aJ Y 6 (fun _ => 0)), (q5, oC 3 [.ref u5x0, .int 0]), (u5x0, aI Y 80 (fun _ => 0)), (q6, oC 3 [.ref u6x0, .int 0]), (u6x0, aI Y 80 (fun _ => 0)), (q7, oC 7 [.null, .int 0])] rfl ?_
    refine V_dup 99 B dX0_init_99 rfl ?_
    refine V_bipush 100 B (v := 80) dX0_init_100 (by decide +kernel) ?_
    refine V_civ 102 B (st := [.ref q7, .ref h0]) (As := [.int 80]) (fun sz => mX5_init_2 l D Y (q7) sz) glI_RX0_31 ⟨rfl, rfl⟩ ⟨(Nat.le_of_ble_eq_true rfl), (Nat.le_of_ble_eq_true rfl)⟩ ⟨(Nat.le_of_ble_eq_true rfl), (Nat.le_of_ble_eq_true rfl)⟩ [15] rfl rfl (Nat.le_of_ble_eq_true rfl) rfl (fun u w => by
        obtain ⟨u7x0, rfl⟩ := w
        rfl) dX0_init_102 (fun u7 w7 => ?_)
    obtain ⟨u7x0, rfl⟩ := w7
    refine V_ws [(h0, oC 2 [.ref q0, .ref q1, .ref q2, .ref q3, .ref q4, .ref q5, .ref q6, .null, .null, .null, .null, .int 0]), (q0, oC 3 [.ref u0x0, .int 0]), (u0x0, aI Y 6 (fun _ => 0)), (q1, oC 3 [.ref u1x0, .int 0]), (u1x0, aI Y 40 (fun _ => 0)), (q2, oC 3 [.ref u2x0, .int 0]), (u2x0, aI Y 40 (fun _ => 0)), (q3, oC 3 [.ref u3x0, .int 0]), (u3x0, aI Y 40 (fun _ => 0)), (q4, oC 7 [.ref u4x0, .int 0]), (u4x0, aJ Y 6 (fun _ => 0)), (q5, oC 3 [.ref u5x0, .int 0]), (u5x0, aI Y 80 (fun _ => 0)), (q6, oC 3 [.ref u6x0, .int 0]), (u6x0, aI Y 80 (fun _ => 0)), (q7, oC 7 [.ref u7x0, .int 0]), (u7x0, aJ Y 80 (fun _ => 0))] rfl ?_
    refine V_putF 105 B hin gp_RX0_42 0 rfl (Nat.le_of_ble_eq_true rfl) rfl rfl dX0_init_105 [(h0, oC 2 [.ref q0, .ref q1, .ref q2, .ref q3, .ref q4, .ref q5, .ref q6, .ref q7, .null, .null, .null, .int 0]), (q0, oC 3 [.ref u0x0, .int 0]), (u0x0, aI Y 6 (fun _ => 0)), (q1, oC 3 [.ref u1x0, .int 0]), (u1x0, aI Y 40 (fun _ => 0)), (q2, oC 3 [.ref u2x0, .int 0]), (u2x0, aI Y 40 (fun _ => 0)), (q3, oC 3 [.ref u3x0, .int 0]), (u3x0, aI Y 40 (fun _ => 0)), (q4, oC 7 [.ref u4x0, .int 0]), (u4x0, aJ Y 6 (fun _ => 0)), (q5, oC 3 [.ref u5x0, .int 0]), (u5x0, aI Y 80 (fun _ => 0)), (q6, oC 3 [.ref u6x0, .int 0]), (u6x0, aI Y 80 (fun _ => 0)), (q7, oC 7 [.ref u7x0, .int 0]), (u7x0, aJ Y 80 (fun _ => 0))] rfl ?_
    refine V_aload_n 108 B dX0_init_108 0 rfl ?_
    refine V_new 109 B gn_RX0_29 dX0_init_109 (Nat.le_of_ble_eq_true rfl) (Nat.le_of_ble_eq_true rfl) (fun q8 => ?_)
    refine V_ws [(h0, oC 2 [.ref q0, .ref q1, .ref q2, .ref q3, .ref q4, .ref q5, .ref q6, .ref q7, .null, .null, .null, .int 0]), (q0, oC 3 [.ref u0x0, .int 0]), (u0x0, aI Y 6 (fun _ => 0)), (q1, oC 3 [.ref u1x0, .int 0]), (u1x0, aI Y 40 (fun _ => 0)), (q2, oC 3 [.ref u2x0, .int 0]), (u2x0, aI Y 40 (fun _ => 0)), (q3, oC 3 [.ref u3x0, .int 0]), (u3x0, aI Y 40 (fun _ => 0)), (q4, oC 7 [.ref u4x0, .int 0]), (u4x0, aJ Y 6 (fun _ => 0)), (q5, oC 3 [.ref u5x0, .int 0]), (u5x0, aI Y 80 (fun _ => 0)), (q6, oC 3 [.ref u6x0, .int 0]), (u6x0, aI Y 80 (fun _ => 0)), (q7, oC 7 [.ref u7x0, .int 0]), (u7x0, aJ Y 80 (fun _ => 0)), (q8, oC 7 [.null, .int 0])] rfl ?_
    refine V_dup 112 B dX0_init_112 rfl ?_
    refine V_bipush 113 B (v := 10) dX0_init_113 (by decide +kernel) ?_
    refine V_civ 115 B (st := [.ref q8, .ref h0]) (As := [.int 10]) (fun sz => mX5_init_3 l D Y (q8) sz) glI_RX0_31 ⟨rfl, rfl⟩ ⟨(Nat.le_of_ble_eq_true rfl), (Nat.le_of_ble_eq_true rfl)⟩ ⟨(Nat.le_of_ble_eq_true rfl), (Nat.le_of_ble_eq_true rfl)⟩ [17] rfl rfl (Nat.le_of_ble_eq_true rfl) rfl (fun u w => by
        obtain ⟨u8x0, rfl⟩ := w
        rfl) dX0_init_115 (fun u8 w8 => ?_)
    obtain ⟨u8x0, rfl⟩ := w8
    refine V_ws [(h0, oC 2 [.ref q0, .ref q1, .ref q2, .ref q3, .ref q4, .ref q5, .ref q6, .ref q7, .null, .null, .null, .int 0]), (q0, oC 3 [.ref u0x0, .int 0]), (u0x0, aI Y 6 (fun _ => 0)), (q1, oC 3 [.ref u1x0, .int 0]), (u1x0, aI Y 40 (fun _ => 0)), (q2, oC 3 [.ref u2x0, .int 0]), (u2x0, aI Y 40 (fun _ => 0)), (q3, oC 3 [.ref u3x0, .int 0]), (u3x0, aI Y 40 (fun _ => 0)), (q4, oC 7 [.ref u4x0, .int 0]), (u4x0, aJ Y 6 (fun _ => 0)), (q5, oC 3 [.ref u5x0, .int 0]), (u5x0, aI Y 80 (fun _ => 0)), (q6, oC 3 [.ref u6x0, .int 0]), (u6x0, aI Y 80 (fun _ => 0)), (q7, oC 7 [.ref u7x0, .int 0]), (u7x0, aJ Y 80 (fun _ => 0)), (q8, oC 7 [.ref u8x0, .int 0]), (u8x0, aJ Y 10 (fun _ => 0))] rfl ?_
    refine V_putF 118 B hin gp_RX0_45 0 rfl (Nat.le_of_ble_eq_true rfl) rfl rfl dX0_init_118 [(h0, oC 2 [.ref q0, .ref q1, .ref q2, .ref q3, .ref q4, .ref q5, .ref q6, .ref q7, .ref q8, .null, .null, .int 0]), (q0, oC 3 [.ref u0x0, .int 0]), (u0x0, aI Y 6 (fun _ => 0)), (q1, oC 3 [.ref u1x0, .int 0]), (u1x0, aI Y 40 (fun _ => 0)), (q2, oC 3 [.ref u2x0, .int 0]), (u2x0, aI Y 40 (fun _ => 0)), (q3, oC 3 [.ref u3x0, .int 0]), (u3x0, aI Y 40 (fun _ => 0)), (q4, oC 7 [.ref u4x0, .int 0]), (u4x0, aJ Y 6 (fun _ => 0)), (q5, oC 3 [.ref u5x0, .int 0]), (u5x0, aI Y 80 (fun _ => 0)), (q6, oC 3 [.ref u6x0, .int 0]), (u6x0, aI Y 80 (fun _ => 0)), (q7, oC 7 [.ref u7x0, .int 0]), (u7x0, aJ Y 80 (fun _ => 0)), (q8, oC 7 [.ref u8x0, .int 0]), (u8x0, aJ Y 10 (fun _ => 0))] rfl ?_
    refine V_aload_n 121 B dX0_init_121 0 rfl ?_
    refine V_new 122 B gn_RX0_48 dX0_init_122 (Nat.le_of_ble_eq_true rfl) (Nat.le_of_ble_eq_true rfl) (fun q9 => ?_)
    refine V_ws [(h0, oC 2 [.ref q0, .ref q1, .ref q2, .ref q3, .ref q4, .ref q5, .ref q6, .ref q7, .ref q8, .null, .null, .int 0]), (q0, oC 3 [.ref u0x0, .int 0]), (u0x0, aI Y 6 (fun _ => 0)), (q1, oC 3 [.ref u1x0, .int 0]), (u1x0, aI Y 40 (fun _ => 0)), (q2, oC 3 [.ref u2x0, .int 0]), (u2x0, aI Y 40 (fun _ => 0)), (q3, oC 3 [.ref u3x0, .int 0]), (u3x0, aI Y 40 (fun _ => 0)), (q4, oC 7 [.ref u4x0, .int 0]), (u4x0, aJ Y 6 (fun _ => 0)), (q5, oC 3 [.ref u5x0, .int 0]), (u5x0, aI Y 80 (fun _ => 0)), (q6, oC 3 [.ref u6x0, .int 0]), (u6x0, aI Y 80 (fun _ => 0)), (q7, oC 7 [.ref u7x0, .int 0]), (u7x0, aJ Y 80 (fun _ => 0)), (q8, oC 7 [.ref u8x0, .int 0]), (u8x0, aJ Y 10 (fun _ => 0)), (q9, oC 4 [.null, .null, .null, .int 0])] rfl ?_
    refine V_dup 125 B dX0_init_125 rfl ?_
    refine V_civ 126 B (st := [.ref q9, .ref h0]) (As := []) (fun sz => mX2_init_1 l D Y (q9) sz) glI_RX0_50 ⟨rfl, rfl⟩ ⟨(Nat.le_of_ble_eq_true rfl), (Nat.le_of_ble_eq_true rfl)⟩ ⟨(Nat.le_of_ble_eq_true rfl), (Nat.le_of_ble_eq_true rfl)⟩ [19] rfl rfl (Nat.le_of_ble_eq_true rfl) rfl (fun u w => by
        obtain ⟨u9x0, u9x1, u9x2, u9x3, u9x4, u9x5, rfl⟩ := w
        rfl) dX0_init_126 (fun u9 w9 => ?_)
    obtain ⟨u9x0, u9x1, u9x2, u9x3, u9x4, u9x5, rfl⟩ := w9
    refine V_ws [(h0, oC 2 [.ref q0, .ref q1, .ref q2, .ref q3, .ref q4, .ref q5, .ref q6, .ref q7, .ref q8, .null, .null, .int 0]), (q0, oC 3 [.ref u0x0, .int 0]), (u0x0, aI Y 6 (fun _ => 0)), (q1, oC 3 [.ref u1x0, .int 0]), (u1x0, aI Y 40 (fun _ => 0)), (q2, oC 3 [.ref u2x0, .int 0]), (u2x0, aI Y 40 (fun _ => 0)), (q3, oC 3 [.ref u3x0, .int 0]), (u3x0, aI Y 40 (fun _ => 0)), (q4, oC 7 [.ref u4x0, .int 0]), (u4x0, aJ Y 6 (fun _ => 0)), (q5, oC 3 [.ref u5x0, .int 0]), (u5x0, aI Y 80 (fun _ => 0)), (q6, oC 3 [.ref u6x0, .int 0]), (u6x0, aI Y 80 (fun _ => 0)), (q7, oC 7 [.ref u7x0, .int 0]), (u7x0, aJ Y 80 (fun _ => 0)), (q8, oC 7 [.ref u8x0, .int 0]), (u8x0, aJ Y 10 (fun _ => 0)), (q9, oC 4 [.ref u9x0, .ref u9x2, .ref u9x4, .int 0]), (u9x0, oC 3 [.ref u9x1, .int 0]), (u9x1, aI Y 4 (fun _ => 0)), (u9x2, oC 3 [.ref u9x3, .int 0]), (u9x3, aI Y 4 (fun _ => 0)), (u9x4, oC 3 [.ref u9x5, .int 0]), (u9x5, aI Y 104 (fun _ => 0))] rfl ?_
    refine V_putF 129 B hin gp_RX0_51 0 rfl (Nat.le_of_ble_eq_true rfl) rfl rfl dX0_init_129 [(h0, oC 2 [.ref q0, .ref q1, .ref q2, .ref q3, .ref q4, .ref q5, .ref q6, .ref q7, .ref q8, .ref q9, .null, .int 0]), (q0, oC 3 [.ref u0x0, .int 0]), (u0x0, aI Y 6 (fun _ => 0)), (q1, oC 3 [.ref u1x0, .int 0]), (u1x0, aI Y 40 (fun _ => 0)), (q2, oC 3 [.ref u2x0, .int 0]), (u2x0, aI Y 40 (fun _ => 0)), (q3, oC 3 [.ref u3x0, .int 0]), (u3x0, aI Y 40 (fun _ => 0)), (q4, oC 7 [.ref u4x0, .int 0]), (u4x0, aJ Y 6 (fun _ => 0)), (q5, oC 3 [.ref u5x0, .int 0]), (u5x0, aI Y 80 (fun _ => 0)), (q6, oC 3 [.ref u6x0, .int 0]), (u6x0, aI Y 80 (fun _ => 0)), (q7, oC 7 [.ref u7x0, .int 0]), (u7x0, aJ Y 80 (fun _ => 0)), (q8, oC 7 [.ref u8x0, .int 0]), (u8x0, aJ Y 10 (fun _ => 0)), (q9, oC 4 [.ref u9x0, .ref u9x2, .ref u9x4, .int 0]), (u9x0, oC 3 [.ref u9x1, .int 0]), (u9x1, aI Y 4 (fun _ => 0)), (u9x2, oC 3 [.ref u9x3, .int 0]), (u9x3, aI Y 4 (fun _ => 0)), (u9x4, oC 3 [.ref u9x5, .int 0]), (u9x5, aI Y 104 (fun _ => 0))] rfl ?_
    refine V_aload_n 132 B dX0_init_132 0 rfl ?_
    refine V_new 133 B gn_RX0_55 dX0_init_133 (Nat.le_of_ble_eq_true rfl) (Nat.le_of_ble_eq_true rfl) (fun q10 => ?_)
    refine V_ws [(h0, oC 2 [.ref q0, .ref q1, .ref q2, .ref q3, .ref q4, .ref q5, .ref q6, .ref q7, .ref q8, .ref q9, .null, .int 0]), (q0, oC 3 [.ref u0x0, .int 0]), (u0x0, aI Y 6 (fun _ => 0)), (q1, oC 3 [.ref u1x0, .int 0]), (u1x0, aI Y 40 (fun _ => 0)), (q2, oC 3 [.ref u2x0, .int 0]), (u2x0, aI Y 40 (fun _ => 0)), (q3, oC 3 [.ref u3x0, .int 0]), (u3x0, aI Y 40 (fun _ => 0)), (q4, oC 7 [.ref u4x0, .int 0]), (u4x0, aJ Y 6 (fun _ => 0)), (q5, oC 3 [.ref u5x0, .int 0]), (u5x0, aI Y 80 (fun _ => 0)), (q6, oC 3 [.ref u6x0, .int 0]), (u6x0, aI Y 80 (fun _ => 0)), (q7, oC 7 [.ref u7x0, .int 0]), (u7x0, aJ Y 80 (fun _ => 0)), (q8, oC 7 [.ref u8x0, .int 0]), (u8x0, aJ Y 10 (fun _ => 0)), (q9, oC 4 [.ref u9x0, .ref u9x2, .ref u9x4, .int 0]), (u9x0, oC 3 [.ref u9x1, .int 0]), (u9x1, aI Y 4 (fun _ => 0)), (u9x2, oC 3 [.ref u9x3, .int 0]), (u9x3, aI Y 4 (fun _ => 0)), (u9x4, oC 3 [.ref u9x5, .int 0]), (u9x5, aI Y 104 (fun _ => 0)), (q10, oC 9 [.null, .int 0, .long 0, .int 0, .int 0, .int 0, .int 0, .int 0, .int 0])] rfl ?_
    refine V_dup 136 B dX0_init_136 rfl ?_
    refine V_civ 137 B (st := [.ref q10, .ref h0]) (As := []) (fun sz => mX8_init_1 l D Y (q10) sz) glI_RX0_57 ⟨rfl, rfl⟩ ⟨(Nat.le_of_ble_eq_true rfl), (Nat.le_of_ble_eq_true rfl)⟩ ⟨(Nat.le_of_ble_eq_true rfl), (Nat.le_of_ble_eq_true rfl)⟩ [26] rfl rfl (Nat.le_of_ble_eq_true rfl) rfl (fun u w => by
        obtain ⟨u10x0, u10x1, rfl⟩ := w
        rfl) dX0_init_137 (fun u10 w10 => ?_)
    obtain ⟨u10x0, u10x1, rfl⟩ := w10
    refine V_ws [(h0, oC 2 [.ref q0, .ref q1, .ref q2, .ref q3, .ref q4, .ref q5, .ref q6, .ref q7, .ref q8, .ref q9, .null, .int 0]), (q0, oC 3 [.ref u0x0, .int 0]), (u0x0, aI Y 6 (fun _ => 0)), (q1, oC 3 [.ref u1x0, .int 0]), (u1x0, aI Y 40 (fun _ => 0)), (q2, oC 3 [.ref u2x0, .int 0]), (u2x0, aI Y 40 (fun _ => 0)), (q3, oC 3 [.ref u3x0, .int 0]), (u3x0, aI Y 40 (fun _ => 0)), (q4, oC 7 [.ref u4x0, .int 0]), (u4x0, aJ Y 6 (fun _ => 0)), (q5, oC 3 [.ref u5x0, .int 0]), (u5x0, aI Y 80 (fun _ => 0)), (q6, oC 3 [.ref u6x0, .int 0]), (u6x0, aI Y 80 (fun _ => 0)), (q7, oC 7 [.ref u7x0, .int 0]), (u7x0, aJ Y 80 (fun _ => 0)), (q8, oC 7 [.ref u8x0, .int 0]), (u8x0, aJ Y 10 (fun _ => 0)), (q9, oC 4 [.ref u9x0, .ref u9x2, .ref u9x4, .int 0]), (u9x0, oC 3 [.ref u9x1, .int 0]), (u9x1, aI Y 4 (fun _ => 0)), (u9x2, oC 3 [.ref u9x3, .int 0]), (u9x3, aI Y 4 (fun _ => 0)), (u9x4, oC 3 [.ref u9x5, .int 0]), (u9x5, aI Y 104 (fun _ => 0)), (q10, oC 9 [.ref u10x0, .int 0, .long 0, .int (-1), .int 0, .int 0, .int 0, .int 0, .int 0]), (u10x0, oC 3 [.ref u10x1, .int 0]), (u10x1, aI Y 8 (fun _ => 0))] rfl ?_
    refine V_putF 140 B hin gp_RX0_58 0 rfl (Nat.le_of_ble_eq_true rfl) rfl rfl dX0_init_140 [(h0, oC 2 [.ref q0, .ref q1, .ref q2, .ref q3, .ref q4, .ref q5, .ref q6, .ref q7, .ref q8, .ref q9, .ref q10, .int 0]), (q0, oC 3 [.ref u0x0, .int 0]), (u0x0, aI Y 6 (fun _ => 0)), (q1, oC 3 [.ref u1x0, .int 0]), (u1x0, aI Y 40 (fun _ => 0)), (q2, oC 3 [.ref u2x0, .int 0]), (u2x0, aI Y 40 (fun _ => 0)), (q3, oC 3 [.ref u3x0, .int 0]), (u3x0, aI Y 40 (fun _ => 0)), (q4, oC 7 [.ref u4x0, .int 0]), (u4x0, aJ Y 6 (fun _ => 0)), (q5, oC 3 [.ref u5x0, .int 0]), (u5x0, aI Y 80 (fun _ => 0)), (q6, oC 3 [.ref u6x0, .int 0]), (u6x0, aI Y 80 (fun _ => 0)), (q7, oC 7 [.ref u7x0, .int 0]), (u7x0, aJ Y 80 (fun _ => 0)), (q8, oC 7 [.ref u8x0, .int 0]), (u8x0, aJ Y 10 (fun _ => 0)), (q9, oC 4 [.ref u9x0, .ref u9x2, .ref u9x4, .int 0]), (u9x0, oC 3 [.ref u9x1, .int 0]), (u9x1, aI Y 4 (fun _ => 0)), (u9x2, oC 3 [.ref u9x3, .int 0]), (u9x3, aI Y 4 (fun _ => 0)), (u9x4, oC 3 [.ref u9x5, .int 0]), (u9x5, aI Y 104 (fun _ => 0)), (q10, oC 9 [.ref u10x0, .int 0, .long 0, .int (-1), .int 0, .int 0, .int 0, .int 0, .int 0]), (u10x0, oC 3 [.ref u10x1, .int 0]), (u10x1, aI Y 8 (fun _ => 0))] rfl ?_
    refine V_aload_n 143 B dX0_init_143 0 rfl ?_
    refine V_iconst 144 B (v := 0) dX0_init_144 (by decide +kernel) ?_
    refine V_put 145 B gp_RX0_62 0 rfl (Nat.le_of_ble_eq_true rfl) rfl rfl dX0_init_145 [(h0, oC 2 [.ref q0, .ref q1, .ref q2, .ref q3, .ref q4, .ref q5, .ref q6, .ref q7, .ref q8, .ref q9, .ref q10, .int 0]), (q0, oC 3 [.ref u0x0, .int 0]), (u0x0, aI Y 6 (fun _ => 0)), (q1, oC 3 [.ref u1x0, .int 0]), (u1x0, aI Y 40 (fun _ => 0)), (q2, oC 3 [.ref u2x0, .int 0]), (u2x0, aI Y 40 (fun _ => 0)), (q3, oC 3 [.ref u3x0, .int 0]), (u3x0, aI Y 40 (fun _ => 0)), (q4, oC 7 [.ref u4x0, .int 0]), (u4x0, aJ Y 6 (fun _ => 0)), (q5, oC 3 [.ref u5x0, .int 0]), (u5x0, aI Y 80 (fun _ => 0)), (q6, oC 3 [.ref u6x0, .int 0]), (u6x0, aI Y 80 (fun _ => 0)), (q7, oC 7 [.ref u7x0, .int 0]), (u7x0, aJ Y 80 (fun _ => 0)), (q8, oC 7 [.ref u8x0, .int 0]), (u8x0, aJ Y 10 (fun _ => 0)), (q9, oC 4 [.ref u9x0, .ref u9x2, .ref u9x4, .int 0]), (u9x0, oC 3 [.ref u9x1, .int 0]), (u9x1, aI Y 4 (fun _ => 0)), (u9x2, oC 3 [.ref u9x3, .int 0]), (u9x3, aI Y 4 (fun _ => 0)), (u9x4, oC 3 [.ref u9x5, .int 0]), (u9x5, aI Y 104 (fun _ => 0)), (q10, oC 9 [.ref u10x0, .int 0, .long 0, .int (-1), .int 0, .int 0, .int 0, .int 0, .int 0]), (u10x0, oC 3 [.ref u10x1, .int 0]), (u10x1, aI Y 8 (fun _ => 0))] rfl ?_
    refine V_aload_n 148 B dX0_init_148 0 rfl ?_
    refine V_get 149 B gf_RX0_14 0 rfl rfl dX0_init_149 ?_
    refine V_iconst 152 B (v := (-1)) dX0_init_152 (by decide +kernel) ?_
    refine V_cvi 153 B (st := []) (As := [.int (-1)]) (fun sz => mX1_push_1 l D Y (q0) (u0x0) sz) glV_RX0_66 ⟨rfl, rfl⟩ ⟨(Nat.le_of_ble_eq_true rfl), (Nat.le_of_ble_eq_true rfl)⟩ ⟨(Nat.le_of_ble_eq_true rfl), (Nat.le_of_ble_eq_true rfl)⟩ [1, 0] rfl 3 0 rfl rfl rfl rfl (Nat.le_of_ble_eq_true rfl) rfl (fun _ _ _ => rfl) dX0_init_153 (fun r11 u11 w11 => ?_)
    obtain rfl := w11
    refine V_ws [(h0, oC 2 [.ref q0, .ref q1, .ref q2, .ref q3, .ref q4, .ref q5, .ref q6, .ref q7, .ref q8, .ref q9, .ref q10, .int 0]), (q0, oC 3 [.ref u0x0, .int 1]), (u0x0, aI Y 6 (upd (fun _ => 0) 0 (-1))), (q1, oC 3 [.ref u1x0, .int 0]), (u1x0, aI Y 40 (fun _ => 0)), (q2, oC 3 [.ref u2x0, .int 0]), (u2x0, aI Y 40 (fun _ => 0)), (q3, oC 3 [.ref u3x0, .int 0]), (u3x0, aI Y 40 (fun _ => 0)), (q4, oC 7 [.ref u4x0, .int 0]), (u4x0, aJ Y 6 (fun _ => 0)), (q5, oC 3 [.ref u5x0, .int 0]), (u5x0, aI Y 80 (fun _ => 0)), (q6, oC 3 [.ref u6x0, .int 0]), (u6x0, aI Y 80 (fun _ => 0)), (q7, oC 7 [.ref u7x0, .int 0]), (u7x0, aJ Y 80 (fun _ => 0)), (q8, oC 7 [.ref u8x0, .int 0]), (u8x0, aJ Y 10 (fun _ => 0)), (q9, oC 4 [.ref u9x0, .ref u9x2, .ref u9x4, .int 0]), (u9x0, oC 3 [.ref u9x1, .int 0]), (u9x1, aI Y 4 (fun _ => 0)), (u9x2, oC 3 [.ref u9x3, .int 0]), (u9x3, aI Y 4 (fun _ => 0)), (u9x4, oC 3 [.ref u9x5, .int 0]), (u9x5, aI Y 104 (fun _ => 0)), (q10, oC 9 [.ref u10x0, .int 0, .long 0, .int (-1), .int 0, .int 0, .int 0, .int 0, .int 0]), (u10x0, oC 3 [.ref u10x1, .int 0]), (u10x1, aI Y 8 (fun _ => 0))] rfl ?_
    refine V_pop 156 B dX0_init_156 rfl ?_
    exact V_vret 157 B dX0_init_157 [(h0, oC 2 [.ref q0, .ref q1, .ref q2, .ref q3, .ref q4, .ref q5, .ref q6, .ref q7, .ref q8, .ref q9, .ref q10, .int 0]), (q0, oC 3 [.ref u0x0, .int 1]), (u0x0, aI Y 6 (upd (fun _ => 0) 0 (-1))), (q1, oC 3 [.ref u1x0, .int 0]), (u1x0, aI Y 40 (fun _ => 0)), (q2, oC 3 [.ref u2x0, .int 0]), (u2x0, aI Y 40 (fun _ => 0)), (q3, oC 3 [.ref u3x0, .int 0]), (u3x0, aI Y 40 (fun _ => 0)), (q4, oC 7 [.ref u4x0, .int 0]), (u4x0, aJ Y 6 (fun _ => 0)), (q5, oC 3 [.ref u5x0, .int 0]), (u5x0, aI Y 80 (fun _ => 0)), (q6, oC 3 [.ref u6x0, .int 0]), (u6x0, aI Y 80 (fun _ => 0)), (q7, oC 7 [.ref u7x0, .int 0]), (u7x0, aJ Y 80 (fun _ => 0)), (q8, oC 7 [.ref u8x0, .int 0]), (u8x0, aJ Y 10 (fun _ => 0)), (q9, oC 4 [.ref u9x0, .ref u9x2, .ref u9x4, .int 0]), (u9x0, oC 3 [.ref u9x1, .int 0]), (u9x1, aI Y 4 (fun _ => 0)), (u9x2, oC 3 [.ref u9x3, .int 0]), (u9x3, aI Y 4 (fun _ => 0)), (u9x4, oC 3 [.ref u9x5, .int 0]), (u9x5, aI Y 104 (fun _ => 0)), (q10, oC 9 [.ref u10x0, .int 0, .long 0, .int (-1), .int 0, .int 0, .int 0, .int 0, .int 0]), (u10x0, oC 3 [.ref u10x1, .int 0]), (u10x1, aI Y 8 (fun _ => 0))] ⟨q0, u0x0, q1, u1x0, q2, u2x0, q3, u3x0, q4, u4x0, q5, u5x0, q6, u6x0, q7, u7x0, q8, u8x0, q9, u9x0, u9x1, u9x2, u9x3, u9x4, u9x5, q10, u10x0, u10x1, rfl⟩ rfl)
theorem inw_X10 : ∀ w ∈ u_ws RX10 TX10 5, w ∈ lw_good := by decide +kernel
theorem gn_RX11_25 : GN RX11 25 11 5 [.null, .null, .null, .null, .null] := ⟨RX10, TX10, 5, tyX10, rfl, inw_X10, tyX10_ok, (mT1 230 rfl rfl), (mT1 231 rfl rfl), (mT1 8 rfl rfl), (by decide +kernel), rfl⟩
theorem gn_RX10_15 : GN RX10 15 3 2 [.null, .int 0] := ⟨RX1, TX1, 2, tyX1, rfl, inw_X1, tyX1_ok, (mT1 236 rfl rfl), (mT1 43 rfl rfl), (mT1 3 rfl rfl), (by decide +kernel), rfl⟩
theorem gn_RX10_27 : GN RX10 27 7 2 [.null, .int 0] := ⟨RX5, TX5, 2, tyX5, rfl, inw_X5, tyX5_ok, (mT1 238 rfl rfl), (mT1 60 rfl rfl), (mT1 5 rfl rfl), (by decide +kernel), rfl⟩
set_option maxRecDepth 100000 in
set_option maxHeartbeats 4000000 in
theorem mX5_init_4 (l : Launch) (D : va_G) (Y : Nat → ClassId) (h0 : Nat) (sz : Nat) : Met l yX5_init (WSm yX5_init cX5_init 2 none) (mkR 1 1 86 14) (PreC D Y [.ref h0, .int 86] [(h0, oC 7 [.null, .int 0])] sz) (QV D (fun (u : va_W) => ∃ a0 : Nat, u = [(h0, oC 7 [.ref a0, .int 0]), (a0, aJ Y 86 (fun _ => 0))]) (fun (u : va_W) => u) (va_A [(h0, oC 7 [.null, .int 0])] sz)) 1 86 (va_A [(h0, oC 7 [.null, .int 0])] sz) :=
  met_of (by decide +kernel) (Nat.le_of_ble_eq_true rfl) (fun p e s m args below meth c B hin hsz => by
    have B : VB p s m args meth c D Y (va_A [(h0, oC 7 [.null, .int 0])] sz) cX5_init 2 RX5 none := B
    refine V_aload_n 0 B dX5_init_0 0 rfl ?_
    refine V_objInit 1 B (mT1 64 rfl rfl) (mT1 34 rfl rfl) (mT1 35 rfl rfl) dX5_init_1 (Nat.le_of_ble_eq_true rfl) (Nat.le_of_ble_eq_true rfl) ?_
    refine V_aload_n 4 B dX5_init_4 0 rfl ?_
    refine V_iload_n 5 B dX5_init_5 1 rfl ?_
    refine V_iconst 6 B (v := 0) dX5_init_6 (by decide +kernel) ?_
    refine V_mmax 7 B (v := 86) gm_RX5_7 dX5_init_7 (Nat.le_of_ble_eq_true rfl) (Nat.le_of_ble_eq_true rfl) (Nat.le_of_ble_eq_true rfl) (Nat.le_of_ble_eq_true rfl) (by decide +kernel) ?_
    refine V_newaJ 10 B (N := 86) dX5_init_10 (mT1 73 rfl rfl) (by decide +kernel) (by decide +kernel) (by decide +kernel) (Nat.le_of_ble_eq_true rfl) (Nat.le_of_ble_eq_true rfl) (fun q0 => ?_)
    refine V_ws [(h0, oC 7 [.null, .int 0]), (q0, aJ Y 86 (fun _ => 0))] rfl ?_
    refine V_putF 12 B hin gp_RX5_13 0 rfl (Nat.le_of_ble_eq_true rfl) rfl rfl dX5_init_12 [(h0, oC 7 [.ref q0, .int 0]), (q0, aJ Y 86 (fun _ => 0))] rfl ?_
    refine V_aload_n 15 B dX5_init_15 0 rfl ?_
    refine V_iconst 16 B (v := 0) dX5_init_16 (by decide +kernel) ?_
    refine V_put 17 B gp_RX5_19 0 rfl (Nat.le_of_ble_eq_true rfl) rfl rfl dX5_init_17 [(h0, oC 7 [.ref q0, .int 0]), (q0, aJ Y 86 (fun _ => 0))] rfl ?_
    exact V_vret 20 B dX5_init_20 [(h0, oC 7 [.ref q0, .int 0]), (q0, aJ Y 86 (fun _ => 0))] ⟨q0, rfl⟩ rfl)
set_option maxRecDepth 100000 in
set_option maxHeartbeats 4000000 in
theorem mX1_init_7 (l : Launch) (D : va_G) (Y : Nat → ClassId) (h0 : Nat) (sz : Nat) : Met l yX1_init (WSm yX1_init cX1_init 2 none) (mkR 1 1 10 14) (PreC D Y [.ref h0, .int 10] [(h0, oC 3 [.null, .int 0])] sz) (QV D (fun (u : va_W) => ∃ a0 : Nat, u = [(h0, oC 3 [.ref a0, .int 0]), (a0, aI Y 10 (fun _ => 0))]) (fun (u : va_W) => u) (va_A [(h0, oC 3 [.null, .int 0])] sz)) 1 10 (va_A [(h0, oC 3 [.null, .int 0])] sz) :=
  met_of (by decide +kernel) (Nat.le_of_ble_eq_true rfl) (fun p e s m args below meth c B hin hsz => by
    have B : VB p s m args meth c D Y (va_A [(h0, oC 3 [.null, .int 0])] sz) cX1_init 2 RX1 none := B
    refine V_aload_n 0 B dX1_init_0 0 rfl ?_
    refine V_objInit 1 B (mT1 47 rfl rfl) (mT1 34 rfl rfl) (mT1 35 rfl rfl) dX1_init_1 (Nat.le_of_ble_eq_true rfl) (Nat.le_of_ble_eq_true rfl) ?_
    refine V_aload_n 4 B dX1_init_4 0 rfl ?_
    refine V_iload_n 5 B dX1_init_5 1 rfl ?_
    refine V_iconst 6 B (v := 0) dX1_init_6 (by decide +kernel) ?_
    refine V_mmax 7 B (v := 10) gm_RX1_9 dX1_init_7 (Nat.le_of_ble_eq_true rfl) (Nat.le_of_ble_eq_true rfl) (Nat.le_of_ble_eq_true rfl) (Nat.le_of_ble_eq_true rfl) (by decide +kernel) ?_
    refine V_newaI 10 B (N := 10) dX1_init_10 (mT1 58 rfl rfl) (by decide +kernel) (by decide +kernel) (by decide +kernel) (Nat.le_of_ble_eq_true rfl) (Nat.le_of_ble_eq_true rfl) (fun q0 => ?_)
    refine V_ws [(h0, oC 3 [.null, .int 0]), (q0, aI Y 10 (fun _ => 0))] rfl ?_
    refine V_putF 12 B hin gp_RX1_15 0 rfl (Nat.le_of_ble_eq_true rfl) rfl rfl dX1_init_12 [(h0, oC 3 [.ref q0, .int 0]), (q0, aI Y 10 (fun _ => 0))] rfl ?_
    refine V_aload_n 15 B dX1_init_15 0 rfl ?_
    refine V_iconst 16 B (v := 0) dX1_init_16 (by decide +kernel) ?_
    refine V_put 17 B gp_RX1_21 0 rfl (Nat.le_of_ble_eq_true rfl) rfl rfl dX1_init_17 [(h0, oC 3 [.ref q0, .int 0]), (q0, aI Y 10 (fun _ => 0))] rfl ?_
    exact V_vret 20 B dX1_init_20 [(h0, oC 3 [.ref q0, .int 0]), (q0, aI Y 10 (fun _ => 0))] ⟨q0, rfl⟩ rfl)
theorem dX10_init_0 : decode cX10_init 0 = .ok (.aload_n 0, 1) := by decide +kernel
theorem dX10_init_1 : decode cX10_init 1 = .ok (.invokespecial 3, 3) := by decide +kernel
theorem dX10_init_4 : decode cX10_init 4 = .ok (.aload_n 0, 1) := by decide +kernel
theorem dX10_init_5 : decode cX10_init 5 = .ok (.aload_n 1, 1) := by decide +kernel
theorem dX10_init_6 : decode cX10_init 6 = .ok (.putfield 9, 3) := by decide +kernel
theorem gp_RX10_9 : GP RX10 9 11 0 (.object "ShortcutBook$Book") true := ⟨RX10, TX10, 5, ⟨rfl, inw_X10, Nat.le_of_ble_eq_true rfl, (mT2 0 rfl rfl)⟩, ⟨tyX10, tyX10_ok⟩, nmX10, rfl, by decide +kernel, fun _ => rfl⟩
theorem dX10_init_9 : decode cX10_init 9 = .ok (.aload_n 0, 1) := by decide +kernel
theorem dX10_init_10 : decode cX10_init 10 = .ok (.new 15, 3) := by decide +kernel
theorem dX10_init_13 : decode cX10_init 13 = .ok (.dup, 1) := by decide +kernel
theorem dX10_init_14 : decode cX10_init 14 = .ok (.bipush 6, 2) := by decide +kernel
theorem dX10_init_16 : decode cX10_init 16 = .ok (.invokespecial 17, 3) := by decide +kernel
theorem glI_RX10_17 : GLI RX10 17 yX1_init cX1_init 2 1 := ⟨⟨(mT1 237 rfl rfl), (mT1 45 rfl rfl), (mT1 3 rfl rfl), (mT1 46 rfl rfl)⟩, by decide +kernel⟩
theorem dX10_init_19 : decode cX10_init 19 = .ok (.putfield 20, 3) := by decide +kernel
theorem gp_RX10_20 : GP RX10 20 11 1 (.object "ShortcutBook$IntRow") true := ⟨RX10, TX10, 5, ⟨rfl, inw_X10, Nat.le_of_ble_eq_true rfl, (mT2 1 rfl rfl)⟩, ⟨tyX10, tyX10_ok⟩, nmX10, rfl, by decide +kernel, fun _ => rfl⟩
theorem dX10_init_22 : decode cX10_init 22 = .ok (.aload_n 0, 1) := by decide +kernel
theorem dX10_init_23 : decode cX10_init 23 = .ok (.new 15, 3) := by decide +kernel
theorem dX10_init_26 : decode cX10_init 26 = .ok (.dup, 1) := by decide +kernel
theorem dX10_init_27 : decode cX10_init 27 = .ok (.bipush 80, 2) := by decide +kernel
theorem dX10_init_29 : decode cX10_init 29 = .ok (.invokespecial 17, 3) := by decide +kernel
theorem dX10_init_32 : decode cX10_init 32 = .ok (.putfield 24, 3) := by decide +kernel
theorem gp_RX10_24 : GP RX10 24 11 2 (.object "ShortcutBook$IntRow") true := ⟨RX10, TX10, 5, ⟨rfl, inw_X10, Nat.le_of_ble_eq_true rfl, (mT2 2 rfl rfl)⟩, ⟨tyX10, tyX10_ok⟩, nmX10, rfl, by decide +kernel, fun _ => rfl⟩
theorem dX10_init_35 : decode cX10_init 35 = .ok (.aload_n 0, 1) := by decide +kernel
theorem dX10_init_36 : decode cX10_init 36 = .ok (.new 27, 3) := by decide +kernel
theorem dX10_init_39 : decode cX10_init 39 = .ok (.dup, 1) := by decide +kernel
theorem dX10_init_40 : decode cX10_init 40 = .ok (.bipush 86, 2) := by decide +kernel
theorem dX10_init_42 : decode cX10_init 42 = .ok (.invokespecial 29, 3) := by decide +kernel
theorem glI_RX10_29 : GLI RX10 29 yX5_init cX5_init 2 1 := ⟨⟨(mT1 239 rfl rfl), (mT1 62 rfl rfl), (mT1 5 rfl rfl), (mT1 63 rfl rfl)⟩, by decide +kernel⟩
theorem dX10_init_45 : decode cX10_init 45 = .ok (.putfield 30, 3) := by decide +kernel
theorem gp_RX10_30 : GP RX10 30 11 3 (.object "ShortcutBook$SequenceRow") true := ⟨RX10, TX10, 5, ⟨rfl, inw_X10, Nat.le_of_ble_eq_true rfl, (mT2 4 rfl rfl)⟩, ⟨tyX10, tyX10_ok⟩, nmX10, rfl, by decide +kernel, fun _ => rfl⟩
theorem dX10_init_48 : decode cX10_init 48 = .ok (.aload_n 0, 1) := by decide +kernel
theorem dX10_init_49 : decode cX10_init 49 = .ok (.new 15, 3) := by decide +kernel
theorem dX10_init_52 : decode cX10_init 52 = .ok (.dup, 1) := by decide +kernel
theorem dX10_init_53 : decode cX10_init 53 = .ok (.bipush 10, 2) := by decide +kernel
theorem dX10_init_55 : decode cX10_init 55 = .ok (.invokespecial 17, 3) := by decide +kernel
theorem dX10_init_58 : decode cX10_init 58 = .ok (.putfield 34, 3) := by decide +kernel
theorem gp_RX10_34 : GP RX10 34 11 4 (.object "ShortcutBook$IntRow") true := ⟨RX10, TX10, 5, ⟨rfl, inw_X10, Nat.le_of_ble_eq_true rfl, (mT2 5 rfl rfl)⟩, ⟨tyX10, tyX10_ok⟩, nmX10, rfl, by decide +kernel, fun _ => rfl⟩
theorem dX10_init_61 : decode cX10_init 61 = .ok (.return_, 1) := by decide +kernel
set_option maxRecDepth 100000 in
set_option maxHeartbeats 4000000 in
theorem mX10_init_1 (l : Launch) (D : va_G) (Y : Nat → ClassId) (h0 : Nat) (g0 : Nat) (sz : Nat) : Met l yX10_init (WSm yX10_init cX10_init 2 none) (mkR 2 8 190 35) (PreC D Y [.ref h0, .ref g0] [(h0, oC 11 [.null, .null, .null, .null, .null])] sz) (QV D (fun (u : va_W) => ∃ a0 a1 a2 a3 a4 a5 a6 a7 : Nat, u = [(h0, oC 11 [.ref g0, .ref a0, .ref a2, .ref a4, .ref a6]), (a0, oC 3 [.ref a1, .int 0]), (a1, aI Y 6 (fun _ => 0)), (a2, oC 3 [.ref a3, .int 0]), (a3, aI Y 80 (fun _ => 0)), (a4, oC 7 [.ref a5, .int 0]), (a5, aJ Y 86 (fun _ => 0)), (a6, oC 3 [.ref a7, .int 0]), (a7, aI Y 10 (fun _ => 0))]) (fun (u : va_W) => u) (va_A [(h0, oC 11 [.null, .null, .null, .null, .null])] sz)) 8 190 (va_A [(h0, oC 11 [.null, .null, .null, .null, .null])] sz) :=
  met_of (by decide +kernel) (Nat.le_of_ble_eq_true rfl) (fun p e s m args below meth c B hin hsz => by
    have B : VB p s m args meth c D Y (va_A [(h0, oC 11 [.null, .null, .null, .null, .null])] sz) cX10_init 2 RX10 none := B
    refine V_aload_n 0 B dX10_init_0 0 rfl ?_
    refine V_objInit 1 B (mT1 235 rfl rfl) (mT1 34 rfl rfl) (mT1 35 rfl rfl) dX10_init_1 (Nat.le_of_ble_eq_true rfl) (Nat.le_of_ble_eq_true rfl) ?_
    refine V_aload_n 4 B dX10_init_4 0 rfl ?_
    refine V_aload_n 5 B dX10_init_5 1 rfl ?_
    refine V_putF 6 B hin gp_RX10_9 0 rfl (Nat.le_of_ble_eq_true rfl) rfl rfl dX10_init_6 [(h0, oC 11 [.ref g0, .null, .null, .null, .null])] rfl ?_
    refine V_aload_n 9 B dX10_init_9 0 rfl ?_
    refine V_new 10 B gn_RX10_15 dX10_init_10 (Nat.le_of_ble_eq_true rfl) (Nat.le_of_ble_eq_true rfl) (fun q0 => ?_)
    refine V_ws [(h0, oC 11 [.ref g0, .null, .null, .null, .null]), (q0, oC 3 [.null, .int 0])] rfl ?_
    refine V_dup 13 B dX10_init_13 rfl ?_
    refine V_bipush 14 B (v := 6) dX10_init_14 (by decide +kernel) ?_
    refine V_civ 16 B (st := [.ref q0, .ref h0]) (As := [.int 6]) (fun sz => mX1_init_1 l D Y (q0) sz) glI_RX10_17 ⟨rfl, rfl⟩ ⟨(Nat.le_of_ble_eq_true rfl), (Nat.le_of_ble_eq_true rfl)⟩ ⟨(Nat.le_of_ble_eq_true rfl), (Nat.le_of_ble_eq_true rfl)⟩ [1] rfl rfl (Nat.le_of_ble_eq_true rfl) rfl (fun u w => by
        obtain ⟨u0x0, rfl⟩ := w
        rfl) dX10_init_16 (fun u0 w0 => ?_)
    obtain ⟨u0x0, rfl⟩ := w0
    refine V_ws [(h0, oC 11 [.ref g0, .null, .null, .null, .null]), (q0, oC 3 [.ref u0x0, .int 0]), (u0x0, aI Y 6 (fun _ => 0))] rfl ?_
    refine V_putF 19 B hin gp_RX10_20 0 rfl (Nat.le_of_ble_eq_true rfl) rfl rfl dX10_init_19 [(h0, oC 11 [.ref g0, .ref q0, .null, .null, .null]), (q0, oC 3 [.ref u0x0, .int 0]), (u0x0, aI Y 6 (fun _ => 0))] rfl ?_
    refine V_aload_n 22 B dX10_init_22 0 rfl ?_
    refine V_new 23 B gn_RX10_15 dX10_init_23 (Nat.le_of_ble_eq_true rfl) (Nat.le_of_ble_eq_true rfl) (fun q1 => ?_)
    refine V_ws [(h0, oC 11 [.ref g0, .ref q0, .null, .null, .null]), (q0, oC 3 [.ref u0x0, .int 0]), (u0x0, aI Y 6 (fun _ => 0)), (q1, oC 3 [.null, .int 0])] rfl ?_
    refine V_dup 26 B dX10_init_26 rfl ?_
    refine V_bipush 27 B (v := 80) dX10_init_27 (by decide +kernel) ?_
    refine V_civ 29 B (st := [.ref q1, .ref h0]) (As := [.int 80]) (fun sz => mX1_init_3 l D Y (q1) sz) glI_RX10_17 ⟨rfl, rfl⟩ ⟨(Nat.le_of_ble_eq_true rfl), (Nat.le_of_ble_eq_true rfl)⟩ ⟨(Nat.le_of_ble_eq_true rfl), (Nat.le_of_ble_eq_true rfl)⟩ [3] rfl rfl (Nat.le_of_ble_eq_true rfl) rfl (fun u w => by
        obtain ⟨u1x0, rfl⟩ := w
        rfl) dX10_init_29 (fun u1 w1 => ?_)
    obtain ⟨u1x0, rfl⟩ := w1
    refine V_ws [(h0, oC 11 [.ref g0, .ref q0, .null, .null, .null]), (q0, oC 3 [.ref u0x0, .int 0]), (u0x0, aI Y 6 (fun _ => 0)), (q1, oC 3 [.ref u1x0, .int 0]), (u1x0, aI Y 80 (fun _ => 0))] rfl ?_
    refine V_putF 32 B hin gp_RX10_24 0 rfl (Nat.le_of_ble_eq_true rfl) rfl rfl dX10_init_32 [(h0, oC 11 [.ref g0, .ref q0, .ref q1, .null, .null]), (q0, oC 3 [.ref u0x0, .int 0]), (u0x0, aI Y 6 (fun _ => 0)), (q1, oC 3 [.ref u1x0, .int 0]), (u1x0, aI Y 80 (fun _ => 0))] rfl ?_
    refine V_aload_n 35 B dX10_init_35 0 rfl ?_
    refine V_new 36 B gn_RX10_27 dX10_init_36 (Nat.le_of_ble_eq_true rfl) (Nat.le_of_ble_eq_true rfl) (fun q2 => ?_)
    refine V_ws [(h0, oC 11 [.ref g0, .ref q0, .ref q1, .null, .null]), (q0, oC 3 [.ref u0x0, .int 0]), (u0x0, aI Y 6 (fun _ => 0)), (q1, oC 3 [.ref u1x0, .int 0]), (u1x0, aI Y 80 (fun _ => 0)), (q2, oC 7 [.null, .int 0])] rfl ?_
    refine V_dup 39 B dX10_init_39 rfl ?_
    refine V_bipush 40 B (v := 86) dX10_init_40 (by decide +kernel) ?_
    refine V_civ 42 B (st := [.ref q2, .ref h0]) (As := [.int 86]) (fun sz => mX5_init_4 l D Y (q2) sz) glI_RX10_29 ⟨rfl, rfl⟩ ⟨(Nat.le_of_ble_eq_true rfl), (Nat.le_of_ble_eq_true rfl)⟩ ⟨(Nat.le_of_ble_eq_true rfl), (Nat.le_of_ble_eq_true rfl)⟩ [5] rfl rfl (Nat.le_of_ble_eq_true rfl) rfl (fun u w => by
        obtain ⟨u2x0, rfl⟩ := w
        rfl) dX10_init_42 (fun u2 w2 => ?_)
    obtain ⟨u2x0, rfl⟩ := w2
    refine V_ws [(h0, oC 11 [.ref g0, .ref q0, .ref q1, .null, .null]), (q0, oC 3 [.ref u0x0, .int 0]), (u0x0, aI Y 6 (fun _ => 0)), (q1, oC 3 [.ref u1x0, .int 0]), (u1x0, aI Y 80 (fun _ => 0)), (q2, oC 7 [.ref u2x0, .int 0]), (u2x0, aJ Y 86 (fun _ => 0))] rfl ?_
    refine V_putF 45 B hin gp_RX10_30 0 rfl (Nat.le_of_ble_eq_true rfl) rfl rfl dX10_init_45 [(h0, oC 11 [.ref g0, .ref q0, .ref q1, .ref q2, .null]), (q0, oC 3 [.ref u0x0, .int 0]), (u0x0, aI Y 6 (fun _ => 0)), (q1, oC 3 [.ref u1x0, .int 0]), (u1x0, aI Y 80 (fun _ => 0)), (q2, oC 7 [.ref u2x0, .int 0]), (u2x0, aJ Y 86 (fun _ => 0))] rfl ?_
    refine V_aload_n 48 B dX10_init_48 0 rfl ?_
    refine V_new 49 B gn_RX10_15 dX10_init_49 (Nat.le_of_ble_eq_true rfl) (Nat.le_of_ble_eq_true rfl) (fun q3 => ?_)
    refine V_ws [(h0, oC 11 [.ref g0, .ref q0, .ref q1, .ref q2, .null]), (q0, oC 3 [.ref u0x0, .int 0]), (u0x0, aI Y 6 (fun _ => 0)), (q1, oC 3 [.ref u1x0, .int 0]), (u1x0, aI Y 80 (fun _ => 0)), (q2, oC 7 [.ref u2x0, .int 0]), (u2x0, aJ Y 86 (fun _ => 0)), (q3, oC 3 [.null, .int 0])] rfl ?_
    refine V_dup 52 B dX10_init_52 rfl ?_
    refine V_bipush 53 B (v := 10) dX10_init_53 (by decide +kernel) ?_
    refine V_civ 55 B (st := [.ref q3, .ref h0]) (As := [.int 10]) (fun sz => mX1_init_7 l D Y (q3) sz) glI_RX10_17 ⟨rfl, rfl⟩ ⟨(Nat.le_of_ble_eq_true rfl), (Nat.le_of_ble_eq_true rfl)⟩ ⟨(Nat.le_of_ble_eq_true rfl), (Nat.le_of_ble_eq_true rfl)⟩ [7] rfl rfl (Nat.le_of_ble_eq_true rfl) rfl (fun u w => by
        obtain ⟨u3x0, rfl⟩ := w
        rfl) dX10_init_55 (fun u3 w3 => ?_)
    obtain ⟨u3x0, rfl⟩ := w3
    refine V_ws [(h0, oC 11 [.ref g0, .ref q0, .ref q1, .ref q2, .null]), (q0, oC 3 [.ref u0x0, .int 0]), (u0x0, aI Y 6 (fun _ => 0)), (q1, oC 3 [.ref u1x0, .int 0]), (u1x0, aI Y 80 (fun _ => 0)), (q2, oC 7 [.ref u2x0, .int 0]), (u2x0, aJ Y 86 (fun _ => 0)), (q3, oC 3 [.ref u3x0, .int 0]), (u3x0, aI Y 10 (fun _ => 0))] rfl ?_
    refine V_putF 58 B hin gp_RX10_34 0 rfl (Nat.le_of_ble_eq_true rfl) rfl rfl dX10_init_58 [(h0, oC 11 [.ref g0, .ref q0, .ref q1, .ref q2, .ref q3]), (q0, oC 3 [.ref u0x0, .int 0]), (u0x0, aI Y 6 (fun _ => 0)), (q1, oC 3 [.ref u1x0, .int 0]), (u1x0, aI Y 80 (fun _ => 0)), (q2, oC 7 [.ref u2x0, .int 0]), (u2x0, aJ Y 86 (fun _ => 0)), (q3, oC 3 [.ref u3x0, .int 0]), (u3x0, aI Y 10 (fun _ => 0))] rfl ?_
    exact V_vret 61 B dX10_init_61 [(h0, oC 11 [.ref g0, .ref q0, .ref q1, .ref q2, .ref q3]), (q0, oC 3 [.ref u0x0, .int 0]), (u0x0, aI Y 6 (fun _ => 0)), (q1, oC 3 [.ref u1x0, .int 0]), (u1x0, aI Y 80 (fun _ => 0)), (q2, oC 7 [.ref u2x0, .int 0]), (u2x0, aJ Y 86 (fun _ => 0)), (q3, oC 3 [.ref u3x0, .int 0]), (u3x0, aI Y 10 (fun _ => 0))] ⟨q0, u0x0, q1, u1x0, q2, u2x0, q3, u3x0, rfl⟩ rfl)
theorem inw_X9 : ∀ w ∈ u_ws RX9 TX9 2, w ∈ lw_good := by decide +kernel
theorem gn_RX11_34 : GN RX11 34 10 2 [.null, .null] := ⟨RX9, TX9, 2, tyX9, rfl, inw_X9, tyX9_ok, (mT2 17 rfl rfl), (mT2 18 rfl rfl), (mT1 9 rfl rfl), (by decide +kernel), rfl⟩
theorem dX9_init_0 : decode cX9_init 0 = .ok (.aload_n 0, 1) := by decide +kernel
theorem dX9_init_1 : decode cX9_init 1 = .ok (.invokespecial 3, 3) := by decide +kernel
theorem dX9_init_4 : decode cX9_init 4 = .ok (.aload_n 0, 1) := by decide +kernel
theorem dX9_init_5 : decode cX9_init 5 = .ok (.aload_n 1, 1) := by decide +kernel
theorem dX9_init_6 : decode cX9_init 6 = .ok (.putfield 9, 3) := by decide +kernel
theorem gp_RX9_9 : GP RX9 9 10 0 (.object "ShortcutBook$Book") true := ⟨RX9, TX9, 2, ⟨rfl, inw_X9, Nat.le_of_ble_eq_true rfl, (mT2 23 rfl rfl)⟩, ⟨tyX9, tyX9_ok⟩, nmX9, rfl, by decide +kernel, fun _ => rfl⟩
theorem dX9_init_9 : decode cX9_init 9 = .ok (.aload_n 0, 1) := by decide +kernel
theorem dX9_init_10 : decode cX9_init 10 = .ok (.aload_n 2, 1) := by decide +kernel
theorem dX9_init_11 : decode cX9_init 11 = .ok (.putfield 15, 3) := by decide +kernel
theorem gp_RX9_15 : GP RX9 15 10 1 (.object "ShortcutBook$View") true := ⟨RX9, TX9, 2, ⟨rfl, inw_X9, Nat.le_of_ble_eq_true rfl, (mT2 24 rfl rfl)⟩, ⟨tyX9, tyX9_ok⟩, nmX9, rfl, by decide +kernel, fun _ => rfl⟩
theorem dX9_init_14 : decode cX9_init 14 = .ok (.return_, 1) := by decide +kernel
set_option maxRecDepth 100000 in
set_option maxHeartbeats 4000000 in
theorem mX9_init_1 (l : Launch) (D : va_G) (Y : Nat → ClassId) (h0 : Nat) (g0 : Nat) (g1 : Nat) (sz : Nat) : Met l yX9_init (WSm yX9_init cX9_init 3 none) (mkR 1 0 0 12) (PreC D Y [.ref h0, .ref g0, .ref g1] [(h0, oC 10 [.null, .null])] sz) (QV D (fun (u : Unit) => True) (fun (_ : Unit) => [(h0, oC 10 [.ref g0, .ref g1])]) (va_A [(h0, oC 10 [.null, .null])] sz)) 0 0 (va_A [(h0, oC 10 [.null, .null])] sz) :=
  met_of (by decide +kernel) (Nat.le_of_ble_eq_true rfl) (fun p e s m args below meth c B hin hsz => by
    have B : VB p s m args meth c D Y (va_A [(h0, oC 10 [.null, .null])] sz) cX9_init 3 RX9 none := B
    refine V_aload_n 0 B dX9_init_0 0 rfl ?_
    refine V_objInit 1 B (mT2 22 rfl rfl) (mT1 34 rfl rfl) (mT1 35 rfl rfl) dX9_init_1 (Nat.le_of_ble_eq_true rfl) (Nat.le_of_ble_eq_true rfl) ?_
    refine V_aload_n 4 B dX9_init_4 0 rfl ?_
    refine V_aload_n 5 B dX9_init_5 1 rfl ?_
    refine V_putF 6 B hin gp_RX9_9 0 rfl (Nat.le_of_ble_eq_true rfl) rfl rfl dX9_init_6 [(h0, oC 10 [.ref g0, .null])] rfl ?_
    refine V_aload_n 9 B dX9_init_9 0 rfl ?_
    refine V_aload_n 10 B dX9_init_10 2 rfl ?_
    refine V_putF 11 B hin gp_RX9_15 0 rfl (Nat.le_of_ble_eq_true rfl) rfl rfl dX9_init_11 [(h0, oC 10 [.ref g0, .ref g1])] rfl ?_
    exact V_vret 14 B dX9_init_14 () trivial rfl)
theorem inw_X7 : ∀ w ∈ u_ws RX7 TX7 9, w ∈ lw_good := by decide +kernel
theorem gn_RX11_43 : GN RX11 43 8 9 [.null, .int 0, .int 0, .int 0, .int 0, .int 0, .long 0, .int 0, .int 0] := ⟨RX7, TX7, 9, tyX7, rfl, inw_X7, tyX7_ok, (mT2 30 rfl rfl), (mT2 31 rfl rfl), (mT1 10 rfl rfl), (by decide +kernel), rfl⟩
theorem dX7_init_0 : decode cX7_init 0 = .ok (.aload_n 0, 1) := by decide +kernel
theorem dX7_init_1 : decode cX7_init 1 = .ok (.invokespecial 3, 3) := by decide +kernel
theorem dX7_init_4 : decode cX7_init 4 = .ok (.aload_n 0, 1) := by decide +kernel
theorem dX7_init_5 : decode cX7_init 5 = .ok (.sipush 1600, 3) := by decide +kernel
theorem dX7_init_8 : decode cX7_init 8 = .ok (.newarray .byte, 2) := by decide +kernel
theorem dX7_init_10 : decode cX7_init 10 = .ok (.putfield 9, 3) := by decide +kernel
theorem gp_RX7_9 : GP RX7 9 8 0 (.array .byte) true := ⟨RX7, TX7, 9, ⟨rfl, inw_X7, Nat.le_of_ble_eq_true rfl, (mT2 36 rfl rfl)⟩, ⟨tyX7, tyX7_ok⟩, nmX7, rfl, by decide +kernel, fun _ => rfl⟩
theorem dX7_init_13 : decode cX7_init 13 = .ok (.aload_n 0, 1) := by decide +kernel
theorem dX7_init_14 : decode cX7_init 14 = .ok (.iconst (-1), 1) := by decide +kernel
theorem dX7_init_15 : decode cX7_init 15 = .ok (.putfield 15, 3) := by decide +kernel
theorem gp_RX7_15 : GP RX7 15 8 8 .int false := ⟨RX7, TX7, 9, ⟨rfl, inw_X7, Nat.le_of_ble_eq_true rfl, (mT2 55 rfl rfl)⟩, ⟨tyX7, tyX7_ok⟩, nmX7, rfl, by decide +kernel, fun h => nomatch h⟩
theorem dX7_init_18 : decode cX7_init 18 = .ok (.return_, 1) := by decide +kernel
set_option maxRecDepth 100000 in
set_option maxHeartbeats 4000000 in
theorem mX7_init_1 (l : Launch) (D : va_G) (Y : Nat → ClassId) (h0 : Nat) (sz : Nat) : Met l yX7_init (WSm yX7_init cX7_init 1 none) (mkR 1 1 1600 12) (PreC D Y [.ref h0] [(h0, oC 8 [.null, .int 0, .int 0, .int 0, .int 0, .int 0, .long 0, .int 0, .int 0])] sz) (QV D (fun (u : va_W) => ∃ a0 : Nat, u = [(h0, oC 8 [.ref a0, .int 0, .int 0, .int 0, .int 0, .int 0, .long 0, .int 0, .int (-1)]), (a0, aB Y 1600 (fun _ => 0))]) (fun (u : va_W) => u) (va_A [(h0, oC 8 [.null, .int 0, .int 0, .int 0, .int 0, .int 0, .long 0, .int 0, .int 0])] sz)) 1 1600 (va_A [(h0, oC 8 [.null, .int 0, .int 0, .int 0, .int 0, .int 0, .long 0, .int 0, .int 0])] sz) :=
  met_of (by decide +kernel) (Nat.le_of_ble_eq_true rfl) (fun p e s m args below meth c B hin hsz => by
    have B : VB p s m args meth c D Y (va_A [(h0, oC 8 [.null, .int 0, .int 0, .int 0, .int 0, .int 0, .long 0, .int 0, .int 0])] sz) cX7_init 1 RX7 none := B
    refine V_aload_n 0 B dX7_init_0 0 rfl ?_
    refine V_objInit 1 B (mT2 35 rfl rfl) (mT1 34 rfl rfl) (mT1 35 rfl rfl) dX7_init_1 (Nat.le_of_ble_eq_true rfl) (Nat.le_of_ble_eq_true rfl) ?_
    refine V_aload_n 4 B dX7_init_4 0 rfl ?_
    refine V_sipush 5 B (v := 1600) dX7_init_5 (by decide +kernel) ?_
    refine V_newaB 8 B (N := 1600) dX7_init_8 (mT2 76 rfl rfl) (by decide +kernel) (by decide +kernel) (by decide +kernel) (Nat.le_of_ble_eq_true rfl) (Nat.le_of_ble_eq_true rfl) (fun q0 => ?_)
    refine V_ws [(h0, oC 8 [.null, .int 0, .int 0, .int 0, .int 0, .int 0, .long 0, .int 0, .int 0]), (q0, aB Y 1600 (fun _ => 0))] rfl ?_
    refine V_putF 10 B hin gp_RX7_9 0 rfl (Nat.le_of_ble_eq_true rfl) rfl rfl dX7_init_10 [(h0, oC 8 [.ref q0, .int 0, .int 0, .int 0, .int 0, .int 0, .long 0, .int 0, .int 0]), (q0, aB Y 1600 (fun _ => 0))] rfl ?_
    refine V_aload_n 13 B dX7_init_13 0 rfl ?_
    refine V_iconst 14 B (v := (-1)) dX7_init_14 (by decide +kernel) ?_
    refine V_put 15 B gp_RX7_15 0 rfl (Nat.le_of_ble_eq_true rfl) rfl rfl dX7_init_15 [(h0, oC 8 [.ref q0, .int 0, .int 0, .int 0, .int 0, .int 0, .long 0, .int 0, .int (-1)]), (q0, aB Y 1600 (fun _ => 0))] rfl ?_
    exact V_vret 18 B dX7_init_18 [(h0, oC 8 [.ref q0, .int 0, .int 0, .int 0, .int 0, .int 0, .long 0, .int 0, .int (-1)]), (q0, aB Y 1600 (fun _ => 0))] ⟨q0, rfl⟩ rfl)
theorem inw_X3 : ∀ w ∈ u_ws RX3 TX3 3, w ∈ lw_good := by decide +kernel
theorem gn_RX11_50 : GN RX11 50 5 3 [.null, .null, .null] := ⟨RX3, TX3, 3, tyX3, rfl, inw_X3, tyX3_ok, (mT2 77 rfl rfl), (mT2 78 rfl rfl), (mT1 11 rfl rfl), (by decide +kernel), rfl⟩
theorem gn_RX3_19 : GN RX3 19 3 2 [.null, .int 0] := ⟨RX1, TX1, 2, tyX1, rfl, inw_X1, tyX1_ok, (mT2 83 rfl rfl), (mT1 43 rfl rfl), (mT1 3 rfl rfl), (by decide +kernel), rfl⟩
set_option maxRecDepth 100000 in
set_option maxHeartbeats 4000000 in
theorem mX1_init_8 (l : Launch) (D : va_G) (Y : Nat → ClassId) (h0 : Nat) (sz : Nat) : Met l yX1_init (WSm yX1_init cX1_init 2 none) (mkR 1 1 26 14) (PreC D Y [.ref h0, .int 26] [(h0, oC 3 [.null, .int 0])] sz) (QV D (fun (u : va_W) => ∃ a0 : Nat, u = [(h0, oC 3 [.ref a0, .int 0]), (a0, aI Y 26 (fun _ => 0))]) (fun (u : va_W) => u) (va_A [(h0, oC 3 [.null, .int 0])] sz)) 1 26 (va_A [(h0, oC 3 [.null, .int 0])] sz) :=
  met_of (by decide +kernel) (Nat.le_of_ble_eq_true rfl) (fun p e s m args below meth c B hin hsz => by
    have B : VB p s m args meth c D Y (va_A [(h0, oC 3 [.null, .int 0])] sz) cX1_init 2 RX1 none := B
    refine V_aload_n 0 B dX1_init_0 0 rfl ?_
    refine V_objInit 1 B (mT1 47 rfl rfl) (mT1 34 rfl rfl) (mT1 35 rfl rfl) dX1_init_1 (Nat.le_of_ble_eq_true rfl) (Nat.le_of_ble_eq_true rfl) ?_
    refine V_aload_n 4 B dX1_init_4 0 rfl ?_
    refine V_iload_n 5 B dX1_init_5 1 rfl ?_
    refine V_iconst 6 B (v := 0) dX1_init_6 (by decide +kernel) ?_
    refine V_mmax 7 B (v := 26) gm_RX1_9 dX1_init_7 (Nat.le_of_ble_eq_true rfl) (Nat.le_of_ble_eq_true rfl) (Nat.le_of_ble_eq_true rfl) (Nat.le_of_ble_eq_true rfl) (by decide +kernel) ?_
    refine V_newaI 10 B (N := 26) dX1_init_10 (mT1 58 rfl rfl) (by decide +kernel) (by decide +kernel) (by decide +kernel) (Nat.le_of_ble_eq_true rfl) (Nat.le_of_ble_eq_true rfl) (fun q0 => ?_)
    refine V_ws [(h0, oC 3 [.null, .int 0]), (q0, aI Y 26 (fun _ => 0))] rfl ?_
    refine V_putF 12 B hin gp_RX1_15 0 rfl (Nat.le_of_ble_eq_true rfl) rfl rfl dX1_init_12 [(h0, oC 3 [.ref q0, .int 0]), (q0, aI Y 26 (fun _ => 0))] rfl ?_
    refine V_aload_n 15 B dX1_init_15 0 rfl ?_
    refine V_iconst 16 B (v := 0) dX1_init_16 (by decide +kernel) ?_
    refine V_put 17 B gp_RX1_21 0 rfl (Nat.le_of_ble_eq_true rfl) rfl rfl dX1_init_17 [(h0, oC 3 [.ref q0, .int 0]), (q0, aI Y 26 (fun _ => 0))] rfl ?_
    exact V_vret 20 B dX1_init_20 [(h0, oC 3 [.ref q0, .int 0]), (q0, aI Y 26 (fun _ => 0))] ⟨q0, rfl⟩ rfl)
theorem dX3_init_0 : decode cX3_init 0 = .ok (.aload_n 0, 1) := by decide +kernel
theorem dX3_init_1 : decode cX3_init 1 = .ok (.invokespecial 3, 3) := by decide +kernel
theorem dX3_init_4 : decode cX3_init 4 = .ok (.aload_n 0, 1) := by decide +kernel
theorem dX3_init_5 : decode cX3_init 5 = .ok (.aload_n 1, 1) := by decide +kernel
theorem dX3_init_6 : decode cX3_init 6 = .ok (.putfield 9, 3) := by decide +kernel
theorem gp_RX3_9 : GP RX3 9 5 0 (.object "ShortcutBook$Tokens") true := ⟨RX3, TX3, 3, ⟨rfl, inw_X3, Nat.le_of_ble_eq_true rfl, (mT2 85 rfl rfl)⟩, ⟨tyX3, tyX3_ok⟩, nmX3, rfl, by decide +kernel, fun _ => rfl⟩
theorem dX3_init_9 : decode cX3_init 9 = .ok (.aload_n 0, 1) := by decide +kernel
theorem dX3_init_10 : decode cX3_init 10 = .ok (.aload_n 2, 1) := by decide +kernel
theorem dX3_init_11 : decode cX3_init 11 = .ok (.putfield 15, 3) := by decide +kernel
theorem gp_RX3_15 : GP RX3 15 5 1 (.object "ShortcutBook$Book") true := ⟨RX3, TX3, 3, ⟨rfl, inw_X3, Nat.le_of_ble_eq_true rfl, (mT2 86 rfl rfl)⟩, ⟨tyX3, tyX3_ok⟩, nmX3, rfl, by decide +kernel, fun _ => rfl⟩
theorem dX3_init_14 : decode cX3_init 14 = .ok (.aload_n 0, 1) := by decide +kernel
theorem dX3_init_15 : decode cX3_init 15 = .ok (.new 19, 3) := by decide +kernel
theorem dX3_init_18 : decode cX3_init 18 = .ok (.dup, 1) := by decide +kernel
theorem dX3_init_19 : decode cX3_init 19 = .ok (.bipush 26, 2) := by decide +kernel
theorem dX3_init_21 : decode cX3_init 21 = .ok (.invokespecial 21, 3) := by decide +kernel
theorem glI_RX3_21 : GLI RX3 21 yX1_init cX1_init 2 1 := ⟨⟨(mT2 84 rfl rfl), (mT1 45 rfl rfl), (mT1 3 rfl rfl), (mT1 46 rfl rfl)⟩, by decide +kernel⟩
theorem dX3_init_24 : decode cX3_init 24 = .ok (.putfield 24, 3) := by decide +kernel
theorem gp_RX3_24 : GP RX3 24 5 2 (.object "ShortcutBook$IntRow") true := ⟨RX3, TX3, 3, ⟨rfl, inw_X3, Nat.le_of_ble_eq_true rfl, (mT2 87 rfl rfl)⟩, ⟨tyX3, tyX3_ok⟩, nmX3, rfl, by decide +kernel, fun _ => rfl⟩
theorem dX3_init_27 : decode cX3_init 27 = .ok (.return_, 1) := by decide +kernel
set_option maxRecDepth 100000 in
set_option maxHeartbeats 4000000 in
theorem mX3_init_1 (l : Launch) (D : va_G) (Y : Nat → ClassId) (h0 : Nat) (g0 : Nat) (g1 : Nat) (sz : Nat) : Met l yX3_init (WSm yX3_init cX3_init 3 none) (mkR 2 2 28 35) (PreC D Y [.ref h0, .ref g0, .ref g1] [(h0, oC 5 [.null, .null, .null])] sz) (QV D (fun (u : va_W) => ∃ a0 a1 : Nat, u = [(h0, oC 5 [.ref g0, .ref g1, .ref a0]), (a0, oC 3 [.ref a1, .int 0]), (a1, aI Y 26 (fun _ => 0))]) (fun (u : va_W) => u) (va_A [(h0, oC 5 [.null, .null, .null])] sz)) 2 28 (va_A [(h0, oC 5 [.null, .null, .null])] sz) :=
  met_of (by decide +kernel) (Nat.le_of_ble_eq_true rfl) (fun p e s m args below meth c B hin hsz => by
    have B : VB p s m args meth c D Y (va_A [(h0, oC 5 [.null, .null, .null])] sz) cX3_init 3 RX3 none := B
    refine V_aload_n 0 B dX3_init_0 0 rfl ?_
    refine V_objInit 1 B (mT2 82 rfl rfl) (mT1 34 rfl rfl) (mT1 35 rfl rfl) dX3_init_1 (Nat.le_of_ble_eq_true rfl) (Nat.le_of_ble_eq_true rfl) ?_
    refine V_aload_n 4 B dX3_init_4 0 rfl ?_
    refine V_aload_n 5 B dX3_init_5 1 rfl ?_
    refine V_putF 6 B hin gp_RX3_9 0 rfl (Nat.le_of_ble_eq_true rfl) rfl rfl dX3_init_6 [(h0, oC 5 [.ref g0, .null, .null])] rfl ?_
    refine V_aload_n 9 B dX3_init_9 0 rfl ?_
    refine V_aload_n 10 B dX3_init_10 2 rfl ?_
    refine V_putF 11 B hin gp_RX3_15 0 rfl (Nat.le_of_ble_eq_true rfl) rfl rfl dX3_init_11 [(h0, oC 5 [.ref g0, .ref g1, .null])] rfl ?_
    refine V_aload_n 14 B dX3_init_14 0 rfl ?_
    refine V_new 15 B gn_RX3_19 dX3_init_15 (Nat.le_of_ble_eq_true rfl) (Nat.le_of_ble_eq_true rfl) (fun q0 => ?_)
    refine V_ws [(h0, oC 5 [.ref g0, .ref g1, .null]), (q0, oC 3 [.null, .int 0])] rfl ?_
    refine V_dup 18 B dX3_init_18 rfl ?_
    refine V_bipush 19 B (v := 26) dX3_init_19 (by decide +kernel) ?_
    refine V_civ 21 B (st := [.ref q0, .ref h0]) (As := [.int 26]) (fun sz => mX1_init_8 l D Y (q0) sz) glI_RX3_21 ⟨rfl, rfl⟩ ⟨(Nat.le_of_ble_eq_true rfl), (Nat.le_of_ble_eq_true rfl)⟩ ⟨(Nat.le_of_ble_eq_true rfl), (Nat.le_of_ble_eq_true rfl)⟩ [1] rfl rfl (Nat.le_of_ble_eq_true rfl) rfl (fun u w => by
        obtain ⟨u0x0, rfl⟩ := w
        rfl) dX3_init_21 (fun u0 w0 => ?_)
    obtain ⟨u0x0, rfl⟩ := w0
    refine V_ws [(h0, oC 5 [.ref g0, .ref g1, .null]), (q0, oC 3 [.ref u0x0, .int 0]), (u0x0, aI Y 26 (fun _ => 0))] rfl ?_
    refine V_putF 24 B hin gp_RX3_24 0 rfl (Nat.le_of_ble_eq_true rfl) rfl rfl dX3_init_24 [(h0, oC 5 [.ref g0, .ref g1, .ref q0]), (q0, oC 3 [.ref u0x0, .int 0]), (u0x0, aI Y 26 (fun _ => 0))] rfl ?_
    exact V_vret 27 B dX3_init_27 [(h0, oC 5 [.ref g0, .ref g1, .ref q0]), (q0, oC 3 [.ref u0x0, .int 0]), (u0x0, aI Y 26 (fun _ => 0))] ⟨q0, u0x0, rfl⟩ rfl)
theorem inw_X4 : ∀ w ∈ u_ws RX4 TX4 7, w ∈ lw_good := by decide +kernel
theorem gn_RX11_59 : GN RX11 59 6 7 [.null, .null, .null, .null, .null, .null, .null] := ⟨RX4, TX4, 7, tyX4, rfl, inw_X4, tyX4_ok, (mT2 95 rfl rfl), (mT2 96 rfl rfl), (mT1 12 rfl rfl), (by decide +kernel), rfl⟩
theorem gn_RX4_23 : GN RX4 23 3 2 [.null, .int 0] := ⟨RX1, TX1, 2, tyX1, rfl, inw_X1, tyX1_ok, (mT2 101 rfl rfl), (mT1 43 rfl rfl), (mT1 3 rfl rfl), (by decide +kernel), rfl⟩
theorem gn_RX4_38 : GN RX4 38 7 2 [.null, .int 0] := ⟨RX5, TX5, 2, tyX5, rfl, inw_X5, tyX5_ok, (mT2 103 rfl rfl), (mT1 60 rfl rfl), (mT1 5 rfl rfl), (by decide +kernel), rfl⟩
set_option maxRecDepth 100000 in
set_option maxHeartbeats 4000000 in
theorem mX5_init_5 (l : Launch) (D : va_G) (Y : Nat → ClassId) (h0 : Nat) (sz : Nat) : Met l yX5_init (WSm yX5_init cX5_init 2 none) (mkR 1 1 40 14) (PreC D Y [.ref h0, .int 40] [(h0, oC 7 [.null, .int 0])] sz) (QV D (fun (u : va_W) => ∃ a0 : Nat, u = [(h0, oC 7 [.ref a0, .int 0]), (a0, aJ Y 40 (fun _ => 0))]) (fun (u : va_W) => u) (va_A [(h0, oC 7 [.null, .int 0])] sz)) 1 40 (va_A [(h0, oC 7 [.null, .int 0])] sz) :=
  met_of (by decide +kernel) (Nat.le_of_ble_eq_true rfl) (fun p e s m args below meth c B hin hsz => by
    have B : VB p s m args meth c D Y (va_A [(h0, oC 7 [.null, .int 0])] sz) cX5_init 2 RX5 none := B
    refine V_aload_n 0 B dX5_init_0 0 rfl ?_
    refine V_objInit 1 B (mT1 64 rfl rfl) (mT1 34 rfl rfl) (mT1 35 rfl rfl) dX5_init_1 (Nat.le_of_ble_eq_true rfl) (Nat.le_of_ble_eq_true rfl) ?_
    refine V_aload_n 4 B dX5_init_4 0 rfl ?_
    refine V_iload_n 5 B dX5_init_5 1 rfl ?_
    refine V_iconst 6 B (v := 0) dX5_init_6 (by decide +kernel) ?_
    refine V_mmax 7 B (v := 40) gm_RX5_7 dX5_init_7 (Nat.le_of_ble_eq_true rfl) (Nat.le_of_ble_eq_true rfl) (Nat.le_of_ble_eq_true rfl) (Nat.le_of_ble_eq_true rfl) (by decide +kernel) ?_
    refine V_newaJ 10 B (N := 40) dX5_init_10 (mT1 73 rfl rfl) (by decide +kernel) (by decide +kernel) (by decide +kernel) (Nat.le_of_ble_eq_true rfl) (Nat.le_of_ble_eq_true rfl) (fun q0 => ?_)
    refine V_ws [(h0, oC 7 [.null, .int 0]), (q0, aJ Y 40 (fun _ => 0))] rfl ?_
    refine V_putF 12 B hin gp_RX5_13 0 rfl (Nat.le_of_ble_eq_true rfl) rfl rfl dX5_init_12 [(h0, oC 7 [.ref q0, .int 0]), (q0, aJ Y 40 (fun _ => 0))] rfl ?_
    refine V_aload_n 15 B dX5_init_15 0 rfl ?_
    refine V_iconst 16 B (v := 0) dX5_init_16 (by decide +kernel) ?_
    refine V_put 17 B gp_RX5_19 0 rfl (Nat.le_of_ble_eq_true rfl) rfl rfl dX5_init_17 [(h0, oC 7 [.ref q0, .int 0]), (q0, aJ Y 40 (fun _ => 0))] rfl ?_
    exact V_vret 20 B dX5_init_20 [(h0, oC 7 [.ref q0, .int 0]), (q0, aJ Y 40 (fun _ => 0))] ⟨q0, rfl⟩ rfl)
theorem dX4_init_0 : decode cX4_init 0 = .ok (.aload_n 0, 1) := by decide +kernel
theorem dX4_init_1 : decode cX4_init 1 = .ok (.invokespecial 3, 3) := by decide +kernel
theorem dX4_init_4 : decode cX4_init 4 = .ok (.aload_n 0, 1) := by decide +kernel
theorem dX4_init_5 : decode cX4_init 5 = .ok (.aload_n 1, 1) := by decide +kernel
theorem dX4_init_6 : decode cX4_init 6 = .ok (.putfield 9, 3) := by decide +kernel
theorem gp_RX4_9 : GP RX4 9 6 0 (.object "ShortcutBook$Tokens") true := ⟨RX4, TX4, 7, ⟨rfl, inw_X4, Nat.le_of_ble_eq_true rfl, (mT2 105 rfl rfl)⟩, ⟨tyX4, tyX4_ok⟩, nmX4, rfl, by decide +kernel, fun _ => rfl⟩
theorem dX4_init_9 : decode cX4_init 9 = .ok (.aload_n 0, 1) := by decide +kernel
theorem dX4_init_10 : decode cX4_init 10 = .ok (.aload_n 2, 1) := by decide +kernel
theorem dX4_init_11 : decode cX4_init 11 = .ok (.putfield 15, 3) := by decide +kernel
theorem gp_RX4_15 : GP RX4 15 6 1 (.object "ShortcutBook$Book") true := ⟨RX4, TX4, 7, ⟨rfl, inw_X4, Nat.le_of_ble_eq_true rfl, (mT2 106 rfl rfl)⟩, ⟨tyX4, tyX4_ok⟩, nmX4, rfl, by decide +kernel, fun _ => rfl⟩
theorem dX4_init_14 : decode cX4_init 14 = .ok (.aload_n 0, 1) := by decide +kernel
theorem dX4_init_15 : decode cX4_init 15 = .ok (.aload_n 3, 1) := by decide +kernel
theorem dX4_init_16 : decode cX4_init 16 = .ok (.putfield 19, 3) := by decide +kernel
theorem gp_RX4_19 : GP RX4 19 6 2 (.object "ShortcutBook$Typist") true := ⟨RX4, TX4, 7, ⟨rfl, inw_X4, Nat.le_of_ble_eq_true rfl, (mT2 107 rfl rfl)⟩, ⟨tyX4, tyX4_ok⟩, nmX4, rfl, by decide +kernel, fun _ => rfl⟩
theorem dX4_init_19 : decode cX4_init 19 = .ok (.aload_n 0, 1) := by decide +kernel
theorem dX4_init_20 : decode cX4_init 20 = .ok (.new 23, 3) := by decide +kernel
theorem dX4_init_23 : decode cX4_init 23 = .ok (.dup, 1) := by decide +kernel
theorem dX4_init_24 : decode cX4_init 24 = .ok (.bipush 40, 2) := by decide +kernel
theorem dX4_init_26 : decode cX4_init 26 = .ok (.invokespecial 25, 3) := by decide +kernel
theorem glI_RX4_25 : GLI RX4 25 yX1_init cX1_init 2 1 := ⟨⟨(mT2 102 rfl rfl), (mT1 45 rfl rfl), (mT1 3 rfl rfl), (mT1 46 rfl rfl)⟩, by decide +kernel⟩
theorem dX4_init_29 : decode cX4_init 29 = .ok (.putfield 28, 3) := by decide +kernel
theorem gp_RX4_28 : GP RX4 28 6 3 (.object "ShortcutBook$IntRow") true := ⟨RX4, TX4, 7, ⟨rfl, inw_X4, Nat.le_of_ble_eq_true rfl, (mT2 108 rfl rfl)⟩, ⟨tyX4, tyX4_ok⟩, nmX4, rfl, by decide +kernel, fun _ => rfl⟩
theorem dX4_init_32 : decode cX4_init 32 = .ok (.aload_n 0, 1) := by decide +kernel
theorem dX4_init_33 : decode cX4_init 33 = .ok (.new 23, 3) := by decide +kernel
theorem dX4_init_36 : decode cX4_init 36 = .ok (.dup, 1) := by decide +kernel
theorem dX4_init_37 : decode cX4_init 37 = .ok (.bipush 40, 2) := by decide +kernel
theorem dX4_init_39 : decode cX4_init 39 = .ok (.invokespecial 25, 3) := by decide +kernel
theorem dX4_init_42 : decode cX4_init 42 = .ok (.putfield 32, 3) := by decide +kernel
theorem gp_RX4_32 : GP RX4 32 6 4 (.object "ShortcutBook$IntRow") true := ⟨RX4, TX4, 7, ⟨rfl, inw_X4, Nat.le_of_ble_eq_true rfl, (mT2 110 rfl rfl)⟩, ⟨tyX4, tyX4_ok⟩, nmX4, rfl, by decide +kernel, fun _ => rfl⟩
theorem dX4_init_45 : decode cX4_init 45 = .ok (.aload_n 0, 1) := by decide +kernel
theorem dX4_init_46 : decode cX4_init 46 = .ok (.new 23, 3) := by decide +kernel
theorem dX4_init_49 : decode cX4_init 49 = .ok (.dup, 1) := by decide +kernel
theorem dX4_init_50 : decode cX4_init 50 = .ok (.bipush 40, 2) := by decide +kernel
theorem dX4_init_52 : decode cX4_init 52 = .ok (.invokespecial 25, 3) := by decide +kernel
theorem dX4_init_55 : decode cX4_init 55 = .ok (.putfield 35, 3) := by decide +kernel
theorem gp_RX4_35 : GP RX4 35 6 5 (.object "ShortcutBook$IntRow") true := ⟨RX4, TX4, 7, ⟨rfl, inw_X4, Nat.le_of_ble_eq_true rfl, (mT2 111 rfl rfl)⟩, ⟨tyX4, tyX4_ok⟩, nmX4, rfl, by decide +kernel, fun _ => rfl⟩
theorem dX4_init_58 : decode cX4_init 58 = .ok (.aload_n 0, 1) := by decide +kernel
theorem dX4_init_59 : decode cX4_init 59 = .ok (.new 38, 3) := by decide +kernel
theorem dX4_init_62 : decode cX4_init 62 = .ok (.dup, 1) := by decide +kernel
theorem dX4_init_63 : decode cX4_init 63 = .ok (.bipush 40, 2) := by decide +kernel
theorem dX4_init_65 : decode cX4_init 65 = .ok (.invokespecial 40, 3) := by decide +kernel
theorem glI_RX4_40 : GLI RX4 40 yX5_init cX5_init 2 1 := ⟨⟨(mT2 104 rfl rfl), (mT1 62 rfl rfl), (mT1 5 rfl rfl), (mT1 63 rfl rfl)⟩, by decide +kernel⟩
theorem dX4_init_68 : decode cX4_init 68 = .ok (.putfield 41, 3) := by decide +kernel
theorem gp_RX4_41 : GP RX4 41 6 6 (.object "ShortcutBook$SequenceRow") true := ⟨RX4, TX4, 7, ⟨rfl, inw_X4, Nat.le_of_ble_eq_true rfl, (mT2 112 rfl rfl)⟩, ⟨tyX4, tyX4_ok⟩, nmX4, rfl, by decide +kernel, fun _ => rfl⟩
theorem dX4_init_71 : decode cX4_init 71 = .ok (.return_, 1) := by decide +kernel
set_option maxRecDepth 100000 in
set_option maxHeartbeats 4000000 in
theorem mX4_init_1 (l : Launch) (D : va_G) (Y : Nat → ClassId) (h0 : Nat) (g0 : Nat) (g1 : Nat) (g2 : Nat) (sz : Nat) : Met l yX4_init (WSm yX4_init cX4_init 4 none) (mkR 2 8 168 35) (PreC D Y [.ref h0, .ref g0, .ref g1, .ref g2] [(h0, oC 6 [.null, .null, .null, .null, .null, .null, .null])] sz) (QV D (fun (u : va_W) => ∃ a0 a1 a2 a3 a4 a5 a6 a7 : Nat, u = [(h0, oC 6 [.ref g0, .ref g1, .ref g2, .ref a0, .ref a2, .ref a4, .ref a6]), (a0, oC 3 [.ref a1, .int 0]), (a1, aI Y 40 (fun _ => 0)), (a2, oC 3 [.ref a3, .int 0]), (a3, aI Y 40 (fun _ => 0)), (a4, oC 3 [.ref a5, .int 0]), (a5, aI Y 40 (fun _ => 0)), (a6, oC 7 [.ref a7, .int 0]), (a7, aJ Y 40 (fun _ => 0))]) (fun (u : va_W) => u) (va_A [(h0, oC 6 [.null, .null, .null, .null, .null, .null, .null])] sz)) 8 168 (va_A [(h0, oC 6 [.null, .null, .null, .null, .null, .null, .null])] sz) :=
  met_of (by decide +kernel) (Nat.le_of_ble_eq_true rfl) (fun p e s m args below meth c B hin hsz => by
    have B : VB p s m args meth c D Y (va_A [(h0, oC 6 [.null, .null, .null, .null, .null, .null, .null])] sz) cX4_init 4 RX4 none := B
    refine V_aload_n 0 B dX4_init_0 0 rfl ?_
    refine V_objInit 1 B (mT2 100 rfl rfl) (mT1 34 rfl rfl) (mT1 35 rfl rfl) dX4_init_1 (Nat.le_of_ble_eq_true rfl) (Nat.le_of_ble_eq_true rfl) ?_
    refine V_aload_n 4 B dX4_init_4 0 rfl ?_
    refine V_aload_n 5 B dX4_init_5 1 rfl ?_
    refine V_putF 6 B hin gp_RX4_9 0 rfl (Nat.le_of_ble_eq_true rfl) rfl rfl dX4_init_6 [(h0, oC 6 [.ref g0, .null, .null, .null, .null, .null, .null])] rfl ?_
    refine V_aload_n 9 B dX4_init_9 0 rfl ?_
    refine V_aload_n 10 B dX4_init_10 2 rfl ?_
    refine V_putF 11 B hin gp_RX4_15 0 rfl (Nat.le_of_ble_eq_true rfl) rfl rfl dX4_init_11 [(h0, oC 6 [.ref g0, .ref g1, .null, .null, .null, .null, .null])] rfl ?_
    refine V_aload_n 14 B dX4_init_14 0 rfl ?_
    refine V_aload_n 15 B dX4_init_15 3 rfl ?_
    refine V_putF 16 B hin gp_RX4_19 0 rfl (Nat.le_of_ble_eq_true rfl) rfl rfl dX4_init_16 [(h0, oC 6 [.ref g0, .ref g1, .ref g2, .null, .null, .null, .null])] rfl ?_
    refine V_aload_n 19 B dX4_init_19 0 rfl ?_
    refine V_new 20 B gn_RX4_23 dX4_init_20 (Nat.le_of_ble_eq_true rfl) (Nat.le_of_ble_eq_true rfl) (fun q0 => ?_)
    refine V_ws [(h0, oC 6 [.ref g0, .ref g1, .ref g2, .null, .null, .null, .null]), (q0, oC 3 [.null, .int 0])] rfl ?_
    refine V_dup 23 B dX4_init_23 rfl ?_
    refine V_bipush 24 B (v := 40) dX4_init_24 (by decide +kernel) ?_
    refine V_civ 26 B (st := [.ref q0, .ref h0]) (As := [.int 40]) (fun sz => mX1_init_2 l D Y (q0) sz) glI_RX4_25 ⟨rfl, rfl⟩ ⟨(Nat.le_of_ble_eq_true rfl), (Nat.le_of_ble_eq_true rfl)⟩ ⟨(Nat.le_of_ble_eq_true rfl), (Nat.le_of_ble_eq_true rfl)⟩ [1] rfl rfl (Nat.le_of_ble_eq_true rfl) rfl (fun u w => by
        obtain ⟨u0x0, rfl⟩ := w
        rfl) dX4_init_26 (fun u0 w0 => ?_)
    obtain ⟨u0x0, rfl⟩ := w0
    refine V_ws [(h0, oC 6 [.ref g0, .ref g1, .ref g2, .null, .null, .null, .null]), (q0, oC 3 [.ref u0x0, .int 0]), (u0x0, aI Y 40 (fun _ => 0))] rfl ?_
    refine V_putF 29 B hin gp_RX4_28 0 rfl (Nat.le_of_ble_eq_true rfl) rfl rfl dX4_init_29 [(h0, oC 6 [.ref g0, .ref g1, .ref g2, .ref q0, .null, .null, .null]), (q0, oC 3 [.ref u0x0, .int 0]), (u0x0, aI Y 40 (fun _ => 0))] rfl ?_
    refine V_aload_n 32 B dX4_init_32 0 rfl ?_
    refine V_new 33 B gn_RX4_23 dX4_init_33 (Nat.le_of_ble_eq_true rfl) (Nat.le_of_ble_eq_true rfl) (fun q1 => ?_)
    refine V_ws [(h0, oC 6 [.ref g0, .ref g1, .ref g2, .ref q0, .null, .null, .null]), (q0, oC 3 [.ref u0x0, .int 0]), (u0x0, aI Y 40 (fun _ => 0)), (q1, oC 3 [.null, .int 0])] rfl ?_
    refine V_dup 36 B dX4_init_36 rfl ?_
    refine V_bipush 37 B (v := 40) dX4_init_37 (by decide +kernel) ?_
    refine V_civ 39 B (st := [.ref q1, .ref h0]) (As := [.int 40]) (fun sz => mX1_init_2 l D Y (q1) sz) glI_RX4_25 ⟨rfl, rfl⟩ ⟨(Nat.le_of_ble_eq_true rfl), (Nat.le_of_ble_eq_true rfl)⟩ ⟨(Nat.le_of_ble_eq_true rfl), (Nat.le_of_ble_eq_true rfl)⟩ [3] rfl rfl (Nat.le_of_ble_eq_true rfl) rfl (fun u w => by
        obtain ⟨u1x0, rfl⟩ := w
        rfl) dX4_init_39 (fun u1 w1 => ?_)
    obtain ⟨u1x0, rfl⟩ := w1
    refine V_ws [(h0, oC 6 [.ref g0, .ref g1, .ref g2, .ref q0, .null, .null, .null]), (q0, oC 3 [.ref u0x0, .int 0]), (u0x0, aI Y 40 (fun _ => 0)), (q1, oC 3 [.ref u1x0, .int 0]), (u1x0, aI Y 40 (fun _ => 0))] rfl ?_
    refine V_putF 42 B hin gp_RX4_32 0 rfl (Nat.le_of_ble_eq_true rfl) rfl rfl dX4_init_42 [(h0, oC 6 [.ref g0, .ref g1, .ref g2, .ref q0, .ref q1, .null, .null]), (q0, oC 3 [.ref u0x0, .int 0]), (u0x0, aI Y 40 (fun _ => 0)), (q1, oC 3 [.ref u1x0, .int 0]), (u1x0, aI Y 40 (fun _ => 0))] rfl ?_
    refine V_aload_n 45 B dX4_init_45 0 rfl ?_
    refine V_new 46 B gn_RX4_23 dX4_init_46 (Nat.le_of_ble_eq_true rfl) (Nat.le_of_ble_eq_true rfl) (fun q2 => ?_)
    refine V_ws [(h0, oC 6 [.ref g0, .ref g1, .ref g2, .ref q0, .ref q1, .null, .null]), (q0, oC 3 [.ref u0x0, .int 0]), (u0x0, aI Y 40 (fun _ => 0)), (q1, oC 3 [.ref u1x0, .int 0]), (u1x0, aI Y 40 (fun _ => 0)), (q2, oC 3 [.null, .int 0])] rfl ?_
    refine V_dup 49 B dX4_init_49 rfl ?_
    refine V_bipush 50 B (v := 40) dX4_init_50 (by decide +kernel) ?_
    refine V_civ 52 B (st := [.ref q2, .ref h0]) (As := [.int 40]) (fun sz => mX1_init_2 l D Y (q2) sz) glI_RX4_25 ⟨rfl, rfl⟩ ⟨(Nat.le_of_ble_eq_true rfl), (Nat.le_of_ble_eq_true rfl)⟩ ⟨(Nat.le_of_ble_eq_true rfl), (Nat.le_of_ble_eq_true rfl)⟩ [5] rfl rfl (Nat.le_of_ble_eq_true rfl) rfl (fun u w => by
        obtain ⟨u2x0, rfl⟩ := w
        rfl) dX4_init_52 (fun u2 w2 => ?_)
    obtain ⟨u2x0, rfl⟩ := w2
    refine V_ws [(h0, oC 6 [.ref g0, .ref g1, .ref g2, .ref q0, .ref q1, .null, .null]), (q0, oC 3 [.ref u0x0, .int 0]), (u0x0, aI Y 40 (fun _ => 0)), (q1, oC 3 [.ref u1x0, .int 0]), (u1x0, aI Y 40 (fun _ => 0)), (q2, oC 3 [.ref u2x0, .int 0]), (u2x0, aI Y 40 (fun _ => 0))] rfl ?_
    refine V_putF 55 B hin gp_RX4_35 0 rfl (Nat.le_of_ble_eq_true rfl) rfl rfl dX4_init_55 [(h0, oC 6 [.ref g0, .ref g1, .ref g2, .ref q0, .ref q1, .ref q2, .null]), (q0, oC 3 [.ref u0x0, .int 0]), (u0x0, aI Y 40 (fun _ => 0)), (q1, oC 3 [.ref u1x0, .int 0]), (u1x0, aI Y 40 (fun _ => 0)), (q2, oC 3 [.ref u2x0, .int 0]), (u2x0, aI Y 40 (fun _ => 0))] rfl ?_
    refine V_aload_n 58 B dX4_init_58 0 rfl ?_
    refine V_new 59 B gn_RX4_38 dX4_init_59 (Nat.le_of_ble_eq_true rfl) (Nat.le_of_ble_eq_true rfl) (fun q3 => ?_)
    refine V_ws [(h0, oC 6 [.ref g0, .ref g1, .ref g2, .ref q0, .ref q1, .ref q2, .null]), (q0, oC 3 [.ref u0x0, .int 0]), (u0x0, aI Y 40 (fun _ => 0)), (q1, oC 3 [.ref u1x0, .int 0]), (u1x0, aI Y 40 (fun _ => 0)), (q2, oC 3 [.ref u2x0, .int 0]), (u2x0, aI Y 40 (fun _ => 0)), (q3, oC 7 [.null, .int 0])] rfl ?_
    refine V_dup 62 B dX4_init_62 rfl ?_
    refine V_bipush 63 B (v := 40) dX4_init_63 (by decide +kernel) ?_
    refine V_civ 65 B (st := [.ref q3, .ref h0]) (As := [.int 40]) (fun sz => mX5_init_5 l D Y (q3) sz) glI_RX4_40 ⟨rfl, rfl⟩ ⟨(Nat.le_of_ble_eq_true rfl), (Nat.le_of_ble_eq_true rfl)⟩ ⟨(Nat.le_of_ble_eq_true rfl), (Nat.le_of_ble_eq_true rfl)⟩ [7] rfl rfl (Nat.le_of_ble_eq_true rfl) rfl (fun u w => by
        obtain ⟨u3x0, rfl⟩ := w
        rfl) dX4_init_65 (fun u3 w3 => ?_)
    obtain ⟨u3x0, rfl⟩ := w3
    refine V_ws [(h0, oC 6 [.ref g0, .ref g1, .ref g2, .ref q0, .ref q1, .ref q2, .null]), (q0, oC 3 [.ref u0x0, .int 0]), (u0x0, aI Y 40 (fun _ => 0)), (q1, oC 3 [.ref u1x0, .int 0]), (u1x0, aI Y 40 (fun _ => 0)), (q2, oC 3 [.ref u2x0, .int 0]), (u2x0, aI Y 40 (fun _ => 0)), (q3, oC 7 [.ref u3x0, .int 0]), (u3x0, aJ Y 40 (fun _ => 0))] rfl ?_
    refine V_putF 68 B hin gp_RX4_41 0 rfl (Nat.le_of_ble_eq_true rfl) rfl rfl dX4_init_68 [(h0, oC 6 [.ref g0, .ref g1, .ref g2, .ref q0, .ref q1, .ref q2, .ref q3]), (q0, oC 3 [.ref u0x0, .int 0]), (u0x0, aI Y 40 (fun _ => 0)), (q1, oC 3 [.ref u1x0, .int 0]), (u1x0, aI Y 40 (fun _ => 0)), (q2, oC 3 [.ref u2x0, .int 0]), (u2x0, aI Y 40 (fun _ => 0)), (q3, oC 7 [.ref u3x0, .int 0]), (u3x0, aJ Y 40 (fun _ => 0))] rfl ?_
    exact V_vret 71 B dX4_init_71 [(h0, oC 6 [.ref g0, .ref g1, .ref g2, .ref q0, .ref q1, .ref q2, .ref q3]), (q0, oC 3 [.ref u0x0, .int 0]), (u0x0, aI Y 40 (fun _ => 0)), (q1, oC 3 [.ref u1x0, .int 0]), (u1x0, aI Y 40 (fun _ => 0)), (q2, oC 3 [.ref u2x0, .int 0]), (u2x0, aI Y 40 (fun _ => 0)), (q3, oC 7 [.ref u3x0, .int 0]), (u3x0, aJ Y 40 (fun _ => 0))] ⟨q0, u0x0, q1, u1x0, q2, u2x0, q3, u3x0, rfl⟩ rfl)
theorem dX11_init_0 : decode cX11_init 0 = .ok (.aload_n 0, 1) := by decide +kernel
theorem dX11_init_1 : decode cX11_init 1 = .ok (.invokespecial 1, 3) := by decide +kernel
theorem dX11_init_4 : decode cX11_init 4 = .ok (.aload_n 0, 1) := by decide +kernel
theorem dX11_init_5 : decode cX11_init 5 = .ok (.new 7, 3) := by decide +kernel
theorem dX11_init_8 : decode cX11_init 8 = .ok (.dup, 1) := by decide +kernel
theorem dX11_init_9 : decode cX11_init 9 = .ok (.invokespecial 9, 3) := by decide +kernel
theorem glI_RX11_9 : GLI RX11 9 yX0_init cX0_init 1 0 := ⟨⟨(mT1 38 rfl rfl), (mT1 39 rfl rfl), (mT1 2 rfl rfl), (mT1 40 rfl rfl)⟩, by decide +kernel⟩
theorem dX11_init_12 : decode cX11_init 12 = .ok (.putfield 10, 3) := by decide +kernel
theorem inw_X11 : ∀ w ∈ u_ws RX11 TX11 10, w ∈ lw_good := by decide +kernel
theorem gp_RX11_10 : GP RX11 10 12 0 (.object "ShortcutBook$Book") true := ⟨RX11, TX11, 10, ⟨rfl, inw_X11, Nat.le_of_ble_eq_true rfl, (mT2 128 rfl rfl)⟩, ⟨tyX11, tyX11_ok⟩, nmX11, rfl, by decide +kernel, fun _ => rfl⟩
theorem dX11_init_15 : decode cX11_init 15 = .ok (.aload_n 0, 1) := by decide +kernel
theorem dX11_init_16 : decode cX11_init 16 = .ok (.new 7, 3) := by decide +kernel
theorem dX11_init_19 : decode cX11_init 19 = .ok (.dup, 1) := by decide +kernel
theorem dX11_init_20 : decode cX11_init 20 = .ok (.invokespecial 9, 3) := by decide +kernel
theorem dX11_init_23 : decode cX11_init 23 = .ok (.putfield 16, 3) := by decide +kernel
theorem gp_RX11_16 : GP RX11 16 12 1 (.object "ShortcutBook$Book") true := ⟨RX11, TX11, 10, ⟨rfl, inw_X11, Nat.le_of_ble_eq_true rfl, (mT2 129 rfl rfl)⟩, ⟨tyX11, tyX11_ok⟩, nmX11, rfl, by decide +kernel, fun _ => rfl⟩
