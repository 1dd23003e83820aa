theorem dX12_init_0 : decode cX12_init 0 = .ok (.aload_n 0, 1) := by decide +kernel
theorem dX12_init_1 : decode cX12_init 1 = .ok (.invokespecial 3, 3) := by decide +kernel
theorem dX12_init_4 : decode cX12_init 4 = .ok (.aload_n 0, 1) := by decide +kernel
theorem dX12_init_5 : decode cX12_init 5 = .ok (.sipush 3640, 3) := by decide +kernel
theorem dX12_init_8 : decode cX12_init 8 = .ok (.newarray .int, 2) := by decide +kernel
theorem dX12_init_10 : decode cX12_init 10 = .ok (.putfield 9, 3) := by decide +kernel
theorem gp_RX12_9 : GP RX12 9 13 0 (.array .int) true := ⟨RX12, TX12, 17, ⟨rfl, inw_X12, Nat.le_of_ble_eq_true rfl, (mT7 137 rfl rfl)⟩, ⟨tyX12, tyX12_ok⟩, nmX12, rfl, by decide +kernel, fun _ => rfl⟩
theorem dX12_init_13 : decode cX12_init 13 = .ok (.aload_n 0, 1) := by decide +kernel
theorem dX12_init_14 : decode cX12_init 14 = .ok (.iconst 2, 1) := by decide +kernel
theorem dX12_init_15 : decode cX12_init 15 = .ok (.newarray .boolean, 2) := by decide +kernel
theorem dX12_init_17 : decode cX12_init 17 = .ok (.putfield 13, 3) := by decide +kernel
theorem gp_RX12_13 : GP RX12 13 13 1 (.array .boolean) true := ⟨RX12, TX12, 17, ⟨rfl, inw_X12, Nat.le_of_ble_eq_true rfl, (mT7 138 rfl rfl)⟩, ⟨tyX12, tyX12_ok⟩, nmX12, rfl, by decide +kernel, fun _ => rfl⟩
theorem dX12_init_20 : decode cX12_init 20 = .ok (.aload_n 0, 1) := by decide +kernel
theorem dX12_init_21 : decode cX12_init 21 = .ok (.bipush 80, 2) := by decide +kernel
theorem dX12_init_23 : decode cX12_init 23 = .ok (.newarray .boolean, 2) := by decide +kernel
theorem dX12_init_25 : decode cX12_init 25 = .ok (.putfield 17, 3) := by decide +kernel
theorem gp_RX12_17 : GP RX12 17 13 3 (.array .boolean) true := ⟨RX12, TX12, 17, ⟨rfl, inw_X12, Nat.le_of_ble_eq_true rfl, (mT7 140 rfl rfl)⟩, ⟨tyX12, tyX12_ok⟩, nmX12, rfl, by decide +kernel, fun _ => rfl⟩
theorem dX12_init_28 : decode cX12_init 28 = .ok (.aload_n 0, 1) := by decide +kernel
theorem dX12_init_29 : decode cX12_init 29 = .ok (.sipush 1600, 3) := by decide +kernel
theorem dX12_init_32 : decode cX12_init 32 = .ok (.newarray .byte, 2) := by decide +kernel
theorem dX12_init_34 : decode cX12_init 34 = .ok (.putfield 20, 3) := by decide +kernel
theorem gp_RX12_20 : GP RX12 20 13 4 (.array .byte) true := ⟨RX12, TX12, 17, ⟨rfl, inw_X12, Nat.le_of_ble_eq_true rfl, (mT7 141 rfl rfl)⟩, ⟨tyX12, tyX12_ok⟩, nmX12, rfl, by decide +kernel, fun _ => rfl⟩
theorem dX12_init_37 : decode cX12_init 37 = .ok (.aload_n 0, 1) := by decide +kernel
theorem dX12_init_38 : decode cX12_init 38 = .ok (.iconst (-1), 1) := by decide +kernel
theorem dX12_init_39 : decode cX12_init 39 = .ok (.putfield 24, 3) := by decide +kernel
theorem gp_RX12_24 : GP RX12 24 13 8 .int false := ⟨RX12, TX12, 17, ⟨rfl, inw_X12, Nat.le_of_ble_eq_true rfl, (mT7 145 rfl rfl)⟩, ⟨tyX12, tyX12_ok⟩, nmX12, rfl, by decide +kernel, fun h => nomatch h⟩
theorem dX12_init_42 : decode cX12_init 42 = .ok (.aload_n 0, 1) := by decide +kernel
theorem dX12_init_43 : decode cX12_init 43 = .ok (.sipush 200, 3) := by decide +kernel
theorem dX12_init_46 : decode cX12_init 46 = .ok (.newarray .int, 2) := by decide +kernel
theorem dX12_init_48 : decode cX12_init 48 = .ok (.putfield 28, 3) := by decide +kernel
theorem gp_RX12_28 : GP RX12 28 13 13 (.array .int) true := ⟨RX12, TX12, 17, ⟨rfl, inw_X12, Nat.le_of_ble_eq_true rfl, (mT7 150 rfl rfl)⟩, ⟨tyX12, tyX12_ok⟩, nmX12, rfl, by decide +kernel, fun _ => rfl⟩
theorem dX12_init_51 : decode cX12_init 51 = .ok (.aload_n 0, 1) := by decide +kernel
theorem dX12_init_52 : decode cX12_init 52 = .ok (.sipush 800, 3) := by decide +kernel
theorem dX12_init_55 : decode cX12_init 55 = .ok (.newarray .int, 2) := by decide +kernel
theorem dX12_init_57 : decode cX12_init 57 = .ok (.putfield 31, 3) := by decide +kernel
theorem gp_RX12_31 : GP RX12 31 13 14 (.array .int) true := ⟨RX12, TX12, 17, ⟨rfl, inw_X12, Nat.le_of_ble_eq_true rfl, (mT7 151 rfl rfl)⟩, ⟨tyX12, tyX12_ok⟩, nmX12, rfl, by decide +kernel, fun _ => rfl⟩
theorem dX12_init_60 : decode cX12_init 60 = .ok (.aload_n 0, 1) := by decide +kernel
theorem dX12_init_61 : decode cX12_init 61 = .ok (.iconst 0, 1) := by decide +kernel
theorem dX12_init_62 : decode cX12_init 62 = .ok (.invokevirtual 34, 3) := by decide +kernel
theorem glV_RX12_34 : GLV RX12 34 yX12_clearBlock RX12 cX12_clearBlock 3 none 1 := ⟨⟨(mT7 133 rfl rfl), (mT7 135 rfl rfl), (mTs 27 rfl rfl), (mT1 13 rfl rfl), (mT7 136 rfl rfl)⟩, by decide +kernel⟩
theorem dX12_init_65 : decode cX12_init 65 = .ok (.return_, 1) := by decide +kernel
set_option maxRecDepth 100000 in
set_option maxHeartbeats 4000000 in
theorem mX12_init_1 (l : Launch) (D : va_G) (Y : Nat → ClassId) (h0 : Nat) (sz : Nat) : Met l yX12_init (WSm yX12_init cX12_init 1 none) (mkR 1 6 6322 22) (PreC D Y [.ref h0] [(h0, oC 13 [.null, .null, .int 0, .null, .null, .int 0, .int 0, .int 0, .int 0, .int 0, .int 0, .int 0, .long 0, .null, .null, .int 0, .int 0])] sz) (QV D (fun (u : va_W) => ∃ a0 a1 a2 a3 a4 a5 : Nat, u = [(h0, oC 13 [.ref a0, .ref a1, .int 0, .ref a2, .ref a3, .int 0, .int 0, .int 0, .int (-1), .int 0, .int 0, .int 0, .long 0, .ref a4, .ref a5, .int 0, .int 0]), (a0, aI Y 3640 (clB 0 (fun _ => 0))), (a1, aZ Y 2 (fun _ => 0)), (a2, aZ Y 80 (fun _ => 0)), (a3, aB Y 1600 (fun _ => 0)), (a4, aI Y 200 (fun _ => 0)), (a5, aI Y 800 (fun _ => 0))]) (fun (u : va_W) => u) (va_A [(h0, oC 13 [.null, .null, .int 0, .null, .null, .int 0, .int 0, .int 0, .int 0, .int 0, .int 0, .int 0, .long 0, .null, .null, .int 0, .int 0])] sz)) 6 6322 (va_A [(h0, oC 13 [.null, .null, .int 0, .null, .null, .int 0, .int 0, .int 0, .int 0, .int 0, .int 0, .int 0, .long 0, .null, .null, .int 0, .int 0])] sz) :=
  met_of (by decide +kernel) (Nat.le_of_ble_eq_true rfl) (fun p e s m args below meth c B hin hsz => by
    have B : VB p s m args meth c D Y (va_A [(h0, oC 13 [.null, .null, .int 0, .null, .null, .int 0, .int 0, .int 0, .int 0, .int 0, .int 0, .int 0, .long 0, .null, .null, .int 0, .int 0])] sz) cX12_init 1 RX12 none := B
    refine V_aload_n 0 B dX12_init_0 0 rfl ?_
    refine V_objInit 1 B (mT7 132 rfl rfl) (mT1 34 rfl rfl) (mT1 35 rfl rfl) dX12_init_1 (Nat.le_of_ble_eq_true rfl) (Nat.le_of_ble_eq_true rfl) ?_
    refine V_aload_n 4 B dX12_init_4 0 rfl ?_
    refine V_sipush 5 B (v := 3640) dX12_init_5 (by decide +kernel) ?_
    refine V_newaI 8 B (N := 3640) dX12_init_8 (mT1 58 rfl rfl) (by decide +kernel) (by decide +kernel) (by decide +kernel) (Nat.le_of_ble_eq_true rfl) (Nat.le_of_ble_eq_true rfl) (fun q0 => ?_)
    refine V_ws [(h0, oC 13 [.null, .null, .int 0, .null, .null, .int 0, .int 0, .int 0, .int 0, .int 0, .int 0, .int 0, .long 0, .null, .null, .int 0, .int 0]), (q0, aI Y 3640 (fun _ => 0))] rfl ?_
    refine V_putF 10 B hin gp_RX12_9 0 rfl (Nat.le_of_ble_eq_true rfl) rfl rfl dX12_init_10 [(h0, oC 13 [.ref q0, .null, .int 0, .null, .null, .int 0, .int 0, .int 0, .int 0, .int 0, .int 0, .int 0, .long 0, .null, .null, .int 0, .int 0]), (q0, aI Y 3640 (fun _ => 0))] rfl ?_
    refine V_aload_n 13 B dX12_init_13 0 rfl ?_
    refine V_iconst 14 B (v := 2) dX12_init_14 (by decide +kernel) ?_
    refine V_newaZ 15 B (N := 2) dX12_init_15 (mT7 189 rfl rfl) (by decide +kernel) (by decide +kernel) (by decide +kernel) (Nat.le_of_ble_eq_true rfl) (Nat.le_of_ble_eq_true rfl) (fun q1 => ?_)
    refine V_ws [(h0, oC 13 [.ref q0, .null, .int 0, .null, .null, .int 0, .int 0, .int 0, .int 0, .int 0, .int 0, .int 0, .long 0, .null, .null, .int 0, .int 0]), (q0, aI Y 3640 (fun _ => 0)), (q1, aZ Y 2 (fun _ => 0))] rfl ?_
    refine V_putF 17 B hin gp_RX12_13 0 rfl (Nat.le_of_ble_eq_true rfl) rfl rfl dX12_init_17 [(h0, oC 13 [.ref q0, .ref q1, .int 0, .null, .null, .int 0, .int 0, .int 0, .int 0, .int 0, .int 0, .int 0, .long 0, .null, .null, .int 0, .int 0]), (q0, aI Y 3640 (fun _ => 0)), (q1, aZ Y 2 (fun _ => 0))] rfl ?_
    refine V_aload_n 20 B dX12_init_20 0 rfl ?_
    refine V_bipush 21 B (v := 80) dX12_init_21 (by decide +kernel) ?_
    refine V_newaZ 23 B (N := 80) dX12_init_23 (mT7 189 rfl rfl) (by decide +kernel) (by decide +kernel) (by decide +kernel) (Nat.le_of_ble_eq_true rfl) (Nat.le_of_ble_eq_true rfl) (fun q2 => ?_)
    refine V_ws [(h0, oC 13 [.ref q0, .ref q1, .int 0, .null, .null, .int 0, .int 0, .int 0, .int 0, .int 0, .int 0, .int 0, .long 0, .null, .null, .int 0, .int 0]), (q0, aI Y 3640 (fun _ => 0)), (q1, aZ Y 2 (fun _ => 0)), (q2, aZ Y 80 (fun _ => 0))] rfl ?_
    refine V_putF 25 B hin gp_RX12_17 0 rfl (Nat.le_of_ble_eq_true rfl) rfl rfl dX12_init_25 [(h0, oC 13 [.ref q0, .ref q1, .int 0, .ref q2, .null, .int 0, .int 0, .int 0, .int 0, .int 0, .int 0, .int 0, .long 0, .null, .null, .int 0, .int 0]), (q0, aI Y 3640 (fun _ => 0)), (q1, aZ Y 2 (fun _ => 0)), (q2, aZ Y 80 (fun _ => 0))] rfl ?_
    refine V_aload_n 28 B dX12_init_28 0 rfl ?_
    refine V_sipush 29 B (v := 1600) dX12_init_29 (by decide +kernel) ?_
    refine V_newaB 32 B (N := 1600) dX12_init_32 (mT2 76 rfl rfl) (by decide +kernel) (by decide +kernel) (by decide +kernel) (Nat.le_of_ble_eq_true rfl) (Nat.le_of_ble_eq_true rfl) (fun q3 => ?_)
    refine V_ws [(h0, oC 13 [.ref q0, .ref q1, .int 0, .ref q2, .null, .int 0, .int 0, .int 0, .int 0, .int 0, .int 0, .int 0, .long 0, .null, .null, .int 0, .int 0]), (q0, aI Y 3640 (fun _ => 0)), (q1, aZ Y 2 (fun _ => 0)), (q2, aZ Y 80 (fun _ => 0)), (q3, aB Y 1600 (fun _ => 0))] rfl ?_
    refine V_putF 34 B hin gp_RX12_20 0 rfl (Nat.le_of_ble_eq_true rfl) rfl rfl dX12_init_34 [(h0, oC 13 [.ref q0, .ref q1, .int 0, .ref q2, .ref q3, .int 0, .int 0, .int 0, .int 0, .int 0, .int 0, .int 0, .long 0, .null, .null, .int 0, .int 0]), (q0, aI Y 3640 (fun _ => 0)), (q1, aZ Y 2 (fun _ => 0)), (q2, aZ Y 80 (fun _ => 0)), (q3, aB Y 1600 (fun _ => 0))] rfl ?_
    refine V_aload_n 37 B dX12_init_37 0 rfl ?_
    refine V_iconst 38 B (v := (-1)) dX12_init_38 (by decide +kernel) ?_
    refine V_put 39 B gp_RX12_24 0 rfl (Nat.le_of_ble_eq_true rfl) rfl rfl dX12_init_39 [(h0, oC 13 [.ref q0, .ref q1, .int 0, .ref q2, .ref q3, .int 0, .int 0, .int 0, .int (-1), .int 0, .int 0, .int 0, .long 0, .null, .null, .int 0, .int 0]), (q0, aI Y 3640 (fun _ => 0)), (q1, aZ Y 2 (fun _ => 0)), (q2, aZ Y 80 (fun _ => 0)), (q3, aB Y 1600 (fun _ => 0))] rfl ?_
    refine V_aload_n 42 B dX12_init_42 0 rfl ?_
    refine V_sipush 43 B (v := 200) dX12_init_43 (by decide +kernel) ?_
    refine V_newaI 46 B (N := 200) dX12_init_46 (mT1 58 rfl rfl) (by decide +kernel) (by decide +kernel) (by decide +kernel) (Nat.le_of_ble_eq_true rfl) (Nat.le_of_ble_eq_true rfl) (fun q4 => ?_)
    refine V_ws [(h0, oC 13 [.ref q0, .ref q1, .int 0, .ref q2, .ref q3, .int 0, .int 0, .int 0, .int (-1), .int 0, .int 0, .int 0, .long 0, .null, .null, .int 0, .int 0]), (q0, aI Y 3640 (fun _ => 0)), (q1, aZ Y 2 (fun _ => 0)), (q2, aZ Y 80 (fun _ => 0)), (q3, aB Y 1600 (fun _ => 0)), (q4, aI Y 200 (fun _ => 0))] rfl ?_
    refine V_putF 48 B hin gp_RX12_28 0 rfl (Nat.le_of_ble_eq_true rfl) rfl rfl dX12_init_48 [(h0, oC 13 [.ref q0, .ref q1, .int 0, .ref q2, .ref q3, .int 0, .int 0, .int 0, .int (-1), .int 0, .int 0, .int 0, .long 0, .ref q4, .null, .int 0, .int 0]), (q0, aI Y 3640 (fun _ => 0)), (q1, aZ Y 2 (fun _ => 0)), (q2, aZ Y 80 (fun _ => 0)), (q3, aB Y 1600 (fun _ => 0)), (q4, aI Y 200 (fun _ => 0))] rfl ?_
    refine V_aload_n 51 B dX12_init_51 0 rfl ?_
    refine V_sipush 52 B (v := 800) dX12_init_52 (by decide +kernel) ?_
    refine V_newaI 55 B (N := 800) dX12_init_55 (mT1 58 rfl rfl) (by decide +kernel) (by decide +kernel) (by decide +kernel) (Nat.le_of_ble_eq_true rfl) (Nat.le_of_ble_eq_true rfl) (fun q5 => ?_)
    refine V_ws [(h0, oC 13 [.ref q0, .ref q1, .int 0, .ref q2, .ref q3, .int 0, .int 0, .int 0, .int (-1), .int 0, .int 0, .int 0, .long 0, .ref q4, .null, .int 0, .int 0]), (q0, aI Y 3640 (fun _ => 0)), (q1, aZ Y 2 (fun _ => 0)), (q2, aZ Y 80 (fun _ => 0)), (q3, aB Y 1600 (fun _ => 0)), (q4, aI Y 200 (fun _ => 0)), (q5, aI Y 800 (fun _ => 0))] rfl ?_
    refine V_putF 57 B hin gp_RX12_31 0 rfl (Nat.le_of_ble_eq_true rfl) rfl rfl dX12_init_57 [(h0, oC 13 [.ref q0, .ref q1, .int 0, .ref q2, .ref q3, .int 0, .int 0, .int 0, .int (-1), .int 0, .int 0, .int 0, .long 0, .ref q4, .ref q5, .int 0, .int 0]), (q0, aI Y 3640 (fun _ => 0)), (q1, aZ Y 2 (fun _ => 0)), (q2, aZ Y 80 (fun _ => 0)), (q3, aB Y 1600 (fun _ => 0)), (q4, aI Y 200 (fun _ => 0)), (q5, aI Y 800 (fun _ => 0))] rfl ?_
    refine V_aload_n 60 B dX12_init_60 0 rfl ?_
    refine V_iconst 61 B (v := 0) dX12_init_61 (by decide +kernel) ?_
    refine V_cvv 62 B (st := []) (As := [.int 0]) (fun sz => mX12_clearBlock_m l D Y (h0) (q0) (.ref q1) (.int 0) (.ref q2) (.ref q3) (.int 0) (.int 0) (.int 0) (.int (-1)) (.int 0) (.int 0) (.int 0) (.long 0) (.ref q4) (.ref q5) (.int 0) (.int 0) ((fun _ => 0)) (0) (by decide) sz) glV_RX12_34 ⟨rfl, rfl⟩ ⟨(Nat.le_of_ble_eq_true rfl), (Nat.le_of_ble_eq_true rfl)⟩ ⟨(Nat.le_of_ble_eq_true rfl), (Nat.le_of_ble_eq_true rfl)⟩ [0, 0] rfl 13 0 rfl rfl rfl rfl (Nat.le_of_ble_eq_true rfl) rfl (fun _ _ => rfl) dX12_init_62 (fun u0 w0 => ?_)
    refine V_ws [(h0, oC 13 [.ref q0, .ref q1, .int 0, .ref q2, .ref q3, .int 0, .int 0, .int 0, .int (-1), .int 0, .int 0, .int 0, .long 0, .ref q4, .ref q5, .int 0, .int 0]), (q0, aI Y 3640 (clB 0 (fun _ => 0))), (q1, aZ Y 2 (fun _ => 0)), (q2, aZ Y 80 (fun _ => 0)), (q3, aB Y 1600 (fun _ => 0)), (q4, aI Y 200 (fun _ => 0)), (q5, aI Y 800 (fun _ => 0))] rfl ?_
    exact V_vret 65 B dX12_init_65 [(h0, oC 13 [.ref q0, .ref q1, .int 0, .ref q2, .ref q3, .int 0, .int 0, .int 0, .int (-1), .int 0, .int 0, .int 0, .long 0, .ref q4, .ref q5, .int 0, .int 0]), (q0, aI Y 3640 (clB 0 (fun _ => 0))), (q1, aZ Y 2 (fun _ => 0)), (q2, aZ Y 80 (fun _ => 0)), (q3, aB Y 1600 (fun _ => 0)), (q4, aI Y 200 (fun _ => 0)), (q5, aI Y 800 (fun _ => 0))] ⟨q0, q1, q2, q3, q4, q5, rfl⟩ rfl)
theorem dX12_thrown_0 : decode cX12_thrown 0 = .ok (.aload_n 0, 1) := by decide +kernel
theorem dX12_thrown_1 : decode cX12_thrown 1 = .ok (.getfield 38, 3) := by decide +kernel
theorem gf_RX12_38 : GF RX12 38 13 2 := ⟨RX12, TX12, 17, rfl, inw_X12, Nat.le_of_ble_eq_true rfl, (mT7 139 rfl rfl)⟩
theorem dX12_thrown_4 : decode cX12_thrown 4 = .ok (.ireturn, 1) := by decide +kernel
set_option maxRecDepth 100000 in
set_option maxHeartbeats 4000000 in
theorem mX12_thrown_1 (l : Launch) (D : va_G) (Y : Nat → ClassId) (h0 : Nat) (g0 : Nat) (g1 : Nat) (g2 : Nat) (g3 : Nat) (g4 : Nat) (g5 : Nat) (sz : Nat) : Met l yX12_thrown (WSm yX12_thrown cX12_thrown 1 (some .int)) (mkR 0 0 0 0) (PreC D Y [.ref h0] [(h0, oC 13 [.ref g0, .ref g1, .int 0, .ref g2, .ref g3, .int 0, .int 0, .int 0, .int (-1), .int 0, .int 0, .int 0, .long 0, .ref g4, .ref g5, .int 0, .int 0])] sz) (QI D (fun (r : Int32) (u : Unit) => 0 = r) (fun (_ : Unit) => [(h0, oC 13 [.ref g0, .ref g1, .int 0, .ref g2, .ref g3, .int 0, .int 0, .int 0, .int (-1), .int 0, .int 0, .int 0, .long 0, .ref g4, .ref g5, .int 0, .int 0])]) (va_A [(h0, oC 13 [.ref g0, .ref g1, .int 0, .ref g2, .ref g3, .int 0, .int 0, .int 0, .int (-1), .int 0, .int 0, .int 0, .long 0, .ref g4, .ref g5, .int 0, .int 0])] sz)) 0 0 (va_A [(h0, oC 13 [.ref g0, .ref g1, .int 0, .ref g2, .ref g3, .int 0, .int 0, .int 0, .int (-1), .int 0, .int 0, .int 0, .long 0, .ref g4, .ref g5, .int 0, .int 0])] sz) :=
  met_of (by decide +kernel) (Nat.le_of_ble_eq_true rfl) (fun p e s m args below meth c B hin hsz => by
    have B : VB p s m args meth c D Y (va_A [(h0, oC 13 [.ref g0, .ref g1, .int 0, .ref g2, .ref g3, .int 0, .int 0, .int 0, .int (-1), .int 0, .int 0, .int 0, .long 0, .ref g4, .ref g5, .int 0, .int 0])] sz) cX12_thrown 1 RX12 (some .int) := B
    refine V_aload_n 0 B dX12_thrown_0 0 rfl ?_
    refine V_get 1 B gf_RX12_38 0 rfl rfl dX12_thrown_1 ?_
    exact V_iret 4 B dX12_thrown_4 () rfl rfl)
theorem dX12_saveSnapshot_0 : decode cX12_saveSnapshot 0 = .ok (.aload_n 0, 1) := by decide +kernel
theorem dX12_saveSnapshot_1 : decode cX12_saveSnapshot 1 = .ok (.iconst 0, 1) := by decide +kernel
theorem dX12_saveSnapshot_2 : decode cX12_saveSnapshot 2 = .ok (.putfield 38, 3) := by decide +kernel
theorem gp_RX12_38 : GP RX12 38 13 2 .int false := ⟨RX12, TX12, 17, ⟨rfl, inw_X12, Nat.le_of_ble_eq_true rfl, (mT7 139 rfl rfl)⟩, ⟨tyX12, tyX12_ok⟩, nmX12, rfl, by decide +kernel, fun h => nomatch h⟩
theorem dX12_saveSnapshot_5 : decode cX12_saveSnapshot 5 = .ok (.iload_n 1, 1) := by decide +kernel
theorem dX12_saveSnapshot_6 : decode cX12_saveSnapshot 6 = .ok (.i2l, 1) := by decide +kernel
theorem dX12_saveSnapshot_7 : decode cX12_saveSnapshot 7 = .ok (.lconst 0, 1) := by decide +kernel
theorem dX12_saveSnapshot_8 : decode cX12_saveSnapshot 8 = .ok (.lconst 1, 1) := by decide +kernel
theorem dX12_saveSnapshot_9 : decode cX12_saveSnapshot 9 = .ok (.invokestatic 41, 3) := by decide +kernel
theorem glS_RX12_41 : GLS RX12 41 yX12_inRange cX12_inRange 6 (some .boolean) 3 := ⟨⟨(mT7 198 rfl rfl), (mT7 199 rfl rfl), (mT1 13 rfl rfl), (mT7 200 rfl rfl)⟩, by decide +kernel⟩
theorem dX12_saveSnapshot_12 : decode cX12_saveSnapshot 12 = .ok (.ifCond .ne 5, 3) := by decide +kernel
theorem dX12_saveSnapshot_17 : decode cX12_saveSnapshot 17 = .ok (.aload_n 0, 1) := by decide +kernel
theorem dX12_saveSnapshot_18 : decode cX12_saveSnapshot 18 = .ok (.iconst 0, 1) := by decide +kernel
theorem dX12_saveSnapshot_19 : decode cX12_saveSnapshot 19 = .ok (.iconst 1, 1) := by decide +kernel
theorem dX12_saveSnapshot_20 : decode cX12_saveSnapshot 20 = .ok (.iload_n 1, 1) := by decide +kernel
theorem dX12_saveSnapshot_21 : decode cX12_saveSnapshot 21 = .ok (.iadd, 1) := by decide +kernel
theorem dX12_saveSnapshot_22 : decode cX12_saveSnapshot 22 = .ok (.invokevirtual 45, 3) := by decide +kernel
theorem glV_RX12_45 : GLV RX12 45 yX12_copyBlock RX12 cX12_copyBlock 4 none 2 := ⟨⟨(mT7 201 rfl rfl), (mT7 203 rfl rfl), (mTs 28 rfl rfl), (mT1 13 rfl rfl), (mT7 204 rfl rfl)⟩, by decide +kernel⟩
theorem dX12_saveSnapshot_25 : decode cX12_saveSnapshot 25 = .ok (.aload_n 0, 1) := by decide +kernel
theorem dX12_saveSnapshot_26 : decode cX12_saveSnapshot 26 = .ok (.getfield 13, 3) := by decide +kernel
theorem gf_RX12_13 : GF RX12 13 13 1 := ⟨RX12, TX12, 17, rfl, inw_X12, Nat.le_of_ble_eq_true rfl, (mT7 138 rfl rfl)⟩
theorem dX12_saveSnapshot_29 : decode cX12_saveSnapshot 29 = .ok (.iload_n 1, 1) := by decide +kernel
theorem dX12_saveSnapshot_30 : decode cX12_saveSnapshot 30 = .ok (.iconst 1, 1) := by decide +kernel
theorem dX12_saveSnapshot_31 : decode cX12_saveSnapshot 31 = .ok (.bastore, 1) := by decide +kernel
theorem dX12_saveSnapshot_32 : decode cX12_saveSnapshot 32 = .ok (.iconst 1, 1) := by decide +kernel
theorem dX12_saveSnapshot_33 : decode cX12_saveSnapshot 33 = .ok (.ireturn, 1) := by decide +kernel
theorem dX12_saveSnapshot_15 : decode cX12_saveSnapshot 15 = .ok (.iconst 0, 1) := by decide +kernel
theorem dX12_saveSnapshot_16 : decode cX12_saveSnapshot 16 = .ok (.ireturn, 1) := by decide +kernel
set_option maxRecDepth 100000 in
set_option maxHeartbeats 4000000 in
theorem mX12_saveSnapshot_1 (l : Launch) (D : va_G) (Y : Nat → ClassId) (h0 : Nat) (h1 : Nat) (h2 : Nat) (g0 : Nat) (g1 : Nat) (g2 : Nat) (g3 : Nat) (p0 : Int32) (sz : Nat) : Met l yX12_saveSnapshot (WSm yX12_saveSnapshot cX12_saveSnapshot 2 (some .boolean)) (mkR 1 0 0 25) (PreC D Y [.ref h0, .int p0] [(h0, oC 13 [.ref h1, .ref h2, .int 0, .ref g0, .ref g1, .int 0, .int 0, .int 0, .int (-1), .int 0, .int 0, .int 0, .long 0, .ref g2, .ref g3, .int 0, .int 0]), (h1, aI Y 3640 (clB 0 (fun _ => 0))), (h2, aZ Y 2 (fun _ => 0))] sz) (QI D (fun (r : Int32) (u : Nat) => (u = 0 ∧ p0 = 0 ∧ 1 = r) ∨ (u = 1 ∧ p0 = 1 ∧ 1 = r) ∨ (u = 2 ∧ p0 < 0 ∧ 0 = r) ∨ (u = 3 ∧ 1 < p0 ∧ 0 = r)) (fun (u : Nat) => match u with | 0 => [(h0, oC 13 [.ref h1, .ref h2, .int 0, .ref g0, .ref g1, .int 0, .int 0, .int 0, .int (-1), .int 0, .int 0, .int 0, .long 0, .ref g2, .ref g3, .int 0, .int 0]), (h1, aI Y 3640 (cpB 0 1 906 (clB 0 (fun _ => 0)))), (h2, aZ Y 2 (upd (fun _ => 0) 0 (vp_nar .boolean 1)))] | 1 => [(h0, oC 13 [.ref h1, .ref h2, .int 0, .ref g0, .ref g1, .int 0, .int 0, .int 0, .int (-1), .int 0, .int 0, .int 0, .long 0, .ref g2, .ref g3, .int 0, .int 0]), (h1, aI Y 3640 (cpB 0 2 906 (clB 0 (fun _ => 0)))), (h2, aZ Y 2 (upd (fun _ => 0) 1 (vp_nar .boolean 1)))] | 2 => [(h0, oC 13 [.ref h1, .ref h2, .int 0, .ref g0, .ref g1, .int 0, .int 0, .int 0, .int (-1), .int 0, .int 0, .int 0, .long 0, .ref g2, .ref g3, .int 0, .int 0]), (h1, aI Y 3640 (clB 0 (fun _ => 0))), (h2, aZ Y 2 (fun _ => 0))] | _ => [(h0, oC 13 [.ref h1, .ref h2, .int 0, .ref g0, .ref g1, .int 0, .int 0, .int 0, .int (-1), .int 0, .int 0, .int 0, .long 0, .ref g2, .ref g3, .int 0, .int 0]), (h1, aI Y 3640 (clB 0 (fun _ => 0))), (h2, aZ Y 2 (fun _ => 0))]) (va_A [(h0, oC 13 [.ref h1, .ref h2, .int 0, .ref g0, .ref g1, .int 0, .int 0, .int 0, .int (-1), .int 0, .int 0, .int 0, .long 0, .ref g2, .ref g3, .int 0, .int 0]), (h1, aI Y 3640 (clB 0 (fun _ => 0))), (h2, aZ Y 2 (fun _ => 0))] sz)) 0 0 (va_A [(h0, oC 13 [.ref h1, .ref h2, .int 0, .ref g0, .ref g1, .int 0, .int 0, .int 0, .int (-1), .int 0, .int 0, .int 0, .long 0, .ref g2, .ref g3, .int 0, .int 0]), (h1, aI Y 3640 (clB 0 (fun _ => 0))), (h2, aZ Y 2 (fun _ => 0))] sz) :=
  met_of (by decide +kernel) (Nat.le_of_ble_eq_true rfl) (fun p e s m args below meth c B hin hsz => by
    have B : VB p s m args meth c D Y (va_A [(h0, oC 13 [.ref h1, .ref h2, .int 0, .ref g0, .ref g1, .int 0, .int 0, .int 0, .int (-1), .int 0, .int 0, .int 0, .long 0, .ref g2, .ref g3, .int 0, .int 0]), (h1, aI Y 3640 (clB 0 (fun _ => 0))), (h2, aZ Y 2 (fun _ => 0))] sz) cX12_saveSnapshot 2 RX12 (some .boolean) := B
    refine V_aload_n 0 B dX12_saveSnapshot_0 0 rfl ?_
    refine V_iconst 1 B (v := 0) dX12_saveSnapshot_1 (by decide +kernel) ?_
    refine V_put 2 B gp_RX12_38 0 rfl (Nat.le_of_ble_eq_true rfl) rfl rfl dX12_saveSnapshot_2 [(h0, oC 13 [.ref h1, .ref h2, .int 0, .ref g0, .ref g1, .int 0, .int 0, .int 0, .int (-1), .int 0, .int 0, .int 0, .long 0, .ref g2, .ref g3, .int 0, .int 0]), (h1, aI Y 3640 (clB 0 (fun _ => 0))), (h2, aZ Y 2 (fun _ => 0))] rfl ?_
    refine V_iload_n 5 B dX12_saveSnapshot_5 1 rfl ?_
    refine V_i2l 6 B dX12_saveSnapshot_6 rfl ?_
    refine V_lconst 7 B (v := 0) dX12_saveSnapshot_7 (by decide +kernel) ?_
    refine V_lconst 8 B (v := 1) dX12_saveSnapshot_8 (by decide +kernel) ?_
    refine V_csi 9 B (st := []) (As := [.long p0.toInt64, .long 0, .long 1]) (fun sz => mX12_inRange_m l D Y (p0) (0) (1) (0) (1) (by decide +kernel) (by decide +kernel) sz) glS_RX12_41 ⟨rfl, rfl⟩ ⟨(Nat.le_of_ble_eq_true rfl), (Nat.le_of_ble_eq_true rfl)⟩ ⟨(Nat.le_of_ble_eq_true rfl), (Nat.le_of_ble_eq_true rfl)⟩ [] rfl rfl (Nat.le_of_ble_eq_true rfl) rfl (fun _ _ _ => rfl) dX12_saveSnapshot_9 (fun r0 u0 w0 => ?_)
    rcases w0 with ⟨k1, k2, rfl⟩ | ⟨k3, rfl⟩ | ⟨k4, rfl⟩
    ·
      refine V_ws [(h0, oC 13 [.ref h1, .ref h2, .int 0, .ref g0, .ref g1, .int 0, .int 0, .int 0, .int (-1), .int 0, .int 0, .int 0, .long 0, .ref g2, .ref g3, .int 0, .int 0]), (h1, aI Y 3640 (clB 0 (fun _ => 0))), (h2, aZ Y 2 (fun _ => 0))] rfl ?_
      refine V_if_ne_t 12 B 17 dX12_saveSnapshot_12 (by decide) (by decide +kernel) ?_
      refine V_aload_n 17 B dX12_saveSnapshot_17 0 rfl ?_
      by_cases k5 : p0 = 0
      ·
        obtain rfl : p0 = 0 := k5
        refine V_iconst 18 B (v := 0) dX12_saveSnapshot_18 (by decide +kernel) ?_
        refine V_iconst 19 B (v := 1) dX12_saveSnapshot_19 (by decide +kernel) ?_
        refine V_iload_n 20 B dX12_saveSnapshot_20 1 rfl ?_
        refine V_iadd 21 B (v := 1) dX12_saveSnapshot_21 (by decide +kernel) ?_
        refine V_cvv 22 B (st := []) (As := [.int 0, .int 1]) (fun sz => mX12_copyBlock_m l D Y (h0) (h1) (.ref h2) (.int 0) (.ref g0) (.ref g1) (.int 0) (.int 0) (.int 0) (.int (-1)) (.int 0) (.int 0) (.int 0) (.long 0) (.ref g2) (.ref g3) (.int 0) (.int 0) ((clB 0 (fun _ => 0))) (0) (1) (by decide) (by decide) (by decide) sz) glV_RX12_45 ⟨rfl, rfl⟩ ⟨(Nat.le_of_ble_eq_true rfl), (Nat.le_of_ble_eq_true rfl)⟩ ⟨(Nat.le_of_ble_eq_true rfl), (Nat.le_of_ble_eq_true rfl)⟩ [0, 0] rfl 13 0 rfl rfl rfl rfl (Nat.le_of_ble_eq_true rfl) rfl (fun _ _ => rfl) dX12_saveSnapshot_22 (fun u6 w6 => ?_)
        refine V_ws [(h0, oC 13 [.ref h1, .ref h2, .int 0, .ref g0, .ref g1, .int 0, .int 0, .int 0, .int (-1), .int 0, .int 0, .int 0, .long 0, .ref g2, .ref g3, .int 0, .int 0]), (h1, aI Y 3640 (cpB 0 1 906 (clB 0 (fun _ => 0)))), (h2, aZ Y 2 (fun _ => 0))] rfl ?_
        refine V_aload_n 25 B dX12_saveSnapshot_25 0 rfl ?_
        refine V_get 26 B gf_RX12_13 0 rfl rfl dX12_saveSnapshot_26 ?_
        refine V_iload_n 29 B dX12_saveSnapshot_29 1 rfl ?_
        refine V_iconst 30 B (v := 1) dX12_saveSnapshot_30 (by decide +kernel) ?_
        refine V_zast 31 B 2 rfl (vpin _ _ (by decide +kernel)) dX12_saveSnapshot_31 [(h0, oC 13 [.ref h1, .ref h2, .int 0, .ref g0, .ref g1, .int 0, .int 0, .int 0, .int (-1), .int 0, .int 0, .int 0, .long 0, .ref g2, .ref g3, .int 0, .int 0]), (h1, aI Y 3640 (cpB 0 1 906 (clB 0 (fun _ => 0)))), (h2, aZ Y 2 (upd (fun _ => 0) 0 (vp_nar .boolean 1)))] rfl ?_
        refine V_iconst 32 B (v := 1) dX12_saveSnapshot_32 (by decide +kernel) ?_
        exact V_zret 33 B rfl dX12_saveSnapshot_33 0 (Or.inl ⟨rfl, rfl, rfl⟩) rfl
      ·
        obtain rfl : p0 = 1 := q_eq (q_bump (b_nlt k1 (n := 0) (by decide +kernel)) k5 (by decide +kernel) (k := 1) (by decide +kernel)) (b_ngt k2 (n := 1) (by decide +kernel)) (by decide +kernel)
        refine V_iconst 18 B (v := 0) dX12_saveSnapshot_18 (by decide +kernel) ?_
        refine V_iconst 19 B (v := 1) dX12_saveSnapshot_19 (by decide +kernel) ?_
        refine V_iload_n 20 B dX12_saveSnapshot_20 1 rfl ?_
        refine V_iadd 21 B (v := 2) dX12_saveSnapshot_21 (by decide +kernel) ?_
        refine V_cvv 22 B (st := []) (As := [.int 0, .int 2]) (fun sz => mX12_copyBlock_m l D Y (h0) (h1) (.ref h2) (.int 0) (.ref g0) (.ref g1) (.int 0) (.int 0) (.int 0) (.int (-1)) (.int 0) (.int 0) (.int 0) (.long 0) (.ref g2) (.ref g3) (.int 0) (.int 0) ((clB 0 (fun _ => 0))) (0) (2) (by decide) (by decide) (by decide) sz) glV_RX12_45 ⟨rfl, rfl⟩ ⟨(Nat.le_of_ble_eq_true rfl), (Nat.le_of_ble_eq_true rfl)⟩ ⟨(Nat.le_of_ble_eq_true rfl), (Nat.le_of_ble_eq_true rfl)⟩ [0, 0] rfl 13 0 rfl rfl rfl rfl (Nat.le_of_ble_eq_true rfl) rfl (fun _ _ => rfl) dX12_saveSnapshot_22 (fun u7 w7 => ?_)
        refine V_ws [(h0, oC 13 [.ref h1, .ref h2, .int 0, .ref g0, .ref g1, .int 0, .int 0, .int 0, .int (-1), .int 0, .int 0, .int 0, .long 0, .ref g2, .ref g3, .int 0, .int 0]), (h1, aI Y 3640 (cpB 0 2 906 (clB 0 (fun _ => 0)))), (h2, aZ Y 2 (fun _ => 0))] rfl ?_
        refine V_aload_n 25 B dX12_saveSnapshot_25 0 rfl ?_
        refine V_get 26 B gf_RX12_13 0 rfl rfl dX12_saveSnapshot_26 ?_
        refine V_iload_n 29 B dX12_saveSnapshot_29 1 rfl ?_
        refine V_iconst 30 B (v := 1) dX12_saveSnapshot_30 (by decide +kernel) ?_
        refine V_zast 31 B 2 rfl (vpin _ _ (by decide +kernel)) dX12_saveSnapshot_31 [(h0, oC 13 [.ref h1, .ref h2, .int 0, .ref g0, .ref g1, .int 0, .int 0, .int 0, .int (-1), .int 0, .int 0, .int 0, .long 0, .ref g2, .ref g3, .int 0, .int 0]), (h1, aI Y 3640 (cpB 0 2 906 (clB 0 (fun _ => 0)))), (h2, aZ Y 2 (upd (fun _ => 0) 1 (vp_nar .boolean 1)))] rfl ?_
        refine V_iconst 32 B (v := 1) dX12_saveSnapshot_32 (by decide +kernel) ?_
        exact V_zret 33 B rfl dX12_saveSnapshot_33 1 (Or.inr (Or.inl ⟨rfl, rfl, rfl⟩)) rfl
    ·
      refine V_ws [(h0, oC 13 [.ref h1, .ref h2, .int 0, .ref g0, .ref g1, .int 0, .int 0, .int 0, .int (-1), .int 0, .int 0, .int 0, .long 0, .ref g2, .ref g3, .int 0, .int 0]), (h1, aI Y 3640 (clB 0 (fun _ => 0))), (h2, aZ Y 2 (fun _ => 0))] rfl ?_
      refine V_if_ne_f 12 B 17 dX12_saveSnapshot_12 (by decide) (by decide +kernel) ?_
      refine V_iconst 15 B (v := 0) dX12_saveSnapshot_15 (by decide +kernel) ?_
      exact V_zret 16 B rfl dX12_saveSnapshot_16 2 (Or.inr (Or.inr (Or.inl ⟨rfl, k3, rfl⟩))) rfl
    ·
      refine V_ws [(h0, oC 13 [.ref h1, .ref h2, .int 0, .ref g0, .ref g1, .int 0, .int 0, .int 0, .int (-1), .int 0, .int 0, .int 0, .long 0, .ref g2, .ref g3, .int 0, .int 0]), (h1, aI Y 3640 (clB 0 (fun _ => 0))), (h2, aZ Y 2 (fun _ => 0))] rfl ?_
      refine V_if_ne_f 12 B 17 dX12_saveSnapshot_12 (by decide) (by decide +kernel) ?_
      refine V_iconst 15 B (v := 0) dX12_saveSnapshot_15 (by decide +kernel) ?_
      exact V_zret 16 B rfl dX12_saveSnapshot_16 3 (Or.inr (Or.inr (Or.inr ⟨rfl, k4, rfl⟩))) rfl)
theorem dX12_restoreSnapshot_0 : decode cX12_restoreSnapshot 0 = .ok (.aload_n 0, 1) := by decide +kernel
theorem dX12_restoreSnapshot_1 : decode cX12_restoreSnapshot 1 = .ok (.iconst 0, 1) := by decide +kernel
theorem dX12_restoreSnapshot_2 : decode cX12_restoreSnapshot 2 = .ok (.putfield 38, 3) := by decide +kernel
theorem dX12_restoreSnapshot_5 : decode cX12_restoreSnapshot 5 = .ok (.iload_n 1, 1) := by decide +kernel
theorem dX12_restoreSnapshot_6 : decode cX12_restoreSnapshot 6 = .ok (.i2l, 1) := by decide +kernel
theorem dX12_restoreSnapshot_7 : decode cX12_restoreSnapshot 7 = .ok (.lconst 0, 1) := by decide +kernel
theorem dX12_restoreSnapshot_8 : decode cX12_restoreSnapshot 8 = .ok (.lconst 1, 1) := by decide +kernel
theorem dX12_restoreSnapshot_9 : decode cX12_restoreSnapshot 9 = .ok (.invokestatic 41, 3) := by decide +kernel
theorem dX12_restoreSnapshot_12 : decode cX12_restoreSnapshot 12 = .ok (.ifCond .eq 12, 3) := by decide +kernel
theorem dX12_restoreSnapshot_15 : decode cX12_restoreSnapshot 15 = .ok (.aload_n 0, 1) := by decide +kernel
theorem dX12_restoreSnapshot_16 : decode cX12_restoreSnapshot 16 = .ok (.getfield 13, 3) := by decide +kernel
theorem dX12_restoreSnapshot_19 : decode cX12_restoreSnapshot 19 = .ok (.iload_n 1, 1) := by decide +kernel
theorem dX12_restoreSnapshot_20 : decode cX12_restoreSnapshot 20 = .ok (.baload, 1) := by decide +kernel
theorem dX12_restoreSnapshot_21 : decode cX12_restoreSnapshot 21 = .ok (.ifCond .ne 5, 3) := by decide +kernel
theorem dX12_restoreSnapshot_24 : decode cX12_restoreSnapshot 24 = .ok (.iconst 0, 1) := by decide +kernel
theorem dX12_restoreSnapshot_25 : decode cX12_restoreSnapshot 25 = .ok (.ireturn, 1) := by decide +kernel
set_option maxRecDepth 100000 in
set_option maxHeartbeats 4000000 in
theorem mX12_restoreSnapshot_1 (l : Launch) (D : va_G) (Y : Nat → ClassId) (h0 : Nat) (g0 : Nat) (h1 : Nat) (g1 : Nat) (g2 : Nat) (g3 : Nat) (g4 : Nat) (p0 : Int32) (sz : Nat) : Met l yX12_restoreSnapshot (WSm yX12_restoreSnapshot cX12_restoreSnapshot 2 (some .boolean)) (mkR 1 0 0 25) (PreC D Y [.ref h0, .int p0] [(h0, oC 13 [.ref g0, .ref h1, .int 0, .ref g1, .ref g2, .int 0, .int 0, .int 0, .int (-1), .int 0, .int 0, .int 0, .long 0, .ref g3, .ref g4, .int 0, .int 0]), (h1, aZ Y 2 (fun _ => 0))] sz) (QI D (fun (r : Int32) (u : Unit) => (p0 = 0 ∧ 0 = r) ∨ (p0 = 1 ∧ 0 = r) ∨ (p0 < 0 ∧ 0 = r) ∨ (1 < p0 ∧ 0 = r)) (fun (_ : Unit) => [(h0, oC 13 [.ref g0, .ref h1, .int 0, .ref g1, .ref g2, .int 0, .int 0, .int 0, .int (-1), .int 0, .int 0, .int 0, .long 0, .ref g3, .ref g4, .int 0, .int 0]), (h1, aZ Y 2 (fun _ => 0))]) (va_A [(h0, oC 13 [.ref g0, .ref h1, .int 0, .ref g1, .ref g2, .int 0, .int 0, .int 0, .int (-1), .int 0, .int 0, .int 0, .long 0, .ref g3, .ref g4, .int 0, .int 0]), (h1, aZ Y 2 (fun _ => 0))] sz)) 0 0 (va_A [(h0, oC 13 [.ref g0, .ref h1, .int 0, .ref g1, .ref g2, .int 0, .int 0, .int 0, .int (-1), .int 0, .int 0, .int 0, .long 0, .ref g3, .ref g4, .int 0, .int 0]), (h1, aZ Y 2 (fun _ => 0))] sz) :=
  met_of (by decide +kernel) (Nat.le_of_ble_eq_true rfl) (fun p e s m args below meth c B hin hsz => by
    have B : VB p s m args meth c D Y (va_A [(h0, oC 13 [.ref g0, .ref h1, .int 0, .ref g1, .ref g2, .int 0, .int 0, .int 0, .int (-1), .int 0, .int 0, .int 0, .long 0, .ref g3, .ref g4, .int 0, .int 0]), (h1, aZ Y 2 (fun _ => 0))] sz) cX12_restoreSnapshot 2 RX12 (some .boolean) := B
    refine V_aload_n 0 B dX12_restoreSnapshot_0 0 rfl ?_
    refine V_iconst 1 B (v := 0) dX12_restoreSnapshot_1 (by decide +kernel) ?_
    refine V_put 2 B gp_RX12_38 0 rfl (Nat.le_of_ble_eq_true rfl) rfl rfl dX12_restoreSnapshot_2 [(h0, oC 13 [.ref g0, .ref h1, .int 0, .ref g1, .ref g2, .int 0, .int 0, .int 0, .int (-1), .int 0, .int 0, .int 0, .long 0, .ref g3, .ref g4, .int 0, .int 0]), (h1, aZ Y 2 (fun _ => 0))] rfl ?_
    refine V_iload_n 5 B dX12_restoreSnapshot_5 1 rfl ?_
    refine V_i2l 6 B dX12_restoreSnapshot_6 rfl ?_
    refine V_lconst 7 B (v := 0) dX12_restoreSnapshot_7 (by decide +kernel) ?_
    refine V_lconst 8 B (v := 1) dX12_restoreSnapshot_8 (by decide +kernel) ?_
    refine V_csi 9 B (st := []) (As := [.long p0.toInt64, .long 0, .long 1]) (fun sz => mX12_inRange_m l D Y (p0) (0) (1) (0) (1) (by decide +kernel) (by decide +kernel) sz) glS_RX12_41 ⟨rfl, rfl⟩ ⟨(Nat.le_of_ble_eq_true rfl), (Nat.le_of_ble_eq_true rfl)⟩ ⟨(Nat.le_of_ble_eq_true rfl), (Nat.le_of_ble_eq_true rfl)⟩ [] rfl rfl (Nat.le_of_ble_eq_true rfl) rfl (fun _ _ _ => rfl) dX12_restoreSnapshot_9 (fun r0 u0 w0 => ?_)
    rcases w0 with ⟨k1, k2, rfl⟩ | ⟨k3, rfl⟩ | ⟨k4, rfl⟩
    ·
      refine V_ws [(h0, oC 13 [.ref g0, .ref h1, .int 0, .ref g1, .ref g2, .int 0, .int 0, .int 0, .int (-1), .int 0, .int 0, .int 0, .long 0, .ref g3, .ref g4, .int 0, .int 0]), (h1, aZ Y 2 (fun _ => 0))] rfl ?_
      refine V_if_eq_f 12 B 24 dX12_restoreSnapshot_12 (by decide) (by decide +kernel) ?_
      refine V_aload_n 15 B dX12_restoreSnapshot_15 0 rfl ?_
      refine V_get 16 B gf_RX12_13 0 rfl rfl dX12_restoreSnapshot_16 ?_
      refine V_iload_n 19 B dX12_restoreSnapshot_19 1 rfl ?_
      by_cases k5 : p0 = 0
      ·
        obtain rfl : p0 = 0 := k5
        refine V_zald 20 B (v := 0) 1 rfl (vpin _ _ (by decide +kernel)) dX12_restoreSnapshot_20 rfl ?_
        refine V_if_ne_f 21 B 26 dX12_restoreSnapshot_21 (by decide) (by decide +kernel) ?_
        refine V_iconst 24 B (v := 0) dX12_restoreSnapshot_24 (by decide +kernel) ?_
        exact V_zret 25 B rfl dX12_restoreSnapshot_25 () (Or.inl ⟨rfl, rfl⟩) rfl
      ·
        obtain rfl : p0 = 1 := q_eq (q_bump (b_nlt k1 (n := 0) (by decide +kernel)) k5 (by decide +kernel) (k := 1) (by decide +kernel)) (b_ngt k2 (n := 1) (by decide +kernel)) (by decide +kernel)
        refine V_zald 20 B (v := 0) 1 rfl (vpin _ _ (by decide +kernel)) dX12_restoreSnapshot_20 rfl ?_
        refine V_if_ne_f 21 B 26 dX12_restoreSnapshot_21 (by decide) (by decide +kernel) ?_
        refine V_iconst 24 B (v := 0) dX12_restoreSnapshot_24 (by decide +kernel) ?_
        exact V_zret 25 B rfl dX12_restoreSnapshot_25 () (Or.inr (Or.inl ⟨rfl, rfl⟩)) rfl
    ·
      refine V_ws [(h0, oC 13 [.ref g0, .ref h1, .int 0, .ref g1, .ref g2, .int 0, .int 0, .int 0, .int (-1), .int 0, .int 0, .int 0, .long 0, .ref g3, .ref g4, .int 0, .int 0]), (h1, aZ Y 2 (fun _ => 0))] rfl ?_
      refine V_if_eq_t 12 B 24 dX12_restoreSnapshot_12 (by decide) (by decide +kernel) ?_
      refine V_iconst 24 B (v := 0) dX12_restoreSnapshot_24 (by decide +kernel) ?_
      exact V_zret 25 B rfl dX12_restoreSnapshot_25 () (Or.inr (Or.inr (Or.inl ⟨k3, rfl⟩))) rfl
    ·
      refine V_ws [(h0, oC 13 [.ref g0, .ref h1, .int 0, .ref g1, .ref g2, .int 0, .int 0, .int 0, .int (-1), .int 0, .int 0, .int 0, .long 0, .ref g3, .ref g4, .int 0, .int 0]), (h1, aZ Y 2 (fun _ => 0))] rfl ?_
      refine V_if_eq_t 12 B 24 dX12_restoreSnapshot_12 (by decide) (by decide +kernel) ?_
      refine V_iconst 24 B (v := 0) dX12_restoreSnapshot_24 (by decide +kernel) ?_
      exact V_zret 25 B rfl dX12_restoreSnapshot_25 () (Or.inr (Or.inr (Or.inr ⟨k4, rfl⟩))) rfl)
theorem dX12_isStroke_0 : decode cX12_isStroke 0 = .ok (.iload_n 0, 1) := by decide +kernel
theorem dX12_isStroke_1 : decode cX12_isStroke 1 = .ok (.i2l, 1) := by decide +kernel
theorem dX12_isStroke_2 : decode cX12_isStroke 2 = .ok (.lconst 0, 1) := by decide +kernel
theorem dX12_isStroke_3 : decode cX12_isStroke 3 = .ok (.ldc2_w 49, 3) := by decide +kernel
theorem dX12_isStroke_6 : decode cX12_isStroke 6 = .ok (.invokestatic 41, 3) := by decide +kernel
theorem dX12_isStroke_9 : decode cX12_isStroke 9 = .ok (.ifCond .eq 16, 3) := by decide +kernel
theorem dX12_isStroke_12 : decode cX12_isStroke 12 = .ok (.iload_n 0, 1) := by decide +kernel
theorem dX12_isStroke_13 : decode cX12_isStroke 13 = .ok (.bipush 32, 2) := by decide +kernel
theorem dX12_isStroke_15 : decode cX12_isStroke 15 = .ok (.irem, 1) := by decide +kernel
theorem dX12_isStroke_16 : decode cX12_isStroke 16 = .ok (.bipush 26, 2) := by decide +kernel
theorem dX12_isStroke_18 : decode cX12_isStroke 18 = .ok (.if_icmp .ge 7, 3) := by decide +kernel
theorem dX12_isStroke_25 : decode cX12_isStroke 25 = .ok (.iconst 0, 1) := by decide +kernel
theorem dX12_isStroke_26 : decode cX12_isStroke 26 = .ok (.ireturn, 1) := by decide +kernel
theorem dX12_isStroke_21 : decode cX12_isStroke 21 = .ok (.iconst 1, 1) := by decide +kernel
theorem dX12_isStroke_22 : decode cX12_isStroke 22 = .ok (.goto 4, 3) := by decide +kernel
set_option maxRecDepth 100000 in
set_option maxHeartbeats 4000000 in
theorem mX12_isStroke_1 (l : Launch) (D : va_G) (Y : Nat → ClassId) (p0 : Int32) (sz : Nat) : Met l yX12_isStroke (WSm yX12_isStroke cX12_isStroke 1 (some .boolean)) (mkR 1 0 0 25) (PreC D Y [.int p0] [] sz) (QI D (fun (r : Int32) (u : Unit) => (¬ p0 < 0 ∧ ¬ 511 < p0 ∧ 26 ≤ (p0 - p0 / 32 * 32) ∧ 0 = r) ∨ (¬ p0 < 0 ∧ ¬ 511 < p0 ∧ ¬ 26 ≤ (p0 - p0 / 32 * 32) ∧ 1 = r) ∨ (p0 < 0 ∧ 0 = r) ∨ (511 < p0 ∧ 0 = r)) (fun (_ : Unit) => []) (va_A [] sz)) 0 0 (va_A [] sz) :=
  met_of (by decide +kernel) (Nat.le_of_ble_eq_true rfl) (fun p e s m args below meth c B hin hsz => by
    have B : VB p s m args meth c D Y (va_A [] sz) cX12_isStroke 1 RX12 (some .boolean) := B
    refine V_iload_n 0 B dX12_isStroke_0 0 rfl ?_
    refine V_i2l 1 B dX12_isStroke_1 rfl ?_
    refine V_lconst 2 B (v := 0) dX12_isStroke_2 (by decide +kernel) ?_
    refine V_ldc2 3 B (v := 511) dX12_isStroke_3 (mT7 216 rfl rfl) ?_
    refine V_csi 6 B (st := []) (As := [.long p0.toInt64, .long 0, .long 511]) (fun sz => mX12_inRange_m l D Y (p0) (0) (511) (0) (511) (by decide +kernel) (by decide +kernel) sz) glS_RX12_41 ⟨rfl, rfl⟩ ⟨(Nat.le_of_ble_eq_true rfl), (Nat.le_of_ble_eq_true rfl)⟩ ⟨(Nat.le_of_ble_eq_true rfl), (Nat.le_of_ble_eq_true rfl)⟩ [] rfl rfl (Nat.le_of_ble_eq_true rfl) rfl (fun _ _ _ => rfl) dX12_isStroke_6 (fun r0 u0 w0 => ?_)
    rcases w0 with ⟨k1, k2, rfl⟩ | ⟨k3, rfl⟩ | ⟨k4, rfl⟩
    ·
      refine V_ws [] rfl ?_
      refine V_if_eq_f 9 B 25 dX12_isStroke_9 (by decide) (by decide +kernel) ?_
      refine V_iload_n 12 B dX12_isStroke_12 0 rfl ?_
      refine V_bipush 13 B (v := 32) dX12_isStroke_13 (by decide +kernel) ?_
      refine V_irem 15 B dX12_isStroke_15 (by decide +kernel) rfl ?_
      refine V_bipush 16 B (v := 26) dX12_isStroke_16 (by decide +kernel) ?_
      refine V_icmp_ge 18 B 25 dX12_isStroke_18 (by decide) (fun k5 => ?_) (fun k5 => ?_)
      ·
        refine V_iconst 25 B (v := 0) dX12_isStroke_25 (by decide +kernel) ?_
        exact V_zret 26 B rfl dX12_isStroke_26 () (Or.inl ⟨k1, k2, k5, rfl⟩) rfl
      ·
        refine V_iconst 21 B (v := 1) dX12_isStroke_21 (by decide +kernel) ?_
        refine V_goto 22 B 26 dX12_isStroke_22 (by decide) ?_
        exact V_zret 26 B rfl dX12_isStroke_26 () (Or.inr (Or.inl ⟨k1, k2, k5, rfl⟩)) rfl
    ·
      refine V_ws [] rfl ?_
      refine V_if_eq_t 9 B 25 dX12_isStroke_9 (by decide) (by decide +kernel) ?_
      refine V_iconst 25 B (v := 0) dX12_isStroke_25 (by decide +kernel) ?_
      exact V_zret 26 B rfl dX12_isStroke_26 () (Or.inr (Or.inr (Or.inl ⟨k3, rfl⟩))) rfl
    ·
      refine V_ws [] rfl ?_
      refine V_if_eq_t 9 B 25 dX12_isStroke_9 (by decide) (by decide +kernel) ?_
      refine V_iconst 25 B (v := 0) dX12_isStroke_25 (by decide +kernel) ?_
      exact V_zret 26 B rfl dX12_isStroke_26 () (Or.inr (Or.inr (Or.inr ⟨k4, rfl⟩))) rfl)
theorem dX12_throwsIf_0 : decode cX12_throwsIf 0 = .ok (.iload_n 1, 1) := by decide +kernel
theorem dX12_throwsIf_1 : decode cX12_throwsIf 1 = .ok (.ifCond .eq 8, 3) := by decide +kernel
theorem dX12_throwsIf_4 : decode cX12_throwsIf 4 = .ok (.aload_n 0, 1) := by decide +kernel
theorem dX12_throwsIf_5 : decode cX12_throwsIf 5 = .ok (.iload_n 2, 1) := by decide +kernel
theorem dX12_throwsIf_6 : decode cX12_throwsIf 6 = .ok (.putfield 38, 3) := by decide +kernel
theorem dX12_throwsIf_9 : decode cX12_throwsIf 9 = .ok (.iload_n 1, 1) := by decide +kernel
theorem dX12_throwsIf_10 : decode cX12_throwsIf 10 = .ok (.ireturn, 1) := by decide +kernel
set_option maxRecDepth 100000 in
set_option maxHeartbeats 4000000 in
theorem mX12_throwsIf_1 (l : Launch) (D : va_G) (Y : Nat → ClassId) (h0 : Nat) (g0 : Nat) (g1 : Nat) (g2 : Nat) (g3 : Nat) (g4 : Nat) (g5 : Nat) (sz : Nat) : Met l yX12_throwsIf (WSm yX12_throwsIf cX12_throwsIf 3 (some .boolean)) (mkR 0 0 0 0) (PreC D Y [.ref h0, .int 1, .int 1] [(h0, oC 13 [.ref g0, .ref g1, .int 0, .ref g2, .ref g3, .int 0, .int 0, .int 0, .int (-1), .int 0, .int 0, .int 0, .long 0, .ref g4, .ref g5, .int 0, .int 0])] sz) (QI D (fun (r : Int32) (u : Unit) => 1 = r) (fun (_ : Unit) => [(h0, oC 13 [.ref g0, .ref g1, .int 1, .ref g2, .ref g3, .int 0, .int 0, .int 0, .int (-1), .int 0, .int 0, .int 0, .long 0, .ref g4, .ref g5, .int 0, .int 0])]) (va_A [(h0, oC 13 [.ref g0, .ref g1, .int 0, .ref g2, .ref g3, .int 0, .int 0, .int 0, .int (-1), .int 0, .int 0, .int 0, .long 0, .ref g4, .ref g5, .int 0, .int 0])] sz)) 0 0 (va_A [(h0, oC 13 [.ref g0, .ref g1, .int 0, .ref g2, .ref g3, .int 0, .int 0, .int 0, .int (-1), .int 0, .int 0, .int 0, .long 0, .ref g4, .ref g5, .int 0, .int 0])] sz) :=
  met_of (by decide +kernel) (Nat.le_of_ble_eq_true rfl) (fun p e s m args below meth c B hin hsz => by
    have B : VB p s m args meth c D Y (va_A [(h0, oC 13 [.ref g0, .ref g1, .int 0, .ref g2, .ref g3, .int 0, .int 0, .int 0, .int (-1), .int 0, .int 0, .int 0, .long 0, .ref g4, .ref g5, .int 0, .int 0])] sz) cX12_throwsIf 3 RX12 (some .boolean) := B
    refine V_iload_n 0 B dX12_throwsIf_0 1 rfl ?_
    refine V_if_eq_f 1 B 9 dX12_throwsIf_1 (by decide) (by decide +kernel) ?_
    refine V_aload_n 4 B dX12_throwsIf_4 0 rfl ?_
    refine V_iload_n 5 B dX12_throwsIf_5 2 rfl ?_
    refine V_put 6 B gp_RX12_38 0 rfl (Nat.le_of_ble_eq_true rfl) rfl rfl dX12_throwsIf_6 [(h0, oC 13 [.ref g0, .ref g1, .int 1, .ref g2, .ref g3, .int 0, .int 0, .int 0, .int (-1), .int 0, .int 0, .int 0, .long 0, .ref g4, .ref g5, .int 0, .int 0])] rfl ?_
    refine V_iload_n 9 B dX12_throwsIf_9 1 rfl ?_
    exact V_zret 10 B rfl dX12_throwsIf_10 () rfl rfl)
set_option maxRecDepth 100000 in
set_option maxHeartbeats 4000000 in
theorem mX12_throwsIf_2 (l : Launch) (D : va_G) (Y : Nat → ClassId) (h0 : Nat) (g0 : Nat) (g1 : Nat) (g2 : Nat) (g3 : Nat) (g4 : Nat) (g5 : Nat) (sz : Nat) : Met l yX12_throwsIf (WSm yX12_throwsIf cX12_throwsIf 3 (some .boolean)) (mkR 0 0 0 0) (PreC D Y [.ref h0, .int 0, .int 1] [(h0, oC 13 [.ref g0, .ref g1, .int 0, .ref g2, .ref g3, .int 0, .int 0, .int 0, .int (-1), .int 0, .int 0, .int 0, .long 0, .ref g4, .ref g5, .int 0, .int 0])] sz) (QI D (fun (r : Int32) (u : Unit) => 0 = r) (fun (_ : Unit) => [(h0, oC 13 [.ref g0, .ref g1, .int 0, .ref g2, .ref g3, .int 0, .int 0, .int 0, .int (-1), .int 0, .int 0, .int 0, .long 0, .ref g4, .ref g5, .int 0, .int 0])]) (va_A [(h0, oC 13 [.ref g0, .ref g1, .int 0, .ref g2, .ref g3, .int 0, .int 0, .int 0, .int (-1), .int 0, .int 0, .int 0, .long 0, .ref g4, .ref g5, .int 0, .int 0])] sz)) 0 0 (va_A [(h0, oC 13 [.ref g0, .ref g1, .int 0, .ref g2, .ref g3, .int 0, .int 0, .int 0, .int (-1), .int 0, .int 0, .int 0, .long 0, .ref g4, .ref g5, .int 0, .int 0])] sz) :=
  met_of (by decide +kernel) (Nat.le_of_ble_eq_true rfl) (fun p e s m args below meth c B hin hsz => by
    have B : VB p s m args meth c D Y (va_A [(h0, oC 13 [.ref g0, .ref g1, .int 0, .ref g2, .ref g3, .int 0, .int 0, .int 0, .int (-1), .int 0, .int 0, .int 0, .long 0, .ref g4, .ref g5, .int 0, .int 0])] sz) cX12_throwsIf 3 RX12 (some .boolean) := B
    refine V_iload_n 0 B dX12_throwsIf_0 1 rfl ?_
    refine V_if_eq_t 1 B 9 dX12_throwsIf_1 (by decide) (by decide +kernel) ?_
    refine V_iload_n 9 B dX12_throwsIf_9 1 rfl ?_
    exact V_zret 10 B rfl dX12_throwsIf_10 () rfl rfl)
theorem dX12_draft_0 : decode cX12_draft 0 = .ok (.aload_n 0, 1) := by decide +kernel
theorem dX12_draft_1 : decode cX12_draft 1 = .ok (.iconst 0, 1) := by decide +kernel
theorem dX12_draft_2 : decode cX12_draft 2 = .ok (.putfield 38, 3) := by decide +kernel
theorem dX12_draft_5 : decode cX12_draft 5 = .ok (.aload_n 0, 1) := by decide +kernel
theorem dX12_draft_6 : decode cX12_draft 6 = .ok (.iload_n 1, 1) := by decide +kernel
theorem dX12_draft_7 : decode cX12_draft 7 = .ok (.invokestatic 65, 3) := by decide +kernel
theorem glS_RX12_65 : GLS RX12 65 yX12_isStroke cX12_isStroke 1 (some .boolean) 1 := ⟨⟨(mT7 213 rfl rfl), (mT7 214 rfl rfl), (mT1 13 rfl rfl), (mT7 215 rfl rfl)⟩, by decide +kernel⟩
theorem dX12_draft_10 : decode cX12_draft 10 = .ok (.ifCond .ne 7, 3) := by decide +kernel
theorem dX12_draft_13 : decode cX12_draft 13 = .ok (.iconst 1, 1) := by decide +kernel
theorem dX12_draft_14 : decode cX12_draft 14 = .ok (.goto 4, 3) := by decide +kernel
theorem dX12_draft_18 : decode cX12_draft 18 = .ok (.iconst 1, 1) := by decide +kernel
theorem dX12_draft_19 : decode cX12_draft 19 = .ok (.invokevirtual 69, 3) := by decide +kernel
theorem glV_RX12_69 : GLV RX12 69 yX12_throwsIf RX12 cX12_throwsIf 3 (some .boolean) 2 := ⟨⟨(mT7 217 rfl rfl), (mT7 219 rfl rfl), (mTs 29 rfl rfl), (mT1 13 rfl rfl), (mT7 220 rfl rfl)⟩, by decide +kernel⟩
theorem dX12_draft_22 : decode cX12_draft 22 = .ok (.ifCond .eq 5, 3) := by decide +kernel
theorem dX12_draft_25 : decode cX12_draft 25 = .ok (.iconst 0, 1) := by decide +kernel
theorem dX12_draft_26 : decode cX12_draft 26 = .ok (.ireturn, 1) := by decide +kernel
theorem dX12_draft_17 : decode cX12_draft 17 = .ok (.iconst 0, 1) := by decide +kernel
theorem dX12_draft_27 : decode cX12_draft 27 = .ok (.aload_n 0, 1) := by decide +kernel
theorem dX12_draft_28 : decode cX12_draft 28 = .ok (.getfield 9, 3) := by decide +kernel
theorem dX12_draft_31 : decode cX12_draft 31 = .ok (.sipush 3624, 3) := by decide +kernel
theorem dX12_draft_34 : decode cX12_draft 34 = .ok (.iaload, 1) := by decide +kernel
theorem dX12_draft_35 : decode cX12_draft 35 = .ok (.iconst 4, 1) := by decide +kernel
theorem dX12_draft_36 : decode cX12_draft 36 = .ok (.if_icmp .ne 6, 3) := by decide +kernel
theorem dX12_draft_42 : decode cX12_draft 42 = .ok (.aload_n 0, 1) := by decide +kernel
theorem dX12_draft_43 : decode cX12_draft 43 = .ok (.getfield 9, 3) := by decide +kernel
theorem dX12_draft_46 : decode cX12_draft 46 = .ok (.sipush 3624, 3) := by decide +kernel
theorem dX12_draft_49 : decode cX12_draft 49 = .ok (.dup2, 1) := by decide +kernel
theorem dX12_draft_50 : decode cX12_draft 50 = .ok (.iaload, 1) := by decide +kernel
theorem dX12_draft_51 : decode cX12_draft 51 = .ok (.iconst 1, 1) := by decide +kernel
theorem dX12_draft_52 : decode cX12_draft 52 = .ok (.iadd, 1) := by decide +kernel
theorem dX12_draft_53 : decode cX12_draft 53 = .ok (.iastore, 1) := by decide +kernel
theorem dX12_draft_54 : decode cX12_draft 54 = .ok (.aload_n 0, 1) := by decide +kernel
theorem dX12_draft_55 : decode cX12_draft 55 = .ok (.getfield 9, 3) := by decide +kernel
theorem dX12_draft_58 : decode cX12_draft 58 = .ok (.sipush 3624, 3) := by decide +kernel
theorem dX12_draft_61 : decode cX12_draft 61 = .ok (.aload_n 0, 1) := by decide +kernel
theorem dX12_draft_62 : decode cX12_draft 62 = .ok (.getfield 9, 3) := by decide +kernel
theorem dX12_draft_65 : decode cX12_draft 65 = .ok (.sipush 3624, 3) := by decide +kernel
theorem dX12_draft_68 : decode cX12_draft 68 = .ok (.iaload, 1) := by decide +kernel
theorem dX12_draft_69 : decode cX12_draft 69 = .ok (.iadd, 1) := by decide +kernel
theorem dX12_draft_70 : decode cX12_draft 70 = .ok (.iload_n 1, 1) := by decide +kernel
theorem dX12_draft_71 : decode cX12_draft 71 = .ok (.iastore, 1) := by decide +kernel
theorem dX12_draft_72 : decode cX12_draft 72 = .ok (.aload_n 0, 1) := by decide +kernel
theorem dX12_draft_73 : decode cX12_draft 73 = .ok (.getfield 9, 3) := by decide +kernel
theorem dX12_draft_76 : decode cX12_draft 76 = .ok (.sipush 3624, 3) := by decide +kernel
theorem dX12_draft_79 : decode cX12_draft 79 = .ok (.iaload, 1) := by decide +kernel
theorem dX12_draft_80 : decode cX12_draft 80 = .ok (.ireturn, 1) := by decide +kernel
set_option maxRecDepth 100000 in
set_option maxHeartbeats 4000000 in
theorem mX12_draft_1 (l : Launch) (D : va_G) (Y : Nat → ClassId) (h0 : Nat) (h1 : Nat) (g0 : Nat) (g1 : Nat) (g2 : Nat) (g3 : Nat) (g4 : Nat) (p0 : Int32) (sz : Nat) : Met l yX12_draft (WSm yX12_draft cX12_draft 2 (some .int)) (mkR 2 0 0 45) (PreC D Y [.ref h0, .int p0] [(h0, oC 13 [.ref h1, .ref g0, .int 0, .ref g1, .ref g2, .int 0, .int 0, .int 0, .int (-1), .int 0, .int 0, .int 0, .long 0, .ref g3, .ref g4, .int 0, .int 0]), (h1, aI Y 3640 (clB 0 (fun _ => 0)))] sz) (QI D (fun (r : Int32) (u : Nat) => (u = 0 ∧ ¬ p0 < 0 ∧ ¬ 511 < p0 ∧ 26 ≤ (p0 - p0 / 32 * 32) ∧ 0 = r) ∨ (u = 1 ∧ ¬ p0 < 0 ∧ ¬ 511 < p0 ∧ ¬ 26 ≤ (p0 - p0 / 32 * 32) ∧ 1 = r) ∨ (u = 2 ∧ p0 < 0 ∧ 0 = r) ∨ (u = 3 ∧ 511 < p0 ∧ 0 = r)) (fun (u : Nat) => match u with | 0 => [(h0, oC 13 [.ref h1, .ref g0, .int 1, .ref g1, .ref g2, .int 0, .int 0, .int 0, .int (-1), .int 0, .int 0, .int 0, .long 0, .ref g3, .ref g4, .int 0, .int 0]), (h1, aI Y 3640 (clB 0 (fun _ => 0)))] | 1 => [(h0, oC 13 [.ref h1, .ref g0, .int 0, .ref g1, .ref g2, .int 0, .int 0, .int 0, .int (-1), .int 0, .int 0, .int 0, .long 0, .ref g3, .ref g4, .int 0, .int 0]), (h1, aI Y 3640 (upd (upd (clB 0 (fun _ => 0)) 3624 1) 3625 p0))] | 2 => [(h0, oC 13 [.ref h1, .ref g0, .int 1, .ref g1, .ref g2, .int 0, .int 0, .int 0, .int (-1), .int 0, .int 0, .int 0, .long 0, .ref g3, .ref g4, .int 0, .int 0]), (h1, aI Y 3640 (clB 0 (fun _ => 0)))] | _ => [(h0, oC 13 [.ref h1, .ref g0, .int 1, .ref g1, .ref g2, .int 0, .int 0, .int 0, .int (-1), .int 0, .int 0, .int 0, .long 0, .ref g3, .ref g4, .int 0, .int 0]), (h1, aI Y 3640 (clB 0 (fun _ => 0)))]) (va_A [(h0, oC 13 [.ref h1, .ref g0, .int 0, .ref g1, .ref g2, .int 0, .int 0, .int 0, .int (-1), .int 0, .int 0, .int 0, .long 0, .ref g3, .ref g4, .int 0, .int 0]), (h1, aI Y 3640 (clB 0 (fun _ => 0)))] sz)) 0 0 (va_A [(h0, oC 13 [.ref h1, .ref g0, .int 0, .ref g1, .ref g2, .int 0, .int 0, .int 0, .int (-1), .int 0, .int 0, .int 0, .long 0, .ref g3, .ref g4, .int 0, .int 0]), (h1, aI Y 3640 (clB 0 (fun _ => 0)))] sz) :=
  met_of (by decide +kernel) (Nat.le_of_ble_eq_true rfl) (fun p e s m args below meth c B hin hsz => by
    have B : VB p s m args meth c D Y (va_A [(h0, oC 13 [.ref h1, .ref g0, .int 0, .ref g1, .ref g2, .int 0, .int 0, .int 0, .int (-1), .int 0, .int 0, .int 0, .long 0, .ref g3, .ref g4, .int 0, .int 0]), (h1, aI Y 3640 (clB 0 (fun _ => 0)))] sz) cX12_draft 2 RX12 (some .int) := B
    refine V_aload_n 0 B dX12_draft_0 0 rfl ?_
    refine V_iconst 1 B (v := 0) dX12_draft_1 (by decide +kernel) ?_
    refine V_put 2 B gp_RX12_38 0 rfl (Nat.le_of_ble_eq_true rfl) rfl rfl dX12_draft_2 [(h0, oC 13 [.ref h1, .ref g0, .int 0, .ref g1, .ref g2, .int 0, .int 0, .int 0, .int (-1), .int 0, .int 0, .int 0, .long 0, .ref g3, .ref g4, .int 0, .int 0]), (h1, aI Y 3640 (clB 0 (fun _ => 0)))] rfl ?_
    refine V_aload_n 5 B dX12_draft_5 0 rfl ?_
    refine V_iload_n 6 B dX12_draft_6 1 rfl ?_
    refine V_csi 7 B (st := [.ref h0]) (As := [.int p0]) (fun sz => mX12_isStroke_1 l D Y (p0) sz) glS_RX12_65 ⟨rfl, rfl⟩ ⟨(Nat.le_of_ble_eq_true rfl), (Nat.le_of_ble_eq_true rfl)⟩ ⟨(Nat.le_of_ble_eq_true rfl), (Nat.le_of_ble_eq_true rfl)⟩ [] rfl rfl (Nat.le_of_ble_eq_true rfl) rfl (fun _ _ _ => rfl) dX12_draft_7 (fun r0 u0 w0 => ?_)
    rcases w0 with ⟨k1, k2, k3, rfl⟩ | ⟨k4, k5, k6, rfl⟩ | ⟨k7, rfl⟩ | ⟨k8, rfl⟩
    ·
      refine V_ws [(h0, oC 13 [.ref h1, .ref g0, .int 0, .ref g1, .ref g2, .int 0, .int 0, .int 0, .int (-1), .int 0, .int 0, .int 0, .long 0, .ref g3, .ref g4, .int 0, .int 0]), (h1, aI Y 3640 (clB 0 (fun _ => 0)))] rfl ?_
      refine V_if_ne_f 10 B 17 dX12_draft_10 (by decide) (by decide +kernel) ?_
      refine V_iconst 13 B (v := 1) dX12_draft_13 (by decide +kernel) ?_
      refine V_goto 14 B 18 dX12_draft_14 (by decide) ?_
      refine V_iconst 18 B (v := 1) dX12_draft_18 (by decide +kernel) ?_
      refine V_cvi 19 B (st := []) (As := [.int 1, .int 1]) (fun sz => mX12_throwsIf_1 l D Y (h0) (h1) (g0) (g1) (g2) (g3) (g4) sz) glV_RX12_69 ⟨rfl, rfl⟩ ⟨(Nat.le_of_ble_eq_true rfl), (Nat.le_of_ble_eq_true rfl)⟩ ⟨(Nat.le_of_ble_eq_true rfl), (Nat.le_of_ble_eq_true rfl)⟩ [0] rfl 13 0 rfl rfl rfl rfl (Nat.le_of_ble_eq_true rfl) rfl (fun _ _ _ => rfl) dX12_draft_19 (fun r9 u9 w9 => ?_)
      obtain rfl := w9
      refine V_ws [(h0, oC 13 [.ref h1, .ref g0, .int 1, .ref g1, .ref g2, .int 0, .int 0, .int 0, .int (-1), .int 0, .int 0, .int 0, .long 0, .ref g3, .ref g4, .int 0, .int 0]), (h1, aI Y 3640 (clB 0 (fun _ => 0)))] rfl ?_
      refine V_if_eq_f 22 B 27 dX12_draft_22 (by decide) (by decide +kernel) ?_
      refine V_iconst 25 B (v := 0) dX12_draft_25 (by decide +kernel) ?_
      exact V_iret 26 B dX12_draft_26 0 (Or.inl ⟨rfl, k1, k2, k3, rfl⟩) rfl
    ·
      refine V_ws [(h0, oC 13 [.ref h1, .ref g0, .int 0, .ref g1, .ref g2, .int 0, .int 0, .int 0, .int (-1), .int 0, .int 0, .int 0, .long 0, .ref g3, .ref g4, .int 0, .int 0]), (h1, aI Y 3640 (clB 0 (fun _ => 0)))] rfl ?_
      refine V_if_ne_t 10 B 17 dX12_draft_10 (by decide) (by decide +kernel) ?_
      refine V_iconst 17 B (v := 0) dX12_draft_17 (by decide +kernel) ?_
      refine V_iconst 18 B (v := 1) dX12_draft_18 (by decide +kernel) ?_
      refine V_cvi 19 B (st := []) (As := [.int 0, .int 1]) (fun sz => mX12_throwsIf_2 l D Y (h0) (h1) (g0) (g1) (g2) (g3) (g4) sz) glV_RX12_69 ⟨rfl, rfl⟩ ⟨(Nat.le_of_ble_eq_true rfl), (Nat.le_of_ble_eq_true rfl)⟩ ⟨(Nat.le_of_ble_eq_true rfl), (Nat.le_of_ble_eq_true rfl)⟩ [0] rfl 13 0 rfl rfl rfl rfl (Nat.le_of_ble_eq_true rfl) rfl (fun _ _ _ => rfl) dX12_draft_19 (fun r10 u10 w10 => ?_)
      obtain rfl := w10
      refine V_ws [(h0, oC 13 [.ref h1, .ref g0, .int 0, .ref g1, .ref g2, .int 0, .int 0, .int 0, .int (-1), .int 0, .int 0, .int 0, .long 0, .ref g3, .ref g4, .int 0, .int 0]), (h1, aI Y 3640 (clB 0 (fun _ => 0)))] rfl ?_
      refine V_if_eq_t 22 B 27 dX12_draft_22 (by decide) (by decide +kernel) ?_
      refine V_aload_n 27 B dX12_draft_27 0 rfl ?_
      refine V_get 28 B gf_RX12_9 0 rfl rfl dX12_draft_28 ?_
      refine V_sipush 31 B (v := 3624) dX12_draft_31 (by decide +kernel) ?_
      refine V_iald 34 B (v := 0) 1 rfl (vpin _ _ (by decide +kernel)) dX12_draft_34 rfl ?_
      refine V_iconst 35 B (v := 4) dX12_draft_35 (by decide +kernel) ?_
      refine V_icmp_ne_t 36 B 42 dX12_draft_36 (by decide) (by decide +kernel) ?_
      refine V_aload_n 42 B dX12_draft_42 0 rfl ?_
      refine V_get 43 B gf_RX12_9 0 rfl rfl dX12_draft_43 ?_
      refine V_sipush 46 B (v := 3624) dX12_draft_46 (by decide +kernel) ?_
      refine V_dup2_11 49 B dX12_draft_49 rfl rfl ?_
      refine V_iald 50 B (v := 0) 1 rfl (vpin _ _ (by decide +kernel)) dX12_draft_50 rfl ?_
      refine V_iconst 51 B (v := 1) dX12_draft_51 (by decide +kernel) ?_
      refine V_iadd 52 B (v := 1) dX12_draft_52 (by decide +kernel) ?_
      refine V_iast 53 B 1 rfl (vpin _ _ (by decide +kernel)) dX12_draft_53 [(h0, oC 13 [.ref h1, .ref g0, .int 0, .ref g1, .ref g2, .int 0, .int 0, .int 0, .int (-1), .int 0, .int 0, .int 0, .long 0, .ref g3, .ref g4, .int 0, .int 0]), (h1, aI Y 3640 (upd (clB 0 (fun _ => 0)) 3624 1))] rfl ?_
      refine V_aload_n 54 B dX12_draft_54 0 rfl ?_
      refine V_get 55 B gf_RX12_9 0 rfl rfl dX12_draft_55 ?_
      refine V_sipush 58 B (v := 3624) dX12_draft_58 (by decide +kernel) ?_
      refine V_aload_n 61 B dX12_draft_61 0 rfl ?_
      refine V_get 62 B gf_RX12_9 0 rfl rfl dX12_draft_62 ?_
      refine V_sipush 65 B (v := 3624) dX12_draft_65 (by decide +kernel) ?_
      refine V_iald 68 B (v := 1) 1 rfl (vpin _ _ (by decide +kernel)) dX12_draft_68 rfl ?_
      refine V_iadd 69 B (v := 3625) dX12_draft_69 (by decide +kernel) ?_
      refine V_iload_n 70 B dX12_draft_70 1 rfl ?_
      refine V_iast 71 B 1 rfl (vpin _ _ (by decide +kernel)) dX12_draft_71 [(h0, oC 13 [.ref h1, .ref g0, .int 0, .ref g1, .ref g2, .int 0, .int 0, .int 0, .int (-1), .int 0, .int 0, .int 0, .long 0, .ref g3, .ref g4, .int 0, .int 0]), (h1, aI Y 3640 (upd (upd (clB 0 (fun _ => 0)) 3624 1) 3625 p0))] rfl ?_
      refine V_aload_n 72 B dX12_draft_72 0 rfl ?_
      refine V_get 73 B gf_RX12_9 0 rfl rfl dX12_draft_73 ?_
      refine V_sipush 76 B (v := 3624) dX12_draft_76 (by decide +kernel) ?_
      refine V_iald 79 B (v := 1) 1 rfl (vpin _ _ (by decide +kernel)) dX12_draft_79 rfl ?_
      exact V_iret 80 B dX12_draft_80 1 (Or.inr (Or.inl ⟨rfl, k4, k5, k6, rfl⟩)) rfl
    ·
      refine V_ws [(h0, oC 13 [.ref h1, .ref g0, .int 0, .ref g1, .ref g2, .int 0, .int 0, .int 0, .int (-1), .int 0, .int 0, .int 0, .long 0, .ref g3, .ref g4, .int 0, .int 0]), (h1, aI Y 3640 (clB 0 (fun _ => 0)))] rfl ?_
      refine V_if_ne_f 10 B 17 dX12_draft_10 (by decide) (by decide +kernel) ?_
      refine V_iconst 13 B (v := 1) dX12_draft_13 (by decide +kernel) ?_
      refine V_goto 14 B 18 dX12_draft_14 (by decide) ?_
      refine V_iconst 18 B (v := 1) dX12_draft_18 (by decide +kernel) ?_
      refine V_cvi 19 B (st := []) (As := [.int 1, .int 1]) (fun sz => mX12_throwsIf_1 l D Y (h0) (h1) (g0) (g1) (g2) (g3) (g4) sz) glV_RX12_69 ⟨rfl, rfl⟩ ⟨(Nat.le_of_ble_eq_true rfl), (Nat.le_of_ble_eq_true rfl)⟩ ⟨(Nat.le_of_ble_eq_true rfl), (Nat.le_of_ble_eq_true rfl)⟩ [0] rfl 13 0 rfl rfl rfl rfl (Nat.le_of_ble_eq_true rfl) rfl (fun _ _ _ => rfl) dX12_draft_19 (fun r11 u11 w11 => ?_)
      obtain rfl := w11
      refine V_ws [(h0, oC 13 [.ref h1, .ref g0, .int 1, .ref g1, .ref g2, .int 0, .int 0, .int 0, .int (-1), .int 0, .int 0, .int 0, .long 0, .ref g3, .ref g4, .int 0, .int 0]), (h1, aI Y 3640 (clB 0 (fun _ => 0)))] rfl ?_
      refine V_if_eq_f 22 B 27 dX12_draft_22 (by decide) (by decide +kernel) ?_
      refine V_iconst 25 B (v := 0) dX12_draft_25 (by decide +kernel) ?_
      exact V_iret 26 B dX12_draft_26 2 (Or.inr (Or.inr (Or.inl ⟨rfl, k7, rfl⟩))) rfl
    ·
      refine V_ws [(h0, oC 13 [.ref h1, .ref g0, .int 0, .ref g1, .ref g2, .int 0, .int 0, .int 0, .int (-1), .int 0, .int 0, .int 0, .long 0, .ref g3, .ref g4, .int 0, .int 0]), (h1, aI Y 3640 (clB 0 (fun _ => 0)))] rfl ?_
      refine V_if_ne_f 10 B 17 dX12_draft_10 (by decide) (by decide +kernel) ?_
      refine V_iconst 13 B (v := 1) dX12_draft_13 (by decide +kernel) ?_
      refine V_goto 14 B 18 dX12_draft_14 (by decide) ?_
      refine V_iconst 18 B (v := 1) dX12_draft_18 (by decide +kernel) ?_
      refine V_cvi 19 B (st := []) (As := [.int 1, .int 1]) (fun sz => mX12_throwsIf_1 l D Y (h0) (h1) (g0) (g1) (g2) (g3) (g4) sz) glV_RX12_69 ⟨rfl, rfl⟩ ⟨(Nat.le_of_ble_eq_true rfl), (Nat.le_of_ble_eq_true rfl)⟩ ⟨(Nat.le_of_ble_eq_true rfl), (Nat.le_of_ble_eq_true rfl)⟩ [0] rfl 13 0 rfl rfl rfl rfl (Nat.le_of_ble_eq_true rfl) rfl (fun _ _ _ => rfl) dX12_draft_19 (fun r12 u12 w12 => ?_)
      obtain rfl := w12
      refine V_ws [(h0, oC 13 [.ref h1, .ref g0, .int 1, .ref g1, .ref g2, .int 0, .int 0, .int 0, .int (-1), .int 0, .int 0, .int 0, .long 0, .ref g3, .ref g4, .int 0, .int 0]), (h1, aI Y 3640 (clB 0 (fun _ => 0)))] rfl ?_
      refine V_if_eq_f 22 B 27 dX12_draft_22 (by decide) (by decide +kernel) ?_
      refine V_iconst 25 B (v := 0) dX12_draft_25 (by decide +kernel) ?_
      exact V_iret 26 B dX12_draft_26 3 (Or.inr (Or.inr (Or.inr ⟨rfl, k8, rfl⟩))) rfl)
theorem dX12_clearDraft_0 : decode cX12_clearDraft 0 = .ok (.aload_n 0, 1) := by decide +kernel
theorem dX12_clearDraft_1 : decode cX12_clearDraft 1 = .ok (.iconst 0, 1) := by decide +kernel
theorem dX12_clearDraft_2 : decode cX12_clearDraft 2 = .ok (.putfield 38, 3) := by decide +kernel
theorem dX12_clearDraft_5 : decode cX12_clearDraft 5 = .ok (.aload_n 0, 1) := by decide +kernel
theorem dX12_clearDraft_6 : decode cX12_clearDraft 6 = .ok (.getfield 9, 3) := by decide +kernel
theorem dX12_clearDraft_9 : decode cX12_clearDraft 9 = .ok (.sipush 3624, 3) := by decide +kernel
theorem dX12_clearDraft_12 : decode cX12_clearDraft 12 = .ok (.iaload, 1) := by decide +kernel
theorem dX12_clearDraft_13 : decode cX12_clearDraft 13 = .ok (.istore_n 1, 1) := by decide +kernel
theorem dX12_clearDraft_14 : decode cX12_clearDraft 14 = .ok (.aload_n 0, 1) := by decide +kernel
theorem dX12_clearDraft_15 : decode cX12_clearDraft 15 = .ok (.getfield 9, 3) := by decide +kernel
theorem dX12_clearDraft_18 : decode cX12_clearDraft 18 = .ok (.sipush 3624, 3) := by decide +kernel
theorem dX12_clearDraft_21 : decode cX12_clearDraft 21 = .ok (.iconst 0, 1) := by decide +kernel
theorem dX12_clearDraft_22 : decode cX12_clearDraft 22 = .ok (.iastore, 1) := by decide +kernel
theorem dX12_clearDraft_23 : decode cX12_clearDraft 23 = .ok (.iload_n 1, 1) := by decide +kernel
theorem dX12_clearDraft_24 : decode cX12_clearDraft 24 = .ok (.ireturn, 1) := by decide +kernel
set_option maxRecDepth 100000 in
set_option maxHeartbeats 4000000 in
theorem mX12_clearDraft_1 (l : Launch) (D : va_G) (Y : Nat → ClassId) (h0 : Nat) (h1 : Nat) (g0 : Nat) (g1 : Nat) (g2 : Nat) (g3 : Nat) (g4 : Nat) (sz : Nat) : Met l yX12_clearDraft (WSm yX12_clearDraft cX12_clearDraft 2 (some .int)) (mkR 0 0 0 0) (PreC D Y [.ref h0] [(h0, oC 13 [.ref h1, .ref g0, .int 0, .ref g1, .ref g2, .int 0, .int 0, .int 0, .int (-1), .int 0, .int 0, .int 0, .long 0, .ref g3, .ref g4, .int 0, .int 0]), (h1, aI Y 3640 (clB 0 (fun _ => 0)))] sz) (QI D (fun (r : Int32) (u : Unit) => 0 = r) (fun (_ : Unit) => [(h0, oC 13 [.ref h1, .ref g0, .int 0, .ref g1, .ref g2, .int 0, .int 0, .int 0, .int (-1), .int 0, .int 0, .int 0, .long 0, .ref g3, .ref g4, .int 0, .int 0]), (h1, aI Y 3640 (upd (clB 0 (fun _ => 0)) 3624 0))]) (va_A [(h0, oC 13 [.ref h1, .ref g0, .int 0, .ref g1, .ref g2, .int 0, .int 0, .int 0, .int (-1), .int 0, .int 0, .int 0, .long 0, .ref g3, .ref g4, .int 0, .int 0]), (h1, aI Y 3640 (clB 0 (fun _ => 0)))] sz)) 0 0 (va_A [(h0, oC 13 [.ref h1, .ref g0, .int 0, .ref g1, .ref g2, .int 0, .int 0, .int 0, .int (-1), .int 0, .int 0, .int 0, .long 0, .ref g3, .ref g4, .int 0, .int 0]), (h1, aI Y 3640 (clB 0 (fun _ => 0)))] sz) :=
  met_of (by decide +kernel) (Nat.le_of_ble_eq_true rfl) (fun p e s m args below meth c B hin hsz => by
    have B : VB p s m args meth c D Y (va_A [(h0, oC 13 [.ref h1, .ref g0, .int 0, .ref g1, .ref g2, .int 0, .int 0, .int 0, .int (-1), .int 0, .int 0, .int 0, .long 0, .ref g3, .ref g4, .int 0, .int 0]), (h1, aI Y 3640 (clB 0 (fun _ => 0)))] sz) cX12_clearDraft 2 RX12 (some .int) := B
    refine V_aload_n 0 B dX12_clearDraft_0 0 rfl ?_
    refine V_iconst 1 B (v := 0) dX12_clearDraft_1 (by decide +kernel) ?_
    refine V_put 2 B gp_RX12_38 0 rfl (Nat.le_of_ble_eq_true rfl) rfl rfl dX12_clearDraft_2 [(h0, oC 13 [.ref h1, .ref g0, .int 0, .ref g1, .ref g2, .int 0, .int 0, .int 0, .int (-1), .int 0, .int 0, .int 0, .long 0, .ref g3, .ref g4, .int 0, .int 0]), (h1, aI Y 3640 (clB 0 (fun _ => 0)))] rfl ?_
    refine V_aload_n 5 B dX12_clearDraft_5 0 rfl ?_
    refine V_get 6 B gf_RX12_9 0 rfl rfl dX12_clearDraft_6 ?_
    refine V_sipush 9 B (v := 3624) dX12_clearDraft_9 (by decide +kernel) ?_
    refine V_iald 12 B (v := 0) 1 rfl (vpin _ _ (by decide +kernel)) dX12_clearDraft_12 rfl ?_
    refine V_istore_n 13 B (lv2 := [(1, .int 0), (0, .ref h0)]) dX12_clearDraft_13 (by decide) rfl ?_
    refine V_aload_n 14 B dX12_clearDraft_14 1 rfl ?_
    refine V_get 15 B gf_RX12_9 0 rfl rfl dX12_clearDraft_15 ?_
    refine V_sipush 18 B (v := 3624) dX12_clearDraft_18 (by decide +kernel) ?_
    refine V_iconst 21 B (v := 0) dX12_clearDraft_21 (by decide +kernel) ?_
    refine V_iast 22 B 1 rfl (vpin _ _ (by decide +kernel)) dX12_clearDraft_22 [(h0, oC 13 [.ref h1, .ref g0, .int 0, .ref g1, .ref g2, .int 0, .int 0, .int 0, .int (-1), .int 0, .int 0, .int 0, .long 0, .ref g3, .ref g4, .int 0, .int 0]), (h1, aI Y 3640 (upd (clB 0 (fun _ => 0)) 3624 0))] rfl ?_
    refine V_iload_n 23 B dX12_clearDraft_23 0 rfl ?_
    exact V_iret 24 B dX12_clearDraft_24 () rfl rfl)
theorem dX12_strokeAt_0 : decode cX12_strokeAt 0 = .ok (.iload_n 2, 1) := by decide +kernel
theorem dX12_strokeAt_1 : decode cX12_strokeAt 1 = .ok (.i2l, 1) := by decide +kernel
theorem dX12_strokeAt_2 : decode cX12_strokeAt 2 = .ok (.lconst 0, 1) := by decide +kernel
theorem dX12_strokeAt_3 : decode cX12_strokeAt 3 = .ok (.aload_n 0, 1) := by decide +kernel
theorem dX12_strokeAt_4 : decode cX12_strokeAt 4 = .ok (.getfield 9, 3) := by decide +kernel
theorem dX12_strokeAt_7 : decode cX12_strokeAt 7 = .ok (.iload_n 1, 1) := by decide +kernel
theorem dX12_strokeAt_8 : decode cX12_strokeAt 8 = .ok (.iaload, 1) := by decide +kernel
theorem dX12_strokeAt_9 : decode cX12_strokeAt 9 = .ok (.iconst 1, 1) := by decide +kernel
theorem dX12_strokeAt_10 : decode cX12_strokeAt 10 = .ok (.isub, 1) := by decide +kernel
theorem dX12_strokeAt_11 : decode cX12_strokeAt 11 = .ok (.i2l, 1) := by decide +kernel
theorem dX12_strokeAt_12 : decode cX12_strokeAt 12 = .ok (.invokestatic 41, 3) := by decide +kernel
theorem dX12_strokeAt_15 : decode cX12_strokeAt 15 = .ok (.ifCond .eq 16, 3) := by decide +kernel
theorem dX12_strokeAt_31 : decode cX12_strokeAt 31 = .ok (.iconst (-1), 1) := by decide +kernel
theorem dX12_strokeAt_32 : decode cX12_strokeAt 32 = .ok (.ireturn, 1) := by decide +kernel
set_option maxRecDepth 100000 in
set_option maxHeartbeats 4000000 in
theorem mX12_strokeAt_1 (l : Launch) (D : va_G) (Y : Nat → ClassId) (h0 : Nat) (h1 : Nat) (g0 : Nat) (g1 : Nat) (g2 : Nat) (g3 : Nat) (g4 : Nat) (p0 : Int32) (sz : Nat) : Met l yX12_strokeAt (WSm yX12_strokeAt cX12_strokeAt 3 (some .int)) (mkR 1 0 0 25) (PreC D Y [.ref h0, .int 3624, .int p0] [(h0, oC 13 [.ref h1, .ref g0, .int 0, .ref g1, .ref g2, .int 0, .int 0, .int 0, .int (-1), .int 0, .int 0, .int 0, .long 0, .ref g3, .ref g4, .int 0, .int 0]), (h1, aI Y 3640 (clB 0 (fun _ => 0)))] sz) (QI D (fun (r : Int32) (u : Unit) => (p0 < 0 ∧ (-1) = r) ∨ ((-1) < p0 ∧ (-1) = r)) (fun (_ : Unit) => [(h0, oC 13 [.ref h1, .ref g0, .int 0, .ref g1, .ref g2, .int 0, .int 0, .int 0, .int (-1), .int 0, .int 0, .int 0, .long 0, .ref g3, .ref g4, .int 0, .int 0]), (h1, aI Y 3640 (clB 0 (fun _ => 0)))]) (va_A [(h0, oC 13 [.ref h1, .ref g0, .int 0, .ref g1, .ref g2, .int 0, .int 0, .int 0, .int (-1), .int 0, .int 0, .int 0, .long 0, .ref g3, .ref g4, .int 0, .int 0]), (h1, aI Y 3640 (clB 0 (fun _ => 0)))] sz)) 0 0 (va_A [(h0, oC 13 [.ref h1, .ref g0, .int 0, .ref g1, .ref g2, .int 0, .int 0, .int 0, .int (-1), .int 0, .int 0, .int 0, .long 0, .ref g3, .ref g4, .int 0, .int 0]), (h1, aI Y 3640 (clB 0 (fun _ => 0)))] sz) :=
  met_of (by decide +kernel) (Nat.le_of_ble_eq_true rfl) (fun p e s m args below meth c B hin hsz => by
    have B : VB p s m args meth c D Y (va_A [(h0, oC 13 [.ref h1, .ref g0, .int 0, .ref g1, .ref g2, .int 0, .int 0, .int 0, .int (-1), .int 0, .int 0, .int 0, .long 0, .ref g3, .ref g4, .int 0, .int 0]), (h1, aI Y 3640 (clB 0 (fun _ => 0)))] sz) cX12_strokeAt 3 RX12 (some .int) := B
    refine V_iload_n 0 B dX12_strokeAt_0 2 rfl ?_
    refine V_i2l 1 B dX12_strokeAt_1 rfl ?_
    refine V_lconst 2 B (v := 0) dX12_strokeAt_2 (by decide +kernel) ?_
    refine V_aload_n 3 B dX12_strokeAt_3 0 rfl ?_
    refine V_get 4 B gf_RX12_9 0 rfl rfl dX12_strokeAt_4 ?_
    refine V_iload_n 7 B dX12_strokeAt_7 1 rfl ?_
    refine V_iald 8 B (v := 0) 1 rfl (vpin _ _ (by decide +kernel)) dX12_strokeAt_8 rfl ?_
    refine V_iconst 9 B (v := 1) dX12_strokeAt_9 (by decide +kernel) ?_
    refine V_isub 10 B (v := (-1)) dX12_strokeAt_10 (by decide +kernel) ?_
    refine V_i2l 11 B (v := (-1)) dX12_strokeAt_11 (by decide +kernel) ?_
    refine V_csi 12 B (st := []) (As := [.long p0.toInt64, .long 0, .long (-1)]) (fun sz => mX12_inRange_m l D Y (p0) (0) ((-1)) (0) ((-1)) (by decide +kernel) (by decide +kernel) sz) glS_RX12_41 ⟨rfl, rfl⟩ ⟨(Nat.le_of_ble_eq_true rfl), (Nat.le_of_ble_eq_true rfl)⟩ ⟨(Nat.le_of_ble_eq_true rfl), (Nat.le_of_ble_eq_true rfl)⟩ [] rfl rfl (Nat.le_of_ble_eq_true rfl) rfl (fun _ _ _ => rfl) dX12_strokeAt_12 (fun r0 u0 w0 => ?_)
    rcases w0 with ⟨k1, k2, rfl⟩ | ⟨k3, rfl⟩ | ⟨k4, rfl⟩
    ·
      refine V_ws [(h0, oC 13 [.ref h1, .ref g0, .int 0, .ref g1, .ref g2, .int 0, .int 0, .int 0, .int (-1), .int 0, .int 0, .int 0, .long 0, .ref g3, .ref g4, .int 0, .int 0]), (h1, aI Y 3640 (clB 0 (fun _ => 0)))] rfl ?_
      exact (q_abs (b_nlt k1 (n := 0) (by decide +kernel)) (b_ngt k2 (n := (-1)) (by decide +kernel)) (by decide +kernel)).elim
    ·
      refine V_ws [(h0, oC 13 [.ref h1, .ref g0, .int 0, .ref g1, .ref g2, .int 0, .int 0, .int 0, .int (-1), .int 0, .int 0, .int 0, .long 0, .ref g3, .ref g4, .int 0, .int 0]), (h1, aI Y 3640 (clB 0 (fun _ => 0)))] rfl ?_
      refine V_if_eq_t 15 B 31 dX12_strokeAt_15 (by decide) (by decide +kernel) ?_
      refine V_iconst 31 B (v := (-1)) dX12_strokeAt_31 (by decide +kernel) ?_
      exact V_iret 32 B dX12_strokeAt_32 () (Or.inl ⟨k3, rfl⟩) rfl
    ·
      refine V_ws [(h0, oC 13 [.ref h1, .ref g0, .int 0, .ref g1, .ref g2, .int 0, .int 0, .int 0, .int (-1), .int 0, .int 0, .int 0, .long 0, .ref g3, .ref g4, .int 0, .int 0]), (h1, aI Y 3640 (clB 0 (fun _ => 0)))] rfl ?_
      refine V_if_eq_t 15 B 31 dX12_strokeAt_15 (by decide) (by decide +kernel) ?_
      refine V_iconst 31 B (v := (-1)) dX12_strokeAt_31 (by decide +kernel) ?_
      exact V_iret 32 B dX12_strokeAt_32 () (Or.inr ⟨k4, rfl⟩) rfl)
theorem dX12_draftStroke_0 : decode cX12_draftStroke 0 = .ok (.aload_n 0, 1) := by decide +kernel
theorem dX12_draftStroke_1 : decode cX12_draftStroke 1 = .ok (.iconst 0, 1) := by decide +kernel
theorem dX12_draftStroke_2 : decode cX12_draftStroke 2 = .ok (.putfield 38, 3) := by decide +kernel
theorem dX12_draftStroke_5 : decode cX12_draftStroke 5 = .ok (.aload_n 0, 1) := by decide +kernel
theorem dX12_draftStroke_6 : decode cX12_draftStroke 6 = .ok (.sipush 3624, 3) := by decide +kernel
theorem dX12_draftStroke_9 : decode cX12_draftStroke 9 = .ok (.iload_n 1, 1) := by decide +kernel
theorem dX12_draftStroke_10 : decode cX12_draftStroke 10 = .ok (.invokevirtual 73, 3) := by decide +kernel
theorem glV_RX12_73 : GLV RX12 73 yX12_strokeAt RX12 cX12_strokeAt 3 (some .int) 2 := ⟨⟨(mT7 229 rfl rfl), (mT7 231 rfl rfl), (mTs 30 rfl rfl), (mT1 13 rfl rfl), (mT7 232 rfl rfl)⟩, by decide +kernel⟩
theorem dX12_draftStroke_13 : decode cX12_draftStroke 13 = .ok (.ireturn, 1) := by decide +kernel
set_option maxRecDepth 100000 in
set_option maxHeartbeats 4000000 in
theorem mX12_draftStroke_1 (l : Launch) (D : va_G) (Y : Nat → ClassId) (h0 : Nat) (h1 : Nat) (g0 : Nat) (g1 : Nat) (g2 : Nat) (g3 : Nat) (g4 : Nat) (p0 : Int32) (sz : Nat) : Met l yX12_draftStroke (WSm yX12_draftStroke cX12_draftStroke 2 (some .int)) (mkR 2 0 0 47) (PreC D Y [.ref h0, .int p0] [(h0, oC 13 [.ref h1, .ref g0, .int 0, .ref g1, .ref g2, .int 0, .int 0, .int 0, .int (-1), .int 0, .int 0, .int 0, .long 0, .ref g3, .ref g4, .int 0, .int 0]), (h1, aI Y 3640 (clB 0 (fun _ => 0)))] sz) (QI D (fun (r : Int32) (u : Unit) => (p0 < 0 ∧ (-1) = r) ∨ ((-1) < p0 ∧ (-1) = r)) (fun (_ : Unit) => [(h0, oC 13 [.ref h1, .ref g0, .int 0, .ref g1, .ref g2, .int 0, .int 0, .int 0, .int (-1), .int 0, .int 0, .int 0, .long 0, .ref g3, .ref g4, .int 0, .int 0]), (h1, aI Y 3640 (clB 0 (fun _ => 0)))]) (va_A [(h0, oC 13 [.ref h1, .ref g0, .int 0, .ref g1, .ref g2, .int 0, .int 0, .int 0, .int (-1), .int 0, .int 0, .int 0, .long 0, .ref g3, .ref g4, .int 0, .int 0]), (h1, aI Y 3640 (clB 0 (fun _ => 0)))] sz)) 0 0 (va_A [(h0, oC 13 [.ref h1, .ref g0, .int 0, .ref g1, .ref g2, .int 0, .int 0, .int 0, .int (-1), .int 0, .int 0, .int 0, .long 0, .ref g3, .ref g4, .int 0, .int 0]), (h1, aI Y 3640 (clB 0 (fun _ => 0)))] sz) :=
  met_of (by decide +kernel) (Nat.le_of_ble_eq_true rfl) (fun p e s m args below meth c B hin hsz => by
    have B : VB p s m args meth c D Y (va_A [(h0, oC 13 [.ref h1, .ref g0, .int 0, .ref g1, .ref g2, .int 0, .int 0, .int 0, .int (-1), .int 0, .int 0, .int 0, .long 0, .ref g3, .ref g4, .int 0, .int 0]), (h1, aI Y 3640 (clB 0 (fun _ => 0)))] sz) cX12_draftStroke 2 RX12 (some .int) := B
    refine V_aload_n 0 B dX12_draftStroke_0 0 rfl ?_
    refine V_iconst 1 B (v := 0) dX12_draftStroke_1 (by decide +kernel) ?_
    refine V_put 2 B gp_RX12_38 0 rfl (Nat.le_of_ble_eq_true rfl) rfl rfl dX12_draftStroke_2 [(h0, oC 13 [.ref h1, .ref g0, .int 0, .ref g1, .ref g2, .int 0, .int 0, .int 0, .int (-1), .int 0, .int 0, .int 0, .long 0, .ref g3, .ref g4, .int 0, .int 0]), (h1, aI Y 3640 (clB 0 (fun _ => 0)))] rfl ?_
    refine V_aload_n 5 B dX12_draftStroke_5 0 rfl ?_
    refine V_sipush 6 B (v := 3624) dX12_draftStroke_6 (by decide +kernel) ?_
    refine V_iload_n 9 B dX12_draftStroke_9 1 rfl ?_
    refine V_cvi 10 B (st := []) (As := [.int 3624, .int p0]) (fun sz => mX12_strokeAt_1 l D Y (h0) (h1) (g0) (g1) (g2) (g3) (g4) (p0) sz) glV_RX12_73 ⟨rfl, rfl⟩ ⟨(Nat.le_of_ble_eq_true rfl), (Nat.le_of_ble_eq_true rfl)⟩ ⟨(Nat.le_of_ble_eq_true rfl), (Nat.le_of_ble_eq_true rfl)⟩ [0, 0] rfl 13 0 rfl rfl rfl rfl (Nat.le_of_ble_eq_true rfl) rfl (fun _ _ _ => rfl) dX12_draftStroke_10 (fun r0 u0 w0 => ?_)
    rcases w0 with ⟨k1, rfl⟩ | ⟨k2, rfl⟩
    ·
      refine V_ws [(h0, oC 13 [.ref h1, .ref g0, .int 0, .ref g1, .ref g2, .int 0, .int 0, .int 0, .int (-1), .int 0, .int 0, .int 0, .long 0, .ref g3, .ref g4, .int 0, .int 0]), (h1, aI Y 3640 (clB 0 (fun _ => 0)))] rfl ?_
      exact V_iret 13 B dX12_draftStroke_13 () (Or.inl ⟨k1, rfl⟩) rfl
    ·
      refine V_ws [(h0, oC 13 [.ref h1, .ref g0, .int 0, .ref g1, .ref g2, .int 0, .int 0, .int 0, .int (-1), .int 0, .int 0, .int 0, .long 0, .ref g3, .ref g4, .int 0, .int 0]), (h1, aI Y 3640 (clB 0 (fun _ => 0)))] rfl ?_
      exact V_iret 13 B dX12_draftStroke_13 () (Or.inr ⟨k2, rfl⟩) rfl)
theorem dX12_costOf_0 : decode cX12_costOf 0 = .ok (.iconst 0, 1) := by decide +kernel
theorem dX12_costOf_1 : decode cX12_costOf 1 = .ok (.istore_n 2, 1) := by decide +kernel
theorem dX12_costOf_2 : decode cX12_costOf 2 = .ok (.iconst 1, 1) := by decide +kernel
theorem dX12_costOf_3 : decode cX12_costOf 3 = .ok (.istore_n 3, 1) := by decide +kernel
theorem dX12_costOf_4 : decode cX12_costOf 4 = .ok (.iload_n 3, 1) := by decide +kernel
theorem dX12_costOf_5 : decode cX12_costOf 5 = .ok (.aload_n 0, 1) := by decide +kernel
theorem dX12_costOf_6 : decode cX12_costOf 6 = .ok (.getfield 9, 3) := by decide +kernel
theorem dX12_costOf_9 : decode cX12_costOf 9 = .ok (.iload_n 1, 1) := by decide +kernel
theorem dX12_costOf_10 : decode cX12_costOf 10 = .ok (.iaload, 1) := by decide +kernel
theorem dX12_costOf_11 : decode cX12_costOf 11 = .ok (.if_icmp .gt 23, 3) := by decide +kernel
theorem dX12_costOf_34 : decode cX12_costOf 34 = .ok (.iload_n 2, 1) := by decide +kernel
theorem dX12_costOf_35 : decode cX12_costOf 35 = .ok (.ireturn, 1) := by decide +kernel
set_option maxRecDepth 100000 in
set_option maxHeartbeats 4000000 in
theorem mX12_costOf_1 (l : Launch) (D : va_G) (Y : Nat → ClassId) (h0 : Nat) (h1 : Nat) (g0 : Nat) (g1 : Nat) (g2 : Nat) (g3 : Nat) (g4 : Nat) (sz : Nat) : Met l yX12_costOf (WSm yX12_costOf cX12_costOf 4 (some .int)) (mkR 0 0 0 0) (PreC D Y [.ref h0, .int 3624] [(h0, oC 13 [.ref h1, .ref g0, .int 0, .ref g1, .ref g2, .int 0, .int 0, .int 0, .int (-1), .int 0, .int 0, .int 0, .long 0, .ref g3, .ref g4, .int 0, .int 0]), (h1, aI Y 3640 (clB 0 (fun _ => 0)))] sz) (QI D (fun (r : Int32) (u : Unit) => 0 = r) (fun (_ : Unit) => [(h0, oC 13 [.ref h1, .ref g0, .int 0, .ref g1, .ref g2, .int 0, .int 0, .int 0, .int (-1), .int 0, .int 0, .int 0, .long 0, .ref g3, .ref g4, .int 0, .int 0]), (h1, aI Y 3640 (clB 0 (fun _ => 0)))]) (va_A [(h0, oC 13 [.ref h1, .ref g0, .int 0, .ref g1, .ref g2, .int 0, .int 0, .int 0, .int (-1), .int 0, .int 0, .int 0, .long 0, .ref g3, .ref g4, .int 0, .int 0]), (h1, aI Y 3640 (clB 0 (fun _ => 0)))] sz)) 0 0 (va_A [(h0, oC 13 [.ref h1, .ref g0, .int 0, .ref g1, .ref g2, .int 0, .int 0, .int 0, .int (-1), .int 0, .int 0, .int 0, .long 0, .ref g3, .ref g4, .int 0, .int 0]), (h1, aI Y 3640 (clB 0 (fun _ => 0)))] sz) :=
  met_of (by decide +kernel) (Nat.le_of_ble_eq_true rfl) (fun p e s m args below meth c B hin hsz => by
    have B : VB p s m args meth c D Y (va_A [(h0, oC 13 [.ref h1, .ref g0, .int 0, .ref g1, .ref g2, .int 0, .int 0, .int 0, .int (-1), .int 0, .int 0, .int 0, .long 0, .ref g3, .ref g4, .int 0, .int 0]), (h1, aI Y 3640 (clB 0 (fun _ => 0)))] sz) cX12_costOf 4 RX12 (some .int) := B
    refine V_iconst 0 B (v := 0) dX12_costOf_0 (by decide +kernel) ?_
    refine V_istore_n 1 B (lv2 := [(2, .int 0), (0, .ref h0), (1, .int 3624)]) dX12_costOf_1 (by decide) rfl ?_
    refine V_iconst 2 B (v := 1) dX12_costOf_2 (by decide +kernel) ?_
    refine V_istore_n 3 B (lv2 := [(3, .int 1), (2, .int 0), (0, .ref h0), (1, .int 3624)]) dX12_costOf_3 (by decide) rfl ?_
    refine V_iload_n 4 B dX12_costOf_4 0 rfl ?_
    refine V_aload_n 5 B dX12_costOf_5 2 rfl ?_
    refine V_get 6 B gf_RX12_9 0 rfl rfl dX12_costOf_6 ?_
    refine V_iload_n 9 B dX12_costOf_9 3 rfl ?_
    refine V_iald 10 B (v := 0) 1 rfl (vpin _ _ (by decide +kernel)) dX12_costOf_10 rfl ?_
    refine V_icmp_gt_t 11 B 34 dX12_costOf_11 (by decide) (by decide +kernel) ?_
    refine V_iload_n 34 B dX12_costOf_34 1 rfl ?_
    exact V_iret 35 B dX12_costOf_35 () rfl rfl)
theorem dX12_draftCost_0 : decode cX12_draftCost 0 = .ok (.aload_n 0, 1) := by decide +kernel
theorem dX12_draftCost_1 : decode cX12_draftCost 1 = .ok (.iconst 0, 1) := by decide +kernel
theorem dX12_draftCost_2 : decode cX12_draftCost 2 = .ok (.putfield 38, 3) := by decide +kernel
theorem dX12_draftCost_5 : decode cX12_draftCost 5 = .ok (.aload_n 0, 1) := by decide +kernel
theorem dX12_draftCost_6 : decode cX12_draftCost 6 = .ok (.sipush 3624, 3) := by decide +kernel
theorem dX12_draftCost_9 : decode cX12_draftCost 9 = .ok (.invokevirtual 76, 3) := by decide +kernel
theorem glV_RX12_76 : GLV RX12 76 yX12_costOf RX12 cX12_costOf 4 (some .int) 1 := ⟨⟨(mT7 237 rfl rfl), (mT7 239 rfl rfl), (mTs 31 rfl rfl), (mT1 13 rfl rfl), (mT8 0 rfl rfl)⟩, by decide +kernel⟩
theorem dX12_draftCost_12 : decode cX12_draftCost 12 = .ok (.ireturn, 1) := by decide +kernel
set_option maxRecDepth 100000 in
set_option maxHeartbeats 4000000 in
theorem mX12_draftCost_1 (l : Launch) (D : va_G) (Y : Nat → ClassId) (h0 : Nat) (h1 : Nat) (g0 : Nat) (g1 : Nat) (g2 : Nat) (g3 : Nat) (g4 : Nat) (sz : Nat) : Met l yX12_draftCost (WSm yX12_draftCost cX12_draftCost 1 (some .int)) (mkR 1 0 0 23) (PreC D Y [.ref h0] [(h0, oC 13 [.ref h1, .ref g0, .int 0, .ref g1, .ref g2, .int 0, .int 0, .int 0, .int (-1), .int 0, .int 0, .int 0, .long 0, .ref g3, .ref g4, .int 0, .int 0]), (h1, aI Y 3640 (clB 0 (fun _ => 0)))] sz) (QI D (fun (r : Int32) (u : Unit) => 0 = r) (fun (_ : Unit) => [(h0, oC 13 [.ref h1, .ref g0, .int 0, .ref g1, .ref g2, .int 0, .int 0, .int 0, .int (-1), .int 0, .int 0, .int 0, .long 0, .ref g3, .ref g4, .int 0, .int 0]), (h1, aI Y 3640 (clB 0 (fun _ => 0)))]) (va_A [(h0, oC 13 [.ref h1, .ref g0, .int 0, .ref g1, .ref g2, .int 0, .int 0, .int 0, .int (-1), .int 0, .int 0, .int 0, .long 0, .ref g3, .ref g4, .int 0, .int 0]), (h1, aI Y 3640 (clB 0 (fun _ => 0)))] sz)) 0 0 (va_A [(h0, oC 13 [.ref h1, .ref g0, .int 0, .ref g1, .ref g2, .int 0, .int 0, .int 0, .int (-1), .int 0, .int 0, .int 0, .long 0, .ref g3, .ref g4, .int 0, .int 0]), (h1, aI Y 3640 (clB 0 (fun _ => 0)))] sz) :=
  met_of (by decide +kernel) (Nat.le_of_ble_eq_true rfl) (fun p e s m args below meth c B hin hsz => by
    have B : VB p s m args meth c D Y (va_A [(h0, oC 13 [.ref h1, .ref g0, .int 0, .ref g1, .ref g2, .int 0, .int 0, .int 0, .int (-1), .int 0, .int 0, .int 0, .long 0, .ref g3, .ref g4, .int 0, .int 0]), (h1, aI Y 3640 (clB 0 (fun _ => 0)))] sz) cX12_draftCost 1 RX12 (some .int) := B
    refine V_aload_n 0 B dX12_draftCost_0 0 rfl ?_
    refine V_iconst 1 B (v := 0) dX12_draftCost_1 (by decide +kernel) ?_
    refine V_put 2 B gp_RX12_38 0 rfl (Nat.le_of_ble_eq_true rfl) rfl rfl dX12_draftCost_2 [(h0, oC 13 [.ref h1, .ref g0, .int 0, .ref g1, .ref g2, .int 0, .int 0, .int 0, .int (-1), .int 0, .int 0, .int 0, .long 0, .ref g3, .ref g4, .int 0, .int 0]), (h1, aI Y 3640 (clB 0 (fun _ => 0)))] rfl ?_
    refine V_aload_n 5 B dX12_draftCost_5 0 rfl ?_
    refine V_sipush 6 B (v := 3624) dX12_draftCost_6 (by decide +kernel) ?_
    refine V_cvi 9 B (st := []) (As := [.int 3624]) (fun sz => mX12_costOf_1 l D Y (h0) (h1) (g0) (g1) (g2) (g3) (g4) sz) glV_RX12_76 ⟨rfl, rfl⟩ ⟨(Nat.le_of_ble_eq_true rfl), (Nat.le_of_ble_eq_true rfl)⟩ ⟨(Nat.le_of_ble_eq_true rfl), (Nat.le_of_ble_eq_true rfl)⟩ [0, 0] rfl 13 0 rfl rfl rfl rfl (Nat.le_of_ble_eq_true rfl) rfl (fun _ _ _ => rfl) dX12_draftCost_9 (fun r0 u0 w0 => ?_)
    obtain rfl := w0
    refine V_ws [(h0, oC 13 [.ref h1, .ref g0, .int 0, .ref g1, .ref g2, .int 0, .int 0, .int 0, .int (-1), .int 0, .int 0, .int 0, .long 0, .ref g3, .ref g4, .int 0, .int 0]), (h1, aI Y 3640 (clB 0 (fun _ => 0)))] rfl ?_
    exact V_iret 12 B dX12_draftCost_12 () rfl rfl)
theorem dX12_isBinding_0 : decode cX12_isBinding 0 = .ok (.iload_n 1, 1) := by decide +kernel
theorem dX12_isBinding_1 : decode cX12_isBinding 1 = .ok (.i2l, 1) := by decide +kernel
theorem dX12_isBinding_2 : decode cX12_isBinding 2 = .ok (.lconst 0, 1) := by decide +kernel
theorem dX12_isBinding_3 : decode cX12_isBinding 3 = .ok (.aload_n 0, 1) := by decide +kernel
theorem dX12_isBinding_4 : decode cX12_isBinding 4 = .ok (.getfield 9, 3) := by decide +kernel
theorem dX12_isBinding_7 : decode cX12_isBinding 7 = .ok (.iconst 3, 1) := by decide +kernel
theorem dX12_isBinding_8 : decode cX12_isBinding 8 = .ok (.iaload, 1) := by decide +kernel
theorem dX12_isBinding_9 : decode cX12_isBinding 9 = .ok (.iconst 1, 1) := by decide +kernel
theorem dX12_isBinding_10 : decode cX12_isBinding 10 = .ok (.isub, 1) := by decide +kernel
theorem dX12_isBinding_11 : decode cX12_isBinding 11 = .ok (.i2l, 1) := by decide +kernel
theorem dX12_isBinding_12 : decode cX12_isBinding 12 = .ok (.invokestatic 41, 3) := by decide +kernel
theorem dX12_isBinding_15 : decode cX12_isBinding 15 = .ok (.ireturn, 1) := by decide +kernel
set_option maxRecDepth 100000 in
set_option maxHeartbeats 4000000 in
theorem mX12_isBinding_1 (l : Launch) (D : va_G) (Y : Nat → ClassId) (h0 : Nat) (h1 : Nat) (g0 : Nat) (g1 : Nat) (g2 : Nat) (g3 : Nat) (g4 : Nat) (p0 : Int32) (sz : Nat) : Met l yX12_isBinding (WSm yX12_isBinding cX12_isBinding 2 (some .boolean)) (mkR 1 0 0 25) (PreC D Y [.ref h0, .int p0] [(h0, oC 13 [.ref h1, .ref g0, .int 0, .ref g1, .ref g2, .int 0, .int 0, .int 0, .int (-1), .int 0, .int 0, .int 0, .long 0, .ref g3, .ref g4, .int 0, .int 0]), (h1, aI Y 3640 (clB 0 (fun _ => 0)))] sz) (QI D (fun (r : Int32) (u : Unit) => (p0 < 0 ∧ 0 = r) ∨ ((-1) < p0 ∧ 0 = r)) (fun (_ : Unit) => [(h0, oC 13 [.ref h1, .ref g0, .int 0, .ref g1, .ref g2, .int 0, .int 0, .int 0, .int (-1), .int 0, .int 0, .int 0, .long 0, .ref g3, .ref g4, .int 0, .int 0]), (h1, aI Y 3640 (clB 0 (fun _ => 0)))]) (va_A [(h0, oC 13 [.ref h1, .ref g0, .int 0, .ref g1, .ref g2, .int 0, .int 0, .int 0, .int (-1), .int 0, .int 0, .int 0, .long 0, .ref g3, .ref g4, .int 0, .int 0]), (h1, aI Y 3640 (clB 0 (fun _ => 0)))] sz)) 0 0 (va_A [(h0, oC 13 [.ref h1, .ref g0, .int 0, .ref g1, .ref g2, .int 0, .int 0, .int 0, .int (-1), .int 0, .int 0, .int 0, .long 0, .ref g3, .ref g4, .int 0, .int 0]), (h1, aI Y 3640 (clB 0 (fun _ => 0)))] sz) :=
  met_of (by decide +kernel) (Nat.le_of_ble_eq_true rfl) (fun p e s m args below meth c B hin hsz => by
    have B : VB p s m args meth c D Y (va_A [(h0, oC 13 [.ref h1, .ref g0, .int 0, .ref g1, .ref g2, .int 0, .int 0, .int 0, .int (-1), .int 0, .int 0, .int 0, .long 0, .ref g3, .ref g4, .int 0, .int 0]), (h1, aI Y 3640 (clB 0 (fun _ => 0)))] sz) cX12_isBinding 2 RX12 (some .boolean) := B
    refine V_iload_n 0 B dX12_isBinding_0 1 rfl ?_
    refine V_i2l 1 B dX12_isBinding_1 rfl ?_
    refine V_lconst 2 B (v := 0) dX12_isBinding_2 (by decide +kernel) ?_
    refine V_aload_n 3 B dX12_isBinding_3 0 rfl ?_
    refine V_get 4 B gf_RX12_9 0 rfl rfl dX12_isBinding_4 ?_
    refine V_iconst 7 B (v := 3) dX12_isBinding_7 (by decide +kernel) ?_
    refine V_iald 8 B (v := 0) 1 rfl (vpin _ _ (by decide +kernel)) dX12_isBinding_8 rfl ?_
    refine V_iconst 9 B (v := 1) dX12_isBinding_9 (by decide +kernel) ?_
    refine V_isub 10 B (v := (-1)) dX12_isBinding_10 (by decide +kernel) ?_
    refine V_i2l 11 B (v := (-1)) dX12_isBinding_11 (by decide +kernel) ?_
    refine V_csi 12 B (st := []) (As := [.long p0.toInt64, .long 0, .long (-1)]) (fun sz => mX12_inRange_m l D Y (p0) (0) ((-1)) (0) ((-1)) (by decide +kernel) (by decide +kernel) sz) glS_RX12_41 ⟨rfl, rfl⟩ ⟨(Nat.le_of_ble_eq_true rfl), (Nat.le_of_ble_eq_true rfl)⟩ ⟨(Nat.le_of_ble_eq_true rfl), (Nat.le_of_ble_eq_true rfl)⟩ [] rfl rfl (Nat.le_of_ble_eq_true rfl) rfl (fun _ _ _ => rfl) dX12_isBinding_12 (fun r0 u0 w0 => ?_)
    rcases w0 with ⟨k1, k2, rfl⟩ | ⟨k3, rfl⟩ | ⟨k4, rfl⟩
    ·
      refine V_ws [(h0, oC 13 [.ref h1, .ref g0, .int 0, .ref g1, .ref g2, .int 0, .int 0, .int 0, .int (-1), .int 0, .int 0, .int 0, .long 0, .ref g3, .ref g4, .int 0, .int 0]), (h1, aI Y 3640 (clB 0 (fun _ => 0)))] rfl ?_
      exact (q_abs (b_nlt k1 (n := 0) (by decide +kernel)) (b_ngt k2 (n := (-1)) (by decide +kernel)) (by decide +kernel)).elim
    ·
      refine V_ws [(h0, oC 13 [.ref h1, .ref g0, .int 0, .ref g1, .ref g2, .int 0, .int 0, .int 0, .int (-1), .int 0, .int 0, .int 0, .long 0, .ref g3, .ref g4, .int 0, .int 0]), (h1, aI Y 3640 (clB 0 (fun _ => 0)))] rfl ?_
      exact V_zret 15 B rfl dX12_isBinding_15 () (Or.inl ⟨k3, rfl⟩) rfl
    ·
      refine V_ws [(h0, oC 13 [.ref h1, .ref g0, .int 0, .ref g1, .ref g2, .int 0, .int 0, .int 0, .int (-1), .int 0, .int 0, .int 0, .long 0, .ref g3, .ref g4, .int 0, .int 0]), (h1, aI Y 3640 (clB 0 (fun _ => 0)))] rfl ?_
      exact V_zret 15 B rfl dX12_isBinding_15 () (Or.inr ⟨k4, rfl⟩) rfl)
theorem dX12_draftFrom_0 : decode cX12_draftFrom 0 = .ok (.aload_n 0, 1) := by decide +kernel
theorem dX12_draftFrom_1 : decode cX12_draftFrom 1 = .ok (.iconst 0, 1) := by decide +kernel
theorem dX12_draftFrom_2 : decode cX12_draftFrom 2 = .ok (.putfield 38, 3) := by decide +kernel
theorem dX12_draftFrom_5 : decode cX12_draftFrom 5 = .ok (.aload_n 0, 1) := by decide +kernel
theorem dX12_draftFrom_6 : decode cX12_draftFrom 6 = .ok (.aload_n 0, 1) := by decide +kernel
theorem dX12_draftFrom_7 : decode cX12_draftFrom 7 = .ok (.iload_n 1, 1) := by decide +kernel
theorem dX12_draftFrom_8 : decode cX12_draftFrom 8 = .ok (.invokevirtual 82, 3) := by decide +kernel
theorem glV_RX12_82 : GLV RX12 82 yX12_isBinding RX12 cX12_isBinding 2 (some .boolean) 1 := ⟨⟨(mT8 11 rfl rfl), (mT8 13 rfl rfl), (mTs 32 rfl rfl), (mT1 13 rfl rfl), (mT8 14 rfl rfl)⟩, by decide +kernel⟩
theorem dX12_draftFrom_11 : decode cX12_draftFrom 11 = .ok (.ifCond .ne 7, 3) := by decide +kernel
theorem dX12_draftFrom_14 : decode cX12_draftFrom 14 = .ok (.iconst 1, 1) := by decide +kernel
theorem dX12_draftFrom_15 : decode cX12_draftFrom 15 = .ok (.goto 4, 3) := by decide +kernel
theorem dX12_draftFrom_19 : decode cX12_draftFrom 19 = .ok (.iconst 1, 1) := by decide +kernel
theorem dX12_draftFrom_20 : decode cX12_draftFrom 20 = .ok (.invokevirtual 69, 3) := by decide +kernel
theorem dX12_draftFrom_23 : decode cX12_draftFrom 23 = .ok (.ifCond .eq 5, 3) := by decide +kernel
theorem dX12_draftFrom_26 : decode cX12_draftFrom 26 = .ok (.iconst 0, 1) := by decide +kernel
theorem dX12_draftFrom_27 : decode cX12_draftFrom 27 = .ok (.ireturn, 1) := by decide +kernel
set_option maxRecDepth 100000 in
set_option maxHeartbeats 4000000 in
theorem mX12_draftFrom_1 (l : Launch) (D : va_G) (Y : Nat → ClassId) (h0 : Nat) (h1 : Nat) (g0 : Nat) (g1 : Nat) (g2 : Nat) (g3 : Nat) (g4 : Nat) (p0 : Int32) (sz : Nat) : Met l yX12_draftFrom (WSm yX12_draftFrom cX12_draftFrom 2 (some .int)) (mkR 2 0 0 46) (PreC D Y [.ref h0, .int p0] [(h0, oC 13 [.ref h1, .ref g0, .int 0, .ref g1, .ref g2, .int 0, .int 0, .int 0, .int (-1), .int 0, .int 0, .int 0, .long 0, .ref g3, .ref g4, .int 0, .int 0]), (h1, aI Y 3640 (clB 0 (fun _ => 0)))] sz) (QI D (fun (r : Int32) (u : Unit) => (p0 < 0 ∧ 0 = r) ∨ ((-1) < p0 ∧ 0 = r)) (fun (_ : Unit) => [(h0, oC 13 [.ref h1, .ref g0, .int 1, .ref g1, .ref g2, .int 0, .int 0, .int 0, .int (-1), .int 0, .int 0, .int 0, .long 0, .ref g3, .ref g4, .int 0, .int 0]), (h1, aI Y 3640 (clB 0 (fun _ => 0)))]) (va_A [(h0, oC 13 [.ref h1, .ref g0, .int 0, .ref g1, .ref g2, .int 0, .int 0, .int 0, .int (-1), .int 0, .int 0, .int 0, .long 0, .ref g3, .ref g4, .int 0, .int 0]), (h1, aI Y 3640 (clB 0 (fun _ => 0)))] sz)) 0 0 (va_A [(h0, oC 13 [.ref h1, .ref g0, .int 0, .ref g1, .ref g2, .int 0, .int 0, .int 0, .int (-1), .int 0, .int 0, .int 0, .long 0, .ref g3, .ref g4, .int 0, .int 0]), (h1, aI Y 3640 (clB 0 (fun _ => 0)))] sz) :=
  met_of (by decide +kernel) (Nat.le_of_ble_eq_true rfl) (fun p e s m args below meth c B hin hsz => by
    have B : VB p s m args meth c D Y (va_A [(h0, oC 13 [.ref h1, .ref g0, .int 0, .ref g1, .ref g2, .int 0, .int 0, .int 0, .int (-1), .int 0, .int 0, .int 0, .long 0, .ref g3, .ref g4, .int 0, .int 0]), (h1, aI Y 3640 (clB 0 (fun _ => 0)))] sz) cX12_draftFrom 2 RX12 (some .int) := B
    refine V_aload_n 0 B dX12_draftFrom_0 0 rfl ?_
    refine V_iconst 1 B (v := 0) dX12_draftFrom_1 (by decide +kernel) ?_
    refine V_put 2 B gp_RX12_38 0 rfl (Nat.le_of_ble_eq_true rfl) rfl rfl dX12_draftFrom_2 [(h0, oC 13 [.ref h1, .ref g0, .int 0, .ref g1, .ref g2, .int 0, .int 0, .int 0, .int (-1), .int 0, .int 0, .int 0, .long 0, .ref g3, .ref g4, .int 0, .int 0]), (h1, aI Y 3640 (clB 0 (fun _ => 0)))] rfl ?_
    refine V_aload_n 5 B dX12_draftFrom_5 0 rfl ?_
    refine V_aload_n 6 B dX12_draftFrom_6 0 rfl ?_
    refine V_iload_n 7 B dX12_draftFrom_7 1 rfl ?_
    refine V_cvi 8 B (st := [.ref h0]) (As := [.int p0]) (fun sz => mX12_isBinding_1 l D Y (h0) (h1) (g0) (g1) (g2) (g3) (g4) (p0) sz) glV_RX12_82 ⟨rfl, rfl⟩ ⟨(Nat.le_of_ble_eq_true rfl), (Nat.le_of_ble_eq_true rfl)⟩ ⟨(Nat.le_of_ble_eq_true rfl), (Nat.le_of_ble_eq_true rfl)⟩ [0, 0] rfl 13 0 rfl rfl rfl rfl (Nat.le_of_ble_eq_true rfl) rfl (fun _ _ _ => rfl) dX12_draftFrom_8 (fun r0 u0 w0 => ?_)
    rcases w0 with ⟨k1, rfl⟩ | ⟨k2, rfl⟩
    ·
      refine V_ws [(h0, oC 13 [.ref h1, .ref g0, .int 0, .ref g1, .ref g2, .int 0, .int 0, .int 0, .int (-1), .int 0, .int 0, .int 0, .long 0, .ref g3, .ref g4, .int 0, .int 0]), (h1, aI Y 3640 (clB 0 (fun _ => 0)))] rfl ?_
      refine V_if_ne_f 11 B 18 dX12_draftFrom_11 (by decide) (by decide +kernel) ?_
      refine V_iconst 14 B (v := 1) dX12_draftFrom_14 (by decide +kernel) ?_
      refine V_goto 15 B 19 dX12_draftFrom_15 (by decide) ?_
      refine V_iconst 19 B (v := 1) dX12_draftFrom_19 (by decide +kernel) ?_
      refine V_cvi 20 B (st := []) (As := [.int 1, .int 1]) (fun sz => mX12_throwsIf_1 l D Y (h0) (h1) (g0) (g1) (g2) (g3) (g4) sz) glV_RX12_69 ⟨rfl, rfl⟩ ⟨(Nat.le_of_ble_eq_true rfl), (Nat.le_of_ble_eq_true rfl)⟩ ⟨(Nat.le_of_ble_eq_true rfl), (Nat.le_of_ble_eq_true rfl)⟩ [0] rfl 13 0 rfl rfl rfl rfl (Nat.le_of_ble_eq_true rfl) rfl (fun _ _ _ => rfl) dX12_draftFrom_20 (fun r3 u3 w3 => ?_)
      obtain rfl := w3
      refine V_ws [(h0, oC 13 [.ref h1, .ref g0, .int 1, .ref g1, .ref g2, .int 0, .int 0, .int 0, .int (-1), .int 0, .int 0, .int 0, .long 0, .ref g3, .ref g4, .int 0, .int 0]), (h1, aI Y 3640 (clB 0 (fun _ => 0)))] rfl ?_
      refine V_if_eq_f 23 B 28 dX12_draftFrom_23 (by decide) (by decide +kernel) ?_
      refine V_iconst 26 B (v := 0) dX12_draftFrom_26 (by decide +kernel) ?_
      exact V_iret 27 B dX12_draftFrom_27 () (Or.inl ⟨k1, rfl⟩) rfl
    ·
      refine V_ws [(h0, oC 13 [.ref h1, .ref g0, .int 0, .ref g1, .ref g2, .int 0, .int 0, .int 0, .int (-1), .int 0, .int 0, .int 0, .long 0, .ref g3, .ref g4, .int 0, .int 0]), (h1, aI Y 3640 (clB 0 (fun _ => 0)))] rfl ?_
      refine V_if_ne_f 11 B 18 dX12_draftFrom_11 (by decide) (by decide +kernel) ?_
      refine V_iconst 14 B (v := 1) dX12_draftFrom_14 (by decide +kernel) ?_
      refine V_goto 15 B 19 dX12_draftFrom_15 (by decide) ?_
      refine V_iconst 19 B (v := 1) dX12_draftFrom_19 (by decide +kernel) ?_
      refine V_cvi 20 B (st := []) (As := [.int 1, .int 1]) (fun sz => mX12_throwsIf_1 l D Y (h0) (h1) (g0) (g1) (g2) (g3) (g4) sz) glV_RX12_69 ⟨rfl, rfl⟩ ⟨(Nat.le_of_ble_eq_true rfl), (Nat.le_of_ble_eq_true rfl)⟩ ⟨(Nat.le_of_ble_eq_true rfl), (Nat.le_of_ble_eq_true rfl)⟩ [0] rfl 13 0 rfl rfl rfl rfl (Nat.le_of_ble_eq_true rfl) rfl (fun _ _ _ => rfl) dX12_draftFrom_20 (fun r4 u4 w4 => ?_)
      obtain rfl := w4
      refine V_ws [(h0, oC 13 [.ref h1, .ref g0, .int 1, .ref g1, .ref g2, .int 0, .int 0, .int 0, .int (-1), .int 0, .int 0, .int 0, .long 0, .ref g3, .ref g4, .int 0, .int 0]), (h1, aI Y 3640 (clB 0 (fun _ => 0)))] rfl ?_
      refine V_if_eq_f 23 B 28 dX12_draftFrom_23 (by decide) (by decide +kernel) ?_
      refine V_iconst 26 B (v := 0) dX12_draftFrom_26 (by decide +kernel) ?_
      exact V_iret 27 B dX12_draftFrom_27 () (Or.inr ⟨k2, rfl⟩) rfl)
theorem dX12_count_0 : decode cX12_count 0 = .ok (.aload_n 0, 1) := by decide +kernel
theorem dX12_count_1 : decode cX12_count 1 = .ok (.iconst 0, 1) := by decide +kernel
theorem dX12_count_2 : decode cX12_count 2 = .ok (.putfield 38, 3) := by decide +kernel
theorem dX12_count_5 : decode cX12_count 5 = .ok (.iload_n 1, 1) := by decide +kernel
theorem dX12_count_6 : decode cX12_count 6 = .ok (.tableswitch 141 0 10 #[58, 65, 72, 79, 86, 93, 101, 109, 117, 125, 132], 58) := by decide +kernel
theorem dX12_count_64 : decode cX12_count 64 = .ok (.aload_n 0, 1) := by decide +kernel
theorem dX12_count_65 : decode cX12_count 65 = .ok (.getfield 9, 3) := by decide +kernel
theorem dX12_count_68 : decode cX12_count 68 = .ok (.iconst 0, 1) := by decide +kernel
theorem dX12_count_69 : decode cX12_count 69 = .ok (.iaload, 1) := by decide +kernel
theorem dX12_count_70 : decode cX12_count 70 = .ok (.ireturn, 1) := by decide +kernel
theorem dX12_count_71 : decode cX12_count 71 = .ok (.aload_n 0, 1) := by decide +kernel
theorem dX12_count_72 : decode cX12_count 72 = .ok (.getfield 9, 3) := by decide +kernel
theorem dX12_count_75 : decode cX12_count 75 = .ok (.iconst 4, 1) := by decide +kernel
theorem dX12_count_76 : decode cX12_count 76 = .ok (.iaload, 1) := by decide +kernel
theorem dX12_count_77 : decode cX12_count 77 = .ok (.ireturn, 1) := by decide +kernel
theorem dX12_count_78 : decode cX12_count 78 = .ok (.aload_n 0, 1) := by decide +kernel
theorem dX12_count_79 : decode cX12_count 79 = .ok (.getfield 9, 3) := by decide +kernel
theorem dX12_count_82 : decode cX12_count 82 = .ok (.iconst 1, 1) := by decide +kernel
theorem dX12_count_83 : decode cX12_count 83 = .ok (.iaload, 1) := by decide +kernel
theorem dX12_count_84 : decode cX12_count 84 = .ok (.ireturn, 1) := by decide +kernel
theorem dX12_count_85 : decode cX12_count 85 = .ok (.aload_n 0, 1) := by decide +kernel
theorem dX12_count_86 : decode cX12_count 86 = .ok (.getfield 9, 3) := by decide +kernel
theorem dX12_count_89 : decode cX12_count 89 = .ok (.iconst 3, 1) := by decide +kernel
theorem dX12_count_90 : decode cX12_count 90 = .ok (.iaload, 1) := by decide +kernel
theorem dX12_count_91 : decode cX12_count 91 = .ok (.ireturn, 1) := by decide +kernel
theorem dX12_count_92 : decode cX12_count 92 = .ok (.aload_n 0, 1) := by decide +kernel
theorem dX12_count_93 : decode cX12_count 93 = .ok (.getfield 9, 3) := by decide +kernel
theorem dX12_count_96 : decode cX12_count 96 = .ok (.iconst 2, 1) := by decide +kernel
theorem dX12_count_97 : decode cX12_count 97 = .ok (.iaload, 1) := by decide +kernel
theorem dX12_count_98 : decode cX12_count 98 = .ok (.ireturn, 1) := by decide +kernel
theorem dX12_count_99 : decode cX12_count 99 = .ok (.aload_n 0, 1) := by decide +kernel
theorem dX12_count_100 : decode cX12_count 100 = .ok (.getfield 9, 3) := by decide +kernel
theorem dX12_count_103 : decode cX12_count 103 = .ok (.bipush 8, 2) := by decide +kernel
theorem dX12_count_105 : decode cX12_count 105 = .ok (.iaload, 1) := by decide +kernel
theorem dX12_count_106 : decode cX12_count 106 = .ok (.ireturn, 1) := by decide +kernel
theorem dX12_count_107 : decode cX12_count 107 = .ok (.aload_n 0, 1) := by decide +kernel
theorem dX12_count_108 : decode cX12_count 108 = .ok (.getfield 9, 3) := by decide +kernel
theorem dX12_count_111 : decode cX12_count 111 = .ok (.bipush 9, 2) := by decide +kernel
theorem dX12_count_113 : decode cX12_count 113 = .ok (.iaload, 1) := by decide +kernel
theorem dX12_count_114 : decode cX12_count 114 = .ok (.ireturn, 1) := by decide +kernel
theorem dX12_count_115 : decode cX12_count 115 = .ok (.aload_n 0, 1) := by decide +kernel
theorem dX12_count_116 : decode cX12_count 116 = .ok (.getfield 9, 3) := by decide +kernel
theorem dX12_count_119 : decode cX12_count 119 = .ok (.bipush 7, 2) := by decide +kernel
theorem dX12_count_121 : decode cX12_count 121 = .ok (.iaload, 1) := by decide +kernel
theorem dX12_count_122 : decode cX12_count 122 = .ok (.ireturn, 1) := by decide +kernel
theorem dX12_count_123 : decode cX12_count 123 = .ok (.aload_n 0, 1) := by decide +kernel
theorem dX12_count_124 : decode cX12_count 124 = .ok (.getfield 9, 3) := by decide +kernel
theorem dX12_count_127 : decode cX12_count 127 = .ok (.bipush 15, 2) := by decide +kernel
theorem dX12_count_129 : decode cX12_count 129 = .ok (.iaload, 1) := by decide +kernel
theorem dX12_count_130 : decode cX12_count 130 = .ok (.ireturn, 1) := by decide +kernel
theorem dX12_count_131 : decode cX12_count 131 = .ok (.aload_n 0, 1) := by decide +kernel
theorem dX12_count_132 : decode cX12_count 132 = .ok (.getfield 9, 3) := by decide +kernel
theorem dX12_count_135 : decode cX12_count 135 = .ok (.iconst 5, 1) := by decide +kernel
theorem dX12_count_136 : decode cX12_count 136 = .ok (.iaload, 1) := by decide +kernel
theorem dX12_count_137 : decode cX12_count 137 = .ok (.ireturn, 1) := by decide +kernel
theorem dX12_count_138 : decode cX12_count 138 = .ok (.aload_n 0, 1) := by decide +kernel
theorem dX12_count_139 : decode cX12_count 139 = .ok (.getfield 9, 3) := by decide +kernel
theorem dX12_count_142 : decode cX12_count 142 = .ok (.sipush 3624, 3) := by decide +kernel
theorem dX12_count_145 : decode cX12_count 145 = .ok (.iaload, 1) := by decide +kernel
theorem dX12_count_146 : decode cX12_count 146 = .ok (.ireturn, 1) := by decide +kernel
theorem dX12_count_147 : decode cX12_count 147 = .ok (.iconst (-1), 1) := by decide +kernel
theorem dX12_count_148 : decode cX12_count 148 = .ok (.ireturn, 1) := by decide +kernel
set_option maxRecDepth 100000 in
set_option maxHeartbeats 4000000 in
theorem mX12_count_1 (l : Launch) (D : va_G) (Y : Nat → ClassId) (h0 : Nat) (h1 : Nat) (g0 : Nat) (g1 : Nat) (g2 : Nat) (g3 : Nat) (g4 : Nat) (p0 : Int32) (sz : Nat) : Met l yX12_count (WSm yX12_count cX12_count 2 (some .int)) (mkR 0 0 0 0) (PreC D Y [.ref h0, .int p0] [(h0, oC 13 [.ref h1, .ref g0, .int 0, .ref g1, .ref g2, .int 0, .int 0, .int 0, .int (-1), .int 0, .int 0, .int 0, .long 0, .ref g3, .ref g4, .int 0, .int 0]), (h1, aI Y 3640 (clB 0 (fun _ => 0)))] sz) (QI D (fun (r : Int32) (u : Unit) => (p0 = 0 ∧ 1 = r) ∨ (p0 = 1 ∧ 0 = r) ∨ (p0 = 2 ∧ 0 = r) ∨ (p0 = 3 ∧ 0 = r) ∨ (p0 = 4 ∧ 0 = r) ∨ (p0 = 5 ∧ 0 = r) ∨ (p0 = 6 ∧ 0 = r) ∨ (p0 = 7 ∧ 0 = r) ∨ (p0 = 8 ∧ 0 = r) ∨ (p0 = 9 ∧ 0 = r) ∨ (p0 = 10 ∧ 0 = r) ∨ (¬ p0 = 0 ∧ ¬ p0 = 1 ∧ ¬ p0 = 2 ∧ ¬ p0 = 3 ∧ ¬ p0 = 4 ∧ ¬ p0 = 5 ∧ ¬ p0 = 6 ∧ ¬ p0 = 7 ∧ ¬ p0 = 8 ∧ ¬ p0 = 9 ∧ ¬ p0 = 10 ∧ (-1) = r)) (fun (_ : Unit) => [(h0, oC 13 [.ref h1, .ref g0, .int 0, .ref g1, .ref g2, .int 0, .int 0, .int 0, .int (-1), .int 0, .int 0, .int 0, .long 0, .ref g3, .ref g4, .int 0, .int 0]), (h1, aI Y 3640 (clB 0 (fun _ => 0)))]) (va_A [(h0, oC 13 [.ref h1, .ref g0, .int 0, .ref g1, .ref g2, .int 0, .int 0, .int 0, .int (-1), .int 0, .int 0, .int 0, .long 0, .ref g3, .ref g4, .int 0, .int 0]), (h1, aI Y 3640 (clB 0 (fun _ => 0)))] sz)) 0 0 (va_A [(h0, oC 13 [.ref h1, .ref g0, .int 0, .ref g1, .ref g2, .int 0, .int 0, .int 0, .int (-1), .int 0, .int 0, .int 0, .long 0, .ref g3, .ref g4, .int 0, .int 0]), (h1, aI Y 3640 (clB 0 (fun _ => 0)))] sz) :=
  met_of (by decide +kernel) (Nat.le_of_ble_eq_true rfl) (fun p e s m args below meth c B hin hsz => by
    have B : VB p s m args meth c D Y (va_A [(h0, oC 13 [.ref h1, .ref g0, .int 0, .ref g1, .ref g2, .int 0, .int 0, .int 0, .int (-1), .int 0, .int 0, .int 0, .long 0, .ref g3, .ref g4, .int 0, .int 0]), (h1, aI Y 3640 (clB 0 (fun _ => 0)))] sz) cX12_count 2 RX12 (some .int) := B
    refine V_aload_n 0 B dX12_count_0 0 rfl ?_
    refine V_iconst 1 B (v := 0) dX12_count_1 (by decide +kernel) ?_
    refine V_put 2 B gp_RX12_38 0 rfl (Nat.le_of_ble_eq_true rfl) rfl rfl dX12_count_2 [(h0, oC 13 [.ref h1, .ref g0, .int 0, .ref g1, .ref g2, .int 0, .int 0, .int 0, .int (-1), .int 0, .int 0, .int 0, .long 0, .ref g3, .ref g4, .int 0, .int 0]), (h1, aI Y 3640 (clB 0 (fun _ => 0)))] rfl ?_
    refine V_iload_n 5 B dX12_count_5 1 rfl ?_
    by_cases k0 : p0 = 0
    ·
      obtain rfl : p0 = 0 := k0
      refine V_tableIn 6 B 64 dX12_count_6 (by decide +kernel) (by decide +kernel) (off := 58) (by decide +kernel) (by decide) ?_
      refine V_aload_n 64 B dX12_count_64 0 rfl ?_
      refine V_get 65 B gf_RX12_9 0 rfl rfl dX12_count_65 ?_
      refine V_iconst 68 B (v := 0) dX12_count_68 (by decide +kernel) ?_
      refine V_iald 69 B (v := 1) 1 rfl (vpin _ _ (by decide +kernel)) dX12_count_69 rfl ?_
      exact V_iret 70 B dX12_count_70 () (Or.inl ⟨rfl, rfl⟩) rfl
    ·
      by_cases k1 : p0 = 1
      ·
        obtain rfl : p0 = 1 := k1
        refine V_tableIn 6 B 71 dX12_count_6 (by decide +kernel) (by decide +kernel) (off := 65) (by decide +kernel) (by decide) ?_
        refine V_aload_n 71 B dX12_count_71 0 rfl ?_
        refine V_get 72 B gf_RX12_9 0 rfl rfl dX12_count_72 ?_
        refine V_iconst 75 B (v := 4) dX12_count_75 (by decide +kernel) ?_
        refine V_iald 76 B (v := 0) 1 rfl (vpin _ _ (by decide +kernel)) dX12_count_76 rfl ?_
        exact V_iret 77 B dX12_count_77 () (Or.inr (Or.inl ⟨rfl, rfl⟩)) rfl
      ·
        by_cases k2 : p0 = 2
        ·
          obtain rfl : p0 = 2 := k2
          refine V_tableIn 6 B 78 dX12_count_6 (by decide +kernel) (by decide +kernel) (off := 72) (by decide +kernel) (by decide) ?_
          refine V_aload_n 78 B dX12_count_78 0 rfl ?_
          refine V_get 79 B gf_RX12_9 0 rfl rfl dX12_count_79 ?_
          refine V_iconst 82 B (v := 1) dX12_count_82 (by decide +kernel) ?_
          refine V_iald 83 B (v := 0) 1 rfl (vpin _ _ (by decide +kernel)) dX12_count_83 rfl ?_
          exact V_iret 84 B dX12_count_84 () (Or.inr (Or.inr (Or.inl ⟨rfl, rfl⟩))) rfl
        ·
          by_cases k3 : p0 = 3
          ·
            obtain rfl : p0 = 3 := k3
            refine V_tableIn 6 B 85 dX12_count_6 (by decide +kernel) (by decide +kernel) (off := 79) (by decide +kernel) (by decide) ?_
            refine V_aload_n 85 B dX12_count_85 0 rfl ?_
            refine V_get 86 B gf_RX12_9 0 rfl rfl dX12_count_86 ?_
            refine V_iconst 89 B (v := 3) dX12_count_89 (by decide +kernel) ?_
            refine V_iald 90 B (v := 0) 1 rfl (vpin _ _ (by decide +kernel)) dX12_count_90 rfl ?_
            exact V_iret 91 B dX12_count_91 () (Or.inr (Or.inr (Or.inr (Or.inl ⟨rfl, rfl⟩)))) rfl
          ·
            by_cases k4 : p0 = 4
            ·
              obtain rfl : p0 = 4 := k4
              refine V_tableIn 6 B 92 dX12_count_6 (by decide +kernel) (by decide +kernel) (off := 86) (by decide +kernel) (by decide) ?_
              refine V_aload_n 92 B dX12_count_92 0 rfl ?_
              refine V_get 93 B gf_RX12_9 0 rfl rfl dX12_count_93 ?_
              refine V_iconst 96 B (v := 2) dX12_count_96 (by decide +kernel) ?_
              refine V_iald 97 B (v := 0) 1 rfl (vpin _ _ (by decide +kernel)) dX12_count_97 rfl ?_
              exact V_iret 98 B dX12_count_98 () (Or.inr (Or.inr (Or.inr (Or.inr (Or.inl ⟨rfl, rfl⟩))))) rfl
            ·
              by_cases k5 : p0 = 5
              ·
                obtain rfl : p0 = 5 := k5
                refine V_tableIn 6 B 99 dX12_count_6 (by decide +kernel) (by decide +kernel) (off := 93) (by decide +kernel) (by decide) ?_
                refine V_aload_n 99 B dX12_count_99 0 rfl ?_
                refine V_get 100 B gf_RX12_9 0 rfl rfl dX12_count_100 ?_
                refine V_bipush 103 B (v := 8) dX12_count_103 (by decide +kernel) ?_
                refine V_iald 105 B (v := 0) 1 rfl (vpin _ _ (by decide +kernel)) dX12_count_105 rfl ?_
                exact V_iret 106 B dX12_count_106 () (Or.inr (Or.inr (Or.inr (Or.inr (Or.inr (Or.inl ⟨rfl, rfl⟩)))))) rfl
              ·
                by_cases k6 : p0 = 6
                ·
                  obtain rfl : p0 = 6 := k6
                  refine V_tableIn 6 B 107 dX12_count_6 (by decide +kernel) (by decide +kernel) (off := 101) (by decide +kernel) (by decide) ?_
                  refine V_aload_n 107 B dX12_count_107 0 rfl ?_
                  refine V_get 108 B gf_RX12_9 0 rfl rfl dX12_count_108 ?_
                  refine V_bipush 111 B (v := 9) dX12_count_111 (by decide +kernel) ?_
                  refine V_iald 113 B (v := 0) 1 rfl (vpin _ _ (by decide +kernel)) dX12_count_113 rfl ?_
                  exact V_iret 114 B dX12_count_114 () (Or.inr (Or.inr (Or.inr (Or.inr (Or.inr (Or.inr (Or.inl ⟨rfl, rfl⟩))))))) rfl
                ·
                  by_cases k7 : p0 = 7
                  ·
                    obtain rfl : p0 = 7 := k7
                    refine V_tableIn 6 B 115 dX12_count_6 (by decide +kernel) (by decide +kernel) (off := 109) (by decide +kernel) (by decide) ?_
                    refine V_aload_n 115 B dX12_count_115 0 rfl ?_
                    refine V_get 116 B gf_RX12_9 0 rfl rfl dX12_count_116 ?_
                    refine V_bipush 119 B (v := 7) dX12_count_119 (by decide +kernel) ?_
                    refine V_iald 121 B (v := 0) 1 rfl (vpin _ _ (by decide +kernel)) dX12_count_121 rfl ?_
                    exact V_iret 122 B dX12_count_122 () (Or.inr (Or.inr (Or.inr (Or.inr (Or.inr (Or.inr (Or.inr (Or.inl ⟨rfl, rfl⟩)))))))) rfl
                  ·
                    by_cases k8 : p0 = 8
                    ·
                      obtain rfl : p0 = 8 := k8
                      refine V_tableIn 6 B 123 dX12_count_6 (by decide +kernel) (by decide +kernel) (off := 117) (by decide +kernel) (by decide) ?_
                      refine V_aload_n 123 B dX12_count_123 0 rfl ?_
                      refine V_get 124 B gf_RX12_9 0 rfl rfl dX12_count_124 ?_
                      refine V_bipush 127 B (v := 15) dX12_count_127 (by decide +kernel) ?_
                      refine V_iald 129 B (v := 0) 1 rfl (vpin _ _ (by decide +kernel)) dX12_count_129 rfl ?_
                      exact V_iret 130 B dX12_count_130 () (Or.inr (Or.inr (Or.inr (Or.inr (Or.inr (Or.inr (Or.inr (Or.inr (Or.inl ⟨rfl, rfl⟩))))))))) rfl
                    ·
                      by_cases k9 : p0 = 9
                      ·
                        obtain rfl : p0 = 9 := k9
                        refine V_tableIn 6 B 131 dX12_count_6 (by decide +kernel) (by decide +kernel) (off := 125) (by decide +kernel) (by decide) ?_
                        refine V_aload_n 131 B dX12_count_131 0 rfl ?_
                        refine V_get 132 B gf_RX12_9 0 rfl rfl dX12_count_132 ?_
                        refine V_iconst 135 B (v := 5) dX12_count_135 (by decide +kernel) ?_
                        refine V_iald 136 B (v := 0) 1 rfl (vpin _ _ (by decide +kernel)) dX12_count_136 rfl ?_
                        exact V_iret 137 B dX12_count_137 () (Or.inr (Or.inr (Or.inr (Or.inr (Or.inr (Or.inr (Or.inr (Or.inr (Or.inr (Or.inl ⟨rfl, rfl⟩)))))))))) rfl
                      ·
                        by_cases k10 : p0 = 10
                        ·
                          obtain rfl : p0 = 10 := k10
                          refine V_tableIn 6 B 138 dX12_count_6 (by decide +kernel) (by decide +kernel) (off := 132) (by decide +kernel) (by decide) ?_
                          refine V_aload_n 138 B dX12_count_138 0 rfl ?_
                          refine V_get 139 B gf_RX12_9 0 rfl rfl dX12_count_139 ?_
                          refine V_sipush 142 B (v := 3624) dX12_count_142 (by decide +kernel) ?_
                          refine V_iald 145 B (v := 0) 1 rfl (vpin _ _ (by decide +kernel)) dX12_count_145 rfl ?_
                          exact V_iret 146 B dX12_count_146 () (Or.inr (Or.inr (Or.inr (Or.inr (Or.inr (Or.inr (Or.inr (Or.inr (Or.inr (Or.inr (Or.inl ⟨rfl, rfl⟩))))))))))) rfl
                        ·
                          refine V_tableOut 6 B 147 dX12_count_6 (sw_out_0_10 k0 k1 k2 k3 k4 k5 k6 k7 k8 k9 k10) (by decide) ?_
                          refine V_iconst 147 B (v := (-1)) dX12_count_147 (by decide +kernel) ?_
                          exact V_iret 148 B dX12_count_148 () (Or.inr (Or.inr (Or.inr (Or.inr (Or.inr (Or.inr (Or.inr (Or.inr (Or.inr (Or.inr (Or.inr ⟨k0, k1, k2, k3, k4, k5, k6, k7, k8, k9, k10, rfl⟩))))))))))) rfl)
theorem dX12_isMode_0 : decode cX12_isMode 0 = .ok (.iload_n 1, 1) := by decide +kernel
theorem dX12_isMode_1 : decode cX12_isMode 1 = .ok (.i2l, 1) := by decide +kernel
theorem dX12_isMode_2 : decode cX12_isMode 2 = .ok (.lconst 0, 1) := by decide +kernel
theorem dX12_isMode_3 : decode cX12_isMode 3 = .ok (.aload_n 0, 1) := by decide +kernel
theorem dX12_isMode_4 : decode cX12_isMode 4 = .ok (.getfield 9, 3) := by decide +kernel
theorem dX12_isMode_7 : decode cX12_isMode 7 = .ok (.iconst 0, 1) := by decide +kernel
theorem dX12_isMode_8 : decode cX12_isMode 8 = .ok (.iaload, 1) := by decide +kernel
theorem dX12_isMode_9 : decode cX12_isMode 9 = .ok (.iconst 1, 1) := by decide +kernel
theorem dX12_isMode_10 : decode cX12_isMode 10 = .ok (.isub, 1) := by decide +kernel
theorem dX12_isMode_11 : decode cX12_isMode 11 = .ok (.i2l, 1) := by decide +kernel
theorem dX12_isMode_12 : decode cX12_isMode 12 = .ok (.invokestatic 41, 3) := by decide +kernel
theorem dX12_isMode_15 : decode cX12_isMode 15 = .ok (.ireturn, 1) := by decide +kernel
set_option maxRecDepth 100000 in
set_option maxHeartbeats 4000000 in
theorem mX12_isMode_1 (l : Launch) (D : va_G) (Y : Nat → ClassId) (h0 : Nat) (h1 : Nat) (g0 : Nat) (g1 : Nat) (g2 : Nat) (g3 : Nat) (g4 : Nat) (p0 : Int32) (sz : Nat) : Met l yX12_isMode (WSm yX12_isMode cX12_isMode 2 (some .boolean)) (mkR 1 0 0 25) (PreC D Y [.ref h0, .int p0] [(h0, oC 13 [.ref h1, .ref g0, .int 0, .ref g1, .ref g2, .int 0, .int 0, .int 0, .int (-1), .int 0, .int 0, .int 0, .long 0, .ref g3, .ref g4, .int 0, .int 0]), (h1, aI Y 3640 (clB 0 (fun _ => 0)))] sz) (QI D (fun (r : Int32) (u : Unit) => (p0 = 0 ∧ 1 = r) ∨ (p0 < 0 ∧ 0 = r) ∨ (0 < p0 ∧ 0 = r)) (fun (_ : Unit) => [(h0, oC 13 [.ref h1, .ref g0, .int 0, .ref g1, .ref g2, .int 0, .int 0, .int 0, .int (-1), .int 0, .int 0, .int 0, .long 0, .ref g3, .ref g4, .int 0, .int 0]), (h1, aI Y 3640 (clB 0 (fun _ => 0)))]) (va_A [(h0, oC 13 [.ref h1, .ref g0, .int 0, .ref g1, .ref g2, .int 0, .int 0, .int 0, .int (-1), .int 0, .int 0, .int 0, .long 0, .ref g3, .ref g4, .int 0, .int 0]), (h1, aI Y 3640 (clB 0 (fun _ => 0)))] sz)) 0 0 (va_A [(h0, oC 13 [.ref h1, .ref g0, .int 0, .ref g1, .ref g2, .int 0, .int 0, .int 0, .int (-1), .int 0, .int 0, .int 0, .long 0, .ref g3, .ref g4, .int 0, .int 0]), (h1, aI Y 3640 (clB 0 (fun _ => 0)))] sz) :=
  met_of (by decide +kernel) (Nat.le_of_ble_eq_true rfl) (fun p e s m args below meth c B hin hsz => by
    have B : VB p s m args meth c D Y (va_A [(h0, oC 13 [.ref h1, .ref g0, .int 0, .ref g1, .ref g2, .int 0, .int 0, .int 0, .int (-1), .int 0, .int 0, .int 0, .long 0, .ref g3, .ref g4, .int 0, .int 0]), (h1, aI Y 3640 (clB 0 (fun _ => 0)))] sz) cX12_isMode 2 RX12 (some .boolean) := B
    refine V_iload_n 0 B dX12_isMode_0 1 rfl ?_
    refine V_i2l 1 B dX12_isMode_1 rfl ?_
    refine V_lconst 2 B (v := 0) dX12_isMode_2 (by decide +kernel) ?_
    refine V_aload_n 3 B dX12_isMode_3 0 rfl ?_
    refine V_get 4 B gf_RX12_9 0 rfl rfl dX12_isMode_4 ?_
    refine V_iconst 7 B (v := 0) dX12_isMode_7 (by decide +kernel) ?_
    refine V_iald 8 B (v := 1) 1 rfl (vpin _ _ (by decide +kernel)) dX12_isMode_8 rfl ?_
    refine V_iconst 9 B (v := 1) dX12_isMode_9 (by decide +kernel) ?_
    refine V_isub 10 B (v := 0) dX12_isMode_10 (by decide +kernel) ?_
    refine V_i2l 11 B (v := 0) dX12_isMode_11 (by decide +kernel) ?_
    refine V_csi 12 B (st := []) (As := [.long p0.toInt64, .long 0, .long 0]) (fun sz => mX12_inRange_m l D Y (p0) (0) (0) (0) (0) (by decide +kernel) (by decide +kernel) sz) glS_RX12_41 ⟨rfl, rfl⟩ ⟨(Nat.le_of_ble_eq_true rfl), (Nat.le_of_ble_eq_true rfl)⟩ ⟨(Nat.le_of_ble_eq_true rfl), (Nat.le_of_ble_eq_true rfl)⟩ [] rfl rfl (Nat.le_of_ble_eq_true rfl) rfl (fun _ _ _ => rfl) dX12_isMode_12 (fun r0 u0 w0 => ?_)
    rcases w0 with ⟨k1, k2, rfl⟩ | ⟨k3, rfl⟩ | ⟨k4, rfl⟩
    ·
      refine V_ws [(h0, oC 13 [.ref h1, .ref g0, .int 0, .ref g1, .ref g2, .int 0, .int 0, .int 0, .int (-1), .int 0, .int 0, .int 0, .long 0, .ref g3, .ref g4, .int 0, .int 0]), (h1, aI Y 3640 (clB 0 (fun _ => 0)))] rfl ?_
      obtain rfl : p0 = 0 := q_eq (b_nlt k1 (n := 0) (by decide +kernel)) (b_ngt k2 (n := 0) (by decide +kernel)) (by decide +kernel)
      exact V_zret 15 B rfl dX12_isMode_15 () (Or.inl ⟨rfl, rfl⟩) rfl
    ·
      refine V_ws [(h0, oC 13 [.ref h1, .ref g0, .int 0, .ref g1, .ref g2, .int 0, .int 0, .int 0, .int (-1), .int 0, .int 0, .int 0, .long 0, .ref g3, .ref g4, .int 0, .int 0]), (h1, aI Y 3640 (clB 0 (fun _ => 0)))] rfl ?_
      exact V_zret 15 B rfl dX12_isMode_15 () (Or.inr (Or.inl ⟨k3, rfl⟩)) rfl
    ·
      refine V_ws [(h0, oC 13 [.ref h1, .ref g0, .int 0, .ref g1, .ref g2, .int 0, .int 0, .int 0, .int (-1), .int 0, .int 0, .int 0, .long 0, .ref g3, .ref g4, .int 0, .int 0]), (h1, aI Y 3640 (clB 0 (fun _ => 0)))] rfl ?_
      exact V_zret 15 B rfl dX12_isMode_15 () (Or.inr (Or.inr ⟨k4, rfl⟩)) rfl)
theorem dX12_addMode_0 : decode cX12_addMode 0 = .ok (.aload_n 0, 1) := by decide +kernel
theorem dX12_addMode_1 : decode cX12_addMode 1 = .ok (.iconst 0, 1) := by decide +kernel
theorem dX12_addMode_2 : decode cX12_addMode 2 = .ok (.putfield 38, 3) := by decide +kernel
theorem dX12_addMode_5 : decode cX12_addMode 5 = .ok (.aload_n 0, 1) := by decide +kernel
theorem dX12_addMode_6 : decode cX12_addMode 6 = .ok (.aload_n 0, 1) := by decide +kernel
theorem dX12_addMode_7 : decode cX12_addMode 7 = .ok (.iload_n 1, 1) := by decide +kernel
theorem dX12_addMode_8 : decode cX12_addMode 8 = .ok (.invokevirtual 91, 3) := by decide +kernel
theorem glV_RX12_91 : GLV RX12 91 yX12_isMode RX12 cX12_isMode 2 (some .boolean) 1 := ⟨⟨(mT8 33 rfl rfl), (mT8 35 rfl rfl), (mTs 34 rfl rfl), (mT1 13 rfl rfl), (mT8 36 rfl rfl)⟩, by decide +kernel⟩
theorem dX12_addMode_11 : decode cX12_addMode 11 = .ok (.ifCond .ne 7, 3) := by decide +kernel
theorem dX12_addMode_18 : decode cX12_addMode 18 = .ok (.iconst 0, 1) := by decide +kernel
theorem dX12_addMode_19 : decode cX12_addMode 19 = .ok (.iconst 1, 1) := by decide +kernel
theorem dX12_addMode_20 : decode cX12_addMode 20 = .ok (.invokevirtual 69, 3) := by decide +kernel
theorem dX12_addMode_23 : decode cX12_addMode 23 = .ok (.ifCond .eq 5, 3) := by decide +kernel
theorem dX12_addMode_28 : decode cX12_addMode 28 = .ok (.aload_n 0, 1) := by decide +kernel
theorem dX12_addMode_29 : decode cX12_addMode 29 = .ok (.getfield 9, 3) := by decide +kernel
theorem dX12_addMode_32 : decode cX12_addMode 32 = .ok (.iconst 0, 1) := by decide +kernel
theorem dX12_addMode_33 : decode cX12_addMode 33 = .ok (.iaload, 1) := by decide +kernel
theorem dX12_addMode_34 : decode cX12_addMode 34 = .ok (.bipush 6, 2) := by decide +kernel
theorem dX12_addMode_36 : decode cX12_addMode 36 = .ok (.if_icmp .ne 6, 3) := by decide +kernel
theorem dX12_addMode_42 : decode cX12_addMode 42 = .ok (.aload_n 0, 1) := by decide +kernel
theorem dX12_addMode_43 : decode cX12_addMode 43 = .ok (.getfield 9, 3) := by decide +kernel
theorem dX12_addMode_46 : decode cX12_addMode 46 = .ok (.bipush 16, 2) := by decide +kernel
theorem dX12_addMode_48 : decode cX12_addMode 48 = .ok (.aload_n 0, 1) := by decide +kernel
theorem dX12_addMode_49 : decode cX12_addMode 49 = .ok (.getfield 9, 3) := by decide +kernel
theorem dX12_addMode_52 : decode cX12_addMode 52 = .ok (.iconst 0, 1) := by decide +kernel
theorem dX12_addMode_53 : decode cX12_addMode 53 = .ok (.iaload, 1) := by decide +kernel
theorem dX12_addMode_54 : decode cX12_addMode 54 = .ok (.iadd, 1) := by decide +kernel
theorem dX12_addMode_55 : decode cX12_addMode 55 = .ok (.iload_n 1, 1) := by decide +kernel
theorem dX12_addMode_56 : decode cX12_addMode 56 = .ok (.iastore, 1) := by decide +kernel
theorem dX12_addMode_57 : decode cX12_addMode 57 = .ok (.aload_n 0, 1) := by decide +kernel
theorem dX12_addMode_58 : decode cX12_addMode 58 = .ok (.getfield 9, 3) := by decide +kernel
theorem dX12_addMode_61 : decode cX12_addMode 61 = .ok (.iconst 0, 1) := by decide +kernel
theorem dX12_addMode_62 : decode cX12_addMode 62 = .ok (.dup2, 1) := by decide +kernel
theorem dX12_addMode_63 : decode cX12_addMode 63 = .ok (.iaload, 1) := by decide +kernel
theorem dX12_addMode_64 : decode cX12_addMode 64 = .ok (.iconst 1, 1) := by decide +kernel
theorem dX12_addMode_65 : decode cX12_addMode 65 = .ok (.iadd, 1) := by decide +kernel
theorem dX12_addMode_66 : decode cX12_addMode 66 = .ok (.iastore, 1) := by decide +kernel
theorem dX12_addMode_67 : decode cX12_addMode 67 = .ok (.aload_n 0, 1) := by decide +kernel
theorem dX12_addMode_68 : decode cX12_addMode 68 = .ok (.getfield 9, 3) := by decide +kernel
theorem dX12_addMode_71 : decode cX12_addMode 71 = .ok (.iconst 0, 1) := by decide +kernel
theorem dX12_addMode_72 : decode cX12_addMode 72 = .ok (.iaload, 1) := by decide +kernel
theorem dX12_addMode_73 : decode cX12_addMode 73 = .ok (.iconst 1, 1) := by decide +kernel
theorem dX12_addMode_74 : decode cX12_addMode 74 = .ok (.isub, 1) := by decide +kernel
theorem dX12_addMode_75 : decode cX12_addMode 75 = .ok (.ireturn, 1) := by decide +kernel
theorem dX12_addMode_14 : decode cX12_addMode 14 = .ok (.iconst 1, 1) := by decide +kernel
theorem dX12_addMode_15 : decode cX12_addMode 15 = .ok (.goto 4, 3) := by decide +kernel
theorem dX12_addMode_26 : decode cX12_addMode 26 = .ok (.iconst 0, 1) := by decide +kernel
theorem dX12_addMode_27 : decode cX12_addMode 27 = .ok (.ireturn, 1) := by decide +kernel
set_option maxRecDepth 100000 in
set_option maxHeartbeats 4000000 in
theorem mX12_addMode_1 (l : Launch) (D : va_G) (Y : Nat → ClassId) (h0 : Nat) (h1 : Nat) (g0 : Nat) (g1 : Nat) (g2 : Nat) (g3 : Nat) (g4 : Nat) (p0 : Int32) (sz : Nat) : Met l yX12_addMode (WSm yX12_addMode cX12_addMode 2 (some .int)) (mkR 2 0 0 46) (PreC D Y [.ref h0, .int p0] [(h0, oC 13 [.ref h1, .ref g0, .int 0, .ref g1, .ref g2, .int 0, .int 0, .int 0, .int (-1), .int 0, .int 0, .int 0, .long 0, .ref g3, .ref g4, .int 0, .int 0]), (h1, aI Y 3640 (clB 0 (fun _ => 0)))] sz) (QI D (fun (r : Int32) (u : Nat) => (u = 0 ∧ p0 = 0 ∧ 1 = r) ∨ (u = 1 ∧ p0 < 0 ∧ 0 = r) ∨ (u = 2 ∧ 0 < p0 ∧ 0 = r)) (fun (u : Nat) => match u with | 0 => [(h0, oC 13 [.ref h1, .ref g0, .int 0, .ref g1, .ref g2, .int 0, .int 0, .int 0, .int (-1), .int 0, .int 0, .int 0, .long 0, .ref g3, .ref g4, .int 0, .int 0]), (h1, aI Y 3640 (upd (upd (clB 0 (fun _ => 0)) 17 0) 0 2))] | 1 => [(h0, oC 13 [.ref h1, .ref g0, .int 1, .ref g1, .ref g2, .int 0, .int 0, .int 0, .int (-1), .int 0, .int 0, .int 0, .long 0, .ref g3, .ref g4, .int 0, .int 0]), (h1, aI Y 3640 (clB 0 (fun _ => 0)))] | _ => [(h0, oC 13 [.ref h1, .ref g0, .int 1, .ref g1, .ref g2, .int 0, .int 0, .int 0, .int (-1), .int 0, .int 0, .int 0, .long 0, .ref g3, .ref g4, .int 0, .int 0]), (h1, aI Y 3640 (clB 0 (fun _ => 0)))]) (va_A [(h0, oC 13 [.ref h1, .ref g0, .int 0, .ref g1, .ref g2, .int 0, .int 0, .int 0, .int (-1), .int 0, .int 0, .int 0, .long 0, .ref g3, .ref g4, .int 0, .int 0]), (h1, aI Y 3640 (clB 0 (fun _ => 0)))] sz)) 0 0 (va_A [(h0, oC 13 [.ref h1, .ref g0, .int 0, .ref g1, .ref g2, .int 0, .int 0, .int 0, .int (-1), .int 0, .int 0, .int 0, .long 0, .ref g3, .ref g4, .int 0, .int 0]), (h1, aI Y 3640 (clB 0 (fun _ => 0)))] sz) :=
  met_of (by decide +kernel) (Nat.le_of_ble_eq_true rfl) (fun p e s m args below meth c B hin hsz => by
    have B : VB p s m args meth c D Y (va_A [(h0, oC 13 [.ref h1, .ref g0, .int 0, .ref g1, .ref g2, .int 0, .int 0, .int 0, .int (-1), .int 0, .int 0, .int 0, .long 0, .ref g3, .ref g4, .int 0, .int 0]), (h1, aI Y 3640 (clB 0 (fun _ => 0)))] sz) cX12_addMode 2 RX12 (some .int) := B
    refine V_aload_n 0 B dX12_addMode_0 0 rfl ?_
    refine V_iconst 1 B (v := 0) dX12_addMode_1 (by decide +kernel) ?_
    refine V_put 2 B gp_RX12_38 0 rfl (Nat.le_of_ble_eq_true rfl) rfl rfl dX12_addMode_2 [(h0, oC 13 [.ref h1, .ref g0, .int 0, .ref g1, .ref g2, .int 0, .int 0, .int 0, .int (-1), .int 0, .int 0, .int 0, .long 0, .ref g3, .ref g4, .int 0, .int 0]), (h1, aI Y 3640 (clB 0 (fun _ => 0)))] rfl ?_
    refine V_aload_n 5 B dX12_addMode_5 0 rfl ?_
    refine V_aload_n 6 B dX12_addMode_6 0 rfl ?_
    refine V_iload_n 7 B dX12_addMode_7 1 rfl ?_
    refine V_cvi 8 B (st := [.ref h0]) (As := [.int p0]) (fun sz => mX12_isMode_1 l D Y (h0) (h1) (g0) (g1) (g2) (g3) (g4) (p0) sz) glV_RX12_91 ⟨rfl, rfl⟩ ⟨(Nat.le_of_ble_eq_true rfl), (Nat.le_of_ble_eq_true rfl)⟩ ⟨(Nat.le_of_ble_eq_true rfl), (Nat.le_of_ble_eq_true rfl)⟩ [0, 0] rfl 13 0 rfl rfl rfl rfl (Nat.le_of_ble_eq_true rfl) rfl (fun _ _ _ => rfl) dX12_addMode_8 (fun r0 u0 w0 => ?_)
    rcases w0 with ⟨k1, rfl⟩ | ⟨k2, rfl⟩ | ⟨k3, rfl⟩
    ·
      refine V_ws [(h0, oC 13 [.ref h1, .ref g0, .int 0, .ref g1, .ref g2, .int 0, .int 0, .int 0, .int (-1), .int 0, .int 0, .int 0, .long 0, .ref g3, .ref g4, .int 0, .int 0]), (h1, aI Y 3640 (clB 0 (fun _ => 0)))] rfl ?_
      obtain rfl : p0 = 0 := k1
      refine V_if_ne_t 11 B 18 dX12_addMode_11 (by decide) (by decide +kernel) ?_
      refine V_iconst 18 B (v := 0) dX12_addMode_18 (by decide +kernel) ?_
      refine V_iconst 19 B (v := 1) dX12_addMode_19 (by decide +kernel) ?_
      refine V_cvi 20 B (st := []) (As := [.int 0, .int 1]) (fun sz => mX12_throwsIf_2 l D Y (h0) (h1) (g0) (g1) (g2) (g3) (g4) sz) glV_RX12_69 ⟨rfl, rfl⟩ ⟨(Nat.le_of_ble_eq_true rfl), (Nat.le_of_ble_eq_true rfl)⟩ ⟨(Nat.le_of_ble_eq_true rfl), (Nat.le_of_ble_eq_true rfl)⟩ [0] rfl 13 0 rfl rfl rfl rfl (Nat.le_of_ble_eq_true rfl) rfl (fun _ _ _ => rfl) dX12_addMode_20 (fun r4 u4 w4 => ?_)
      obtain rfl := w4
      refine V_ws [(h0, oC 13 [.ref h1, .ref g0, .int 0, .ref g1, .ref g2, .int 0, .int 0, .int 0, .int (-1), .int 0, .int 0, .int 0, .long 0, .ref g3, .ref g4, .int 0, .int 0]), (h1, aI Y 3640 (clB 0 (fun _ => 0)))] rfl ?_
      refine V_if_eq_t 23 B 28 dX12_addMode_23 (by decide) (by decide +kernel) ?_
      refine V_aload_n 28 B dX12_addMode_28 0 rfl ?_
      refine V_get 29 B gf_RX12_9 0 rfl rfl dX12_addMode_29 ?_
      refine V_iconst 32 B (v := 0) dX12_addMode_32 (by decide +kernel) ?_
      refine V_iald 33 B (v := 1) 1 rfl (vpin _ _ (by decide +kernel)) dX12_addMode_33 rfl ?_
      refine V_bipush 34 B (v := 6) dX12_addMode_34 (by decide +kernel) ?_
      refine V_icmp_ne_t 36 B 42 dX12_addMode_36 (by decide) (by decide +kernel) ?_
      refine V_aload_n 42 B dX12_addMode_42 0 rfl ?_
      refine V_get 43 B gf_RX12_9 0 rfl rfl dX12_addMode_43 ?_
      refine V_bipush 46 B (v := 16) dX12_addMode_46 (by decide +kernel) ?_
      refine V_aload_n 48 B dX12_addMode_48 0 rfl ?_
      refine V_get 49 B gf_RX12_9 0 rfl rfl dX12_addMode_49 ?_
      refine V_iconst 52 B (v := 0) dX12_addMode_52 (by decide +kernel) ?_
      refine V_iald 53 B (v := 1) 1 rfl (vpin _ _ (by decide +kernel)) dX12_addMode_53 rfl ?_
      refine V_iadd 54 B (v := 17) dX12_addMode_54 (by decide +kernel) ?_
      refine V_iload_n 55 B dX12_addMode_55 1 rfl ?_
      refine V_iast 56 B 1 rfl (vpin _ _ (by decide +kernel)) dX12_addMode_56 [(h0, oC 13 [.ref h1, .ref g0, .int 0, .ref g1, .ref g2, .int 0, .int 0, .int 0, .int (-1), .int 0, .int 0, .int 0, .long 0, .ref g3, .ref g4, .int 0, .int 0]), (h1, aI Y 3640 (upd (clB 0 (fun _ => 0)) 17 0))] rfl ?_
      refine V_aload_n 57 B dX12_addMode_57 0 rfl ?_
      refine V_get 58 B gf_RX12_9 0 rfl rfl dX12_addMode_58 ?_
      refine V_iconst 61 B (v := 0) dX12_addMode_61 (by decide +kernel) ?_
      refine V_dup2_11 62 B dX12_addMode_62 rfl rfl ?_
      refine V_iald 63 B (v := 1) 1 rfl (vpin _ _ (by decide +kernel)) dX12_addMode_63 rfl ?_
      refine V_iconst 64 B (v := 1) dX12_addMode_64 (by decide +kernel) ?_
      refine V_iadd 65 B (v := 2) dX12_addMode_65 (by decide +kernel) ?_
      refine V_iast 66 B 1 rfl (vpin _ _ (by decide +kernel)) dX12_addMode_66 [(h0, oC 13 [.ref h1, .ref g0, .int 0, .ref g1, .ref g2, .int 0, .int 0, .int 0, .int (-1), .int 0, .int 0, .int 0, .long 0, .ref g3, .ref g4, .int 0, .int 0]), (h1, aI Y 3640 (upd (upd (clB 0 (fun _ => 0)) 17 0) 0 2))] rfl ?_
      refine V_aload_n 67 B dX12_addMode_67 0 rfl ?_
      refine V_get 68 B gf_RX12_9 0 rfl rfl dX12_addMode_68 ?_
      refine V_iconst 71 B (v := 0) dX12_addMode_71 (by decide +kernel) ?_
      refine V_iald 72 B (v := 2) 1 rfl (vpin _ _ (by decide +kernel)) dX12_addMode_72 rfl ?_
      refine V_iconst 73 B (v := 1) dX12_addMode_73 (by decide +kernel) ?_
      refine V_isub 74 B (v := 1) dX12_addMode_74 (by decide +kernel) ?_
      exact V_iret 75 B dX12_addMode_75 0 (Or.inl ⟨rfl, rfl, rfl⟩) rfl
    ·
      refine V_ws [(h0, oC 13 [.ref h1, .ref g0, .int 0, .ref g1, .ref g2, .int 0, .int 0, .int 0, .int (-1), .int 0, .int 0, .int 0, .long 0, .ref g3, .ref g4, .int 0, .int 0]), (h1, aI Y 3640 (clB 0 (fun _ => 0)))] rfl ?_
      refine V_if_ne_f 11 B 18 dX12_addMode_11 (by decide) (by decide +kernel) ?_
      refine V_iconst 14 B (v := 1) dX12_addMode_14 (by decide +kernel) ?_
      refine V_goto 15 B 19 dX12_addMode_15 (by decide) ?_
      refine V_iconst 19 B (v := 1) dX12_addMode_19 (by decide +kernel) ?_
      refine V_cvi 20 B (st := []) (As := [.int 1, .int 1]) (fun sz => mX12_throwsIf_1 l D Y (h0) (h1) (g0) (g1) (g2) (g3) (g4) sz) glV_RX12_69 ⟨rfl, rfl⟩ ⟨(Nat.le_of_ble_eq_true rfl), (Nat.le_of_ble_eq_true rfl)⟩ ⟨(Nat.le_of_ble_eq_true rfl), (Nat.le_of_ble_eq_true rfl)⟩ [0] rfl 13 0 rfl rfl rfl rfl (Nat.le_of_ble_eq_true rfl) rfl (fun _ _ _ => rfl) dX12_addMode_20 (fun r5 u5 w5 => ?_)
      obtain rfl := w5
      refine V_ws [(h0, oC 13 [.ref h1, .ref g0, .int 1, .ref g1, .ref g2, .int 0, .int 0, .int 0, .int (-1), .int 0, .int 0, .int 0, .long 0, .ref g3, .ref g4, .int 0, .int 0]), (h1, aI Y 3640 (clB 0 (fun _ => 0)))] rfl ?_
      refine V_if_eq_f 23 B 28 dX12_addMode_23 (by decide) (by decide +kernel) ?_
      refine V_iconst 26 B (v := 0) dX12_addMode_26 (by decide +kernel) ?_
      exact V_iret 27 B dX12_addMode_27 1 (Or.inr (Or.inl ⟨rfl, k2, rfl⟩)) rfl
    ·
      refine V_ws [(h0, oC 13 [.ref h1, .ref g0, .int 0, .ref g1, .ref g2, .int 0, .int 0, .int 0, .int (-1), .int 0, .int 0, .int 0, .long 0, .ref g3, .ref g4, .int 0, .int 0]), (h1, aI Y 3640 (clB 0 (fun _ => 0)))] rfl ?_
      refine V_if_ne_f 11 B 18 dX12_addMode_11 (by decide) (by decide +kernel) ?_
      refine V_iconst 14 B (v := 1) dX12_addMode_14 (by decide +kernel) ?_
      refine V_goto 15 B 19 dX12_addMode_15 (by decide) ?_
      refine V_iconst 19 B (v := 1) dX12_addMode_19 (by decide +kernel) ?_
      refine V_cvi 20 B (st := []) (As := [.int 1, .int 1]) (fun sz => mX12_throwsIf_1 l D Y (h0) (h1) (g0) (g1) (g2) (g3) (g4) sz) glV_RX12_69 ⟨rfl, rfl⟩ ⟨(Nat.le_of_ble_eq_true rfl), (Nat.le_of_ble_eq_true rfl)⟩ ⟨(Nat.le_of_ble_eq_true rfl), (Nat.le_of_ble_eq_true rfl)⟩ [0] rfl 13 0 rfl rfl rfl rfl (Nat.le_of_ble_eq_true rfl) rfl (fun _ _ _ => rfl) dX12_addMode_20 (fun r6 u6 w6 => ?_)
      obtain rfl := w6
      refine V_ws [(h0, oC 13 [.ref h1, .ref g0, .int 1, .ref g1, .ref g2, .int 0, .int 0, .int 0, .int (-1), .int 0, .int 0, .int 0, .long 0, .ref g3, .ref g4, .int 0, .int 0]), (h1, aI Y 3640 (clB 0 (fun _ => 0)))] rfl ?_
      refine V_if_eq_f 23 B 28 dX12_addMode_23 (by decide) (by decide +kernel) ?_
      refine V_iconst 26 B (v := 0) dX12_addMode_26 (by decide +kernel) ?_
      exact V_iret 27 B dX12_addMode_27 2 (Or.inr (Or.inr ⟨rfl, k3, rfl⟩)) rfl)
theorem dX12_parentOf_0 : decode cX12_parentOf 0 = .ok (.aload_n 0, 1) := by decide +kernel
theorem dX12_parentOf_1 : decode cX12_parentOf 1 = .ok (.iconst 0, 1) := by decide +kernel
theorem dX12_parentOf_2 : decode cX12_parentOf 2 = .ok (.putfield 38, 3) := by decide +kernel
theorem dX12_parentOf_5 : decode cX12_parentOf 5 = .ok (.aload_n 0, 1) := by decide +kernel
theorem dX12_parentOf_6 : decode cX12_parentOf 6 = .ok (.aload_n 0, 1) := by decide +kernel
theorem dX12_parentOf_7 : decode cX12_parentOf 7 = .ok (.iload_n 1, 1) := by decide +kernel
theorem dX12_parentOf_8 : decode cX12_parentOf 8 = .ok (.invokevirtual 91, 3) := by decide +kernel
theorem dX12_parentOf_11 : decode cX12_parentOf 11 = .ok (.ifCond .ne 7, 3) := by decide +kernel
theorem dX12_parentOf_18 : decode cX12_parentOf 18 = .ok (.iconst 0, 1) := by decide +kernel
theorem dX12_parentOf_19 : decode cX12_parentOf 19 = .ok (.iconst 1, 1) := by decide +kernel
theorem dX12_parentOf_20 : decode cX12_parentOf 20 = .ok (.invokevirtual 69, 3) := by decide +kernel
theorem dX12_parentOf_23 : decode cX12_parentOf 23 = .ok (.ifCond .eq 7, 3) := by decide +kernel
theorem dX12_parentOf_30 : decode cX12_parentOf 30 = .ok (.aload_n 0, 1) := by decide +kernel
theorem dX12_parentOf_31 : decode cX12_parentOf 31 = .ok (.getfield 9, 3) := by decide +kernel
theorem dX12_parentOf_34 : decode cX12_parentOf 34 = .ok (.bipush 16, 2) := by decide +kernel
theorem dX12_parentOf_36 : decode cX12_parentOf 36 = .ok (.iload_n 1, 1) := by decide +kernel
theorem dX12_parentOf_37 : decode cX12_parentOf 37 = .ok (.iadd, 1) := by decide +kernel
theorem dX12_parentOf_38 : decode cX12_parentOf 38 = .ok (.iaload, 1) := by decide +kernel
theorem dX12_parentOf_39 : decode cX12_parentOf 39 = .ok (.ireturn, 1) := by decide +kernel
theorem dX12_parentOf_14 : decode cX12_parentOf 14 = .ok (.iconst 1, 1) := by decide +kernel
theorem dX12_parentOf_15 : decode cX12_parentOf 15 = .ok (.goto 4, 3) := by decide +kernel
theorem dX12_parentOf_26 : decode cX12_parentOf 26 = .ok (.iconst 0, 1) := by decide +kernel
theorem dX12_parentOf_27 : decode cX12_parentOf 27 = .ok (.goto 12, 3) := by decide +kernel
set_option maxRecDepth 100000 in
set_option maxHeartbeats 4000000 in
theorem mX12_parentOf_1 (l : Launch) (D : va_G) (Y : Nat → ClassId) (h0 : Nat) (h1 : Nat) (g0 : Nat) (g1 : Nat) (g2 : Nat) (g3 : Nat) (g4 : Nat) (p0 : Int32) (sz : Nat) : Met l yX12_parentOf (WSm yX12_parentOf cX12_parentOf 2 (some .int)) (mkR 2 0 0 46) (PreC D Y [.ref h0, .int p0] [(h0, oC 13 [.ref h1, .ref g0, .int 0, .ref g1, .ref g2, .int 0, .int 0, .int 0, .int (-1), .int 0, .int 0, .int 0, .long 0, .ref g3, .ref g4, .int 0, .int 0]), (h1, aI Y 3640 (clB 0 (fun _ => 0)))] sz) (QI D (fun (r : Int32) (u : Nat) => (u = 0 ∧ p0 = 0 ∧ (-1) = r) ∨ (u = 1 ∧ p0 < 0 ∧ 0 = r) ∨ (u = 2 ∧ 0 < p0 ∧ 0 = r)) (fun (u : Nat) => match u with | 0 => [(h0, oC 13 [.ref h1, .ref g0, .int 0, .ref g1, .ref g2, .int 0, .int 0, .int 0, .int (-1), .int 0, .int 0, .int 0, .long 0, .ref g3, .ref g4, .int 0, .int 0]), (h1, aI Y 3640 (clB 0 (fun _ => 0)))] | 1 => [(h0, oC 13 [.ref h1, .ref g0, .int 1, .ref g1, .ref g2, .int 0, .int 0, .int 0, .int (-1), .int 0, .int 0, .int 0, .long 0, .ref g3, .ref g4, .int 0, .int 0]), (h1, aI Y 3640 (clB 0 (fun _ => 0)))] | _ => [(h0, oC 13 [.ref h1, .ref g0, .int 1, .ref g1, .ref g2, .int 0, .int 0, .int 0, .int (-1), .int 0, .int 0, .int 0, .long 0, .ref g3, .ref g4, .int 0, .int 0]), (h1, aI Y 3640 (clB 0 (fun _ => 0)))]) (va_A [(h0, oC 13 [.ref h1, .ref g0, .int 0, .ref g1, .ref g2, .int 0, .int 0, .int 0, .int (-1), .int 0, .int 0, .int 0, .long 0, .ref g3, .ref g4, .int 0, .int 0]), (h1, aI Y 3640 (clB 0 (fun _ => 0)))] sz)) 0 0 (va_A [(h0, oC 13 [.ref h1, .ref g0, .int 0, .ref g1, .ref g2, .int 0, .int 0, .int 0, .int (-1), .int 0, .int 0, .int 0, .long 0, .ref g3, .ref g4, .int 0, .int 0]), (h1, aI Y 3640 (clB 0 (fun _ => 0)))] sz) :=
  met_of (by decide +kernel) (Nat.le_of_ble_eq_true rfl) (fun p e s m args below meth c B hin hsz => by
    have B : VB p s m args meth c D Y (va_A [(h0, oC 13 [.ref h1, .ref g0, .int 0, .ref g1, .ref g2, .int 0, .int 0, .int 0, .int (-1), .int 0, .int 0, .int 0, .long 0, .ref g3, .ref g4, .int 0, .int 0]), (h1, aI Y 3640 (clB 0 (fun _ => 0)))] sz) cX12_parentOf 2 RX12 (some .int) := B
    refine V_aload_n 0 B dX12_parentOf_0 0 rfl ?_
    refine V_iconst 1 B (v := 0) dX12_parentOf_1 (by decide +kernel) ?_
    refine V_put 2 B gp_RX12_38 0 rfl (Nat.le_of_ble_eq_true rfl) rfl rfl dX12_parentOf_2 [(h0, oC 13 [.ref h1, .ref g0, .int 0, .ref g1, .ref g2, .int 0, .int 0, .int 0, .int (-1), .int 0, .int 0, .int 0, .long 0, .ref g3, .ref g4, .int 0, .int 0]), (h1, aI Y 3640 (clB 0 (fun _ => 0)))] rfl ?_
    refine V_aload_n 5 B dX12_parentOf_5 0 rfl ?_
    refine V_aload_n 6 B dX12_parentOf_6 0 rfl ?_
    refine V_iload_n 7 B dX12_parentOf_7 1 rfl ?_
    refine V_cvi 8 B (st := [.ref h0]) (As := [.int p0]) (fun sz => mX12_isMode_1 l D Y (h0) (h1) (g0) (g1) (g2) (g3) (g4) (p0) sz) glV_RX12_91 ⟨rfl, rfl⟩ ⟨(Nat.le_of_ble_eq_true rfl), (Nat.le_of_ble_eq_true rfl)⟩ ⟨(Nat.le_of_ble_eq_true rfl), (Nat.le_of_ble_eq_true rfl)⟩ [0, 0] rfl 13 0 rfl rfl rfl rfl (Nat.le_of_ble_eq_true rfl) rfl (fun _ _ _ => rfl) dX12_parentOf_8 (fun r0 u0 w0 => ?_)
    rcases w0 with ⟨k1, rfl⟩ | ⟨k2, rfl⟩ | ⟨k3, rfl⟩
    ·
      refine V_ws [(h0, oC 13 [.ref h1, .ref g0, .int 0, .ref g1, .ref g2, .int 0, .int 0, .int 0, .int (-1), .int 0, .int 0, .int 0, .long 0, .ref g3, .ref g4, .int 0, .int 0]), (h1, aI Y 3640 (clB 0 (fun _ => 0)))] rfl ?_
      obtain rfl : p0 = 0 := k1
      refine V_if_ne_t 11 B 18 dX12_parentOf_11 (by decide) (by decide +kernel) ?_
      refine V_iconst 18 B (v := 0) dX12_parentOf_18 (by decide +kernel) ?_
      refine V_iconst 19 B (v := 1) dX12_parentOf_19 (by decide +kernel) ?_
      refine V_cvi 20 B (st := []) (As := [.int 0, .int 1]) (fun sz => mX12_throwsIf_2 l D Y (h0) (h1) (g0) (g1) (g2) (g3) (g4) sz) glV_RX12_69 ⟨rfl, rfl⟩ ⟨(Nat.le_of_ble_eq_true rfl), (Nat.le_of_ble_eq_true rfl)⟩ ⟨(Nat.le_of_ble_eq_true rfl), (Nat.le_of_ble_eq_true rfl)⟩ [0] rfl 13 0 rfl rfl rfl rfl (Nat.le_of_ble_eq_true rfl) rfl (fun _ _ _ => rfl) dX12_parentOf_20 (fun r4 u4 w4 => ?_)
      obtain rfl := w4
      refine V_ws [(h0, oC 13 [.ref h1, .ref g0, .int 0, .ref g1, .ref g2, .int 0, .int 0, .int 0, .int (-1), .int 0, .int 0, .int 0, .long 0, .ref g3, .ref g4, .int 0, .int 0]), (h1, aI Y 3640 (clB 0 (fun _ => 0)))] rfl ?_
      refine V_if_eq_t 23 B 30 dX12_parentOf_23 (by decide) (by decide +kernel) ?_
      refine V_aload_n 30 B dX12_parentOf_30 0 rfl ?_
      refine V_get 31 B gf_RX12_9 0 rfl rfl dX12_parentOf_31 ?_
      refine V_bipush 34 B (v := 16) dX12_parentOf_34 (by decide +kernel) ?_
      refine V_iload_n 36 B dX12_parentOf_36 1 rfl ?_
      refine V_iadd 37 B (v := 16) dX12_parentOf_37 (by decide +kernel) ?_
      refine V_iald 38 B (v := (-1)) 1 rfl (vpin _ _ (by decide +kernel)) dX12_parentOf_38 rfl ?_
      exact V_iret 39 B dX12_parentOf_39 0 (Or.inl ⟨rfl, rfl, rfl⟩) rfl
    ·
      refine V_ws [(h0, oC 13 [.ref h1, .ref g0, .int 0, .ref g1, .ref g2, .int 0, .int 0, .int 0, .int (-1), .int 0, .int 0, .int 0, .long 0, .ref g3, .ref g4, .int 0, .int 0]), (h1, aI Y 3640 (clB 0 (fun _ => 0)))] rfl ?_
      refine V_if_ne_f 11 B 18 dX12_parentOf_11 (by decide) (by decide +kernel) ?_
      refine V_iconst 14 B (v := 1) dX12_parentOf_14 (by decide +kernel) ?_
      refine V_goto 15 B 19 dX12_parentOf_15 (by decide) ?_
      refine V_iconst 19 B (v := 1) dX12_parentOf_19 (by decide +kernel) ?_
      refine V_cvi 20 B (st := []) (As := [.int 1, .int 1]) (fun sz => mX12_throwsIf_1 l D Y (h0) (h1) (g0) (g1) (g2) (g3) (g4) sz) glV_RX12_69 ⟨rfl, rfl⟩ ⟨(Nat.le_of_ble_eq_true rfl), (Nat.le_of_ble_eq_true rfl)⟩ ⟨(Nat.le_of_ble_eq_true rfl), (Nat.le_of_ble_eq_true rfl)⟩ [0] rfl 13 0 rfl rfl rfl rfl (Nat.le_of_ble_eq_true rfl) rfl (fun _ _ _ => rfl) dX12_parentOf_20 (fun r5 u5 w5 => ?_)
      obtain rfl := w5
      refine V_ws [(h0, oC 13 [.ref h1, .ref g0, .int 1, .ref g1, .ref g2, .int 0, .int 0, .int 0, .int (-1), .int 0, .int 0, .int 0, .long 0, .ref g3, .ref g4, .int 0, .int 0]), (h1, aI Y 3640 (clB 0 (fun _ => 0)))] rfl ?_
      refine V_if_eq_f 23 B 30 dX12_parentOf_23 (by decide) (by decide +kernel) ?_
      refine V_iconst 26 B (v := 0) dX12_parentOf_26 (by decide +kernel) ?_
      refine V_goto 27 B 39 dX12_parentOf_27 (by decide) ?_
      exact V_iret 39 B dX12_parentOf_39 1 (Or.inr (Or.inl ⟨rfl, k2, rfl⟩)) rfl
    ·
      refine V_ws [(h0, oC 13 [.ref h1, .ref g0, .int 0, .ref g1, .ref g2, .int 0, .int 0, .int 0, .int (-1), .int 0, .int 0, .int 0, .long 0, .ref g3, .ref g4, .int 0, .int 0]), (h1, aI Y 3640 (clB 0 (fun _ => 0)))] rfl ?_
      refine V_if_ne_f 11 B 18 dX12_parentOf_11 (by decide) (by decide +kernel) ?_
      refine V_iconst 14 B (v := 1) dX12_parentOf_14 (by decide +kernel) ?_
      refine V_goto 15 B 19 dX12_parentOf_15 (by decide) ?_
      refine V_iconst 19 B (v := 1) dX12_parentOf_19 (by decide +kernel) ?_
      refine V_cvi 20 B (st := []) (As := [.int 1, .int 1]) (fun sz => mX12_throwsIf_1 l D Y (h0) (h1) (g0) (g1) (g2) (g3) (g4) sz) glV_RX12_69 ⟨rfl, rfl⟩ ⟨(Nat.le_of_ble_eq_true rfl), (Nat.le_of_ble_eq_true rfl)⟩ ⟨(Nat.le_of_ble_eq_true rfl), (Nat.le_of_ble_eq_true rfl)⟩ [0] rfl 13 0 rfl rfl rfl rfl (Nat.le_of_ble_eq_true rfl) rfl (fun _ _ _ => rfl) dX12_parentOf_20 (fun r6 u6 w6 => ?_)
      obtain rfl := w6
      refine V_ws [(h0, oC 13 [.ref h1, .ref g0, .int 1, .ref g1, .ref g2, .int 0, .int 0, .int 0, .int (-1), .int 0, .int 0, .int 0, .long 0, .ref g3, .ref g4, .int 0, .int 0]), (h1, aI Y 3640 (clB 0 (fun _ => 0)))] rfl ?_
      refine V_if_eq_f 23 B 30 dX12_parentOf_23 (by decide) (by decide +kernel) ?_
      refine V_iconst 26 B (v := 0) dX12_parentOf_26 (by decide +kernel) ?_
      refine V_goto 27 B 39 dX12_parentOf_27 (by decide) ?_
      exact V_iret 39 B dX12_parentOf_39 2 (Or.inr (Or.inr ⟨rfl, k3, rfl⟩)) rfl)
