set_option maxRecDepth 100000 in
set_option maxHeartbeats 4000000 in
theorem mX12_throwsIf_3 (l : Launch) (D : va_G) (Y : Nat → ClassId) (h0 : Nat) (g0 : Nat) (g1 : Nat) (g2 : Nat) (g3 : Nat) (g4 : Nat) (g5 : Nat) (sz : Nat) : Met l yX12_throwsIf (WSm yX12_throwsIf cX12_throwsIf 3 (some .boolean)) (mkR 0 0 0 0) (PreC D Y [.ref h0, .int 0, .int 2] [(h0, oC 13 [.ref g0, .ref g1, .int 0, .ref g2, .ref g3, .int 0, .int 0, .int 0, .int (-1), .int 0, .int 0, .int 0, .long 0, .ref g4, .ref g5, .int 0, .int 0])] sz) (QI D (fun (r : Int32) (u : Unit) => 0 = r) (fun (_ : Unit) => [(h0, oC 13 [.ref g0, .ref g1, .int 0, .ref g2, .ref g3, .int 0, .int 0, .int 0, .int (-1), .int 0, .int 0, .int 0, .long 0, .ref g4, .ref g5, .int 0, .int 0])]) (va_A [(h0, oC 13 [.ref g0, .ref g1, .int 0, .ref g2, .ref g3, .int 0, .int 0, .int 0, .int (-1), .int 0, .int 0, .int 0, .long 0, .ref g4, .ref g5, .int 0, .int 0])] sz)) 0 0 (va_A [(h0, oC 13 [.ref g0, .ref g1, .int 0, .ref g2, .ref g3, .int 0, .int 0, .int 0, .int (-1), .int 0, .int 0, .int 0, .long 0, .ref g4, .ref g5, .int 0, .int 0])] sz) :=
  met_of (by decide +kernel) (Nat.le_of_ble_eq_true rfl) (fun p e s m args below meth c B hin hsz => by
    have B : VB p s m args meth c D Y (va_A [(h0, oC 13 [.ref g0, .ref g1, .int 0, .ref g2, .ref g3, .int 0, .int 0, .int 0, .int (-1), .int 0, .int 0, .int 0, .long 0, .ref g4, .ref g5, .int 0, .int 0])] sz) cX12_throwsIf 3 RX12 (some .boolean) := B
    refine V_iload_n 0 B dX12_throwsIf_0 1 rfl ?_
    refine V_if_eq_t 1 B 9 dX12_throwsIf_1 (by decide) (by decide +kernel) ?_
    refine V_iload_n 9 B dX12_throwsIf_9 1 rfl ?_
    exact V_zret 10 B rfl dX12_throwsIf_10 () rfl rfl)
set_option maxRecDepth 100000 in
set_option maxHeartbeats 4000000 in
theorem mX12_throwsIf_4 (l : Launch) (D : va_G) (Y : Nat → ClassId) (h0 : Nat) (g0 : Nat) (g1 : Nat) (g2 : Nat) (g3 : Nat) (g4 : Nat) (g5 : Nat) (sz : Nat) : Met l yX12_throwsIf (WSm yX12_throwsIf cX12_throwsIf 3 (some .boolean)) (mkR 0 0 0 0) (PreC D Y [.ref h0, .int 1, .int 2] [(h0, oC 13 [.ref g0, .ref g1, .int 0, .ref g2, .ref g3, .int 0, .int 0, .int 0, .int (-1), .int 0, .int 0, .int 0, .long 0, .ref g4, .ref g5, .int 0, .int 0])] sz) (QI D (fun (r : Int32) (u : Unit) => 1 = r) (fun (_ : Unit) => [(h0, oC 13 [.ref g0, .ref g1, .int 2, .ref g2, .ref g3, .int 0, .int 0, .int 0, .int (-1), .int 0, .int 0, .int 0, .long 0, .ref g4, .ref g5, .int 0, .int 0])]) (va_A [(h0, oC 13 [.ref g0, .ref g1, .int 0, .ref g2, .ref g3, .int 0, .int 0, .int 0, .int (-1), .int 0, .int 0, .int 0, .long 0, .ref g4, .ref g5, .int 0, .int 0])] sz)) 0 0 (va_A [(h0, oC 13 [.ref g0, .ref g1, .int 0, .ref g2, .ref g3, .int 0, .int 0, .int 0, .int (-1), .int 0, .int 0, .int 0, .long 0, .ref g4, .ref g5, .int 0, .int 0])] sz) :=
  met_of (by decide +kernel) (Nat.le_of_ble_eq_true rfl) (fun p e s m args below meth c B hin hsz => by
    have B : VB p s m args meth c D Y (va_A [(h0, oC 13 [.ref g0, .ref g1, .int 0, .ref g2, .ref g3, .int 0, .int 0, .int 0, .int (-1), .int 0, .int 0, .int 0, .long 0, .ref g4, .ref g5, .int 0, .int 0])] sz) cX12_throwsIf 3 RX12 (some .boolean) := B
    refine V_iload_n 0 B dX12_throwsIf_0 1 rfl ?_
    refine V_if_eq_f 1 B 9 dX12_throwsIf_1 (by decide) (by decide +kernel) ?_
    refine V_aload_n 4 B dX12_throwsIf_4 0 rfl ?_
    refine V_iload_n 5 B dX12_throwsIf_5 2 rfl ?_
    refine V_put 6 B gp_RX12_38 0 rfl (Nat.le_of_ble_eq_true rfl) rfl rfl dX12_throwsIf_6 [(h0, oC 13 [.ref g0, .ref g1, .int 2, .ref g2, .ref g3, .int 0, .int 0, .int 0, .int (-1), .int 0, .int 0, .int 0, .long 0, .ref g4, .ref g5, .int 0, .int 0])] rfl ?_
    refine V_iload_n 9 B dX12_throwsIf_9 1 rfl ?_
    exact V_zret 10 B rfl dX12_throwsIf_10 () rfl rfl)
theorem dX12_addCommand_0 : decode cX12_addCommand 0 = .ok (.aload_n 0, 1) := by decide +kernel
theorem dX12_addCommand_1 : decode cX12_addCommand 1 = .ok (.iconst 0, 1) := by decide +kernel
theorem dX12_addCommand_2 : decode cX12_addCommand 2 = .ok (.putfield 38, 3) := by decide +kernel
theorem dX12_addCommand_5 : decode cX12_addCommand 5 = .ok (.aload_n 0, 1) := by decide +kernel
theorem dX12_addCommand_6 : decode cX12_addCommand 6 = .ok (.iload_n 1, 1) := by decide +kernel
theorem dX12_addCommand_7 : decode cX12_addCommand 7 = .ok (.i2l, 1) := by decide +kernel
theorem dX12_addCommand_8 : decode cX12_addCommand 8 = .ok (.lconst 0, 1) := by decide +kernel
theorem dX12_addCommand_9 : decode cX12_addCommand 9 = .ok (.ldc2_w 94, 3) := by decide +kernel
theorem dX12_addCommand_12 : decode cX12_addCommand 12 = .ok (.invokestatic 41, 3) := by decide +kernel
theorem dX12_addCommand_15 : decode cX12_addCommand 15 = .ok (.ifCond .ne 7, 3) := by decide +kernel
theorem dX12_addCommand_22 : decode cX12_addCommand 22 = .ok (.iconst 0, 1) := by decide +kernel
theorem dX12_addCommand_23 : decode cX12_addCommand 23 = .ok (.iconst 1, 1) := by decide +kernel
theorem dX12_addCommand_24 : decode cX12_addCommand 24 = .ok (.invokevirtual 69, 3) := by decide +kernel
theorem dX12_addCommand_27 : decode cX12_addCommand 27 = .ok (.ifCond .ne 29, 3) := by decide +kernel
theorem dX12_addCommand_30 : decode cX12_addCommand 30 = .ok (.aload_n 0, 1) := by decide +kernel
theorem dX12_addCommand_31 : decode cX12_addCommand 31 = .ok (.iload_n 1, 1) := by decide +kernel
theorem dX12_addCommand_32 : decode cX12_addCommand 32 = .ok (.iconst 1, 1) := by decide +kernel
theorem dX12_addCommand_33 : decode cX12_addCommand 33 = .ok (.if_icmp .ne 15, 3) := by decide +kernel
theorem dX12_addCommand_48 : decode cX12_addCommand 48 = .ok (.iconst 0, 1) := by decide +kernel
theorem dX12_addCommand_49 : decode cX12_addCommand 49 = .ok (.iconst 2, 1) := by decide +kernel
theorem dX12_addCommand_50 : decode cX12_addCommand 50 = .ok (.invokevirtual 69, 3) := by decide +kernel
theorem dX12_addCommand_53 : decode cX12_addCommand 53 = .ok (.ifCond .eq 5, 3) := by decide +kernel
theorem dX12_addCommand_58 : decode cX12_addCommand 58 = .ok (.aload_n 0, 1) := by decide +kernel
theorem dX12_addCommand_59 : decode cX12_addCommand 59 = .ok (.getfield 9, 3) := by decide +kernel
theorem dX12_addCommand_62 : decode cX12_addCommand 62 = .ok (.iconst 1, 1) := by decide +kernel
theorem dX12_addCommand_63 : decode cX12_addCommand 63 = .ok (.iaload, 1) := by decide +kernel
theorem dX12_addCommand_64 : decode cX12_addCommand 64 = .ok (.bipush 40, 2) := by decide +kernel
theorem dX12_addCommand_66 : decode cX12_addCommand 66 = .ok (.if_icmp .ne 6, 3) := by decide +kernel
theorem dX12_addCommand_72 : decode cX12_addCommand 72 = .ok (.bipush 34, 2) := by decide +kernel
theorem dX12_addCommand_74 : decode cX12_addCommand 74 = .ok (.iconst 3, 1) := by decide +kernel
theorem dX12_addCommand_75 : decode cX12_addCommand 75 = .ok (.aload_n 0, 1) := by decide +kernel
theorem dX12_addCommand_76 : decode cX12_addCommand 76 = .ok (.getfield 9, 3) := by decide +kernel
theorem dX12_addCommand_79 : decode cX12_addCommand 79 = .ok (.iconst 1, 1) := by decide +kernel
theorem dX12_addCommand_80 : decode cX12_addCommand 80 = .ok (.iaload, 1) := by decide +kernel
theorem dX12_addCommand_81 : decode cX12_addCommand 81 = .ok (.imul, 1) := by decide +kernel
theorem dX12_addCommand_82 : decode cX12_addCommand 82 = .ok (.iadd, 1) := by decide +kernel
theorem dX12_addCommand_83 : decode cX12_addCommand 83 = .ok (.istore_n 3, 1) := by decide +kernel
theorem dX12_addCommand_84 : decode cX12_addCommand 84 = .ok (.aload_n 0, 1) := by decide +kernel
theorem dX12_addCommand_85 : decode cX12_addCommand 85 = .ok (.getfield 9, 3) := by decide +kernel
theorem dX12_addCommand_88 : decode cX12_addCommand 88 = .ok (.iload_n 3, 1) := by decide +kernel
theorem dX12_addCommand_89 : decode cX12_addCommand 89 = .ok (.iconst 0, 1) := by decide +kernel
theorem dX12_addCommand_90 : decode cX12_addCommand 90 = .ok (.iadd, 1) := by decide +kernel
theorem dX12_addCommand_91 : decode cX12_addCommand 91 = .ok (.iload_n 1, 1) := by decide +kernel
theorem dX12_addCommand_92 : decode cX12_addCommand 92 = .ok (.iastore, 1) := by decide +kernel
theorem dX12_addCommand_93 : decode cX12_addCommand 93 = .ok (.aload_n 0, 1) := by decide +kernel
theorem dX12_addCommand_94 : decode cX12_addCommand 94 = .ok (.getfield 9, 3) := by decide +kernel
theorem dX12_addCommand_97 : decode cX12_addCommand 97 = .ok (.iload_n 3, 1) := by decide +kernel
theorem dX12_addCommand_98 : decode cX12_addCommand 98 = .ok (.iconst 1, 1) := by decide +kernel
theorem dX12_addCommand_99 : decode cX12_addCommand 99 = .ok (.iadd, 1) := by decide +kernel
theorem dX12_addCommand_100 : decode cX12_addCommand 100 = .ok (.iload_n 1, 1) := by decide +kernel
theorem dX12_addCommand_101 : decode cX12_addCommand 101 = .ok (.iconst 1, 1) := by decide +kernel
theorem dX12_addCommand_102 : decode cX12_addCommand 102 = .ok (.if_icmp .ne 7, 3) := by decide +kernel
theorem dX12_addCommand_109 : decode cX12_addCommand 109 = .ok (.iconst (-1), 1) := by decide +kernel
theorem dX12_addCommand_110 : decode cX12_addCommand 110 = .ok (.iastore, 1) := by decide +kernel
theorem dX12_addCommand_111 : decode cX12_addCommand 111 = .ok (.aload_n 0, 1) := by decide +kernel
theorem dX12_addCommand_112 : decode cX12_addCommand 112 = .ok (.getfield 9, 3) := by decide +kernel
theorem dX12_addCommand_115 : decode cX12_addCommand 115 = .ok (.iload_n 3, 1) := by decide +kernel
theorem dX12_addCommand_116 : decode cX12_addCommand 116 = .ok (.iconst 2, 1) := by decide +kernel
theorem dX12_addCommand_117 : decode cX12_addCommand 117 = .ok (.iadd, 1) := by decide +kernel
theorem dX12_addCommand_118 : decode cX12_addCommand 118 = .ok (.iconst 0, 1) := by decide +kernel
theorem dX12_addCommand_119 : decode cX12_addCommand 119 = .ok (.iastore, 1) := by decide +kernel
theorem dX12_addCommand_120 : decode cX12_addCommand 120 = .ok (.aload_n 0, 1) := by decide +kernel
theorem dX12_addCommand_121 : decode cX12_addCommand 121 = .ok (.getfield 9, 3) := by decide +kernel
theorem dX12_addCommand_124 : decode cX12_addCommand 124 = .ok (.iconst 1, 1) := by decide +kernel
theorem dX12_addCommand_125 : decode cX12_addCommand 125 = .ok (.dup2, 1) := by decide +kernel
theorem dX12_addCommand_126 : decode cX12_addCommand 126 = .ok (.iaload, 1) := by decide +kernel
theorem dX12_addCommand_127 : decode cX12_addCommand 127 = .ok (.iconst 1, 1) := by decide +kernel
theorem dX12_addCommand_128 : decode cX12_addCommand 128 = .ok (.iadd, 1) := by decide +kernel
theorem dX12_addCommand_129 : decode cX12_addCommand 129 = .ok (.iastore, 1) := by decide +kernel
theorem dX12_addCommand_130 : decode cX12_addCommand 130 = .ok (.aload_n 0, 1) := by decide +kernel
theorem dX12_addCommand_131 : decode cX12_addCommand 131 = .ok (.getfield 9, 3) := by decide +kernel
theorem dX12_addCommand_134 : decode cX12_addCommand 134 = .ok (.iconst 1, 1) := by decide +kernel
theorem dX12_addCommand_135 : decode cX12_addCommand 135 = .ok (.iaload, 1) := by decide +kernel
theorem dX12_addCommand_136 : decode cX12_addCommand 136 = .ok (.iconst 1, 1) := by decide +kernel
theorem dX12_addCommand_137 : decode cX12_addCommand 137 = .ok (.isub, 1) := by decide +kernel
theorem dX12_addCommand_138 : decode cX12_addCommand 138 = .ok (.ireturn, 1) := by decide +kernel
theorem dX12_addCommand_36 : decode cX12_addCommand 36 = .ok (.aload_n 0, 1) := by decide +kernel
theorem dX12_addCommand_37 : decode cX12_addCommand 37 = .ok (.iload_n 2, 1) := by decide +kernel
theorem dX12_addCommand_38 : decode cX12_addCommand 38 = .ok (.invokevirtual 91, 3) := by decide +kernel
theorem dX12_addCommand_41 : decode cX12_addCommand 41 = .ok (.ifCond .ne 7, 3) := by decide +kernel
theorem dX12_addCommand_105 : decode cX12_addCommand 105 = .ok (.iload_n 2, 1) := by decide +kernel
theorem dX12_addCommand_106 : decode cX12_addCommand 106 = .ok (.goto 4, 3) := by decide +kernel
theorem dX12_addCommand_44 : decode cX12_addCommand 44 = .ok (.iconst 1, 1) := by decide +kernel
theorem dX12_addCommand_45 : decode cX12_addCommand 45 = .ok (.goto 4, 3) := by decide +kernel
theorem dX12_addCommand_56 : decode cX12_addCommand 56 = .ok (.iconst 0, 1) := by decide +kernel
theorem dX12_addCommand_57 : decode cX12_addCommand 57 = .ok (.ireturn, 1) := by decide +kernel
theorem dX12_addCommand_18 : decode cX12_addCommand 18 = .ok (.iconst 1, 1) := by decide +kernel
theorem dX12_addCommand_19 : decode cX12_addCommand 19 = .ok (.goto 4, 3) := by decide +kernel
set_option maxRecDepth 100000 in
set_option maxHeartbeats 4000000 in
theorem mX12_addCommand_1 (l : Launch) (D : va_G) (Y : Nat → ClassId) (h0 : Nat) (h1 : Nat) (g0 : Nat) (g1 : Nat) (g2 : Nat) (g3 : Nat) (g4 : Nat) (p0 : Int32) (p1 : Int32) (sz : Nat) : Met l yX12_addCommand (WSm yX12_addCommand cX12_addCommand 4 (some .int)) (mkR 2 0 0 46) (PreC D Y [.ref h0, .int p0, .int p1] [(h0, oC 13 [.ref h1, .ref g0, .int 0, .ref g1, .ref g2, .int 0, .int 0, .int 0, .int (-1), .int 0, .int 0, .int 0, .long 0, .ref g3, .ref g4, .int 0, .int 0]), (h1, aI Y 3640 (clB 0 (fun _ => 0)))] sz) (QI D (fun (r : Int32) (u : Nat) => (u = 0 ∧ ¬ p0 < 0 ∧ ¬ 2 < p0 ∧ ¬ p0 = 1 ∧ ¬ p0 = 1 ∧ 0 = r) ∨ (u = 1 ∧ p0 = 1 ∧ p1 = 0 ∧ 0 = r) ∨ (u = 2 ∧ p0 = 1 ∧ p1 < 0 ∧ 0 = r) ∨ (u = 3 ∧ p0 = 1 ∧ 0 < p1 ∧ 0 = r) ∨ (u = 4 ∧ p0 < 0 ∧ 0 = r) ∨ (u = 5 ∧ 2 < p0 ∧ 0 = r)) (fun (u : Nat) => match u with | 0 => [(h0, oC 13 [.ref h1, .ref g0, .int 0, .ref g1, .ref g2, .int 0, .int 0, .int 0, .int (-1), .int 0, .int 0, .int 0, .long 0, .ref g3, .ref g4, .int 0, .int 0]), (h1, aI Y 3640 (upd (upd (upd (upd (clB 0 (fun _ => 0)) 34 p0) 35 (-1)) 36 0) 1 1))] | 1 => [(h0, oC 13 [.ref h1, .ref g0, .int 0, .ref g1, .ref g2, .int 0, .int 0, .int 0, .int (-1), .int 0, .int 0, .int 0, .long 0, .ref g3, .ref g4, .int 0, .int 0]), (h1, aI Y 3640 (upd (upd (upd (upd (clB 0 (fun _ => 0)) 34 1) 35 0) 36 0) 1 1))] | 2 => [(h0, oC 13 [.ref h1, .ref g0, .int 2, .ref g1, .ref g2, .int 0, .int 0, .int 0, .int (-1), .int 0, .int 0, .int 0, .long 0, .ref g3, .ref g4, .int 0, .int 0]), (h1, aI Y 3640 (clB 0 (fun _ => 0)))] | 3 => [(h0, oC 13 [.ref h1, .ref g0, .int 2, .ref g1, .ref g2, .int 0, .int 0, .int 0, .int (-1), .int 0, .int 0, .int 0, .long 0, .ref g3, .ref g4, .int 0, .int 0]), (h1, aI Y 3640 (clB 0 (fun _ => 0)))] | 4 => [(h0, oC 13 [.ref h1, .ref g0, .int 1, .ref g1, .ref g2, .int 0, .int 0, .int 0, .int (-1), .int 0, .int 0, .int 0, .long 0, .ref g3, .ref g4, .int 0, .int 0]), (h1, aI Y 3640 (clB 0 (fun _ => 0)))] | _ => [(h0, oC 13 [.ref h1, .ref g0, .int 1, .ref g1, .ref g2, .int 0, .int 0, .int 0, .int (-1), .int 0, .int 0, .int 0, .long 0, .ref g3, .ref g4, .int 0, .int 0]), (h1, aI Y 3640 (clB 0 (fun _ => 0)))]) (va_A [(h0, oC 13 [.ref h1, .ref g0, .int 0, .ref g1, .ref g2, .int 0, .int 0, .int 0, .int (-1), .int 0, .int 0, .int 0, .long 0, .ref g3, .ref g4, .int 0, .int 0]), (h1, aI Y 3640 (clB 0 (fun _ => 0)))] sz)) 0 0 (va_A [(h0, oC 13 [.ref h1, .ref g0, .int 0, .ref g1, .ref g2, .int 0, .int 0, .int 0, .int (-1), .int 0, .int 0, .int 0, .long 0, .ref g3, .ref g4, .int 0, .int 0]), (h1, aI Y 3640 (clB 0 (fun _ => 0)))] sz) :=
  met_of (by decide +kernel) (Nat.le_of_ble_eq_true rfl) (fun p e s m args below meth c B hin hsz => by
    have B : VB p s m args meth c D Y (va_A [(h0, oC 13 [.ref h1, .ref g0, .int 0, .ref g1, .ref g2, .int 0, .int 0, .int 0, .int (-1), .int 0, .int 0, .int 0, .long 0, .ref g3, .ref g4, .int 0, .int 0]), (h1, aI Y 3640 (clB 0 (fun _ => 0)))] sz) cX12_addCommand 4 RX12 (some .int) := B
    refine V_aload_n 0 B dX12_addCommand_0 0 rfl ?_
    refine V_iconst 1 B (v := 0) dX12_addCommand_1 (by decide +kernel) ?_
    refine V_put 2 B gp_RX12_38 0 rfl (Nat.le_of_ble_eq_true rfl) rfl rfl dX12_addCommand_2 [(h0, oC 13 [.ref h1, .ref g0, .int 0, .ref g1, .ref g2, .int 0, .int 0, .int 0, .int (-1), .int 0, .int 0, .int 0, .long 0, .ref g3, .ref g4, .int 0, .int 0]), (h1, aI Y 3640 (clB 0 (fun _ => 0)))] rfl ?_
    refine V_aload_n 5 B dX12_addCommand_5 0 rfl ?_
    refine V_iload_n 6 B dX12_addCommand_6 1 rfl ?_
    refine V_i2l 7 B dX12_addCommand_7 rfl ?_
    refine V_lconst 8 B (v := 0) dX12_addCommand_8 (by decide +kernel) ?_
    refine V_ldc2 9 B (v := 2) dX12_addCommand_9 (mT8 45 rfl rfl) ?_
    refine V_csi 12 B (st := [.ref h0]) (As := [.long p0.toInt64, .long 0, .long 2]) (fun sz => mX12_inRange_m l D Y (p0) (0) (2) (0) (2) (by decide +kernel) (by decide +kernel) sz) glS_RX12_41 ⟨rfl, rfl⟩ ⟨(Nat.le_of_ble_eq_true rfl), (Nat.le_of_ble_eq_true rfl)⟩ ⟨(Nat.le_of_ble_eq_true rfl), (Nat.le_of_ble_eq_true rfl)⟩ [] rfl rfl (Nat.le_of_ble_eq_true rfl) rfl (fun _ _ _ => rfl) dX12_addCommand_12 (fun r0 u0 w0 => ?_)
    rcases w0 with ⟨k1, k2, rfl⟩ | ⟨k3, rfl⟩ | ⟨k4, rfl⟩
    ·
      refine V_ws [(h0, oC 13 [.ref h1, .ref g0, .int 0, .ref g1, .ref g2, .int 0, .int 0, .int 0, .int (-1), .int 0, .int 0, .int 0, .long 0, .ref g3, .ref g4, .int 0, .int 0]), (h1, aI Y 3640 (clB 0 (fun _ => 0)))] rfl ?_
      refine V_if_ne_t 15 B 22 dX12_addCommand_15 (by decide) (by decide +kernel) ?_
      refine V_iconst 22 B (v := 0) dX12_addCommand_22 (by decide +kernel) ?_
      refine V_iconst 23 B (v := 1) dX12_addCommand_23 (by decide +kernel) ?_
      refine V_cvi 24 B (st := []) (As := [.int 0, .int 1]) (fun sz => mX12_throwsIf_2 l D Y (h0) (h1) (g0) (g1) (g2) (g3) (g4) sz) glV_RX12_69 ⟨rfl, rfl⟩ ⟨(Nat.le_of_ble_eq_true rfl), (Nat.le_of_ble_eq_true rfl)⟩ ⟨(Nat.le_of_ble_eq_true rfl), (Nat.le_of_ble_eq_true rfl)⟩ [0] rfl 13 0 rfl rfl rfl rfl (Nat.le_of_ble_eq_true rfl) rfl (fun _ _ _ => rfl) dX12_addCommand_24 (fun r5 u5 w5 => ?_)
      obtain rfl := w5
      refine V_ws [(h0, oC 13 [.ref h1, .ref g0, .int 0, .ref g1, .ref g2, .int 0, .int 0, .int 0, .int (-1), .int 0, .int 0, .int 0, .long 0, .ref g3, .ref g4, .int 0, .int 0]), (h1, aI Y 3640 (clB 0 (fun _ => 0)))] rfl ?_
      refine V_if_ne_f 27 B 56 dX12_addCommand_27 (by decide) (by decide +kernel) ?_
      refine V_aload_n 30 B dX12_addCommand_30 0 rfl ?_
      refine V_iload_n 31 B dX12_addCommand_31 1 rfl ?_
      refine V_iconst 32 B (v := 1) dX12_addCommand_32 (by decide +kernel) ?_
      refine V_icmp_ne 33 B 48 dX12_addCommand_33 (by decide) (fun k6 => ?_) (fun k6 => ?_)
      ·
        refine V_iconst 48 B (v := 0) dX12_addCommand_48 (by decide +kernel) ?_
        refine V_iconst 49 B (v := 2) dX12_addCommand_49 (by decide +kernel) ?_
        refine V_cvi 50 B (st := []) (As := [.int 0, .int 2]) (fun sz => mX12_throwsIf_3 l D Y (h0) (h1) (g0) (g1) (g2) (g3) (g4) sz) glV_RX12_69 ⟨rfl, rfl⟩ ⟨(Nat.le_of_ble_eq_true rfl), (Nat.le_of_ble_eq_true rfl)⟩ ⟨(Nat.le_of_ble_eq_true rfl), (Nat.le_of_ble_eq_true rfl)⟩ [0] rfl 13 0 rfl rfl rfl rfl (Nat.le_of_ble_eq_true rfl) rfl (fun _ _ _ => rfl) dX12_addCommand_50 (fun r7 u7 w7 => ?_)
        obtain rfl := w7
        refine V_ws [(h0, oC 13 [.ref h1, .ref g0, .int 0, .ref g1, .ref g2, .int 0, .int 0, .int 0, .int (-1), .int 0, .int 0, .int 0, .long 0, .ref g3, .ref g4, .int 0, .int 0]), (h1, aI Y 3640 (clB 0 (fun _ => 0)))] rfl ?_
        refine V_if_eq_t 53 B 58 dX12_addCommand_53 (by decide) (by decide +kernel) ?_
        refine V_aload_n 58 B dX12_addCommand_58 0 rfl ?_
        refine V_get 59 B gf_RX12_9 0 rfl rfl dX12_addCommand_59 ?_
        refine V_iconst 62 B (v := 1) dX12_addCommand_62 (by decide +kernel) ?_
        refine V_iald 63 B (v := 0) 1 rfl (vpin _ _ (by decide +kernel)) dX12_addCommand_63 rfl ?_
        refine V_bipush 64 B (v := 40) dX12_addCommand_64 (by decide +kernel) ?_
        refine V_icmp_ne_t 66 B 72 dX12_addCommand_66 (by decide) (by decide +kernel) ?_
        refine V_bipush 72 B (v := 34) dX12_addCommand_72 (by decide +kernel) ?_
        refine V_iconst 74 B (v := 3) dX12_addCommand_74 (by decide +kernel) ?_
        refine V_aload_n 75 B dX12_addCommand_75 0 rfl ?_
        refine V_get 76 B gf_RX12_9 0 rfl rfl dX12_addCommand_76 ?_
        refine V_iconst 79 B (v := 1) dX12_addCommand_79 (by decide +kernel) ?_
        refine V_iald 80 B (v := 0) 1 rfl (vpin _ _ (by decide +kernel)) dX12_addCommand_80 rfl ?_
        refine V_imul 81 B (v := 0) dX12_addCommand_81 (by decide +kernel) ?_
        refine V_iadd 82 B (v := 34) dX12_addCommand_82 (by decide +kernel) ?_
        refine V_istore_n 83 B (lv2 := [(3, .int 34), (0, .ref h0), (1, .int p0), (2, .int p1)]) dX12_addCommand_83 (by decide) rfl ?_
        refine V_aload_n 84 B dX12_addCommand_84 1 rfl ?_
        refine V_get 85 B gf_RX12_9 0 rfl rfl dX12_addCommand_85 ?_
        refine V_iload_n 88 B dX12_addCommand_88 0 rfl ?_
        refine V_iconst 89 B (v := 0) dX12_addCommand_89 (by decide +kernel) ?_
        refine V_iadd 90 B (v := 34) dX12_addCommand_90 (by decide +kernel) ?_
        refine V_iload_n 91 B dX12_addCommand_91 2 rfl ?_
        refine V_iast 92 B 1 rfl (vpin _ _ (by decide +kernel)) dX12_addCommand_92 [(h0, oC 13 [.ref h1, .ref g0, .int 0, .ref g1, .ref g2, .int 0, .int 0, .int 0, .int (-1), .int 0, .int 0, .int 0, .long 0, .ref g3, .ref g4, .int 0, .int 0]), (h1, aI Y 3640 (upd (clB 0 (fun _ => 0)) 34 p0))] rfl ?_
        refine V_aload_n 93 B dX12_addCommand_93 1 rfl ?_
        refine V_get 94 B gf_RX12_9 0 rfl rfl dX12_addCommand_94 ?_
        refine V_iload_n 97 B dX12_addCommand_97 0 rfl ?_
        refine V_iconst 98 B (v := 1) dX12_addCommand_98 (by decide +kernel) ?_
        refine V_iadd 99 B (v := 35) dX12_addCommand_99 (by decide +kernel) ?_
        refine V_iload_n 100 B dX12_addCommand_100 2 rfl ?_
        refine V_iconst 101 B (v := 1) dX12_addCommand_101 (by decide +kernel) ?_
        refine V_icmp_ne 102 B 109 dX12_addCommand_102 (by decide) (fun k8 => ?_) (fun k8 => ?_)
        ·
          refine V_iconst 109 B (v := (-1)) dX12_addCommand_109 (by decide +kernel) ?_
          refine V_iast 110 B 1 rfl (vpin _ _ (by decide +kernel)) dX12_addCommand_110 [(h0, oC 13 [.ref h1, .ref g0, .int 0, .ref g1, .ref g2, .int 0, .int 0, .int 0, .int (-1), .int 0, .int 0, .int 0, .long 0, .ref g3, .ref g4, .int 0, .int 0]), (h1, aI Y 3640 (upd (upd (clB 0 (fun _ => 0)) 34 p0) 35 (-1)))] rfl ?_
          refine V_aload_n 111 B dX12_addCommand_111 1 rfl ?_
          refine V_get 112 B gf_RX12_9 0 rfl rfl dX12_addCommand_112 ?_
          refine V_iload_n 115 B dX12_addCommand_115 0 rfl ?_
          refine V_iconst 116 B (v := 2) dX12_addCommand_116 (by decide +kernel) ?_
          refine V_iadd 117 B (v := 36) dX12_addCommand_117 (by decide +kernel) ?_
          refine V_iconst 118 B (v := 0) dX12_addCommand_118 (by decide +kernel) ?_
          refine V_iast 119 B 1 rfl (vpin _ _ (by decide +kernel)) dX12_addCommand_119 [(h0, oC 13 [.ref h1, .ref g0, .int 0, .ref g1, .ref g2, .int 0, .int 0, .int 0, .int (-1), .int 0, .int 0, .int 0, .long 0, .ref g3, .ref g4, .int 0, .int 0]), (h1, aI Y 3640 (upd (upd (upd (clB 0 (fun _ => 0)) 34 p0) 35 (-1)) 36 0))] rfl ?_
          refine V_aload_n 120 B dX12_addCommand_120 1 rfl ?_
          refine V_get 121 B gf_RX12_9 0 rfl rfl dX12_addCommand_121 ?_
          refine V_iconst 124 B (v := 1) dX12_addCommand_124 (by decide +kernel) ?_
          refine V_dup2_11 125 B dX12_addCommand_125 rfl rfl ?_
          refine V_iald 126 B (v := 0) 1 rfl (vpin _ _ (by decide +kernel)) dX12_addCommand_126 rfl ?_
          refine V_iconst 127 B (v := 1) dX12_addCommand_127 (by decide +kernel) ?_
          refine V_iadd 128 B (v := 1) dX12_addCommand_128 (by decide +kernel) ?_
          refine V_iast 129 B 1 rfl (vpin _ _ (by decide +kernel)) dX12_addCommand_129 [(h0, oC 13 [.ref h1, .ref g0, .int 0, .ref g1, .ref g2, .int 0, .int 0, .int 0, .int (-1), .int 0, .int 0, .int 0, .long 0, .ref g3, .ref g4, .int 0, .int 0]), (h1, aI Y 3640 (upd (upd (upd (upd (clB 0 (fun _ => 0)) 34 p0) 35 (-1)) 36 0) 1 1))] rfl ?_
          refine V_aload_n 130 B dX12_addCommand_130 1 rfl ?_
          refine V_get 131 B gf_RX12_9 0 rfl rfl dX12_addCommand_131 ?_
          refine V_iconst 134 B (v := 1) dX12_addCommand_134 (by decide +kernel) ?_
          refine V_iald 135 B (v := 1) 1 rfl (vpin _ _ (by decide +kernel)) dX12_addCommand_135 rfl ?_
          refine V_iconst 136 B (v := 1) dX12_addCommand_136 (by decide +kernel) ?_
          refine V_isub 137 B (v := 0) dX12_addCommand_137 (by decide +kernel) ?_
          exact V_iret 138 B dX12_addCommand_138 0 (Or.inl ⟨rfl, k1, k2, k6, k8, rfl⟩) rfl
        ·
          exact absurd k8 k6
      ·
        obtain rfl : p0 = 1 := k6
        refine V_aload_n 36 B dX12_addCommand_36 0 rfl ?_
        refine V_iload_n 37 B dX12_addCommand_37 2 rfl ?_
        refine V_cvi 38 B (st := [.ref h0]) (As := [.int p1]) (fun sz => mX12_isMode_1 l D Y (h0) (h1) (g0) (g1) (g2) (g3) (g4) (p1) sz) glV_RX12_91 ⟨rfl, rfl⟩ ⟨(Nat.le_of_ble_eq_true rfl), (Nat.le_of_ble_eq_true rfl)⟩ ⟨(Nat.le_of_ble_eq_true rfl), (Nat.le_of_ble_eq_true rfl)⟩ [0, 0] rfl 13 0 rfl rfl rfl rfl (Nat.le_of_ble_eq_true rfl) rfl (fun _ _ _ => rfl) dX12_addCommand_38 (fun r9 u9 w9 => ?_)
        rcases w9 with ⟨k10, rfl⟩ | ⟨k11, rfl⟩ | ⟨k12, rfl⟩
        ·
          refine V_ws [(h0, oC 13 [.ref h1, .ref g0, .int 0, .ref g1, .ref g2, .int 0, .int 0, .int 0, .int (-1), .int 0, .int 0, .int 0, .long 0, .ref g3, .ref g4, .int 0, .int 0]), (h1, aI Y 3640 (clB 0 (fun _ => 0)))] rfl ?_
          obtain rfl : p1 = 0 := k10
          refine V_if_ne_t 41 B 48 dX12_addCommand_41 (by decide) (by decide +kernel) ?_
          refine V_iconst 48 B (v := 0) dX12_addCommand_48 (by decide +kernel) ?_
          refine V_iconst 49 B (v := 2) dX12_addCommand_49 (by decide +kernel) ?_
          refine V_cvi 50 B (st := []) (As := [.int 0, .int 2]) (fun sz => mX12_throwsIf_3 l D Y (h0) (h1) (g0) (g1) (g2) (g3) (g4) sz) glV_RX12_69 ⟨rfl, rfl⟩ ⟨(Nat.le_of_ble_eq_true rfl), (Nat.le_of_ble_eq_true rfl)⟩ ⟨(Nat.le_of_ble_eq_true rfl), (Nat.le_of_ble_eq_true rfl)⟩ [0] rfl 13 0 rfl rfl rfl rfl (Nat.le_of_ble_eq_true rfl) rfl (fun _ _ _ => rfl) dX12_addCommand_50 (fun r13 u13 w13 => ?_)
          obtain rfl := w13
          refine V_ws [(h0, oC 13 [.ref h1, .ref g0, .int 0, .ref g1, .ref g2, .int 0, .int 0, .int 0, .int (-1), .int 0, .int 0, .int 0, .long 0, .ref g3, .ref g4, .int 0, .int 0]), (h1, aI Y 3640 (clB 0 (fun _ => 0)))] rfl ?_
          refine V_if_eq_t 53 B 58 dX12_addCommand_53 (by decide) (by decide +kernel) ?_
          refine V_aload_n 58 B dX12_addCommand_58 0 rfl ?_
          refine V_get 59 B gf_RX12_9 0 rfl rfl dX12_addCommand_59 ?_
          refine V_iconst 62 B (v := 1) dX12_addCommand_62 (by decide +kernel) ?_
          refine V_iald 63 B (v := 0) 1 rfl (vpin _ _ (by decide +kernel)) dX12_addCommand_63 rfl ?_
          refine V_bipush 64 B (v := 40) dX12_addCommand_64 (by decide +kernel) ?_
          refine V_icmp_ne_t 66 B 72 dX12_addCommand_66 (by decide) (by decide +kernel) ?_
          refine V_bipush 72 B (v := 34) dX12_addCommand_72 (by decide +kernel) ?_
          refine V_iconst 74 B (v := 3) dX12_addCommand_74 (by decide +kernel) ?_
          refine V_aload_n 75 B dX12_addCommand_75 0 rfl ?_
          refine V_get 76 B gf_RX12_9 0 rfl rfl dX12_addCommand_76 ?_
          refine V_iconst 79 B (v := 1) dX12_addCommand_79 (by decide +kernel) ?_
          refine V_iald 80 B (v := 0) 1 rfl (vpin _ _ (by decide +kernel)) dX12_addCommand_80 rfl ?_
          refine V_imul 81 B (v := 0) dX12_addCommand_81 (by decide +kernel) ?_
          refine V_iadd 82 B (v := 34) dX12_addCommand_82 (by decide +kernel) ?_
          refine V_istore_n 83 B (lv2 := [(3, .int 34), (0, .ref h0), (1, .int 1), (2, .int 0)]) dX12_addCommand_83 (by decide) rfl ?_
          refine V_aload_n 84 B dX12_addCommand_84 1 rfl ?_
          refine V_get 85 B gf_RX12_9 0 rfl rfl dX12_addCommand_85 ?_
          refine V_iload_n 88 B dX12_addCommand_88 0 rfl ?_
          refine V_iconst 89 B (v := 0) dX12_addCommand_89 (by decide +kernel) ?_
          refine V_iadd 90 B (v := 34) dX12_addCommand_90 (by decide +kernel) ?_
          refine V_iload_n 91 B dX12_addCommand_91 2 rfl ?_
          refine V_iast 92 B 1 rfl (vpin _ _ (by decide +kernel)) dX12_addCommand_92 [(h0, oC 13 [.ref h1, .ref g0, .int 0, .ref g1, .ref g2, .int 0, .int 0, .int 0, .int (-1), .int 0, .int 0, .int 0, .long 0, .ref g3, .ref g4, .int 0, .int 0]), (h1, aI Y 3640 (upd (clB 0 (fun _ => 0)) 34 1))] rfl ?_
          refine V_aload_n 93 B dX12_addCommand_93 1 rfl ?_
          refine V_get 94 B gf_RX12_9 0 rfl rfl dX12_addCommand_94 ?_
          refine V_iload_n 97 B dX12_addCommand_97 0 rfl ?_
          refine V_iconst 98 B (v := 1) dX12_addCommand_98 (by decide +kernel) ?_
          refine V_iadd 99 B (v := 35) dX12_addCommand_99 (by decide +kernel) ?_
          refine V_iload_n 100 B dX12_addCommand_100 2 rfl ?_
          refine V_iconst 101 B (v := 1) dX12_addCommand_101 (by decide +kernel) ?_
          refine V_icmp_ne_f 102 B 109 dX12_addCommand_102 (by decide) (by decide +kernel) ?_
          refine V_iload_n 105 B dX12_addCommand_105 3 rfl ?_
          refine V_goto 106 B 110 dX12_addCommand_106 (by decide) ?_
          refine V_iast 110 B 1 rfl (vpin _ _ (by decide +kernel)) dX12_addCommand_110 [(h0, oC 13 [.ref h1, .ref g0, .int 0, .ref g1, .ref g2, .int 0, .int 0, .int 0, .int (-1), .int 0, .int 0, .int 0, .long 0, .ref g3, .ref g4, .int 0, .int 0]), (h1, aI Y 3640 (upd (upd (clB 0 (fun _ => 0)) 34 1) 35 0))] rfl ?_
          refine V_aload_n 111 B dX12_addCommand_111 1 rfl ?_
          refine V_get 112 B gf_RX12_9 0 rfl rfl dX12_addCommand_112 ?_
          refine V_iload_n 115 B dX12_addCommand_115 0 rfl ?_
          refine V_iconst 116 B (v := 2) dX12_addCommand_116 (by decide +kernel) ?_
          refine V_iadd 117 B (v := 36) dX12_addCommand_117 (by decide +kernel) ?_
          refine V_iconst 118 B (v := 0) dX12_addCommand_118 (by decide +kernel) ?_
          refine V_iast 119 B 1 rfl (vpin _ _ (by decide +kernel)) dX12_addCommand_119 [(h0, oC 13 [.ref h1, .ref g0, .int 0, .ref g1, .ref g2, .int 0, .int 0, .int 0, .int (-1), .int 0, .int 0, .int 0, .long 0, .ref g3, .ref g4, .int 0, .int 0]), (h1, aI Y 3640 (upd (upd (upd (clB 0 (fun _ => 0)) 34 1) 35 0) 36 0))] rfl ?_
          refine V_aload_n 120 B dX12_addCommand_120 1 rfl ?_
          refine V_get 121 B gf_RX12_9 0 rfl rfl dX12_addCommand_121 ?_
          refine V_iconst 124 B (v := 1) dX12_addCommand_124 (by decide +kernel) ?_
          refine V_dup2_11 125 B dX12_addCommand_125 rfl rfl ?_
          refine V_iald 126 B (v := 0) 1 rfl (vpin _ _ (by decide +kernel)) dX12_addCommand_126 rfl ?_
          refine V_iconst 127 B (v := 1) dX12_addCommand_127 (by decide +kernel) ?_
          refine V_iadd 128 B (v := 1) dX12_addCommand_128 (by decide +kernel) ?_
          refine V_iast 129 B 1 rfl (vpin _ _ (by decide +kernel)) dX12_addCommand_129 [(h0, oC 13 [.ref h1, .ref g0, .int 0, .ref g1, .ref g2, .int 0, .int 0, .int 0, .int (-1), .int 0, .int 0, .int 0, .long 0, .ref g3, .ref g4, .int 0, .int 0]), (h1, aI Y 3640 (upd (upd (upd (upd (clB 0 (fun _ => 0)) 34 1) 35 0) 36 0) 1 1))] rfl ?_
          refine V_aload_n 130 B dX12_addCommand_130 1 rfl ?_
          refine V_get 131 B gf_RX12_9 0 rfl rfl dX12_addCommand_131 ?_
          refine V_iconst 134 B (v := 1) dX12_addCommand_134 (by decide +kernel) ?_
          refine V_iald 135 B (v := 1) 1 rfl (vpin _ _ (by decide +kernel)) dX12_addCommand_135 rfl ?_
          refine V_iconst 136 B (v := 1) dX12_addCommand_136 (by decide +kernel) ?_
          refine V_isub 137 B (v := 0) dX12_addCommand_137 (by decide +kernel) ?_
          exact V_iret 138 B dX12_addCommand_138 1 (Or.inr (Or.inl ⟨rfl, rfl, rfl, rfl⟩)) rfl
        ·
          refine V_ws [(h0, oC 13 [.ref h1, .ref g0, .int 0, .ref g1, .ref g2, .int 0, .int 0, .int 0, .int (-1), .int 0, .int 0, .int 0, .long 0, .ref g3, .ref g4, .int 0, .int 0]), (h1, aI Y 3640 (clB 0 (fun _ => 0)))] rfl ?_
          refine V_if_ne_f 41 B 48 dX12_addCommand_41 (by decide) (by decide +kernel) ?_
          refine V_iconst 44 B (v := 1) dX12_addCommand_44 (by decide +kernel) ?_
          refine V_goto 45 B 49 dX12_addCommand_45 (by decide) ?_
          refine V_iconst 49 B (v := 2) dX12_addCommand_49 (by decide +kernel) ?_
          refine V_cvi 50 B (st := []) (As := [.int 1, .int 2]) (fun sz => mX12_throwsIf_4 l D Y (h0) (h1) (g0) (g1) (g2) (g3) (g4) sz) glV_RX12_69 ⟨rfl, rfl⟩ ⟨(Nat.le_of_ble_eq_true rfl), (Nat.le_of_ble_eq_true rfl)⟩ ⟨(Nat.le_of_ble_eq_true rfl), (Nat.le_of_ble_eq_true rfl)⟩ [0] rfl 13 0 rfl rfl rfl rfl (Nat.le_of_ble_eq_true rfl) rfl (fun _ _ _ => rfl) dX12_addCommand_50 (fun r14 u14 w14 => ?_)
          obtain rfl := w14
          refine V_ws [(h0, oC 13 [.ref h1, .ref g0, .int 2, .ref g1, .ref g2, .int 0, .int 0, .int 0, .int (-1), .int 0, .int 0, .int 0, .long 0, .ref g3, .ref g4, .int 0, .int 0]), (h1, aI Y 3640 (clB 0 (fun _ => 0)))] rfl ?_
          refine V_if_eq_f 53 B 58 dX12_addCommand_53 (by decide) (by decide +kernel) ?_
          refine V_iconst 56 B (v := 0) dX12_addCommand_56 (by decide +kernel) ?_
          exact V_iret 57 B dX12_addCommand_57 2 (Or.inr (Or.inr (Or.inl ⟨rfl, rfl, k11, rfl⟩))) rfl
        ·
          refine V_ws [(h0, oC 13 [.ref h1, .ref g0, .int 0, .ref g1, .ref g2, .int 0, .int 0, .int 0, .int (-1), .int 0, .int 0, .int 0, .long 0, .ref g3, .ref g4, .int 0, .int 0]), (h1, aI Y 3640 (clB 0 (fun _ => 0)))] rfl ?_
          refine V_if_ne_f 41 B 48 dX12_addCommand_41 (by decide) (by decide +kernel) ?_
          refine V_iconst 44 B (v := 1) dX12_addCommand_44 (by decide +kernel) ?_
          refine V_goto 45 B 49 dX12_addCommand_45 (by decide) ?_
          refine V_iconst 49 B (v := 2) dX12_addCommand_49 (by decide +kernel) ?_
          refine V_cvi 50 B (st := []) (As := [.int 1, .int 2]) (fun sz => mX12_throwsIf_4 l D Y (h0) (h1) (g0) (g1) (g2) (g3) (g4) sz) glV_RX12_69 ⟨rfl, rfl⟩ ⟨(Nat.le_of_ble_eq_true rfl), (Nat.le_of_ble_eq_true rfl)⟩ ⟨(Nat.le_of_ble_eq_true rfl), (Nat.le_of_ble_eq_true rfl)⟩ [0] rfl 13 0 rfl rfl rfl rfl (Nat.le_of_ble_eq_true rfl) rfl (fun _ _ _ => rfl) dX12_addCommand_50 (fun r15 u15 w15 => ?_)
          obtain rfl := w15
          refine V_ws [(h0, oC 13 [.ref h1, .ref g0, .int 2, .ref g1, .ref g2, .int 0, .int 0, .int 0, .int (-1), .int 0, .int 0, .int 0, .long 0, .ref g3, .ref g4, .int 0, .int 0]), (h1, aI Y 3640 (clB 0 (fun _ => 0)))] rfl ?_
          refine V_if_eq_f 53 B 58 dX12_addCommand_53 (by decide) (by decide +kernel) ?_
          refine V_iconst 56 B (v := 0) dX12_addCommand_56 (by decide +kernel) ?_
          exact V_iret 57 B dX12_addCommand_57 3 (Or.inr (Or.inr (Or.inr (Or.inl ⟨rfl, rfl, k12, rfl⟩)))) rfl
    ·
      refine V_ws [(h0, oC 13 [.ref h1, .ref g0, .int 0, .ref g1, .ref g2, .int 0, .int 0, .int 0, .int (-1), .int 0, .int 0, .int 0, .long 0, .ref g3, .ref g4, .int 0, .int 0]), (h1, aI Y 3640 (clB 0 (fun _ => 0)))] rfl ?_
      refine V_if_ne_f 15 B 22 dX12_addCommand_15 (by decide) (by decide +kernel) ?_
      refine V_iconst 18 B (v := 1) dX12_addCommand_18 (by decide +kernel) ?_
      refine V_goto 19 B 23 dX12_addCommand_19 (by decide) ?_
      refine V_iconst 23 B (v := 1) dX12_addCommand_23 (by decide +kernel) ?_
      refine V_cvi 24 B (st := []) (As := [.int 1, .int 1]) (fun sz => mX12_throwsIf_1 l D Y (h0) (h1) (g0) (g1) (g2) (g3) (g4) sz) glV_RX12_69 ⟨rfl, rfl⟩ ⟨(Nat.le_of_ble_eq_true rfl), (Nat.le_of_ble_eq_true rfl)⟩ ⟨(Nat.le_of_ble_eq_true rfl), (Nat.le_of_ble_eq_true rfl)⟩ [0] rfl 13 0 rfl rfl rfl rfl (Nat.le_of_ble_eq_true rfl) rfl (fun _ _ _ => rfl) dX12_addCommand_24 (fun r16 u16 w16 => ?_)
      obtain rfl := w16
      refine V_ws [(h0, oC 13 [.ref h1, .ref g0, .int 1, .ref g1, .ref g2, .int 0, .int 0, .int 0, .int (-1), .int 0, .int 0, .int 0, .long 0, .ref g3, .ref g4, .int 0, .int 0]), (h1, aI Y 3640 (clB 0 (fun _ => 0)))] rfl ?_
      refine V_if_ne_t 27 B 56 dX12_addCommand_27 (by decide) (by decide +kernel) ?_
      refine V_iconst 56 B (v := 0) dX12_addCommand_56 (by decide +kernel) ?_
      exact V_iret 57 B dX12_addCommand_57 4 (Or.inr (Or.inr (Or.inr (Or.inr (Or.inl ⟨rfl, k3, rfl⟩))))) rfl
    ·
      refine V_ws [(h0, oC 13 [.ref h1, .ref g0, .int 0, .ref g1, .ref g2, .int 0, .int 0, .int 0, .int (-1), .int 0, .int 0, .int 0, .long 0, .ref g3, .ref g4, .int 0, .int 0]), (h1, aI Y 3640 (clB 0 (fun _ => 0)))] rfl ?_
      refine V_if_ne_f 15 B 22 dX12_addCommand_15 (by decide) (by decide +kernel) ?_
      refine V_iconst 18 B (v := 1) dX12_addCommand_18 (by decide +kernel) ?_
      refine V_goto 19 B 23 dX12_addCommand_19 (by decide) ?_
      refine V_iconst 23 B (v := 1) dX12_addCommand_23 (by decide +kernel) ?_
      refine V_cvi 24 B (st := []) (As := [.int 1, .int 1]) (fun sz => mX12_throwsIf_1 l D Y (h0) (h1) (g0) (g1) (g2) (g3) (g4) sz) glV_RX12_69 ⟨rfl, rfl⟩ ⟨(Nat.le_of_ble_eq_true rfl), (Nat.le_of_ble_eq_true rfl)⟩ ⟨(Nat.le_of_ble_eq_true rfl), (Nat.le_of_ble_eq_true rfl)⟩ [0] rfl 13 0 rfl rfl rfl rfl (Nat.le_of_ble_eq_true rfl) rfl (fun _ _ _ => rfl) dX12_addCommand_24 (fun r17 u17 w17 => ?_)
      obtain rfl := w17
      refine V_ws [(h0, oC 13 [.ref h1, .ref g0, .int 1, .ref g1, .ref g2, .int 0, .int 0, .int 0, .int (-1), .int 0, .int 0, .int 0, .long 0, .ref g3, .ref g4, .int 0, .int 0]), (h1, aI Y 3640 (clB 0 (fun _ => 0)))] rfl ?_
      refine V_if_ne_t 27 B 56 dX12_addCommand_27 (by decide) (by decide +kernel) ?_
      refine V_iconst 56 B (v := 0) dX12_addCommand_56 (by decide +kernel) ?_
      exact V_iret 57 B dX12_addCommand_57 5 (Or.inr (Or.inr (Or.inr (Or.inr (Or.inr ⟨rfl, k4, rfl⟩))))) rfl)
theorem dX12_isCommand_0 : decode cX12_isCommand 0 = .ok (.iload_n 1, 1) := by decide +kernel
theorem dX12_isCommand_1 : decode cX12_isCommand 1 = .ok (.i2l, 1) := by decide +kernel
theorem dX12_isCommand_2 : decode cX12_isCommand 2 = .ok (.lconst 0, 1) := by decide +kernel
theorem dX12_isCommand_3 : decode cX12_isCommand 3 = .ok (.aload_n 0, 1) := by decide +kernel
theorem dX12_isCommand_4 : decode cX12_isCommand 4 = .ok (.getfield 9, 3) := by decide +kernel
theorem dX12_isCommand_7 : decode cX12_isCommand 7 = .ok (.iconst 1, 1) := by decide +kernel
theorem dX12_isCommand_8 : decode cX12_isCommand 8 = .ok (.iaload, 1) := by decide +kernel
theorem dX12_isCommand_9 : decode cX12_isCommand 9 = .ok (.iconst 1, 1) := by decide +kernel
theorem dX12_isCommand_10 : decode cX12_isCommand 10 = .ok (.isub, 1) := by decide +kernel
theorem dX12_isCommand_11 : decode cX12_isCommand 11 = .ok (.i2l, 1) := by decide +kernel
theorem dX12_isCommand_12 : decode cX12_isCommand 12 = .ok (.invokestatic 41, 3) := by decide +kernel
theorem dX12_isCommand_15 : decode cX12_isCommand 15 = .ok (.ireturn, 1) := by decide +kernel
set_option maxRecDepth 100000 in
set_option maxHeartbeats 4000000 in
theorem mX12_isCommand_1 (l : Launch) (D : va_G) (Y : Nat → ClassId) (h0 : Nat) (h1 : Nat) (g0 : Nat) (g1 : Nat) (g2 : Nat) (g3 : Nat) (g4 : Nat) (p0 : Int32) (sz : Nat) : Met l yX12_isCommand (WSm yX12_isCommand cX12_isCommand 2 (some .boolean)) (mkR 1 0 0 25) (PreC D Y [.ref h0, .int p0] [(h0, oC 13 [.ref h1, .ref g0, .int 0, .ref g1, .ref g2, .int 0, .int 0, .int 0, .int (-1), .int 0, .int 0, .int 0, .long 0, .ref g3, .ref g4, .int 0, .int 0]), (h1, aI Y 3640 (clB 0 (fun _ => 0)))] sz) (QI D (fun (r : Int32) (u : Unit) => (p0 < 0 ∧ 0 = r) ∨ ((-1) < p0 ∧ 0 = r)) (fun (_ : Unit) => [(h0, oC 13 [.ref h1, .ref g0, .int 0, .ref g1, .ref g2, .int 0, .int 0, .int 0, .int (-1), .int 0, .int 0, .int 0, .long 0, .ref g3, .ref g4, .int 0, .int 0]), (h1, aI Y 3640 (clB 0 (fun _ => 0)))]) (va_A [(h0, oC 13 [.ref h1, .ref g0, .int 0, .ref g1, .ref g2, .int 0, .int 0, .int 0, .int (-1), .int 0, .int 0, .int 0, .long 0, .ref g3, .ref g4, .int 0, .int 0]), (h1, aI Y 3640 (clB 0 (fun _ => 0)))] sz)) 0 0 (va_A [(h0, oC 13 [.ref h1, .ref g0, .int 0, .ref g1, .ref g2, .int 0, .int 0, .int 0, .int (-1), .int 0, .int 0, .int 0, .long 0, .ref g3, .ref g4, .int 0, .int 0]), (h1, aI Y 3640 (clB 0 (fun _ => 0)))] sz) :=
  met_of (by decide +kernel) (Nat.le_of_ble_eq_true rfl) (fun p e s m args below meth c B hin hsz => by
    have B : VB p s m args meth c D Y (va_A [(h0, oC 13 [.ref h1, .ref g0, .int 0, .ref g1, .ref g2, .int 0, .int 0, .int 0, .int (-1), .int 0, .int 0, .int 0, .long 0, .ref g3, .ref g4, .int 0, .int 0]), (h1, aI Y 3640 (clB 0 (fun _ => 0)))] sz) cX12_isCommand 2 RX12 (some .boolean) := B
    refine V_iload_n 0 B dX12_isCommand_0 1 rfl ?_
    refine V_i2l 1 B dX12_isCommand_1 rfl ?_
    refine V_lconst 2 B (v := 0) dX12_isCommand_2 (by decide +kernel) ?_
    refine V_aload_n 3 B dX12_isCommand_3 0 rfl ?_
    refine V_get 4 B gf_RX12_9 0 rfl rfl dX12_isCommand_4 ?_
    refine V_iconst 7 B (v := 1) dX12_isCommand_7 (by decide +kernel) ?_
    refine V_iald 8 B (v := 0) 1 rfl (vpin _ _ (by decide +kernel)) dX12_isCommand_8 rfl ?_
    refine V_iconst 9 B (v := 1) dX12_isCommand_9 (by decide +kernel) ?_
    refine V_isub 10 B (v := (-1)) dX12_isCommand_10 (by decide +kernel) ?_
    refine V_i2l 11 B (v := (-1)) dX12_isCommand_11 (by decide +kernel) ?_
    refine V_csi 12 B (st := []) (As := [.long p0.toInt64, .long 0, .long (-1)]) (fun sz => mX12_inRange_m l D Y (p0) (0) ((-1)) (0) ((-1)) (by decide +kernel) (by decide +kernel) sz) glS_RX12_41 ⟨rfl, rfl⟩ ⟨(Nat.le_of_ble_eq_true rfl), (Nat.le_of_ble_eq_true rfl)⟩ ⟨(Nat.le_of_ble_eq_true rfl), (Nat.le_of_ble_eq_true rfl)⟩ [] rfl rfl (Nat.le_of_ble_eq_true rfl) rfl (fun _ _ _ => rfl) dX12_isCommand_12 (fun r0 u0 w0 => ?_)
    rcases w0 with ⟨k1, k2, rfl⟩ | ⟨k3, rfl⟩ | ⟨k4, rfl⟩
    ·
      refine V_ws [(h0, oC 13 [.ref h1, .ref g0, .int 0, .ref g1, .ref g2, .int 0, .int 0, .int 0, .int (-1), .int 0, .int 0, .int 0, .long 0, .ref g3, .ref g4, .int 0, .int 0]), (h1, aI Y 3640 (clB 0 (fun _ => 0)))] rfl ?_
      exact (q_abs (b_nlt k1 (n := 0) (by decide +kernel)) (b_ngt k2 (n := (-1)) (by decide +kernel)) (by decide +kernel)).elim
    ·
      refine V_ws [(h0, oC 13 [.ref h1, .ref g0, .int 0, .ref g1, .ref g2, .int 0, .int 0, .int 0, .int (-1), .int 0, .int 0, .int 0, .long 0, .ref g3, .ref g4, .int 0, .int 0]), (h1, aI Y 3640 (clB 0 (fun _ => 0)))] rfl ?_
      exact V_zret 15 B rfl dX12_isCommand_15 () (Or.inl ⟨k3, rfl⟩) rfl
    ·
      refine V_ws [(h0, oC 13 [.ref h1, .ref g0, .int 0, .ref g1, .ref g2, .int 0, .int 0, .int 0, .int (-1), .int 0, .int 0, .int 0, .long 0, .ref g3, .ref g4, .int 0, .int 0]), (h1, aI Y 3640 (clB 0 (fun _ => 0)))] rfl ?_
      exact V_zret 15 B rfl dX12_isCommand_15 () (Or.inr ⟨k4, rfl⟩) rfl)
theorem dX12_command_0 : decode cX12_command 0 = .ok (.aload_n 0, 1) := by decide +kernel
theorem dX12_command_1 : decode cX12_command 1 = .ok (.iconst 0, 1) := by decide +kernel
theorem dX12_command_2 : decode cX12_command 2 = .ok (.putfield 38, 3) := by decide +kernel
theorem dX12_command_5 : decode cX12_command 5 = .ok (.aload_n 0, 1) := by decide +kernel
theorem dX12_command_6 : decode cX12_command 6 = .ok (.aload_n 0, 1) := by decide +kernel
theorem dX12_command_7 : decode cX12_command 7 = .ok (.iload_n 1, 1) := by decide +kernel
theorem dX12_command_8 : decode cX12_command 8 = .ok (.invokevirtual 99, 3) := by decide +kernel
theorem glV_RX12_99 : GLV RX12 99 yX12_isCommand RX12 cX12_isCommand 2 (some .boolean) 1 := ⟨⟨(mT8 50 rfl rfl), (mT8 52 rfl rfl), (mTs 35 rfl rfl), (mT1 13 rfl rfl), (mT8 53 rfl rfl)⟩, by decide +kernel⟩
theorem dX12_command_11 : decode cX12_command 11 = .ok (.ifCond .ne 7, 3) := by decide +kernel
theorem dX12_command_14 : decode cX12_command 14 = .ok (.iconst 1, 1) := by decide +kernel
theorem dX12_command_15 : decode cX12_command 15 = .ok (.goto 4, 3) := by decide +kernel
theorem dX12_command_19 : decode cX12_command 19 = .ok (.iconst 1, 1) := by decide +kernel
theorem dX12_command_20 : decode cX12_command 20 = .ok (.invokevirtual 69, 3) := by decide +kernel
theorem dX12_command_23 : decode cX12_command 23 = .ok (.ifCond .eq 5, 3) := by decide +kernel
theorem dX12_command_26 : decode cX12_command 26 = .ok (.iconst 0, 1) := by decide +kernel
theorem dX12_command_27 : decode cX12_command 27 = .ok (.ireturn, 1) := by decide +kernel
set_option maxRecDepth 100000 in
set_option maxHeartbeats 4000000 in
theorem mX12_command_1 (l : Launch) (D : va_G) (Y : Nat → ClassId) (h0 : Nat) (h1 : Nat) (g0 : Nat) (g1 : Nat) (g2 : Nat) (g3 : Nat) (g4 : Nat) (p0 : Int32) (p1 : Int32) (sz : Nat) : Met l yX12_command (WSm yX12_command cX12_command 3 (some .int)) (mkR 2 0 0 46) (PreC D Y [.ref h0, .int p0, .int p1] [(h0, oC 13 [.ref h1, .ref g0, .int 0, .ref g1, .ref g2, .int 0, .int 0, .int 0, .int (-1), .int 0, .int 0, .int 0, .long 0, .ref g3, .ref g4, .int 0, .int 0]), (h1, aI Y 3640 (clB 0 (fun _ => 0)))] sz) (QI D (fun (r : Int32) (u : Unit) => (p0 < 0 ∧ 0 = r) ∨ ((-1) < p0 ∧ 0 = r)) (fun (_ : Unit) => [(h0, oC 13 [.ref h1, .ref g0, .int 1, .ref g1, .ref g2, .int 0, .int 0, .int 0, .int (-1), .int 0, .int 0, .int 0, .long 0, .ref g3, .ref g4, .int 0, .int 0]), (h1, aI Y 3640 (clB 0 (fun _ => 0)))]) (va_A [(h0, oC 13 [.ref h1, .ref g0, .int 0, .ref g1, .ref g2, .int 0, .int 0, .int 0, .int (-1), .int 0, .int 0, .int 0, .long 0, .ref g3, .ref g4, .int 0, .int 0]), (h1, aI Y 3640 (clB 0 (fun _ => 0)))] sz)) 0 0 (va_A [(h0, oC 13 [.ref h1, .ref g0, .int 0, .ref g1, .ref g2, .int 0, .int 0, .int 0, .int (-1), .int 0, .int 0, .int 0, .long 0, .ref g3, .ref g4, .int 0, .int 0]), (h1, aI Y 3640 (clB 0 (fun _ => 0)))] sz) :=
  met_of (by decide +kernel) (Nat.le_of_ble_eq_true rfl) (fun p e s m args below meth c B hin hsz => by
    have B : VB p s m args meth c D Y (va_A [(h0, oC 13 [.ref h1, .ref g0, .int 0, .ref g1, .ref g2, .int 0, .int 0, .int 0, .int (-1), .int 0, .int 0, .int 0, .long 0, .ref g3, .ref g4, .int 0, .int 0]), (h1, aI Y 3640 (clB 0 (fun _ => 0)))] sz) cX12_command 3 RX12 (some .int) := B
    refine V_aload_n 0 B dX12_command_0 0 rfl ?_
    refine V_iconst 1 B (v := 0) dX12_command_1 (by decide +kernel) ?_
    refine V_put 2 B gp_RX12_38 0 rfl (Nat.le_of_ble_eq_true rfl) rfl rfl dX12_command_2 [(h0, oC 13 [.ref h1, .ref g0, .int 0, .ref g1, .ref g2, .int 0, .int 0, .int 0, .int (-1), .int 0, .int 0, .int 0, .long 0, .ref g3, .ref g4, .int 0, .int 0]), (h1, aI Y 3640 (clB 0 (fun _ => 0)))] rfl ?_
    refine V_aload_n 5 B dX12_command_5 0 rfl ?_
    refine V_aload_n 6 B dX12_command_6 0 rfl ?_
    refine V_iload_n 7 B dX12_command_7 1 rfl ?_
    refine V_cvi 8 B (st := [.ref h0]) (As := [.int p0]) (fun sz => mX12_isCommand_1 l D Y (h0) (h1) (g0) (g1) (g2) (g3) (g4) (p0) sz) glV_RX12_99 ⟨rfl, rfl⟩ ⟨(Nat.le_of_ble_eq_true rfl), (Nat.le_of_ble_eq_true rfl)⟩ ⟨(Nat.le_of_ble_eq_true rfl), (Nat.le_of_ble_eq_true rfl)⟩ [0, 0] rfl 13 0 rfl rfl rfl rfl (Nat.le_of_ble_eq_true rfl) rfl (fun _ _ _ => rfl) dX12_command_8 (fun r0 u0 w0 => ?_)
    rcases w0 with ⟨k1, rfl⟩ | ⟨k2, rfl⟩
    ·
      refine V_ws [(h0, oC 13 [.ref h1, .ref g0, .int 0, .ref g1, .ref g2, .int 0, .int 0, .int 0, .int (-1), .int 0, .int 0, .int 0, .long 0, .ref g3, .ref g4, .int 0, .int 0]), (h1, aI Y 3640 (clB 0 (fun _ => 0)))] rfl ?_
      refine V_if_ne_f 11 B 18 dX12_command_11 (by decide) (by decide +kernel) ?_
      refine V_iconst 14 B (v := 1) dX12_command_14 (by decide +kernel) ?_
      refine V_goto 15 B 19 dX12_command_15 (by decide) ?_
      refine V_iconst 19 B (v := 1) dX12_command_19 (by decide +kernel) ?_
      refine V_cvi 20 B (st := []) (As := [.int 1, .int 1]) (fun sz => mX12_throwsIf_1 l D Y (h0) (h1) (g0) (g1) (g2) (g3) (g4) sz) glV_RX12_69 ⟨rfl, rfl⟩ ⟨(Nat.le_of_ble_eq_true rfl), (Nat.le_of_ble_eq_true rfl)⟩ ⟨(Nat.le_of_ble_eq_true rfl), (Nat.le_of_ble_eq_true rfl)⟩ [0] rfl 13 0 rfl rfl rfl rfl (Nat.le_of_ble_eq_true rfl) rfl (fun _ _ _ => rfl) dX12_command_20 (fun r3 u3 w3 => ?_)
      obtain rfl := w3
      refine V_ws [(h0, oC 13 [.ref h1, .ref g0, .int 1, .ref g1, .ref g2, .int 0, .int 0, .int 0, .int (-1), .int 0, .int 0, .int 0, .long 0, .ref g3, .ref g4, .int 0, .int 0]), (h1, aI Y 3640 (clB 0 (fun _ => 0)))] rfl ?_
      refine V_if_eq_f 23 B 28 dX12_command_23 (by decide) (by decide +kernel) ?_
      refine V_iconst 26 B (v := 0) dX12_command_26 (by decide +kernel) ?_
      exact V_iret 27 B dX12_command_27 () (Or.inl ⟨k1, rfl⟩) rfl
    ·
      refine V_ws [(h0, oC 13 [.ref h1, .ref g0, .int 0, .ref g1, .ref g2, .int 0, .int 0, .int 0, .int (-1), .int 0, .int 0, .int 0, .long 0, .ref g3, .ref g4, .int 0, .int 0]), (h1, aI Y 3640 (clB 0 (fun _ => 0)))] rfl ?_
      refine V_if_ne_f 11 B 18 dX12_command_11 (by decide) (by decide +kernel) ?_
      refine V_iconst 14 B (v := 1) dX12_command_14 (by decide +kernel) ?_
      refine V_goto 15 B 19 dX12_command_15 (by decide) ?_
      refine V_iconst 19 B (v := 1) dX12_command_19 (by decide +kernel) ?_
      refine V_cvi 20 B (st := []) (As := [.int 1, .int 1]) (fun sz => mX12_throwsIf_1 l D Y (h0) (h1) (g0) (g1) (g2) (g3) (g4) sz) glV_RX12_69 ⟨rfl, rfl⟩ ⟨(Nat.le_of_ble_eq_true rfl), (Nat.le_of_ble_eq_true rfl)⟩ ⟨(Nat.le_of_ble_eq_true rfl), (Nat.le_of_ble_eq_true rfl)⟩ [0] rfl 13 0 rfl rfl rfl rfl (Nat.le_of_ble_eq_true rfl) rfl (fun _ _ _ => rfl) dX12_command_20 (fun r4 u4 w4 => ?_)
      obtain rfl := w4
      refine V_ws [(h0, oC 13 [.ref h1, .ref g0, .int 1, .ref g1, .ref g2, .int 0, .int 0, .int 0, .int (-1), .int 0, .int 0, .int 0, .long 0, .ref g3, .ref g4, .int 0, .int 0]), (h1, aI Y 3640 (clB 0 (fun _ => 0)))] rfl ?_
      refine V_if_eq_f 23 B 28 dX12_command_23 (by decide) (by decide +kernel) ?_
      refine V_iconst 26 B (v := 0) dX12_command_26 (by decide +kernel) ?_
      exact V_iret 27 B dX12_command_27 () (Or.inr ⟨k2, rfl⟩) rfl)
theorem dX12_hasNoDraft_0 : decode cX12_hasNoDraft 0 = .ok (.aload_n 0, 1) := by decide +kernel
theorem dX12_hasNoDraft_1 : decode cX12_hasNoDraft 1 = .ok (.getfield 9, 3) := by decide +kernel
theorem dX12_hasNoDraft_4 : decode cX12_hasNoDraft 4 = .ok (.sipush 3624, 3) := by decide +kernel
theorem dX12_hasNoDraft_7 : decode cX12_hasNoDraft 7 = .ok (.iaload, 1) := by decide +kernel
theorem dX12_hasNoDraft_8 : decode cX12_hasNoDraft 8 = .ok (.ifCond .ne 7, 3) := by decide +kernel
theorem dX12_hasNoDraft_11 : decode cX12_hasNoDraft 11 = .ok (.iconst 1, 1) := by decide +kernel
theorem dX12_hasNoDraft_12 : decode cX12_hasNoDraft 12 = .ok (.goto 4, 3) := by decide +kernel
theorem dX12_hasNoDraft_16 : decode cX12_hasNoDraft 16 = .ok (.ireturn, 1) := by decide +kernel
set_option maxRecDepth 100000 in
set_option maxHeartbeats 4000000 in
theorem mX12_hasNoDraft_1 (l : Launch) (D : va_G) (Y : Nat → ClassId) (h0 : Nat) (h1 : Nat) (g0 : Nat) (g1 : Nat) (g2 : Nat) (g3 : Nat) (g4 : Nat) (sz : Nat) : Met l yX12_hasNoDraft (WSm yX12_hasNoDraft cX12_hasNoDraft 1 (some .boolean)) (mkR 0 0 0 0) (PreC D Y [.ref h0] [(h0, oC 13 [.ref h1, .ref g0, .int 0, .ref g1, .ref g2, .int 0, .int 0, .int 0, .int (-1), .int 0, .int 0, .int 0, .long 0, .ref g3, .ref g4, .int 0, .int 0]), (h1, aI Y 3640 (clB 0 (fun _ => 0)))] sz) (QI D (fun (r : Int32) (u : Unit) => 1 = r) (fun (_ : Unit) => [(h0, oC 13 [.ref h1, .ref g0, .int 0, .ref g1, .ref g2, .int 0, .int 0, .int 0, .int (-1), .int 0, .int 0, .int 0, .long 0, .ref g3, .ref g4, .int 0, .int 0]), (h1, aI Y 3640 (clB 0 (fun _ => 0)))]) (va_A [(h0, oC 13 [.ref h1, .ref g0, .int 0, .ref g1, .ref g2, .int 0, .int 0, .int 0, .int (-1), .int 0, .int 0, .int 0, .long 0, .ref g3, .ref g4, .int 0, .int 0]), (h1, aI Y 3640 (clB 0 (fun _ => 0)))] sz)) 0 0 (va_A [(h0, oC 13 [.ref h1, .ref g0, .int 0, .ref g1, .ref g2, .int 0, .int 0, .int 0, .int (-1), .int 0, .int 0, .int 0, .long 0, .ref g3, .ref g4, .int 0, .int 0]), (h1, aI Y 3640 (clB 0 (fun _ => 0)))] sz) :=
  met_of (by decide +kernel) (Nat.le_of_ble_eq_true rfl) (fun p e s m args below meth c B hin hsz => by
    have B : VB p s m args meth c D Y (va_A [(h0, oC 13 [.ref h1, .ref g0, .int 0, .ref g1, .ref g2, .int 0, .int 0, .int 0, .int (-1), .int 0, .int 0, .int 0, .long 0, .ref g3, .ref g4, .int 0, .int 0]), (h1, aI Y 3640 (clB 0 (fun _ => 0)))] sz) cX12_hasNoDraft 1 RX12 (some .boolean) := B
    refine V_aload_n 0 B dX12_hasNoDraft_0 0 rfl ?_
    refine V_get 1 B gf_RX12_9 0 rfl rfl dX12_hasNoDraft_1 ?_
    refine V_sipush 4 B (v := 3624) dX12_hasNoDraft_4 (by decide +kernel) ?_
    refine V_iald 7 B (v := 0) 1 rfl (vpin _ _ (by decide +kernel)) dX12_hasNoDraft_7 rfl ?_
    refine V_if_ne_f 8 B 15 dX12_hasNoDraft_8 (by decide) (by decide +kernel) ?_
    refine V_iconst 11 B (v := 1) dX12_hasNoDraft_11 (by decide +kernel) ?_
    refine V_goto 12 B 16 dX12_hasNoDraft_12 (by decide) ?_
    exact V_zret 16 B rfl dX12_hasNoDraft_16 () rfl rfl)
theorem dX12_reserve_0 : decode cX12_reserve 0 = .ok (.aload_n 0, 1) := by decide +kernel
theorem dX12_reserve_1 : decode cX12_reserve 1 = .ok (.iconst 0, 1) := by decide +kernel
theorem dX12_reserve_2 : decode cX12_reserve 2 = .ok (.putfield 38, 3) := by decide +kernel
theorem dX12_reserve_5 : decode cX12_reserve 5 = .ok (.aload_n 0, 1) := by decide +kernel
theorem dX12_reserve_6 : decode cX12_reserve 6 = .ok (.invokevirtual 125, 3) := by decide +kernel
theorem glV_RX12_125 : GLV RX12 125 yX12_hasNoDraft RX12 cX12_hasNoDraft 1 (some .boolean) 0 := ⟨⟨(mT8 70 rfl rfl), (mT8 72 rfl rfl), (mTs 39 rfl rfl), (mT1 13 rfl rfl), (mT8 73 rfl rfl)⟩, by decide +kernel⟩
theorem dX12_reserve_9 : decode cX12_reserve 9 = .ok (.ifCond .eq 6, 3) := by decide +kernel
theorem dX12_reserve_12 : decode cX12_reserve 12 = .ok (.bipush (-4), 2) := by decide +kernel
theorem dX12_reserve_14 : decode cX12_reserve 14 = .ok (.ireturn, 1) := by decide +kernel
set_option maxRecDepth 100000 in
set_option maxHeartbeats 4000000 in
theorem mX12_reserve_1 (l : Launch) (D : va_G) (Y : Nat → ClassId) (h0 : Nat) (h1 : Nat) (g0 : Nat) (g1 : Nat) (g2 : Nat) (g3 : Nat) (g4 : Nat) (sz : Nat) : Met l yX12_reserve (WSm yX12_reserve cX12_reserve 1 (some .int)) (mkR 1 0 0 20) (PreC D Y [.ref h0] [(h0, oC 13 [.ref h1, .ref g0, .int 0, .ref g1, .ref g2, .int 0, .int 0, .int 0, .int (-1), .int 0, .int 0, .int 0, .long 0, .ref g3, .ref g4, .int 0, .int 0]), (h1, aI Y 3640 (clB 0 (fun _ => 0)))] sz) (QI D (fun (r : Int32) (u : Unit) => (-4) = r) (fun (_ : Unit) => [(h0, oC 13 [.ref h1, .ref g0, .int 0, .ref g1, .ref g2, .int 0, .int 0, .int 0, .int (-1), .int 0, .int 0, .int 0, .long 0, .ref g3, .ref g4, .int 0, .int 0]), (h1, aI Y 3640 (clB 0 (fun _ => 0)))]) (va_A [(h0, oC 13 [.ref h1, .ref g0, .int 0, .ref g1, .ref g2, .int 0, .int 0, .int 0, .int (-1), .int 0, .int 0, .int 0, .long 0, .ref g3, .ref g4, .int 0, .int 0]), (h1, aI Y 3640 (clB 0 (fun _ => 0)))] sz)) 0 0 (va_A [(h0, oC 13 [.ref h1, .ref g0, .int 0, .ref g1, .ref g2, .int 0, .int 0, .int 0, .int (-1), .int 0, .int 0, .int 0, .long 0, .ref g3, .ref g4, .int 0, .int 0]), (h1, aI Y 3640 (clB 0 (fun _ => 0)))] sz) :=
  met_of (by decide +kernel) (Nat.le_of_ble_eq_true rfl) (fun p e s m args below meth c B hin hsz => by
    have B : VB p s m args meth c D Y (va_A [(h0, oC 13 [.ref h1, .ref g0, .int 0, .ref g1, .ref g2, .int 0, .int 0, .int 0, .int (-1), .int 0, .int 0, .int 0, .long 0, .ref g3, .ref g4, .int 0, .int 0]), (h1, aI Y 3640 (clB 0 (fun _ => 0)))] sz) cX12_reserve 1 RX12 (some .int) := B
    refine V_aload_n 0 B dX12_reserve_0 0 rfl ?_
    refine V_iconst 1 B (v := 0) dX12_reserve_1 (by decide +kernel) ?_
    refine V_put 2 B gp_RX12_38 0 rfl (Nat.le_of_ble_eq_true rfl) rfl rfl dX12_reserve_2 [(h0, oC 13 [.ref h1, .ref g0, .int 0, .ref g1, .ref g2, .int 0, .int 0, .int 0, .int (-1), .int 0, .int 0, .int 0, .long 0, .ref g3, .ref g4, .int 0, .int 0]), (h1, aI Y 3640 (clB 0 (fun _ => 0)))] rfl ?_
    refine V_aload_n 5 B dX12_reserve_5 0 rfl ?_
    refine V_cvi 6 B (st := []) (As := []) (fun sz => mX12_hasNoDraft_1 l D Y (h0) (h1) (g0) (g1) (g2) (g3) (g4) sz) glV_RX12_125 ⟨rfl, rfl⟩ ⟨(Nat.le_of_ble_eq_true rfl), (Nat.le_of_ble_eq_true rfl)⟩ ⟨(Nat.le_of_ble_eq_true rfl), (Nat.le_of_ble_eq_true rfl)⟩ [0, 0] rfl 13 0 rfl rfl rfl rfl (Nat.le_of_ble_eq_true rfl) rfl (fun _ _ _ => rfl) dX12_reserve_6 (fun r0 u0 w0 => ?_)
    obtain rfl := w0
    refine V_ws [(h0, oC 13 [.ref h1, .ref g0, .int 0, .ref g1, .ref g2, .int 0, .int 0, .int 0, .int (-1), .int 0, .int 0, .int 0, .long 0, .ref g3, .ref g4, .int 0, .int 0]), (h1, aI Y 3640 (clB 0 (fun _ => 0)))] rfl ?_
    refine V_if_eq_f 9 B 15 dX12_reserve_9 (by decide) (by decide +kernel) ?_
    refine V_bipush 12 B (v := (-4)) dX12_reserve_12 (by decide +kernel) ?_
    exact V_iret 14 B dX12_reserve_14 () rfl rfl)
theorem dX12_reservedStroke_0 : decode cX12_reservedStroke 0 = .ok (.aload_n 0, 1) := by decide +kernel
theorem dX12_reservedStroke_1 : decode cX12_reservedStroke 1 = .ok (.iconst 0, 1) := by decide +kernel
theorem dX12_reservedStroke_2 : decode cX12_reservedStroke 2 = .ok (.putfield 38, 3) := by decide +kernel
theorem dX12_reservedStroke_5 : decode cX12_reservedStroke 5 = .ok (.aload_n 0, 1) := by decide +kernel
theorem dX12_reservedStroke_6 : decode cX12_reservedStroke 6 = .ok (.iload_n 1, 1) := by decide +kernel
theorem dX12_reservedStroke_7 : decode cX12_reservedStroke 7 = .ok (.i2l, 1) := by decide +kernel
theorem dX12_reservedStroke_8 : decode cX12_reservedStroke 8 = .ok (.lconst 0, 1) := by decide +kernel
theorem dX12_reservedStroke_9 : decode cX12_reservedStroke 9 = .ok (.aload_n 0, 1) := by decide +kernel
theorem dX12_reservedStroke_10 : decode cX12_reservedStroke 10 = .ok (.getfield 9, 3) := by decide +kernel
theorem dX12_reservedStroke_13 : decode cX12_reservedStroke 13 = .ok (.iconst 2, 1) := by decide +kernel
theorem dX12_reservedStroke_14 : decode cX12_reservedStroke 14 = .ok (.iaload, 1) := by decide +kernel
theorem dX12_reservedStroke_15 : decode cX12_reservedStroke 15 = .ok (.iconst 1, 1) := by decide +kernel
theorem dX12_reservedStroke_16 : decode cX12_reservedStroke 16 = .ok (.isub, 1) := by decide +kernel
theorem dX12_reservedStroke_17 : decode cX12_reservedStroke 17 = .ok (.i2l, 1) := by decide +kernel
theorem dX12_reservedStroke_18 : decode cX12_reservedStroke 18 = .ok (.invokestatic 41, 3) := by decide +kernel
theorem dX12_reservedStroke_21 : decode cX12_reservedStroke 21 = .ok (.ifCond .ne 7, 3) := by decide +kernel
theorem dX12_reservedStroke_24 : decode cX12_reservedStroke 24 = .ok (.iconst 1, 1) := by decide +kernel
theorem dX12_reservedStroke_25 : decode cX12_reservedStroke 25 = .ok (.goto 4, 3) := by decide +kernel
theorem dX12_reservedStroke_29 : decode cX12_reservedStroke 29 = .ok (.iconst 1, 1) := by decide +kernel
theorem dX12_reservedStroke_30 : decode cX12_reservedStroke 30 = .ok (.invokevirtual 69, 3) := by decide +kernel
theorem dX12_reservedStroke_33 : decode cX12_reservedStroke 33 = .ok (.ifCond .eq 7, 3) := by decide +kernel
theorem dX12_reservedStroke_36 : decode cX12_reservedStroke 36 = .ok (.iconst 0, 1) := by decide +kernel
theorem dX12_reservedStroke_37 : decode cX12_reservedStroke 37 = .ok (.goto 12, 3) := by decide +kernel
theorem dX12_reservedStroke_49 : decode cX12_reservedStroke 49 = .ok (.ireturn, 1) := by decide +kernel
set_option maxRecDepth 100000 in
set_option maxHeartbeats 4000000 in
theorem mX12_reservedStroke_1 (l : Launch) (D : va_G) (Y : Nat → ClassId) (h0 : Nat) (h1 : Nat) (g0 : Nat) (g1 : Nat) (g2 : Nat) (g3 : Nat) (g4 : Nat) (p0 : Int32) (p1 : Int32) (sz : Nat) : Met l yX12_reservedStroke (WSm yX12_reservedStroke cX12_reservedStroke 3 (some .int)) (mkR 1 0 0 25) (PreC D Y [.ref h0, .int p0, .int p1] [(h0, oC 13 [.ref h1, .ref g0, .int 0, .ref g1, .ref g2, .int 0, .int 0, .int 0, .int (-1), .int 0, .int 0, .int 0, .long 0, .ref g3, .ref g4, .int 0, .int 0]), (h1, aI Y 3640 (clB 0 (fun _ => 0)))] sz) (QI D (fun (r : Int32) (u : Unit) => (p0 < 0 ∧ 0 = r) ∨ ((-1) < p0 ∧ 0 = r)) (fun (_ : Unit) => [(h0, oC 13 [.ref h1, .ref g0, .int 1, .ref g1, .ref g2, .int 0, .int 0, .int 0, .int (-1), .int 0, .int 0, .int 0, .long 0, .ref g3, .ref g4, .int 0, .int 0]), (h1, aI Y 3640 (clB 0 (fun _ => 0)))]) (va_A [(h0, oC 13 [.ref h1, .ref g0, .int 0, .ref g1, .ref g2, .int 0, .int 0, .int 0, .int (-1), .int 0, .int 0, .int 0, .long 0, .ref g3, .ref g4, .int 0, .int 0]), (h1, aI Y 3640 (clB 0 (fun _ => 0)))] sz)) 0 0 (va_A [(h0, oC 13 [.ref h1, .ref g0, .int 0, .ref g1, .ref g2, .int 0, .int 0, .int 0, .int (-1), .int 0, .int 0, .int 0, .long 0, .ref g3, .ref g4, .int 0, .int 0]), (h1, aI Y 3640 (clB 0 (fun _ => 0)))] sz) :=
  met_of (by decide +kernel) (Nat.le_of_ble_eq_true rfl) (fun p e s m args below meth c B hin hsz => by
    have B : VB p s m args meth c D Y (va_A [(h0, oC 13 [.ref h1, .ref g0, .int 0, .ref g1, .ref g2, .int 0, .int 0, .int 0, .int (-1), .int 0, .int 0, .int 0, .long 0, .ref g3, .ref g4, .int 0, .int 0]), (h1, aI Y 3640 (clB 0 (fun _ => 0)))] sz) cX12_reservedStroke 3 RX12 (some .int) := B
    refine V_aload_n 0 B dX12_reservedStroke_0 0 rfl ?_
    refine V_iconst 1 B (v := 0) dX12_reservedStroke_1 (by decide +kernel) ?_
    refine V_put 2 B gp_RX12_38 0 rfl (Nat.le_of_ble_eq_true rfl) rfl rfl dX12_reservedStroke_2 [(h0, oC 13 [.ref h1, .ref g0, .int 0, .ref g1, .ref g2, .int 0, .int 0, .int 0, .int (-1), .int 0, .int 0, .int 0, .long 0, .ref g3, .ref g4, .int 0, .int 0]), (h1, aI Y 3640 (clB 0 (fun _ => 0)))] rfl ?_
    refine V_aload_n 5 B dX12_reservedStroke_5 0 rfl ?_
    refine V_iload_n 6 B dX12_reservedStroke_6 1 rfl ?_
    refine V_i2l 7 B dX12_reservedStroke_7 rfl ?_
    refine V_lconst 8 B (v := 0) dX12_reservedStroke_8 (by decide +kernel) ?_
    refine V_aload_n 9 B dX12_reservedStroke_9 0 rfl ?_
    refine V_get 10 B gf_RX12_9 0 rfl rfl dX12_reservedStroke_10 ?_
    refine V_iconst 13 B (v := 2) dX12_reservedStroke_13 (by decide +kernel) ?_
    refine V_iald 14 B (v := 0) 1 rfl (vpin _ _ (by decide +kernel)) dX12_reservedStroke_14 rfl ?_
    refine V_iconst 15 B (v := 1) dX12_reservedStroke_15 (by decide +kernel) ?_
    refine V_isub 16 B (v := (-1)) dX12_reservedStroke_16 (by decide +kernel) ?_
    refine V_i2l 17 B (v := (-1)) dX12_reservedStroke_17 (by decide +kernel) ?_
    refine V_csi 18 B (st := [.ref h0]) (As := [.long p0.toInt64, .long 0, .long (-1)]) (fun sz => mX12_inRange_m l D Y (p0) (0) ((-1)) (0) ((-1)) (by decide +kernel) (by decide +kernel) sz) glS_RX12_41 ⟨rfl, rfl⟩ ⟨(Nat.le_of_ble_eq_true rfl), (Nat.le_of_ble_eq_true rfl)⟩ ⟨(Nat.le_of_ble_eq_true rfl), (Nat.le_of_ble_eq_true rfl)⟩ [] rfl rfl (Nat.le_of_ble_eq_true rfl) rfl (fun _ _ _ => rfl) dX12_reservedStroke_18 (fun r0 u0 w0 => ?_)
    rcases w0 with ⟨k1, k2, rfl⟩ | ⟨k3, rfl⟩ | ⟨k4, rfl⟩
    ·
      refine V_ws [(h0, oC 13 [.ref h1, .ref g0, .int 0, .ref g1, .ref g2, .int 0, .int 0, .int 0, .int (-1), .int 0, .int 0, .int 0, .long 0, .ref g3, .ref g4, .int 0, .int 0]), (h1, aI Y 3640 (clB 0 (fun _ => 0)))] rfl ?_
      exact (q_abs (b_nlt k1 (n := 0) (by decide +kernel)) (b_ngt k2 (n := (-1)) (by decide +kernel)) (by decide +kernel)).elim
    ·
      refine V_ws [(h0, oC 13 [.ref h1, .ref g0, .int 0, .ref g1, .ref g2, .int 0, .int 0, .int 0, .int (-1), .int 0, .int 0, .int 0, .long 0, .ref g3, .ref g4, .int 0, .int 0]), (h1, aI Y 3640 (clB 0 (fun _ => 0)))] rfl ?_
      refine V_if_ne_f 21 B 28 dX12_reservedStroke_21 (by decide) (by decide +kernel) ?_
      refine V_iconst 24 B (v := 1) dX12_reservedStroke_24 (by decide +kernel) ?_
      refine V_goto 25 B 29 dX12_reservedStroke_25 (by decide) ?_
      refine V_iconst 29 B (v := 1) dX12_reservedStroke_29 (by decide +kernel) ?_
      refine V_cvi 30 B (st := []) (As := [.int 1, .int 1]) (fun sz => mX12_throwsIf_1 l D Y (h0) (h1) (g0) (g1) (g2) (g3) (g4) sz) glV_RX12_69 ⟨rfl, rfl⟩ ⟨(Nat.le_of_ble_eq_true rfl), (Nat.le_of_ble_eq_true rfl)⟩ ⟨(Nat.le_of_ble_eq_true rfl), (Nat.le_of_ble_eq_true rfl)⟩ [0] rfl 13 0 rfl rfl rfl rfl (Nat.le_of_ble_eq_true rfl) rfl (fun _ _ _ => rfl) dX12_reservedStroke_30 (fun r5 u5 w5 => ?_)
      obtain rfl := w5
      refine V_ws [(h0, oC 13 [.ref h1, .ref g0, .int 1, .ref g1, .ref g2, .int 0, .int 0, .int 0, .int (-1), .int 0, .int 0, .int 0, .long 0, .ref g3, .ref g4, .int 0, .int 0]), (h1, aI Y 3640 (clB 0 (fun _ => 0)))] rfl ?_
      refine V_if_eq_f 33 B 40 dX12_reservedStroke_33 (by decide) (by decide +kernel) ?_
      refine V_iconst 36 B (v := 0) dX12_reservedStroke_36 (by decide +kernel) ?_
      refine V_goto 37 B 49 dX12_reservedStroke_37 (by decide) ?_
      exact V_iret 49 B dX12_reservedStroke_49 () (Or.inl ⟨k3, rfl⟩) rfl
    ·
      refine V_ws [(h0, oC 13 [.ref h1, .ref g0, .int 0, .ref g1, .ref g2, .int 0, .int 0, .int 0, .int (-1), .int 0, .int 0, .int 0, .long 0, .ref g3, .ref g4, .int 0, .int 0]), (h1, aI Y 3640 (clB 0 (fun _ => 0)))] rfl ?_
      refine V_if_ne_f 21 B 28 dX12_reservedStroke_21 (by decide) (by decide +kernel) ?_
      refine V_iconst 24 B (v := 1) dX12_reservedStroke_24 (by decide +kernel) ?_
      refine V_goto 25 B 29 dX12_reservedStroke_25 (by decide) ?_
      refine V_iconst 29 B (v := 1) dX12_reservedStroke_29 (by decide +kernel) ?_
      refine V_cvi 30 B (st := []) (As := [.int 1, .int 1]) (fun sz => mX12_throwsIf_1 l D Y (h0) (h1) (g0) (g1) (g2) (g3) (g4) sz) glV_RX12_69 ⟨rfl, rfl⟩ ⟨(Nat.le_of_ble_eq_true rfl), (Nat.le_of_ble_eq_true rfl)⟩ ⟨(Nat.le_of_ble_eq_true rfl), (Nat.le_of_ble_eq_true rfl)⟩ [0] rfl 13 0 rfl rfl rfl rfl (Nat.le_of_ble_eq_true rfl) rfl (fun _ _ _ => rfl) dX12_reservedStroke_30 (fun r6 u6 w6 => ?_)
      obtain rfl := w6
      refine V_ws [(h0, oC 13 [.ref h1, .ref g0, .int 1, .ref g1, .ref g2, .int 0, .int 0, .int 0, .int (-1), .int 0, .int 0, .int 0, .long 0, .ref g3, .ref g4, .int 0, .int 0]), (h1, aI Y 3640 (clB 0 (fun _ => 0)))] rfl ?_
      refine V_if_eq_f 33 B 40 dX12_reservedStroke_33 (by decide) (by decide +kernel) ?_
      refine V_iconst 36 B (v := 0) dX12_reservedStroke_36 (by decide +kernel) ?_
      refine V_goto 37 B 49 dX12_reservedStroke_37 (by decide) ?_
      exact V_iret 49 B dX12_reservedStroke_49 () (Or.inr ⟨k4, rfl⟩) rfl)
theorem dX12_bind_0 : decode cX12_bind 0 = .ok (.aload_n 0, 1) := by decide +kernel
theorem dX12_bind_1 : decode cX12_bind 1 = .ok (.iconst 0, 1) := by decide +kernel
theorem dX12_bind_2 : decode cX12_bind 2 = .ok (.putfield 38, 3) := by decide +kernel
theorem dX12_bind_5 : decode cX12_bind 5 = .ok (.aload_n 0, 1) := by decide +kernel
theorem dX12_bind_6 : decode cX12_bind 6 = .ok (.aload_n 0, 1) := by decide +kernel
theorem dX12_bind_7 : decode cX12_bind 7 = .ok (.iload_n 1, 1) := by decide +kernel
theorem dX12_bind_8 : decode cX12_bind 8 = .ok (.invokevirtual 91, 3) := by decide +kernel
theorem dX12_bind_11 : decode cX12_bind 11 = .ok (.ifCond .eq 11, 3) := by decide +kernel
theorem dX12_bind_14 : decode cX12_bind 14 = .ok (.aload_n 0, 1) := by decide +kernel
theorem dX12_bind_15 : decode cX12_bind 15 = .ok (.iload_n 2, 1) := by decide +kernel
theorem dX12_bind_16 : decode cX12_bind 16 = .ok (.invokevirtual 99, 3) := by decide +kernel
theorem dX12_bind_19 : decode cX12_bind 19 = .ok (.ifCond .ne 7, 3) := by decide +kernel
theorem dX12_bind_22 : decode cX12_bind 22 = .ok (.iconst 1, 1) := by decide +kernel
theorem dX12_bind_23 : decode cX12_bind 23 = .ok (.goto 4, 3) := by decide +kernel
theorem dX12_bind_27 : decode cX12_bind 27 = .ok (.iconst 1, 1) := by decide +kernel
theorem dX12_bind_28 : decode cX12_bind 28 = .ok (.invokevirtual 69, 3) := by decide +kernel
theorem dX12_bind_31 : decode cX12_bind 31 = .ok (.ifCond .eq 5, 3) := by decide +kernel
theorem dX12_bind_34 : decode cX12_bind 34 = .ok (.iconst 0, 1) := by decide +kernel
theorem dX12_bind_35 : decode cX12_bind 35 = .ok (.ireturn, 1) := by decide +kernel
set_option maxRecDepth 100000 in
set_option maxHeartbeats 4000000 in
theorem mX12_bind_1 (l : Launch) (D : va_G) (Y : Nat → ClassId) (h0 : Nat) (h1 : Nat) (g0 : Nat) (g1 : Nat) (g2 : Nat) (g3 : Nat) (g4 : Nat) (p0 : Int32) (p1 : Int32) (sz : Nat) : Met l yX12_bind (WSm yX12_bind cX12_bind 3 (some .int)) (mkR 2 0 0 46) (PreC D Y [.ref h0, .int p0, .int p1] [(h0, oC 13 [.ref h1, .ref g0, .int 0, .ref g1, .ref g2, .int 0, .int 0, .int 0, .int (-1), .int 0, .int 0, .int 0, .long 0, .ref g3, .ref g4, .int 0, .int 0]), (h1, aI Y 3640 (clB 0 (fun _ => 0)))] sz) (QI D (fun (r : Int32) (u : Unit) => (p0 = 0 ∧ p1 < 0 ∧ 0 = r) ∨ (p0 = 0 ∧ (-1) < p1 ∧ 0 = r) ∨ (p0 < 0 ∧ 0 = r) ∨ (0 < p0 ∧ 0 = r)) (fun (_ : Unit) => [(h0, oC 13 [.ref h1, .ref g0, .int 1, .ref g1, .ref g2, .int 0, .int 0, .int 0, .int (-1), .int 0, .int 0, .int 0, .long 0, .ref g3, .ref g4, .int 0, .int 0]), (h1, aI Y 3640 (clB 0 (fun _ => 0)))]) (va_A [(h0, oC 13 [.ref h1, .ref g0, .int 0, .ref g1, .ref g2, .int 0, .int 0, .int 0, .int (-1), .int 0, .int 0, .int 0, .long 0, .ref g3, .ref g4, .int 0, .int 0]), (h1, aI Y 3640 (clB 0 (fun _ => 0)))] sz)) 0 0 (va_A [(h0, oC 13 [.ref h1, .ref g0, .int 0, .ref g1, .ref g2, .int 0, .int 0, .int 0, .int (-1), .int 0, .int 0, .int 0, .long 0, .ref g3, .ref g4, .int 0, .int 0]), (h1, aI Y 3640 (clB 0 (fun _ => 0)))] sz) :=
  met_of (by decide +kernel) (Nat.le_of_ble_eq_true rfl) (fun p e s m args below meth c B hin hsz => by
    have B : VB p s m args meth c D Y (va_A [(h0, oC 13 [.ref h1, .ref g0, .int 0, .ref g1, .ref g2, .int 0, .int 0, .int 0, .int (-1), .int 0, .int 0, .int 0, .long 0, .ref g3, .ref g4, .int 0, .int 0]), (h1, aI Y 3640 (clB 0 (fun _ => 0)))] sz) cX12_bind 3 RX12 (some .int) := B
    refine V_aload_n 0 B dX12_bind_0 0 rfl ?_
    refine V_iconst 1 B (v := 0) dX12_bind_1 (by decide +kernel) ?_
    refine V_put 2 B gp_RX12_38 0 rfl (Nat.le_of_ble_eq_true rfl) rfl rfl dX12_bind_2 [(h0, oC 13 [.ref h1, .ref g0, .int 0, .ref g1, .ref g2, .int 0, .int 0, .int 0, .int (-1), .int 0, .int 0, .int 0, .long 0, .ref g3, .ref g4, .int 0, .int 0]), (h1, aI Y 3640 (clB 0 (fun _ => 0)))] rfl ?_
    refine V_aload_n 5 B dX12_bind_5 0 rfl ?_
    refine V_aload_n 6 B dX12_bind_6 0 rfl ?_
    refine V_iload_n 7 B dX12_bind_7 1 rfl ?_
    refine V_cvi 8 B (st := [.ref h0]) (As := [.int p0]) (fun sz => mX12_isMode_1 l D Y (h0) (h1) (g0) (g1) (g2) (g3) (g4) (p0) sz) glV_RX12_91 ⟨rfl, rfl⟩ ⟨(Nat.le_of_ble_eq_true rfl), (Nat.le_of_ble_eq_true rfl)⟩ ⟨(Nat.le_of_ble_eq_true rfl), (Nat.le_of_ble_eq_true rfl)⟩ [0, 0] rfl 13 0 rfl rfl rfl rfl (Nat.le_of_ble_eq_true rfl) rfl (fun _ _ _ => rfl) dX12_bind_8 (fun r0 u0 w0 => ?_)
    rcases w0 with ⟨k1, rfl⟩ | ⟨k2, rfl⟩ | ⟨k3, rfl⟩
    ·
      refine V_ws [(h0, oC 13 [.ref h1, .ref g0, .int 0, .ref g1, .ref g2, .int 0, .int 0, .int 0, .int (-1), .int 0, .int 0, .int 0, .long 0, .ref g3, .ref g4, .int 0, .int 0]), (h1, aI Y 3640 (clB 0 (fun _ => 0)))] rfl ?_
      obtain rfl : p0 = 0 := k1
      refine V_if_eq_f 11 B 22 dX12_bind_11 (by decide) (by decide +kernel) ?_
      refine V_aload_n 14 B dX12_bind_14 0 rfl ?_
      refine V_iload_n 15 B dX12_bind_15 2 rfl ?_
      refine V_cvi 16 B (st := [.ref h0]) (As := [.int p1]) (fun sz => mX12_isCommand_1 l D Y (h0) (h1) (g0) (g1) (g2) (g3) (g4) (p1) sz) glV_RX12_99 ⟨rfl, rfl⟩ ⟨(Nat.le_of_ble_eq_true rfl), (Nat.le_of_ble_eq_true rfl)⟩ ⟨(Nat.le_of_ble_eq_true rfl), (Nat.le_of_ble_eq_true rfl)⟩ [0, 0] rfl 13 0 rfl rfl rfl rfl (Nat.le_of_ble_eq_true rfl) rfl (fun _ _ _ => rfl) dX12_bind_16 (fun r4 u4 w4 => ?_)
      rcases w4 with ⟨k5, rfl⟩ | ⟨k6, rfl⟩
      ·
        refine V_ws [(h0, oC 13 [.ref h1, .ref g0, .int 0, .ref g1, .ref g2, .int 0, .int 0, .int 0, .int (-1), .int 0, .int 0, .int 0, .long 0, .ref g3, .ref g4, .int 0, .int 0]), (h1, aI Y 3640 (clB 0 (fun _ => 0)))] rfl ?_
        refine V_if_ne_f 19 B 26 dX12_bind_19 (by decide) (by decide +kernel) ?_
        refine V_iconst 22 B (v := 1) dX12_bind_22 (by decide +kernel) ?_
        refine V_goto 23 B 27 dX12_bind_23 (by decide) ?_
        refine V_iconst 27 B (v := 1) dX12_bind_27 (by decide +kernel) ?_
        refine V_cvi 28 B (st := []) (As := [.int 1, .int 1]) (fun sz => mX12_throwsIf_1 l D Y (h0) (h1) (g0) (g1) (g2) (g3) (g4) sz) glV_RX12_69 ⟨rfl, rfl⟩ ⟨(Nat.le_of_ble_eq_true rfl), (Nat.le_of_ble_eq_true rfl)⟩ ⟨(Nat.le_of_ble_eq_true rfl), (Nat.le_of_ble_eq_true rfl)⟩ [0] rfl 13 0 rfl rfl rfl rfl (Nat.le_of_ble_eq_true rfl) rfl (fun _ _ _ => rfl) dX12_bind_28 (fun r7 u7 w7 => ?_)
        obtain rfl := w7
        refine V_ws [(h0, oC 13 [.ref h1, .ref g0, .int 1, .ref g1, .ref g2, .int 0, .int 0, .int 0, .int (-1), .int 0, .int 0, .int 0, .long 0, .ref g3, .ref g4, .int 0, .int 0]), (h1, aI Y 3640 (clB 0 (fun _ => 0)))] rfl ?_
        refine V_if_eq_f 31 B 36 dX12_bind_31 (by decide) (by decide +kernel) ?_
        refine V_iconst 34 B (v := 0) dX12_bind_34 (by decide +kernel) ?_
        exact V_iret 35 B dX12_bind_35 () (Or.inl ⟨rfl, k5, rfl⟩) rfl
      ·
        refine V_ws [(h0, oC 13 [.ref h1, .ref g0, .int 0, .ref g1, .ref g2, .int 0, .int 0, .int 0, .int (-1), .int 0, .int 0, .int 0, .long 0, .ref g3, .ref g4, .int 0, .int 0]), (h1, aI Y 3640 (clB 0 (fun _ => 0)))] rfl ?_
        refine V_if_ne_f 19 B 26 dX12_bind_19 (by decide) (by decide +kernel) ?_
        refine V_iconst 22 B (v := 1) dX12_bind_22 (by decide +kernel) ?_
        refine V_goto 23 B 27 dX12_bind_23 (by decide) ?_
        refine V_iconst 27 B (v := 1) dX12_bind_27 (by decide +kernel) ?_
        refine V_cvi 28 B (st := []) (As := [.int 1, .int 1]) (fun sz => mX12_throwsIf_1 l D Y (h0) (h1) (g0) (g1) (g2) (g3) (g4) sz) glV_RX12_69 ⟨rfl, rfl⟩ ⟨(Nat.le_of_ble_eq_true rfl), (Nat.le_of_ble_eq_true rfl)⟩ ⟨(Nat.le_of_ble_eq_true rfl), (Nat.le_of_ble_eq_true rfl)⟩ [0] rfl 13 0 rfl rfl rfl rfl (Nat.le_of_ble_eq_true rfl) rfl (fun _ _ _ => rfl) dX12_bind_28 (fun r8 u8 w8 => ?_)
        obtain rfl := w8
        refine V_ws [(h0, oC 13 [.ref h1, .ref g0, .int 1, .ref g1, .ref g2, .int 0, .int 0, .int 0, .int (-1), .int 0, .int 0, .int 0, .long 0, .ref g3, .ref g4, .int 0, .int 0]), (h1, aI Y 3640 (clB 0 (fun _ => 0)))] rfl ?_
        refine V_if_eq_f 31 B 36 dX12_bind_31 (by decide) (by decide +kernel) ?_
        refine V_iconst 34 B (v := 0) dX12_bind_34 (by decide +kernel) ?_
        exact V_iret 35 B dX12_bind_35 () (Or.inr (Or.inl ⟨rfl, k6, rfl⟩)) rfl
    ·
      refine V_ws [(h0, oC 13 [.ref h1, .ref g0, .int 0, .ref g1, .ref g2, .int 0, .int 0, .int 0, .int (-1), .int 0, .int 0, .int 0, .long 0, .ref g3, .ref g4, .int 0, .int 0]), (h1, aI Y 3640 (clB 0 (fun _ => 0)))] rfl ?_
      refine V_if_eq_t 11 B 22 dX12_bind_11 (by decide) (by decide +kernel) ?_
      refine V_iconst 22 B (v := 1) dX12_bind_22 (by decide +kernel) ?_
      refine V_goto 23 B 27 dX12_bind_23 (by decide) ?_
      refine V_iconst 27 B (v := 1) dX12_bind_27 (by decide +kernel) ?_
      refine V_cvi 28 B (st := []) (As := [.int 1, .int 1]) (fun sz => mX12_throwsIf_1 l D Y (h0) (h1) (g0) (g1) (g2) (g3) (g4) sz) glV_RX12_69 ⟨rfl, rfl⟩ ⟨(Nat.le_of_ble_eq_true rfl), (Nat.le_of_ble_eq_true rfl)⟩ ⟨(Nat.le_of_ble_eq_true rfl), (Nat.le_of_ble_eq_true rfl)⟩ [0] rfl 13 0 rfl rfl rfl rfl (Nat.le_of_ble_eq_true rfl) rfl (fun _ _ _ => rfl) dX12_bind_28 (fun r9 u9 w9 => ?_)
      obtain rfl := w9
      refine V_ws [(h0, oC 13 [.ref h1, .ref g0, .int 1, .ref g1, .ref g2, .int 0, .int 0, .int 0, .int (-1), .int 0, .int 0, .int 0, .long 0, .ref g3, .ref g4, .int 0, .int 0]), (h1, aI Y 3640 (clB 0 (fun _ => 0)))] rfl ?_
      refine V_if_eq_f 31 B 36 dX12_bind_31 (by decide) (by decide +kernel) ?_
      refine V_iconst 34 B (v := 0) dX12_bind_34 (by decide +kernel) ?_
      exact V_iret 35 B dX12_bind_35 () (Or.inr (Or.inr (Or.inl ⟨k2, rfl⟩))) rfl
    ·
      refine V_ws [(h0, oC 13 [.ref h1, .ref g0, .int 0, .ref g1, .ref g2, .int 0, .int 0, .int 0, .int (-1), .int 0, .int 0, .int 0, .long 0, .ref g3, .ref g4, .int 0, .int 0]), (h1, aI Y 3640 (clB 0 (fun _ => 0)))] rfl ?_
      refine V_if_eq_t 11 B 22 dX12_bind_11 (by decide) (by decide +kernel) ?_
      refine V_iconst 22 B (v := 1) dX12_bind_22 (by decide +kernel) ?_
      refine V_goto 23 B 27 dX12_bind_23 (by decide) ?_
      refine V_iconst 27 B (v := 1) dX12_bind_27 (by decide +kernel) ?_
      refine V_cvi 28 B (st := []) (As := [.int 1, .int 1]) (fun sz => mX12_throwsIf_1 l D Y (h0) (h1) (g0) (g1) (g2) (g3) (g4) sz) glV_RX12_69 ⟨rfl, rfl⟩ ⟨(Nat.le_of_ble_eq_true rfl), (Nat.le_of_ble_eq_true rfl)⟩ ⟨(Nat.le_of_ble_eq_true rfl), (Nat.le_of_ble_eq_true rfl)⟩ [0] rfl 13 0 rfl rfl rfl rfl (Nat.le_of_ble_eq_true rfl) rfl (fun _ _ _ => rfl) dX12_bind_28 (fun r10 u10 w10 => ?_)
      obtain rfl := w10
      refine V_ws [(h0, oC 13 [.ref h1, .ref g0, .int 1, .ref g1, .ref g2, .int 0, .int 0, .int 0, .int (-1), .int 0, .int 0, .int 0, .long 0, .ref g3, .ref g4, .int 0, .int 0]), (h1, aI Y 3640 (clB 0 (fun _ => 0)))] rfl ?_
      refine V_if_eq_f 31 B 36 dX12_bind_31 (by decide) (by decide +kernel) ?_
      refine V_iconst 34 B (v := 0) dX12_bind_34 (by decide +kernel) ?_
      exact V_iret 35 B dX12_bind_35 () (Or.inr (Or.inr (Or.inr ⟨k3, rfl⟩))) rfl)
theorem dX12_force_0 : decode cX12_force 0 = .ok (.aload_n 0, 1) := by decide +kernel
theorem dX12_force_1 : decode cX12_force 1 = .ok (.iconst 0, 1) := by decide +kernel
theorem dX12_force_2 : decode cX12_force 2 = .ok (.putfield 38, 3) := by decide +kernel
theorem dX12_force_5 : decode cX12_force 5 = .ok (.aload_n 0, 1) := by decide +kernel
theorem dX12_force_6 : decode cX12_force 6 = .ok (.aload_n 0, 1) := by decide +kernel
theorem dX12_force_7 : decode cX12_force 7 = .ok (.iload_n 1, 1) := by decide +kernel
theorem dX12_force_8 : decode cX12_force 8 = .ok (.invokevirtual 91, 3) := by decide +kernel
theorem dX12_force_11 : decode cX12_force 11 = .ok (.ifCond .eq 11, 3) := by decide +kernel
theorem dX12_force_14 : decode cX12_force 14 = .ok (.aload_n 0, 1) := by decide +kernel
theorem dX12_force_15 : decode cX12_force 15 = .ok (.iload_n 2, 1) := by decide +kernel
theorem dX12_force_16 : decode cX12_force 16 = .ok (.invokevirtual 99, 3) := by decide +kernel
theorem dX12_force_19 : decode cX12_force 19 = .ok (.ifCond .ne 7, 3) := by decide +kernel
theorem dX12_force_22 : decode cX12_force 22 = .ok (.iconst 1, 1) := by decide +kernel
theorem dX12_force_23 : decode cX12_force 23 = .ok (.goto 4, 3) := by decide +kernel
theorem dX12_force_27 : decode cX12_force 27 = .ok (.iconst 1, 1) := by decide +kernel
theorem dX12_force_28 : decode cX12_force 28 = .ok (.invokevirtual 69, 3) := by decide +kernel
theorem dX12_force_31 : decode cX12_force 31 = .ok (.ifCond .eq 5, 3) := by decide +kernel
theorem dX12_force_34 : decode cX12_force 34 = .ok (.iconst 0, 1) := by decide +kernel
theorem dX12_force_35 : decode cX12_force 35 = .ok (.ireturn, 1) := by decide +kernel
set_option maxRecDepth 100000 in
set_option maxHeartbeats 4000000 in
theorem mX12_force_1 (l : Launch) (D : va_G) (Y : Nat → ClassId) (h0 : Nat) (h1 : Nat) (g0 : Nat) (g1 : Nat) (g2 : Nat) (g3 : Nat) (g4 : Nat) (p0 : Int32) (p1 : Int32) (sz : Nat) : Met l yX12_force (WSm yX12_force cX12_force 3 (some .int)) (mkR 2 0 0 46) (PreC D Y [.ref h0, .int p0, .int p1] [(h0, oC 13 [.ref h1, .ref g0, .int 0, .ref g1, .ref g2, .int 0, .int 0, .int 0, .int (-1), .int 0, .int 0, .int 0, .long 0, .ref g3, .ref g4, .int 0, .int 0]), (h1, aI Y 3640 (clB 0 (fun _ => 0)))] sz) (QI D (fun (r : Int32) (u : Unit) => (p0 = 0 ∧ p1 < 0 ∧ 0 = r) ∨ (p0 = 0 ∧ (-1) < p1 ∧ 0 = r) ∨ (p0 < 0 ∧ 0 = r) ∨ (0 < p0 ∧ 0 = r)) (fun (_ : Unit) => [(h0, oC 13 [.ref h1, .ref g0, .int 1, .ref g1, .ref g2, .int 0, .int 0, .int 0, .int (-1), .int 0, .int 0, .int 0, .long 0, .ref g3, .ref g4, .int 0, .int 0]), (h1, aI Y 3640 (clB 0 (fun _ => 0)))]) (va_A [(h0, oC 13 [.ref h1, .ref g0, .int 0, .ref g1, .ref g2, .int 0, .int 0, .int 0, .int (-1), .int 0, .int 0, .int 0, .long 0, .ref g3, .ref g4, .int 0, .int 0]), (h1, aI Y 3640 (clB 0 (fun _ => 0)))] sz)) 0 0 (va_A [(h0, oC 13 [.ref h1, .ref g0, .int 0, .ref g1, .ref g2, .int 0, .int 0, .int 0, .int (-1), .int 0, .int 0, .int 0, .long 0, .ref g3, .ref g4, .int 0, .int 0]), (h1, aI Y 3640 (clB 0 (fun _ => 0)))] sz) :=
  met_of (by decide +kernel) (Nat.le_of_ble_eq_true rfl) (fun p e s m args below meth c B hin hsz => by
    have B : VB p s m args meth c D Y (va_A [(h0, oC 13 [.ref h1, .ref g0, .int 0, .ref g1, .ref g2, .int 0, .int 0, .int 0, .int (-1), .int 0, .int 0, .int 0, .long 0, .ref g3, .ref g4, .int 0, .int 0]), (h1, aI Y 3640 (clB 0 (fun _ => 0)))] sz) cX12_force 3 RX12 (some .int) := B
    refine V_aload_n 0 B dX12_force_0 0 rfl ?_
    refine V_iconst 1 B (v := 0) dX12_force_1 (by decide +kernel) ?_
    refine V_put 2 B gp_RX12_38 0 rfl (Nat.le_of_ble_eq_true rfl) rfl rfl dX12_force_2 [(h0, oC 13 [.ref h1, .ref g0, .int 0, .ref g1, .ref g2, .int 0, .int 0, .int 0, .int (-1), .int 0, .int 0, .int 0, .long 0, .ref g3, .ref g4, .int 0, .int 0]), (h1, aI Y 3640 (clB 0 (fun _ => 0)))] rfl ?_
    refine V_aload_n 5 B dX12_force_5 0 rfl ?_
    refine V_aload_n 6 B dX12_force_6 0 rfl ?_
    refine V_iload_n 7 B dX12_force_7 1 rfl ?_
    refine V_cvi 8 B (st := [.ref h0]) (As := [.int p0]) (fun sz => mX12_isMode_1 l D Y (h0) (h1) (g0) (g1) (g2) (g3) (g4) (p0) sz) glV_RX12_91 ⟨rfl, rfl⟩ ⟨(Nat.le_of_ble_eq_true rfl), (Nat.le_of_ble_eq_true rfl)⟩ ⟨(Nat.le_of_ble_eq_true rfl), (Nat.le_of_ble_eq_true rfl)⟩ [0, 0] rfl 13 0 rfl rfl rfl rfl (Nat.le_of_ble_eq_true rfl) rfl (fun _ _ _ => rfl) dX12_force_8 (fun r0 u0 w0 => ?_)
    rcases w0 with ⟨k1, rfl⟩ | ⟨k2, rfl⟩ | ⟨k3, rfl⟩
    ·
      refine V_ws [(h0, oC 13 [.ref h1, .ref g0, .int 0, .ref g1, .ref g2, .int 0, .int 0, .int 0, .int (-1), .int 0, .int 0, .int 0, .long 0, .ref g3, .ref g4, .int 0, .int 0]), (h1, aI Y 3640 (clB 0 (fun _ => 0)))] rfl ?_
      obtain rfl : p0 = 0 := k1
      refine V_if_eq_f 11 B 22 dX12_force_11 (by decide) (by decide +kernel) ?_
      refine V_aload_n 14 B dX12_force_14 0 rfl ?_
      refine V_iload_n 15 B dX12_force_15 2 rfl ?_
      refine V_cvi 16 B (st := [.ref h0]) (As := [.int p1]) (fun sz => mX12_isCommand_1 l D Y (h0) (h1) (g0) (g1) (g2) (g3) (g4) (p1) sz) glV_RX12_99 ⟨rfl, rfl⟩ ⟨(Nat.le_of_ble_eq_true rfl), (Nat.le_of_ble_eq_true rfl)⟩ ⟨(Nat.le_of_ble_eq_true rfl), (Nat.le_of_ble_eq_true rfl)⟩ [0, 0] rfl 13 0 rfl rfl rfl rfl (Nat.le_of_ble_eq_true rfl) rfl (fun _ _ _ => rfl) dX12_force_16 (fun r4 u4 w4 => ?_)
      rcases w4 with ⟨k5, rfl⟩ | ⟨k6, rfl⟩
      ·
        refine V_ws [(h0, oC 13 [.ref h1, .ref g0, .int 0, .ref g1, .ref g2, .int 0, .int 0, .int 0, .int (-1), .int 0, .int 0, .int 0, .long 0, .ref g3, .ref g4, .int 0, .int 0]), (h1, aI Y 3640 (clB 0 (fun _ => 0)))] rfl ?_
        refine V_if_ne_f 19 B 26 dX12_force_19 (by decide) (by decide +kernel) ?_
        refine V_iconst 22 B (v := 1) dX12_force_22 (by decide +kernel) ?_
        refine V_goto 23 B 27 dX12_force_23 (by decide) ?_
        refine V_iconst 27 B (v := 1) dX12_force_27 (by decide +kernel) ?_
        refine V_cvi 28 B (st := []) (As := [.int 1, .int 1]) (fun sz => mX12_throwsIf_1 l D Y (h0) (h1) (g0) (g1) (g2) (g3) (g4) sz) glV_RX12_69 ⟨rfl, rfl⟩ ⟨(Nat.le_of_ble_eq_true rfl), (Nat.le_of_ble_eq_true rfl)⟩ ⟨(Nat.le_of_ble_eq_true rfl), (Nat.le_of_ble_eq_true rfl)⟩ [0] rfl 13 0 rfl rfl rfl rfl (Nat.le_of_ble_eq_true rfl) rfl (fun _ _ _ => rfl) dX12_force_28 (fun r7 u7 w7 => ?_)
        obtain rfl := w7
        refine V_ws [(h0, oC 13 [.ref h1, .ref g0, .int 1, .ref g1, .ref g2, .int 0, .int 0, .int 0, .int (-1), .int 0, .int 0, .int 0, .long 0, .ref g3, .ref g4, .int 0, .int 0]), (h1, aI Y 3640 (clB 0 (fun _ => 0)))] rfl ?_
        refine V_if_eq_f 31 B 36 dX12_force_31 (by decide) (by decide +kernel) ?_
        refine V_iconst 34 B (v := 0) dX12_force_34 (by decide +kernel) ?_
        exact V_iret 35 B dX12_force_35 () (Or.inl ⟨rfl, k5, rfl⟩) rfl
      ·
        refine V_ws [(h0, oC 13 [.ref h1, .ref g0, .int 0, .ref g1, .ref g2, .int 0, .int 0, .int 0, .int (-1), .int 0, .int 0, .int 0, .long 0, .ref g3, .ref g4, .int 0, .int 0]), (h1, aI Y 3640 (clB 0 (fun _ => 0)))] rfl ?_
        refine V_if_ne_f 19 B 26 dX12_force_19 (by decide) (by decide +kernel) ?_
        refine V_iconst 22 B (v := 1) dX12_force_22 (by decide +kernel) ?_
        refine V_goto 23 B 27 dX12_force_23 (by decide) ?_
        refine V_iconst 27 B (v := 1) dX12_force_27 (by decide +kernel) ?_
        refine V_cvi 28 B (st := []) (As := [.int 1, .int 1]) (fun sz => mX12_throwsIf_1 l D Y (h0) (h1) (g0) (g1) (g2) (g3) (g4) sz) glV_RX12_69 ⟨rfl, rfl⟩ ⟨(Nat.le_of_ble_eq_true rfl), (Nat.le_of_ble_eq_true rfl)⟩ ⟨(Nat.le_of_ble_eq_true rfl), (Nat.le_of_ble_eq_true rfl)⟩ [0] rfl 13 0 rfl rfl rfl rfl (Nat.le_of_ble_eq_true rfl) rfl (fun _ _ _ => rfl) dX12_force_28 (fun r8 u8 w8 => ?_)
        obtain rfl := w8
        refine V_ws [(h0, oC 13 [.ref h1, .ref g0, .int 1, .ref g1, .ref g2, .int 0, .int 0, .int 0, .int (-1), .int 0, .int 0, .int 0, .long 0, .ref g3, .ref g4, .int 0, .int 0]), (h1, aI Y 3640 (clB 0 (fun _ => 0)))] rfl ?_
        refine V_if_eq_f 31 B 36 dX12_force_31 (by decide) (by decide +kernel) ?_
        refine V_iconst 34 B (v := 0) dX12_force_34 (by decide +kernel) ?_
        exact V_iret 35 B dX12_force_35 () (Or.inr (Or.inl ⟨rfl, k6, rfl⟩)) rfl
    ·
      refine V_ws [(h0, oC 13 [.ref h1, .ref g0, .int 0, .ref g1, .ref g2, .int 0, .int 0, .int 0, .int (-1), .int 0, .int 0, .int 0, .long 0, .ref g3, .ref g4, .int 0, .int 0]), (h1, aI Y 3640 (clB 0 (fun _ => 0)))] rfl ?_
      refine V_if_eq_t 11 B 22 dX12_force_11 (by decide) (by decide +kernel) ?_
      refine V_iconst 22 B (v := 1) dX12_force_22 (by decide +kernel) ?_
      refine V_goto 23 B 27 dX12_force_23 (by decide) ?_
      refine V_iconst 27 B (v := 1) dX12_force_27 (by decide +kernel) ?_
      refine V_cvi 28 B (st := []) (As := [.int 1, .int 1]) (fun sz => mX12_throwsIf_1 l D Y (h0) (h1) (g0) (g1) (g2) (g3) (g4) sz) glV_RX12_69 ⟨rfl, rfl⟩ ⟨(Nat.le_of_ble_eq_true rfl), (Nat.le_of_ble_eq_true rfl)⟩ ⟨(Nat.le_of_ble_eq_true rfl), (Nat.le_of_ble_eq_true rfl)⟩ [0] rfl 13 0 rfl rfl rfl rfl (Nat.le_of_ble_eq_true rfl) rfl (fun _ _ _ => rfl) dX12_force_28 (fun r9 u9 w9 => ?_)
      obtain rfl := w9
      refine V_ws [(h0, oC 13 [.ref h1, .ref g0, .int 1, .ref g1, .ref g2, .int 0, .int 0, .int 0, .int (-1), .int 0, .int 0, .int 0, .long 0, .ref g3, .ref g4, .int 0, .int 0]), (h1, aI Y 3640 (clB 0 (fun _ => 0)))] rfl ?_
      refine V_if_eq_f 31 B 36 dX12_force_31 (by decide) (by decide +kernel) ?_
      refine V_iconst 34 B (v := 0) dX12_force_34 (by decide +kernel) ?_
      exact V_iret 35 B dX12_force_35 () (Or.inr (Or.inr (Or.inl ⟨k2, rfl⟩))) rfl
    ·
      refine V_ws [(h0, oC 13 [.ref h1, .ref g0, .int 0, .ref g1, .ref g2, .int 0, .int 0, .int 0, .int (-1), .int 0, .int 0, .int 0, .long 0, .ref g3, .ref g4, .int 0, .int 0]), (h1, aI Y 3640 (clB 0 (fun _ => 0)))] rfl ?_
      refine V_if_eq_t 11 B 22 dX12_force_11 (by decide) (by decide +kernel) ?_
      refine V_iconst 22 B (v := 1) dX12_force_22 (by decide +kernel) ?_
      refine V_goto 23 B 27 dX12_force_23 (by decide) ?_
      refine V_iconst 27 B (v := 1) dX12_force_27 (by decide +kernel) ?_
      refine V_cvi 28 B (st := []) (As := [.int 1, .int 1]) (fun sz => mX12_throwsIf_1 l D Y (h0) (h1) (g0) (g1) (g2) (g3) (g4) sz) glV_RX12_69 ⟨rfl, rfl⟩ ⟨(Nat.le_of_ble_eq_true rfl), (Nat.le_of_ble_eq_true rfl)⟩ ⟨(Nat.le_of_ble_eq_true rfl), (Nat.le_of_ble_eq_true rfl)⟩ [0] rfl 13 0 rfl rfl rfl rfl (Nat.le_of_ble_eq_true rfl) rfl (fun _ _ _ => rfl) dX12_force_28 (fun r10 u10 w10 => ?_)
      obtain rfl := w10
      refine V_ws [(h0, oC 13 [.ref h1, .ref g0, .int 1, .ref g1, .ref g2, .int 0, .int 0, .int 0, .int (-1), .int 0, .int 0, .int 0, .long 0, .ref g3, .ref g4, .int 0, .int 0]), (h1, aI Y 3640 (clB 0 (fun _ => 0)))] rfl ?_
      refine V_if_eq_f 31 B 36 dX12_force_31 (by decide) (by decide +kernel) ?_
      refine V_iconst 34 B (v := 0) dX12_force_34 (by decide +kernel) ?_
      exact V_iret 35 B dX12_force_35 () (Or.inr (Or.inr (Or.inr ⟨k3, rfl⟩))) rfl)
theorem dX12_move_0 : decode cX12_move 0 = .ok (.aload_n 0, 1) := by decide +kernel
theorem dX12_move_1 : decode cX12_move 1 = .ok (.iconst 0, 1) := by decide +kernel
theorem dX12_move_2 : decode cX12_move 2 = .ok (.putfield 38, 3) := by decide +kernel
theorem dX12_move_5 : decode cX12_move 5 = .ok (.aload_n 0, 1) := by decide +kernel
theorem dX12_move_6 : decode cX12_move 6 = .ok (.aload_n 0, 1) := by decide +kernel
theorem dX12_move_7 : decode cX12_move 7 = .ok (.iload_n 1, 1) := by decide +kernel
theorem dX12_move_8 : decode cX12_move 8 = .ok (.invokevirtual 82, 3) := by decide +kernel
theorem dX12_move_11 : decode cX12_move 11 = .ok (.ifCond .ne 7, 3) := by decide +kernel
theorem dX12_move_14 : decode cX12_move 14 = .ok (.iconst 1, 1) := by decide +kernel
theorem dX12_move_15 : decode cX12_move 15 = .ok (.goto 4, 3) := by decide +kernel
theorem dX12_move_19 : decode cX12_move 19 = .ok (.iconst 1, 1) := by decide +kernel
theorem dX12_move_20 : decode cX12_move 20 = .ok (.invokevirtual 69, 3) := by decide +kernel
theorem dX12_move_23 : decode cX12_move 23 = .ok (.ifCond .eq 5, 3) := by decide +kernel
theorem dX12_move_26 : decode cX12_move 26 = .ok (.iconst 0, 1) := by decide +kernel
theorem dX12_move_27 : decode cX12_move 27 = .ok (.ireturn, 1) := by decide +kernel
set_option maxRecDepth 100000 in
set_option maxHeartbeats 4000000 in
theorem mX12_move_1 (l : Launch) (D : va_G) (Y : Nat → ClassId) (h0 : Nat) (h1 : Nat) (g0 : Nat) (g1 : Nat) (g2 : Nat) (g3 : Nat) (g4 : Nat) (p0 : Int32) (sz : Nat) : Met l yX12_move (WSm yX12_move cX12_move 2 (some .int)) (mkR 2 0 0 46) (PreC D Y [.ref h0, .int p0] [(h0, oC 13 [.ref h1, .ref g0, .int 0, .ref g1, .ref g2, .int 0, .int 0, .int 0, .int (-1), .int 0, .int 0, .int 0, .long 0, .ref g3, .ref g4, .int 0, .int 0]), (h1, aI Y 3640 (clB 0 (fun _ => 0)))] sz) (QI D (fun (r : Int32) (u : Unit) => (p0 < 0 ∧ 0 = r) ∨ ((-1) < p0 ∧ 0 = r)) (fun (_ : Unit) => [(h0, oC 13 [.ref h1, .ref g0, .int 1, .ref g1, .ref g2, .int 0, .int 0, .int 0, .int (-1), .int 0, .int 0, .int 0, .long 0, .ref g3, .ref g4, .int 0, .int 0]), (h1, aI Y 3640 (clB 0 (fun _ => 0)))]) (va_A [(h0, oC 13 [.ref h1, .ref g0, .int 0, .ref g1, .ref g2, .int 0, .int 0, .int 0, .int (-1), .int 0, .int 0, .int 0, .long 0, .ref g3, .ref g4, .int 0, .int 0]), (h1, aI Y 3640 (clB 0 (fun _ => 0)))] sz)) 0 0 (va_A [(h0, oC 13 [.ref h1, .ref g0, .int 0, .ref g1, .ref g2, .int 0, .int 0, .int 0, .int (-1), .int 0, .int 0, .int 0, .long 0, .ref g3, .ref g4, .int 0, .int 0]), (h1, aI Y 3640 (clB 0 (fun _ => 0)))] sz) :=
  met_of (by decide +kernel) (Nat.le_of_ble_eq_true rfl) (fun p e s m args below meth c B hin hsz => by
    have B : VB p s m args meth c D Y (va_A [(h0, oC 13 [.ref h1, .ref g0, .int 0, .ref g1, .ref g2, .int 0, .int 0, .int 0, .int (-1), .int 0, .int 0, .int 0, .long 0, .ref g3, .ref g4, .int 0, .int 0]), (h1, aI Y 3640 (clB 0 (fun _ => 0)))] sz) cX12_move 2 RX12 (some .int) := B
    refine V_aload_n 0 B dX12_move_0 0 rfl ?_
    refine V_iconst 1 B (v := 0) dX12_move_1 (by decide +kernel) ?_
    refine V_put 2 B gp_RX12_38 0 rfl (Nat.le_of_ble_eq_true rfl) rfl rfl dX12_move_2 [(h0, oC 13 [.ref h1, .ref g0, .int 0, .ref g1, .ref g2, .int 0, .int 0, .int 0, .int (-1), .int 0, .int 0, .int 0, .long 0, .ref g3, .ref g4, .int 0, .int 0]), (h1, aI Y 3640 (clB 0 (fun _ => 0)))] rfl ?_
    refine V_aload_n 5 B dX12_move_5 0 rfl ?_
    refine V_aload_n 6 B dX12_move_6 0 rfl ?_
    refine V_iload_n 7 B dX12_move_7 1 rfl ?_
    refine V_cvi 8 B (st := [.ref h0]) (As := [.int p0]) (fun sz => mX12_isBinding_1 l D Y (h0) (h1) (g0) (g1) (g2) (g3) (g4) (p0) sz) glV_RX12_82 ⟨rfl, rfl⟩ ⟨(Nat.le_of_ble_eq_true rfl), (Nat.le_of_ble_eq_true rfl)⟩ ⟨(Nat.le_of_ble_eq_true rfl), (Nat.le_of_ble_eq_true rfl)⟩ [0, 0] rfl 13 0 rfl rfl rfl rfl (Nat.le_of_ble_eq_true rfl) rfl (fun _ _ _ => rfl) dX12_move_8 (fun r0 u0 w0 => ?_)
    rcases w0 with ⟨k1, rfl⟩ | ⟨k2, rfl⟩
    ·
      refine V_ws [(h0, oC 13 [.ref h1, .ref g0, .int 0, .ref g1, .ref g2, .int 0, .int 0, .int 0, .int (-1), .int 0, .int 0, .int 0, .long 0, .ref g3, .ref g4, .int 0, .int 0]), (h1, aI Y 3640 (clB 0 (fun _ => 0)))] rfl ?_
      refine V_if_ne_f 11 B 18 dX12_move_11 (by decide) (by decide +kernel) ?_
      refine V_iconst 14 B (v := 1) dX12_move_14 (by decide +kernel) ?_
      refine V_goto 15 B 19 dX12_move_15 (by decide) ?_
      refine V_iconst 19 B (v := 1) dX12_move_19 (by decide +kernel) ?_
      refine V_cvi 20 B (st := []) (As := [.int 1, .int 1]) (fun sz => mX12_throwsIf_1 l D Y (h0) (h1) (g0) (g1) (g2) (g3) (g4) sz) glV_RX12_69 ⟨rfl, rfl⟩ ⟨(Nat.le_of_ble_eq_true rfl), (Nat.le_of_ble_eq_true rfl)⟩ ⟨(Nat.le_of_ble_eq_true rfl), (Nat.le_of_ble_eq_true rfl)⟩ [0] rfl 13 0 rfl rfl rfl rfl (Nat.le_of_ble_eq_true rfl) rfl (fun _ _ _ => rfl) dX12_move_20 (fun r3 u3 w3 => ?_)
      obtain rfl := w3
      refine V_ws [(h0, oC 13 [.ref h1, .ref g0, .int 1, .ref g1, .ref g2, .int 0, .int 0, .int 0, .int (-1), .int 0, .int 0, .int 0, .long 0, .ref g3, .ref g4, .int 0, .int 0]), (h1, aI Y 3640 (clB 0 (fun _ => 0)))] rfl ?_
      refine V_if_eq_f 23 B 28 dX12_move_23 (by decide) (by decide +kernel) ?_
      refine V_iconst 26 B (v := 0) dX12_move_26 (by decide +kernel) ?_
      exact V_iret 27 B dX12_move_27 () (Or.inl ⟨k1, rfl⟩) rfl
    ·
      refine V_ws [(h0, oC 13 [.ref h1, .ref g0, .int 0, .ref g1, .ref g2, .int 0, .int 0, .int 0, .int (-1), .int 0, .int 0, .int 0, .long 0, .ref g3, .ref g4, .int 0, .int 0]), (h1, aI Y 3640 (clB 0 (fun _ => 0)))] rfl ?_
      refine V_if_ne_f 11 B 18 dX12_move_11 (by decide) (by decide +kernel) ?_
      refine V_iconst 14 B (v := 1) dX12_move_14 (by decide +kernel) ?_
      refine V_goto 15 B 19 dX12_move_15 (by decide) ?_
      refine V_iconst 19 B (v := 1) dX12_move_19 (by decide +kernel) ?_
      refine V_cvi 20 B (st := []) (As := [.int 1, .int 1]) (fun sz => mX12_throwsIf_1 l D Y (h0) (h1) (g0) (g1) (g2) (g3) (g4) sz) glV_RX12_69 ⟨rfl, rfl⟩ ⟨(Nat.le_of_ble_eq_true rfl), (Nat.le_of_ble_eq_true rfl)⟩ ⟨(Nat.le_of_ble_eq_true rfl), (Nat.le_of_ble_eq_true rfl)⟩ [0] rfl 13 0 rfl rfl rfl rfl (Nat.le_of_ble_eq_true rfl) rfl (fun _ _ _ => rfl) dX12_move_20 (fun r4 u4 w4 => ?_)
      obtain rfl := w4
      refine V_ws [(h0, oC 13 [.ref h1, .ref g0, .int 1, .ref g1, .ref g2, .int 0, .int 0, .int 0, .int (-1), .int 0, .int 0, .int 0, .long 0, .ref g3, .ref g4, .int 0, .int 0]), (h1, aI Y 3640 (clB 0 (fun _ => 0)))] rfl ?_
      refine V_if_eq_f 23 B 28 dX12_move_23 (by decide) (by decide +kernel) ?_
      refine V_iconst 26 B (v := 0) dX12_move_26 (by decide +kernel) ?_
      exact V_iret 27 B dX12_move_27 () (Or.inr ⟨k2, rfl⟩) rfl)
theorem dX12_unbind_0 : decode cX12_unbind 0 = .ok (.aload_n 0, 1) := by decide +kernel
theorem dX12_unbind_1 : decode cX12_unbind 1 = .ok (.iconst 0, 1) := by decide +kernel
theorem dX12_unbind_2 : decode cX12_unbind 2 = .ok (.putfield 38, 3) := by decide +kernel
theorem dX12_unbind_5 : decode cX12_unbind 5 = .ok (.aload_n 0, 1) := by decide +kernel
theorem dX12_unbind_6 : decode cX12_unbind 6 = .ok (.aload_n 0, 1) := by decide +kernel
theorem dX12_unbind_7 : decode cX12_unbind 7 = .ok (.iload_n 1, 1) := by decide +kernel
theorem dX12_unbind_8 : decode cX12_unbind 8 = .ok (.invokevirtual 82, 3) := by decide +kernel
theorem dX12_unbind_11 : decode cX12_unbind 11 = .ok (.ifCond .ne 7, 3) := by decide +kernel
theorem dX12_unbind_14 : decode cX12_unbind 14 = .ok (.iconst 1, 1) := by decide +kernel
theorem dX12_unbind_15 : decode cX12_unbind 15 = .ok (.goto 4, 3) := by decide +kernel
theorem dX12_unbind_19 : decode cX12_unbind 19 = .ok (.iconst 1, 1) := by decide +kernel
theorem dX12_unbind_20 : decode cX12_unbind 20 = .ok (.invokevirtual 69, 3) := by decide +kernel
theorem dX12_unbind_23 : decode cX12_unbind 23 = .ok (.ifCond .eq 5, 3) := by decide +kernel
theorem dX12_unbind_26 : decode cX12_unbind 26 = .ok (.iconst 0, 1) := by decide +kernel
theorem dX12_unbind_27 : decode cX12_unbind 27 = .ok (.ireturn, 1) := by decide +kernel
set_option maxRecDepth 100000 in
set_option maxHeartbeats 4000000 in
theorem mX12_unbind_1 (l : Launch) (D : va_G) (Y : Nat → ClassId) (h0 : Nat) (h1 : Nat) (g0 : Nat) (g1 : Nat) (g2 : Nat) (g3 : Nat) (g4 : Nat) (p0 : Int32) (sz : Nat) : Met l yX12_unbind (WSm yX12_unbind cX12_unbind 2 (some .int)) (mkR 2 0 0 46) (PreC D Y [.ref h0, .int p0] [(h0, oC 13 [.ref h1, .ref g0, .int 0, .ref g1, .ref g2, .int 0, .int 0, .int 0, .int (-1), .int 0, .int 0, .int 0, .long 0, .ref g3, .ref g4, .int 0, .int 0]), (h1, aI Y 3640 (clB 0 (fun _ => 0)))] sz) (QI D (fun (r : Int32) (u : Unit) => (p0 < 0 ∧ 0 = r) ∨ ((-1) < p0 ∧ 0 = r)) (fun (_ : Unit) => [(h0, oC 13 [.ref h1, .ref g0, .int 1, .ref g1, .ref g2, .int 0, .int 0, .int 0, .int (-1), .int 0, .int 0, .int 0, .long 0, .ref g3, .ref g4, .int 0, .int 0]), (h1, aI Y 3640 (clB 0 (fun _ => 0)))]) (va_A [(h0, oC 13 [.ref h1, .ref g0, .int 0, .ref g1, .ref g2, .int 0, .int 0, .int 0, .int (-1), .int 0, .int 0, .int 0, .long 0, .ref g3, .ref g4, .int 0, .int 0]), (h1, aI Y 3640 (clB 0 (fun _ => 0)))] sz)) 0 0 (va_A [(h0, oC 13 [.ref h1, .ref g0, .int 0, .ref g1, .ref g2, .int 0, .int 0, .int 0, .int (-1), .int 0, .int 0, .int 0, .long 0, .ref g3, .ref g4, .int 0, .int 0]), (h1, aI Y 3640 (clB 0 (fun _ => 0)))] sz) :=
  met_of (by decide +kernel) (Nat.le_of_ble_eq_true rfl) (fun p e s m args below meth c B hin hsz => by
    have B : VB p s m args meth c D Y (va_A [(h0, oC 13 [.ref h1, .ref g0, .int 0, .ref g1, .ref g2, .int 0, .int 0, .int 0, .int (-1), .int 0, .int 0, .int 0, .long 0, .ref g3, .ref g4, .int 0, .int 0]), (h1, aI Y 3640 (clB 0 (fun _ => 0)))] sz) cX12_unbind 2 RX12 (some .int) := B
    refine V_aload_n 0 B dX12_unbind_0 0 rfl ?_
    refine V_iconst 1 B (v := 0) dX12_unbind_1 (by decide +kernel) ?_
    refine V_put 2 B gp_RX12_38 0 rfl (Nat.le_of_ble_eq_true rfl) rfl rfl dX12_unbind_2 [(h0, oC 13 [.ref h1, .ref g0, .int 0, .ref g1, .ref g2, .int 0, .int 0, .int 0, .int (-1), .int 0, .int 0, .int 0, .long 0, .ref g3, .ref g4, .int 0, .int 0]), (h1, aI Y 3640 (clB 0 (fun _ => 0)))] rfl ?_
    refine V_aload_n 5 B dX12_unbind_5 0 rfl ?_
    refine V_aload_n 6 B dX12_unbind_6 0 rfl ?_
    refine V_iload_n 7 B dX12_unbind_7 1 rfl ?_
    refine V_cvi 8 B (st := [.ref h0]) (As := [.int p0]) (fun sz => mX12_isBinding_1 l D Y (h0) (h1) (g0) (g1) (g2) (g3) (g4) (p0) sz) glV_RX12_82 ⟨rfl, rfl⟩ ⟨(Nat.le_of_ble_eq_true rfl), (Nat.le_of_ble_eq_true rfl)⟩ ⟨(Nat.le_of_ble_eq_true rfl), (Nat.le_of_ble_eq_true rfl)⟩ [0, 0] rfl 13 0 rfl rfl rfl rfl (Nat.le_of_ble_eq_true rfl) rfl (fun _ _ _ => rfl) dX12_unbind_8 (fun r0 u0 w0 => ?_)
    rcases w0 with ⟨k1, rfl⟩ | ⟨k2, rfl⟩
    ·
      refine V_ws [(h0, oC 13 [.ref h1, .ref g0, .int 0, .ref g1, .ref g2, .int 0, .int 0, .int 0, .int (-1), .int 0, .int 0, .int 0, .long 0, .ref g3, .ref g4, .int 0, .int 0]), (h1, aI Y 3640 (clB 0 (fun _ => 0)))] rfl ?_
      refine V_if_ne_f 11 B 18 dX12_unbind_11 (by decide) (by decide +kernel) ?_
      refine V_iconst 14 B (v := 1) dX12_unbind_14 (by decide +kernel) ?_
      refine V_goto 15 B 19 dX12_unbind_15 (by decide) ?_
      refine V_iconst 19 B (v := 1) dX12_unbind_19 (by decide +kernel) ?_
      refine V_cvi 20 B (st := []) (As := [.int 1, .int 1]) (fun sz => mX12_throwsIf_1 l D Y (h0) (h1) (g0) (g1) (g2) (g3) (g4) sz) glV_RX12_69 ⟨rfl, rfl⟩ ⟨(Nat.le_of_ble_eq_true rfl), (Nat.le_of_ble_eq_true rfl)⟩ ⟨(Nat.le_of_ble_eq_true rfl), (Nat.le_of_ble_eq_true rfl)⟩ [0] rfl 13 0 rfl rfl rfl rfl (Nat.le_of_ble_eq_true rfl) rfl (fun _ _ _ => rfl) dX12_unbind_20 (fun r3 u3 w3 => ?_)
      obtain rfl := w3
      refine V_ws [(h0, oC 13 [.ref h1, .ref g0, .int 1, .ref g1, .ref g2, .int 0, .int 0, .int 0, .int (-1), .int 0, .int 0, .int 0, .long 0, .ref g3, .ref g4, .int 0, .int 0]), (h1, aI Y 3640 (clB 0 (fun _ => 0)))] rfl ?_
      refine V_if_eq_f 23 B 28 dX12_unbind_23 (by decide) (by decide +kernel) ?_
      refine V_iconst 26 B (v := 0) dX12_unbind_26 (by decide +kernel) ?_
      exact V_iret 27 B dX12_unbind_27 () (Or.inl ⟨k1, rfl⟩) rfl
    ·
      refine V_ws [(h0, oC 13 [.ref h1, .ref g0, .int 0, .ref g1, .ref g2, .int 0, .int 0, .int 0, .int (-1), .int 0, .int 0, .int 0, .long 0, .ref g3, .ref g4, .int 0, .int 0]), (h1, aI Y 3640 (clB 0 (fun _ => 0)))] rfl ?_
      refine V_if_ne_f 11 B 18 dX12_unbind_11 (by decide) (by decide +kernel) ?_
      refine V_iconst 14 B (v := 1) dX12_unbind_14 (by decide +kernel) ?_
      refine V_goto 15 B 19 dX12_unbind_15 (by decide) ?_
      refine V_iconst 19 B (v := 1) dX12_unbind_19 (by decide +kernel) ?_
      refine V_cvi 20 B (st := []) (As := [.int 1, .int 1]) (fun sz => mX12_throwsIf_1 l D Y (h0) (h1) (g0) (g1) (g2) (g3) (g4) sz) glV_RX12_69 ⟨rfl, rfl⟩ ⟨(Nat.le_of_ble_eq_true rfl), (Nat.le_of_ble_eq_true rfl)⟩ ⟨(Nat.le_of_ble_eq_true rfl), (Nat.le_of_ble_eq_true rfl)⟩ [0] rfl 13 0 rfl rfl rfl rfl (Nat.le_of_ble_eq_true rfl) rfl (fun _ _ _ => rfl) dX12_unbind_20 (fun r4 u4 w4 => ?_)
      obtain rfl := w4
      refine V_ws [(h0, oC 13 [.ref h1, .ref g0, .int 1, .ref g1, .ref g2, .int 0, .int 0, .int 0, .int (-1), .int 0, .int 0, .int 0, .long 0, .ref g3, .ref g4, .int 0, .int 0]), (h1, aI Y 3640 (clB 0 (fun _ => 0)))] rfl ?_
      refine V_if_eq_f 23 B 28 dX12_unbind_23 (by decide) (by decide +kernel) ?_
      refine V_iconst 26 B (v := 0) dX12_unbind_26 (by decide +kernel) ?_
      exact V_iret 27 B dX12_unbind_27 () (Or.inr ⟨k2, rfl⟩) rfl)
theorem dX12_binding_0 : decode cX12_binding 0 = .ok (.aload_n 0, 1) := by decide +kernel
theorem dX12_binding_1 : decode cX12_binding 1 = .ok (.iconst 0, 1) := by decide +kernel
theorem dX12_binding_2 : decode cX12_binding 2 = .ok (.putfield 38, 3) := by decide +kernel
theorem dX12_binding_5 : decode cX12_binding 5 = .ok (.aload_n 0, 1) := by decide +kernel
theorem dX12_binding_6 : decode cX12_binding 6 = .ok (.aload_n 0, 1) := by decide +kernel
theorem dX12_binding_7 : decode cX12_binding 7 = .ok (.iload_n 1, 1) := by decide +kernel
theorem dX12_binding_8 : decode cX12_binding 8 = .ok (.invokevirtual 82, 3) := by decide +kernel
theorem dX12_binding_11 : decode cX12_binding 11 = .ok (.ifCond .ne 7, 3) := by decide +kernel
theorem dX12_binding_14 : decode cX12_binding 14 = .ok (.iconst 1, 1) := by decide +kernel
theorem dX12_binding_15 : decode cX12_binding 15 = .ok (.goto 4, 3) := by decide +kernel
theorem dX12_binding_19 : decode cX12_binding 19 = .ok (.iconst 1, 1) := by decide +kernel
theorem dX12_binding_20 : decode cX12_binding 20 = .ok (.invokevirtual 69, 3) := by decide +kernel
theorem dX12_binding_23 : decode cX12_binding 23 = .ok (.ifCond .eq 5, 3) := by decide +kernel
theorem dX12_binding_26 : decode cX12_binding 26 = .ok (.iconst 0, 1) := by decide +kernel
theorem dX12_binding_27 : decode cX12_binding 27 = .ok (.ireturn, 1) := by decide +kernel
set_option maxRecDepth 100000 in
set_option maxHeartbeats 4000000 in
theorem mX12_binding_1 (l : Launch) (D : va_G) (Y : Nat → ClassId) (h0 : Nat) (h1 : Nat) (g0 : Nat) (g1 : Nat) (g2 : Nat) (g3 : Nat) (g4 : Nat) (p0 : Int32) (p1 : Int32) (sz : Nat) : Met l yX12_binding (WSm yX12_binding cX12_binding 3 (some .int)) (mkR 2 0 0 46) (PreC D Y [.ref h0, .int p0, .int p1] [(h0, oC 13 [.ref h1, .ref g0, .int 0, .ref g1, .ref g2, .int 0, .int 0, .int 0, .int (-1), .int 0, .int 0, .int 0, .long 0, .ref g3, .ref g4, .int 0, .int 0]), (h1, aI Y 3640 (clB 0 (fun _ => 0)))] sz) (QI D (fun (r : Int32) (u : Unit) => (p0 < 0 ∧ 0 = r) ∨ ((-1) < p0 ∧ 0 = r)) (fun (_ : Unit) => [(h0, oC 13 [.ref h1, .ref g0, .int 1, .ref g1, .ref g2, .int 0, .int 0, .int 0, .int (-1), .int 0, .int 0, .int 0, .long 0, .ref g3, .ref g4, .int 0, .int 0]), (h1, aI Y 3640 (clB 0 (fun _ => 0)))]) (va_A [(h0, oC 13 [.ref h1, .ref g0, .int 0, .ref g1, .ref g2, .int 0, .int 0, .int 0, .int (-1), .int 0, .int 0, .int 0, .long 0, .ref g3, .ref g4, .int 0, .int 0]), (h1, aI Y 3640 (clB 0 (fun _ => 0)))] sz)) 0 0 (va_A [(h0, oC 13 [.ref h1, .ref g0, .int 0, .ref g1, .ref g2, .int 0, .int 0, .int 0, .int (-1), .int 0, .int 0, .int 0, .long 0, .ref g3, .ref g4, .int 0, .int 0]), (h1, aI Y 3640 (clB 0 (fun _ => 0)))] sz) :=
  met_of (by decide +kernel) (Nat.le_of_ble_eq_true rfl) (fun p e s m args below meth c B hin hsz => by
    have B : VB p s m args meth c D Y (va_A [(h0, oC 13 [.ref h1, .ref g0, .int 0, .ref g1, .ref g2, .int 0, .int 0, .int 0, .int (-1), .int 0, .int 0, .int 0, .long 0, .ref g3, .ref g4, .int 0, .int 0]), (h1, aI Y 3640 (clB 0 (fun _ => 0)))] sz) cX12_binding 3 RX12 (some .int) := B
    refine V_aload_n 0 B dX12_binding_0 0 rfl ?_
    refine V_iconst 1 B (v := 0) dX12_binding_1 (by decide +kernel) ?_
    refine V_put 2 B gp_RX12_38 0 rfl (Nat.le_of_ble_eq_true rfl) rfl rfl dX12_binding_2 [(h0, oC 13 [.ref h1, .ref g0, .int 0, .ref g1, .ref g2, .int 0, .int 0, .int 0, .int (-1), .int 0, .int 0, .int 0, .long 0, .ref g3, .ref g4, .int 0, .int 0]), (h1, aI Y 3640 (clB 0 (fun _ => 0)))] rfl ?_
    refine V_aload_n 5 B dX12_binding_5 0 rfl ?_
    refine V_aload_n 6 B dX12_binding_6 0 rfl ?_
    refine V_iload_n 7 B dX12_binding_7 1 rfl ?_
    refine V_cvi 8 B (st := [.ref h0]) (As := [.int p0]) (fun sz => mX12_isBinding_1 l D Y (h0) (h1) (g0) (g1) (g2) (g3) (g4) (p0) sz) glV_RX12_82 ⟨rfl, rfl⟩ ⟨(Nat.le_of_ble_eq_true rfl), (Nat.le_of_ble_eq_true rfl)⟩ ⟨(Nat.le_of_ble_eq_true rfl), (Nat.le_of_ble_eq_true rfl)⟩ [0, 0] rfl 13 0 rfl rfl rfl rfl (Nat.le_of_ble_eq_true rfl) rfl (fun _ _ _ => rfl) dX12_binding_8 (fun r0 u0 w0 => ?_)
    rcases w0 with ⟨k1, rfl⟩ | ⟨k2, rfl⟩
    ·
      refine V_ws [(h0, oC 13 [.ref h1, .ref g0, .int 0, .ref g1, .ref g2, .int 0, .int 0, .int 0, .int (-1), .int 0, .int 0, .int 0, .long 0, .ref g3, .ref g4, .int 0, .int 0]), (h1, aI Y 3640 (clB 0 (fun _ => 0)))] rfl ?_
      refine V_if_ne_f 11 B 18 dX12_binding_11 (by decide) (by decide +kernel) ?_
      refine V_iconst 14 B (v := 1) dX12_binding_14 (by decide +kernel) ?_
      refine V_goto 15 B 19 dX12_binding_15 (by decide) ?_
      refine V_iconst 19 B (v := 1) dX12_binding_19 (by decide +kernel) ?_
      refine V_cvi 20 B (st := []) (As := [.int 1, .int 1]) (fun sz => mX12_throwsIf_1 l D Y (h0) (h1) (g0) (g1) (g2) (g3) (g4) sz) glV_RX12_69 ⟨rfl, rfl⟩ ⟨(Nat.le_of_ble_eq_true rfl), (Nat.le_of_ble_eq_true rfl)⟩ ⟨(Nat.le_of_ble_eq_true rfl), (Nat.le_of_ble_eq_true rfl)⟩ [0] rfl 13 0 rfl rfl rfl rfl (Nat.le_of_ble_eq_true rfl) rfl (fun _ _ _ => rfl) dX12_binding_20 (fun r3 u3 w3 => ?_)
      obtain rfl := w3
      refine V_ws [(h0, oC 13 [.ref h1, .ref g0, .int 1, .ref g1, .ref g2, .int 0, .int 0, .int 0, .int (-1), .int 0, .int 0, .int 0, .long 0, .ref g3, .ref g4, .int 0, .int 0]), (h1, aI Y 3640 (clB 0 (fun _ => 0)))] rfl ?_
      refine V_if_eq_f 23 B 28 dX12_binding_23 (by decide) (by decide +kernel) ?_
      refine V_iconst 26 B (v := 0) dX12_binding_26 (by decide +kernel) ?_
      exact V_iret 27 B dX12_binding_27 () (Or.inl ⟨k1, rfl⟩) rfl
    ·
      refine V_ws [(h0, oC 13 [.ref h1, .ref g0, .int 0, .ref g1, .ref g2, .int 0, .int 0, .int 0, .int (-1), .int 0, .int 0, .int 0, .long 0, .ref g3, .ref g4, .int 0, .int 0]), (h1, aI Y 3640 (clB 0 (fun _ => 0)))] rfl ?_
      refine V_if_ne_f 11 B 18 dX12_binding_11 (by decide) (by decide +kernel) ?_
      refine V_iconst 14 B (v := 1) dX12_binding_14 (by decide +kernel) ?_
      refine V_goto 15 B 19 dX12_binding_15 (by decide) ?_
      refine V_iconst 19 B (v := 1) dX12_binding_19 (by decide +kernel) ?_
      refine V_cvi 20 B (st := []) (As := [.int 1, .int 1]) (fun sz => mX12_throwsIf_1 l D Y (h0) (h1) (g0) (g1) (g2) (g3) (g4) sz) glV_RX12_69 ⟨rfl, rfl⟩ ⟨(Nat.le_of_ble_eq_true rfl), (Nat.le_of_ble_eq_true rfl)⟩ ⟨(Nat.le_of_ble_eq_true rfl), (Nat.le_of_ble_eq_true rfl)⟩ [0] rfl 13 0 rfl rfl rfl rfl (Nat.le_of_ble_eq_true rfl) rfl (fun _ _ _ => rfl) dX12_binding_20 (fun r4 u4 w4 => ?_)
      obtain rfl := w4
      refine V_ws [(h0, oC 13 [.ref h1, .ref g0, .int 1, .ref g1, .ref g2, .int 0, .int 0, .int 0, .int (-1), .int 0, .int 0, .int 0, .long 0, .ref g3, .ref g4, .int 0, .int 0]), (h1, aI Y 3640 (clB 0 (fun _ => 0)))] rfl ?_
      refine V_if_eq_f 23 B 28 dX12_binding_23 (by decide) (by decide +kernel) ?_
      refine V_iconst 26 B (v := 0) dX12_binding_26 (by decide +kernel) ?_
      exact V_iret 27 B dX12_binding_27 () (Or.inr ⟨k2, rfl⟩) rfl)
theorem dX12_bindingStroke_0 : decode cX12_bindingStroke 0 = .ok (.aload_n 0, 1) := by decide +kernel
theorem dX12_bindingStroke_1 : decode cX12_bindingStroke 1 = .ok (.iconst 0, 1) := by decide +kernel
theorem dX12_bindingStroke_2 : decode cX12_bindingStroke 2 = .ok (.putfield 38, 3) := by decide +kernel
theorem dX12_bindingStroke_5 : decode cX12_bindingStroke 5 = .ok (.aload_n 0, 1) := by decide +kernel
theorem dX12_bindingStroke_6 : decode cX12_bindingStroke 6 = .ok (.aload_n 0, 1) := by decide +kernel
theorem dX12_bindingStroke_7 : decode cX12_bindingStroke 7 = .ok (.iload_n 1, 1) := by decide +kernel
theorem dX12_bindingStroke_8 : decode cX12_bindingStroke 8 = .ok (.invokevirtual 82, 3) := by decide +kernel
theorem dX12_bindingStroke_11 : decode cX12_bindingStroke 11 = .ok (.ifCond .ne 7, 3) := by decide +kernel
theorem dX12_bindingStroke_14 : decode cX12_bindingStroke 14 = .ok (.iconst 1, 1) := by decide +kernel
theorem dX12_bindingStroke_15 : decode cX12_bindingStroke 15 = .ok (.goto 4, 3) := by decide +kernel
theorem dX12_bindingStroke_19 : decode cX12_bindingStroke 19 = .ok (.iconst 1, 1) := by decide +kernel
theorem dX12_bindingStroke_20 : decode cX12_bindingStroke 20 = .ok (.invokevirtual 69, 3) := by decide +kernel
theorem dX12_bindingStroke_23 : decode cX12_bindingStroke 23 = .ok (.ifCond .eq 7, 3) := by decide +kernel
theorem dX12_bindingStroke_26 : decode cX12_bindingStroke 26 = .ok (.iconst 0, 1) := by decide +kernel
theorem dX12_bindingStroke_27 : decode cX12_bindingStroke 27 = .ok (.goto 12, 3) := by decide +kernel
theorem dX12_bindingStroke_39 : decode cX12_bindingStroke 39 = .ok (.ireturn, 1) := by decide +kernel
set_option maxRecDepth 100000 in
set_option maxHeartbeats 4000000 in
theorem mX12_bindingStroke_1 (l : Launch) (D : va_G) (Y : Nat → ClassId) (h0 : Nat) (h1 : Nat) (g0 : Nat) (g1 : Nat) (g2 : Nat) (g3 : Nat) (g4 : Nat) (p0 : Int32) (p1 : Int32) (sz : Nat) : Met l yX12_bindingStroke (WSm yX12_bindingStroke cX12_bindingStroke 3 (some .int)) (mkR 2 0 0 46) (PreC D Y [.ref h0, .int p0, .int p1] [(h0, oC 13 [.ref h1, .ref g0, .int 0, .ref g1, .ref g2, .int 0, .int 0, .int 0, .int (-1), .int 0, .int 0, .int 0, .long 0, .ref g3, .ref g4, .int 0, .int 0]), (h1, aI Y 3640 (clB 0 (fun _ => 0)))] sz) (QI D (fun (r : Int32) (u : Unit) => (p0 < 0 ∧ 0 = r) ∨ ((-1) < p0 ∧ 0 = r)) (fun (_ : Unit) => [(h0, oC 13 [.ref h1, .ref g0, .int 1, .ref g1, .ref g2, .int 0, .int 0, .int 0, .int (-1), .int 0, .int 0, .int 0, .long 0, .ref g3, .ref g4, .int 0, .int 0]), (h1, aI Y 3640 (clB 0 (fun _ => 0)))]) (va_A [(h0, oC 13 [.ref h1, .ref g0, .int 0, .ref g1, .ref g2, .int 0, .int 0, .int 0, .int (-1), .int 0, .int 0, .int 0, .long 0, .ref g3, .ref g4, .int 0, .int 0]), (h1, aI Y 3640 (clB 0 (fun _ => 0)))] sz)) 0 0 (va_A [(h0, oC 13 [.ref h1, .ref g0, .int 0, .ref g1, .ref g2, .int 0, .int 0, .int 0, .int (-1), .int 0, .int 0, .int 0, .long 0, .ref g3, .ref g4, .int 0, .int 0]), (h1, aI Y 3640 (clB 0 (fun _ => 0)))] sz) :=
  met_of (by decide +kernel) (Nat.le_of_ble_eq_true rfl) (fun p e s m args below meth c B hin hsz => by
    have B : VB p s m args meth c D Y (va_A [(h0, oC 13 [.ref h1, .ref g0, .int 0, .ref g1, .ref g2, .int 0, .int 0, .int 0, .int (-1), .int 0, .int 0, .int 0, .long 0, .ref g3, .ref g4, .int 0, .int 0]), (h1, aI Y 3640 (clB 0 (fun _ => 0)))] sz) cX12_bindingStroke 3 RX12 (some .int) := B
    refine V_aload_n 0 B dX12_bindingStroke_0 0 rfl ?_
    refine V_iconst 1 B (v := 0) dX12_bindingStroke_1 (by decide +kernel) ?_
    refine V_put 2 B gp_RX12_38 0 rfl (Nat.le_of_ble_eq_true rfl) rfl rfl dX12_bindingStroke_2 [(h0, oC 13 [.ref h1, .ref g0, .int 0, .ref g1, .ref g2, .int 0, .int 0, .int 0, .int (-1), .int 0, .int 0, .int 0, .long 0, .ref g3, .ref g4, .int 0, .int 0]), (h1, aI Y 3640 (clB 0 (fun _ => 0)))] rfl ?_
    refine V_aload_n 5 B dX12_bindingStroke_5 0 rfl ?_
    refine V_aload_n 6 B dX12_bindingStroke_6 0 rfl ?_
    refine V_iload_n 7 B dX12_bindingStroke_7 1 rfl ?_
    refine V_cvi 8 B (st := [.ref h0]) (As := [.int p0]) (fun sz => mX12_isBinding_1 l D Y (h0) (h1) (g0) (g1) (g2) (g3) (g4) (p0) sz) glV_RX12_82 ⟨rfl, rfl⟩ ⟨(Nat.le_of_ble_eq_true rfl), (Nat.le_of_ble_eq_true rfl)⟩ ⟨(Nat.le_of_ble_eq_true rfl), (Nat.le_of_ble_eq_true rfl)⟩ [0, 0] rfl 13 0 rfl rfl rfl rfl (Nat.le_of_ble_eq_true rfl) rfl (fun _ _ _ => rfl) dX12_bindingStroke_8 (fun r0 u0 w0 => ?_)
    rcases w0 with ⟨k1, rfl⟩ | ⟨k2, rfl⟩
    ·
      refine V_ws [(h0, oC 13 [.ref h1, .ref g0, .int 0, .ref g1, .ref g2, .int 0, .int 0, .int 0, .int (-1), .int 0, .int 0, .int 0, .long 0, .ref g3, .ref g4, .int 0, .int 0]), (h1, aI Y 3640 (clB 0 (fun _ => 0)))] rfl ?_
      refine V_if_ne_f 11 B 18 dX12_bindingStroke_11 (by decide) (by decide +kernel) ?_
      refine V_iconst 14 B (v := 1) dX12_bindingStroke_14 (by decide +kernel) ?_
      refine V_goto 15 B 19 dX12_bindingStroke_15 (by decide) ?_
      refine V_iconst 19 B (v := 1) dX12_bindingStroke_19 (by decide +kernel) ?_
      refine V_cvi 20 B (st := []) (As := [.int 1, .int 1]) (fun sz => mX12_throwsIf_1 l D Y (h0) (h1) (g0) (g1) (g2) (g3) (g4) sz) glV_RX12_69 ⟨rfl, rfl⟩ ⟨(Nat.le_of_ble_eq_true rfl), (Nat.le_of_ble_eq_true rfl)⟩ ⟨(Nat.le_of_ble_eq_true rfl), (Nat.le_of_ble_eq_true rfl)⟩ [0] rfl 13 0 rfl rfl rfl rfl (Nat.le_of_ble_eq_true rfl) rfl (fun _ _ _ => rfl) dX12_bindingStroke_20 (fun r3 u3 w3 => ?_)
      obtain rfl := w3
      refine V_ws [(h0, oC 13 [.ref h1, .ref g0, .int 1, .ref g1, .ref g2, .int 0, .int 0, .int 0, .int (-1), .int 0, .int 0, .int 0, .long 0, .ref g3, .ref g4, .int 0, .int 0]), (h1, aI Y 3640 (clB 0 (fun _ => 0)))] rfl ?_
      refine V_if_eq_f 23 B 30 dX12_bindingStroke_23 (by decide) (by decide +kernel) ?_
      refine V_iconst 26 B (v := 0) dX12_bindingStroke_26 (by decide +kernel) ?_
      refine V_goto 27 B 39 dX12_bindingStroke_27 (by decide) ?_
      exact V_iret 39 B dX12_bindingStroke_39 () (Or.inl ⟨k1, rfl⟩) rfl
    ·
      refine V_ws [(h0, oC 13 [.ref h1, .ref g0, .int 0, .ref g1, .ref g2, .int 0, .int 0, .int 0, .int (-1), .int 0, .int 0, .int 0, .long 0, .ref g3, .ref g4, .int 0, .int 0]), (h1, aI Y 3640 (clB 0 (fun _ => 0)))] rfl ?_
      refine V_if_ne_f 11 B 18 dX12_bindingStroke_11 (by decide) (by decide +kernel) ?_
      refine V_iconst 14 B (v := 1) dX12_bindingStroke_14 (by decide +kernel) ?_
      refine V_goto 15 B 19 dX12_bindingStroke_15 (by decide) ?_
      refine V_iconst 19 B (v := 1) dX12_bindingStroke_19 (by decide +kernel) ?_
      refine V_cvi 20 B (st := []) (As := [.int 1, .int 1]) (fun sz => mX12_throwsIf_1 l D Y (h0) (h1) (g0) (g1) (g2) (g3) (g4) sz) glV_RX12_69 ⟨rfl, rfl⟩ ⟨(Nat.le_of_ble_eq_true rfl), (Nat.le_of_ble_eq_true rfl)⟩ ⟨(Nat.le_of_ble_eq_true rfl), (Nat.le_of_ble_eq_true rfl)⟩ [0] rfl 13 0 rfl rfl rfl rfl (Nat.le_of_ble_eq_true rfl) rfl (fun _ _ _ => rfl) dX12_bindingStroke_20 (fun r4 u4 w4 => ?_)
      obtain rfl := w4
      refine V_ws [(h0, oC 13 [.ref h1, .ref g0, .int 1, .ref g1, .ref g2, .int 0, .int 0, .int 0, .int (-1), .int 0, .int 0, .int 0, .long 0, .ref g3, .ref g4, .int 0, .int 0]), (h1, aI Y 3640 (clB 0 (fun _ => 0)))] rfl ?_
      refine V_if_eq_f 23 B 30 dX12_bindingStroke_23 (by decide) (by decide +kernel) ?_
      refine V_iconst 26 B (v := 0) dX12_bindingStroke_26 (by decide +kernel) ?_
      refine V_goto 27 B 39 dX12_bindingStroke_27 (by decide) ?_
      exact V_iret 39 B dX12_bindingStroke_39 () (Or.inr ⟨k2, rfl⟩) rfl)
theorem dX12_clashing_0 : decode cX12_clashing 0 = .ok (.aload_n 0, 1) := by decide +kernel
theorem dX12_clashing_1 : decode cX12_clashing 1 = .ok (.iconst 0, 1) := by decide +kernel
theorem dX12_clashing_2 : decode cX12_clashing 2 = .ok (.putfield 38, 3) := by decide +kernel
theorem dX12_clashing_5 : decode cX12_clashing 5 = .ok (.aload_n 0, 1) := by decide +kernel
theorem dX12_clashing_6 : decode cX12_clashing 6 = .ok (.aload_n 0, 1) := by decide +kernel
theorem dX12_clashing_7 : decode cX12_clashing 7 = .ok (.iload_n 1, 1) := by decide +kernel
theorem dX12_clashing_8 : decode cX12_clashing 8 = .ok (.invokevirtual 91, 3) := by decide +kernel
theorem dX12_clashing_11 : decode cX12_clashing 11 = .ok (.ifCond .ne 7, 3) := by decide +kernel
theorem dX12_clashing_18 : decode cX12_clashing 18 = .ok (.iconst 0, 1) := by decide +kernel
theorem dX12_clashing_19 : decode cX12_clashing 19 = .ok (.iconst 1, 1) := by decide +kernel
theorem dX12_clashing_20 : decode cX12_clashing 20 = .ok (.invokevirtual 69, 3) := by decide +kernel
theorem dX12_clashing_23 : decode cX12_clashing 23 = .ok (.ifCond .eq 7, 3) := by decide +kernel
theorem dX12_clashing_30 : decode cX12_clashing 30 = .ok (.aload_n 0, 1) := by decide +kernel
theorem dX12_clashing_31 : decode cX12_clashing 31 = .ok (.invokevirtual 125, 3) := by decide +kernel
theorem dX12_clashing_34 : decode cX12_clashing 34 = .ok (.ifCond .eq 8, 3) := by decide +kernel
theorem dX12_clashing_37 : decode cX12_clashing 37 = .ok (.bipush (-4), 2) := by decide +kernel
theorem dX12_clashing_39 : decode cX12_clashing 39 = .ok (.goto 12, 3) := by decide +kernel
theorem dX12_clashing_51 : decode cX12_clashing 51 = .ok (.ireturn, 1) := by decide +kernel
theorem dX12_clashing_14 : decode cX12_clashing 14 = .ok (.iconst 1, 1) := by decide +kernel
theorem dX12_clashing_15 : decode cX12_clashing 15 = .ok (.goto 4, 3) := by decide +kernel
theorem dX12_clashing_26 : decode cX12_clashing 26 = .ok (.iconst 0, 1) := by decide +kernel
theorem dX12_clashing_27 : decode cX12_clashing 27 = .ok (.goto 24, 3) := by decide +kernel
set_option maxRecDepth 100000 in
set_option maxHeartbeats 4000000 in
theorem mX12_clashing_1 (l : Launch) (D : va_G) (Y : Nat → ClassId) (h0 : Nat) (h1 : Nat) (g0 : Nat) (g1 : Nat) (g2 : Nat) (g3 : Nat) (g4 : Nat) (p0 : Int32) (sz : Nat) : Met l yX12_clashing (WSm yX12_clashing cX12_clashing 2 (some .int)) (mkR 2 0 0 46) (PreC D Y [.ref h0, .int p0] [(h0, oC 13 [.ref h1, .ref g0, .int 0, .ref g1, .ref g2, .int 0, .int 0, .int 0, .int (-1), .int 0, .int 0, .int 0, .long 0, .ref g3, .ref g4, .int 0, .int 0]), (h1, aI Y 3640 (clB 0 (fun _ => 0)))] sz) (QI D (fun (r : Int32) (u : Nat) => (u = 0 ∧ p0 = 0 ∧ (-4) = r) ∨ (u = 1 ∧ p0 < 0 ∧ 0 = r) ∨ (u = 2 ∧ 0 < p0 ∧ 0 = r)) (fun (u : Nat) => match u with | 0 => [(h0, oC 13 [.ref h1, .ref g0, .int 0, .ref g1, .ref g2, .int 0, .int 0, .int 0, .int (-1), .int 0, .int 0, .int 0, .long 0, .ref g3, .ref g4, .int 0, .int 0]), (h1, aI Y 3640 (clB 0 (fun _ => 0)))] | 1 => [(h0, oC 13 [.ref h1, .ref g0, .int 1, .ref g1, .ref g2, .int 0, .int 0, .int 0, .int (-1), .int 0, .int 0, .int 0, .long 0, .ref g3, .ref g4, .int 0, .int 0]), (h1, aI Y 3640 (clB 0 (fun _ => 0)))] | _ => [(h0, oC 13 [.ref h1, .ref g0, .int 1, .ref g1, .ref g2, .int 0, .int 0, .int 0, .int (-1), .int 0, .int 0, .int 0, .long 0, .ref g3, .ref g4, .int 0, .int 0]), (h1, aI Y 3640 (clB 0 (fun _ => 0)))]) (va_A [(h0, oC 13 [.ref h1, .ref g0, .int 0, .ref g1, .ref g2, .int 0, .int 0, .int 0, .int (-1), .int 0, .int 0, .int 0, .long 0, .ref g3, .ref g4, .int 0, .int 0]), (h1, aI Y 3640 (clB 0 (fun _ => 0)))] sz)) 0 0 (va_A [(h0, oC 13 [.ref h1, .ref g0, .int 0, .ref g1, .ref g2, .int 0, .int 0, .int 0, .int (-1), .int 0, .int 0, .int 0, .long 0, .ref g3, .ref g4, .int 0, .int 0]), (h1, aI Y 3640 (clB 0 (fun _ => 0)))] sz) :=
  met_of (by decide +kernel) (Nat.le_of_ble_eq_true rfl) (fun p e s m args below meth c B hin hsz => by
    have B : VB p s m args meth c D Y (va_A [(h0, oC 13 [.ref h1, .ref g0, .int 0, .ref g1, .ref g2, .int 0, .int 0, .int 0, .int (-1), .int 0, .int 0, .int 0, .long 0, .ref g3, .ref g4, .int 0, .int 0]), (h1, aI Y 3640 (clB 0 (fun _ => 0)))] sz) cX12_clashing 2 RX12 (some .int) := B
    refine V_aload_n 0 B dX12_clashing_0 0 rfl ?_
    refine V_iconst 1 B (v := 0) dX12_clashing_1 (by decide +kernel) ?_
    refine V_put 2 B gp_RX12_38 0 rfl (Nat.le_of_ble_eq_true rfl) rfl rfl dX12_clashing_2 [(h0, oC 13 [.ref h1, .ref g0, .int 0, .ref g1, .ref g2, .int 0, .int 0, .int 0, .int (-1), .int 0, .int 0, .int 0, .long 0, .ref g3, .ref g4, .int 0, .int 0]), (h1, aI Y 3640 (clB 0 (fun _ => 0)))] rfl ?_
    refine V_aload_n 5 B dX12_clashing_5 0 rfl ?_
    refine V_aload_n 6 B dX12_clashing_6 0 rfl ?_
    refine V_iload_n 7 B dX12_clashing_7 1 rfl ?_
    refine V_cvi 8 B (st := [.ref h0]) (As := [.int p0]) (fun sz => mX12_isMode_1 l D Y (h0) (h1) (g0) (g1) (g2) (g3) (g4) (p0) sz) glV_RX12_91 ⟨rfl, rfl⟩ ⟨(Nat.le_of_ble_eq_true rfl), (Nat.le_of_ble_eq_true rfl)⟩ ⟨(Nat.le_of_ble_eq_true rfl), (Nat.le_of_ble_eq_true rfl)⟩ [0, 0] rfl 13 0 rfl rfl rfl rfl (Nat.le_of_ble_eq_true rfl) rfl (fun _ _ _ => rfl) dX12_clashing_8 (fun r0 u0 w0 => ?_)
    rcases w0 with ⟨k1, rfl⟩ | ⟨k2, rfl⟩ | ⟨k3, rfl⟩
    ·
      refine V_ws [(h0, oC 13 [.ref h1, .ref g0, .int 0, .ref g1, .ref g2, .int 0, .int 0, .int 0, .int (-1), .int 0, .int 0, .int 0, .long 0, .ref g3, .ref g4, .int 0, .int 0]), (h1, aI Y 3640 (clB 0 (fun _ => 0)))] rfl ?_
      obtain rfl : p0 = 0 := k1
      refine V_if_ne_t 11 B 18 dX12_clashing_11 (by decide) (by decide +kernel) ?_
      refine V_iconst 18 B (v := 0) dX12_clashing_18 (by decide +kernel) ?_
      refine V_iconst 19 B (v := 1) dX12_clashing_19 (by decide +kernel) ?_
      refine V_cvi 20 B (st := []) (As := [.int 0, .int 1]) (fun sz => mX12_throwsIf_2 l D Y (h0) (h1) (g0) (g1) (g2) (g3) (g4) sz) glV_RX12_69 ⟨rfl, rfl⟩ ⟨(Nat.le_of_ble_eq_true rfl), (Nat.le_of_ble_eq_true rfl)⟩ ⟨(Nat.le_of_ble_eq_true rfl), (Nat.le_of_ble_eq_true rfl)⟩ [0] rfl 13 0 rfl rfl rfl rfl (Nat.le_of_ble_eq_true rfl) rfl (fun _ _ _ => rfl) dX12_clashing_20 (fun r4 u4 w4 => ?_)
      obtain rfl := w4
      refine V_ws [(h0, oC 13 [.ref h1, .ref g0, .int 0, .ref g1, .ref g2, .int 0, .int 0, .int 0, .int (-1), .int 0, .int 0, .int 0, .long 0, .ref g3, .ref g4, .int 0, .int 0]), (h1, aI Y 3640 (clB 0 (fun _ => 0)))] rfl ?_
      refine V_if_eq_t 23 B 30 dX12_clashing_23 (by decide) (by decide +kernel) ?_
      refine V_aload_n 30 B dX12_clashing_30 0 rfl ?_
      refine V_cvi 31 B (st := []) (As := []) (fun sz => mX12_hasNoDraft_1 l D Y (h0) (h1) (g0) (g1) (g2) (g3) (g4) sz) glV_RX12_125 ⟨rfl, rfl⟩ ⟨(Nat.le_of_ble_eq_true rfl), (Nat.le_of_ble_eq_true rfl)⟩ ⟨(Nat.le_of_ble_eq_true rfl), (Nat.le_of_ble_eq_true rfl)⟩ [0, 0] rfl 13 0 rfl rfl rfl rfl (Nat.le_of_ble_eq_true rfl) rfl (fun _ _ _ => rfl) dX12_clashing_31 (fun r5 u5 w5 => ?_)
      obtain rfl := w5
      refine V_ws [(h0, oC 13 [.ref h1, .ref g0, .int 0, .ref g1, .ref g2, .int 0, .int 0, .int 0, .int (-1), .int 0, .int 0, .int 0, .long 0, .ref g3, .ref g4, .int 0, .int 0]), (h1, aI Y 3640 (clB 0 (fun _ => 0)))] rfl ?_
      refine V_if_eq_f 34 B 42 dX12_clashing_34 (by decide) (by decide +kernel) ?_
      refine V_bipush 37 B (v := (-4)) dX12_clashing_37 (by decide +kernel) ?_
      refine V_goto 39 B 51 dX12_clashing_39 (by decide) ?_
      exact V_iret 51 B dX12_clashing_51 0 (Or.inl ⟨rfl, rfl, rfl⟩) rfl
    ·
      refine V_ws [(h0, oC 13 [.ref h1, .ref g0, .int 0, .ref g1, .ref g2, .int 0, .int 0, .int 0, .int (-1), .int 0, .int 0, .int 0, .long 0, .ref g3, .ref g4, .int 0, .int 0]), (h1, aI Y 3640 (clB 0 (fun _ => 0)))] rfl ?_
      refine V_if_ne_f 11 B 18 dX12_clashing_11 (by decide) (by decide +kernel) ?_
      refine V_iconst 14 B (v := 1) dX12_clashing_14 (by decide +kernel) ?_
      refine V_goto 15 B 19 dX12_clashing_15 (by decide) ?_
      refine V_iconst 19 B (v := 1) dX12_clashing_19 (by decide +kernel) ?_
      refine V_cvi 20 B (st := []) (As := [.int 1, .int 1]) (fun sz => mX12_throwsIf_1 l D Y (h0) (h1) (g0) (g1) (g2) (g3) (g4) sz) glV_RX12_69 ⟨rfl, rfl⟩ ⟨(Nat.le_of_ble_eq_true rfl), (Nat.le_of_ble_eq_true rfl)⟩ ⟨(Nat.le_of_ble_eq_true rfl), (Nat.le_of_ble_eq_true rfl)⟩ [0] rfl 13 0 rfl rfl rfl rfl (Nat.le_of_ble_eq_true rfl) rfl (fun _ _ _ => rfl) dX12_clashing_20 (fun r6 u6 w6 => ?_)
      obtain rfl := w6
      refine V_ws [(h0, oC 13 [.ref h1, .ref g0, .int 1, .ref g1, .ref g2, .int 0, .int 0, .int 0, .int (-1), .int 0, .int 0, .int 0, .long 0, .ref g3, .ref g4, .int 0, .int 0]), (h1, aI Y 3640 (clB 0 (fun _ => 0)))] rfl ?_
      refine V_if_eq_f 23 B 30 dX12_clashing_23 (by decide) (by decide +kernel) ?_
      refine V_iconst 26 B (v := 0) dX12_clashing_26 (by decide +kernel) ?_
      refine V_goto 27 B 51 dX12_clashing_27 (by decide) ?_
      exact V_iret 51 B dX12_clashing_51 1 (Or.inr (Or.inl ⟨rfl, k2, rfl⟩)) rfl
    ·
      refine V_ws [(h0, oC 13 [.ref h1, .ref g0, .int 0, .ref g1, .ref g2, .int 0, .int 0, .int 0, .int (-1), .int 0, .int 0, .int 0, .long 0, .ref g3, .ref g4, .int 0, .int 0]), (h1, aI Y 3640 (clB 0 (fun _ => 0)))] rfl ?_
      refine V_if_ne_f 11 B 18 dX12_clashing_11 (by decide) (by decide +kernel) ?_
      refine V_iconst 14 B (v := 1) dX12_clashing_14 (by decide +kernel) ?_
      refine V_goto 15 B 19 dX12_clashing_15 (by decide) ?_
      refine V_iconst 19 B (v := 1) dX12_clashing_19 (by decide +kernel) ?_
      refine V_cvi 20 B (st := []) (As := [.int 1, .int 1]) (fun sz => mX12_throwsIf_1 l D Y (h0) (h1) (g0) (g1) (g2) (g3) (g4) sz) glV_RX12_69 ⟨rfl, rfl⟩ ⟨(Nat.le_of_ble_eq_true rfl), (Nat.le_of_ble_eq_true rfl)⟩ ⟨(Nat.le_of_ble_eq_true rfl), (Nat.le_of_ble_eq_true rfl)⟩ [0] rfl 13 0 rfl rfl rfl rfl (Nat.le_of_ble_eq_true rfl) rfl (fun _ _ _ => rfl) dX12_clashing_20 (fun r7 u7 w7 => ?_)
      obtain rfl := w7
      refine V_ws [(h0, oC 13 [.ref h1, .ref g0, .int 1, .ref g1, .ref g2, .int 0, .int 0, .int 0, .int (-1), .int 0, .int 0, .int 0, .long 0, .ref g3, .ref g4, .int 0, .int 0]), (h1, aI Y 3640 (clB 0 (fun _ => 0)))] rfl ?_
      refine V_if_eq_f 23 B 30 dX12_clashing_23 (by decide) (by decide +kernel) ?_
      refine V_iconst 26 B (v := 0) dX12_clashing_26 (by decide +kernel) ?_
      refine V_goto 27 B 51 dX12_clashing_27 (by decide) ?_
      exact V_iret 51 B dX12_clashing_51 2 (Or.inr (Or.inr ⟨rfl, k3, rfl⟩)) rfl)
theorem dX12_clashes_0 : decode cX12_clashes 0 = .ok (.aload_n 0, 1) := by decide +kernel
theorem dX12_clashes_1 : decode cX12_clashes 1 = .ok (.iconst 0, 1) := by decide +kernel
theorem dX12_clashes_2 : decode cX12_clashes 2 = .ok (.putfield 38, 3) := by decide +kernel
theorem dX12_clashes_5 : decode cX12_clashes 5 = .ok (.aload_n 0, 1) := by decide +kernel
theorem dX12_clashes_6 : decode cX12_clashes 6 = .ok (.aload_n 0, 1) := by decide +kernel
theorem dX12_clashes_7 : decode cX12_clashes 7 = .ok (.iload_n 1, 1) := by decide +kernel
theorem dX12_clashes_8 : decode cX12_clashes 8 = .ok (.invokevirtual 91, 3) := by decide +kernel
theorem dX12_clashes_11 : decode cX12_clashes 11 = .ok (.ifCond .ne 7, 3) := by decide +kernel
theorem dX12_clashes_18 : decode cX12_clashes 18 = .ok (.iconst 0, 1) := by decide +kernel
theorem dX12_clashes_19 : decode cX12_clashes 19 = .ok (.iconst 1, 1) := by decide +kernel
theorem dX12_clashes_20 : decode cX12_clashes 20 = .ok (.invokevirtual 69, 3) := by decide +kernel
theorem dX12_clashes_23 : decode cX12_clashes 23 = .ok (.ifCond .eq 7, 3) := by decide +kernel
theorem dX12_clashes_30 : decode cX12_clashes 30 = .ok (.aload_n 0, 1) := by decide +kernel
theorem dX12_clashes_31 : decode cX12_clashes 31 = .ok (.invokevirtual 125, 3) := by decide +kernel
theorem dX12_clashes_34 : decode cX12_clashes 34 = .ok (.ifCond .eq 8, 3) := by decide +kernel
theorem dX12_clashes_37 : decode cX12_clashes 37 = .ok (.bipush (-4), 2) := by decide +kernel
theorem dX12_clashes_39 : decode cX12_clashes 39 = .ok (.goto 11, 3) := by decide +kernel
theorem dX12_clashes_50 : decode cX12_clashes 50 = .ok (.ireturn, 1) := by decide +kernel
theorem dX12_clashes_14 : decode cX12_clashes 14 = .ok (.iconst 1, 1) := by decide +kernel
theorem dX12_clashes_15 : decode cX12_clashes 15 = .ok (.goto 4, 3) := by decide +kernel
theorem dX12_clashes_26 : decode cX12_clashes 26 = .ok (.iconst 0, 1) := by decide +kernel
theorem dX12_clashes_27 : decode cX12_clashes 27 = .ok (.goto 23, 3) := by decide +kernel
set_option maxRecDepth 100000 in
set_option maxHeartbeats 4000000 in
theorem mX12_clashes_1 (l : Launch) (D : va_G) (Y : Nat → ClassId) (h0 : Nat) (h1 : Nat) (g0 : Nat) (g1 : Nat) (g2 : Nat) (g3 : Nat) (g4 : Nat) (p0 : Int32) (sz : Nat) : Met l yX12_clashes (WSm yX12_clashes cX12_clashes 2 (some .int)) (mkR 2 0 0 46) (PreC D Y [.ref h0, .int p0] [(h0, oC 13 [.ref h1, .ref g0, .int 0, .ref g1, .ref g2, .int 0, .int 0, .int 0, .int (-1), .int 0, .int 0, .int 0, .long 0, .ref g3, .ref g4, .int 0, .int 0]), (h1, aI Y 3640 (clB 0 (fun _ => 0)))] sz) (QI D (fun (r : Int32) (u : Nat) => (u = 0 ∧ p0 = 0 ∧ (-4) = r) ∨ (u = 1 ∧ p0 < 0 ∧ 0 = r) ∨ (u = 2 ∧ 0 < p0 ∧ 0 = r)) (fun (u : Nat) => match u with | 0 => [(h0, oC 13 [.ref h1, .ref g0, .int 0, .ref g1, .ref g2, .int 0, .int 0, .int 0, .int (-1), .int 0, .int 0, .int 0, .long 0, .ref g3, .ref g4, .int 0, .int 0]), (h1, aI Y 3640 (clB 0 (fun _ => 0)))] | 1 => [(h0, oC 13 [.ref h1, .ref g0, .int 1, .ref g1, .ref g2, .int 0, .int 0, .int 0, .int (-1), .int 0, .int 0, .int 0, .long 0, .ref g3, .ref g4, .int 0, .int 0]), (h1, aI Y 3640 (clB 0 (fun _ => 0)))] | _ => [(h0, oC 13 [.ref h1, .ref g0, .int 1, .ref g1, .ref g2, .int 0, .int 0, .int 0, .int (-1), .int 0, .int 0, .int 0, .long 0, .ref g3, .ref g4, .int 0, .int 0]), (h1, aI Y 3640 (clB 0 (fun _ => 0)))]) (va_A [(h0, oC 13 [.ref h1, .ref g0, .int 0, .ref g1, .ref g2, .int 0, .int 0, .int 0, .int (-1), .int 0, .int 0, .int 0, .long 0, .ref g3, .ref g4, .int 0, .int 0]), (h1, aI Y 3640 (clB 0 (fun _ => 0)))] sz)) 0 0 (va_A [(h0, oC 13 [.ref h1, .ref g0, .int 0, .ref g1, .ref g2, .int 0, .int 0, .int 0, .int (-1), .int 0, .int 0, .int 0, .long 0, .ref g3, .ref g4, .int 0, .int 0]), (h1, aI Y 3640 (clB 0 (fun _ => 0)))] sz) :=
  met_of (by decide +kernel) (Nat.le_of_ble_eq_true rfl) (fun p e s m args below meth c B hin hsz => by
    have B : VB p s m args meth c D Y (va_A [(h0, oC 13 [.ref h1, .ref g0, .int 0, .ref g1, .ref g2, .int 0, .int 0, .int 0, .int (-1), .int 0, .int 0, .int 0, .long 0, .ref g3, .ref g4, .int 0, .int 0]), (h1, aI Y 3640 (clB 0 (fun _ => 0)))] sz) cX12_clashes 2 RX12 (some .int) := B
    refine V_aload_n 0 B dX12_clashes_0 0 rfl ?_
    refine V_iconst 1 B (v := 0) dX12_clashes_1 (by decide +kernel) ?_
    refine V_put 2 B gp_RX12_38 0 rfl (Nat.le_of_ble_eq_true rfl) rfl rfl dX12_clashes_2 [(h0, oC 13 [.ref h1, .ref g0, .int 0, .ref g1, .ref g2, .int 0, .int 0, .int 0, .int (-1), .int 0, .int 0, .int 0, .long 0, .ref g3, .ref g4, .int 0, .int 0]), (h1, aI Y 3640 (clB 0 (fun _ => 0)))] rfl ?_
    refine V_aload_n 5 B dX12_clashes_5 0 rfl ?_
    refine V_aload_n 6 B dX12_clashes_6 0 rfl ?_
    refine V_iload_n 7 B dX12_clashes_7 1 rfl ?_
    refine V_cvi 8 B (st := [.ref h0]) (As := [.int p0]) (fun sz => mX12_isMode_1 l D Y (h0) (h1) (g0) (g1) (g2) (g3) (g4) (p0) sz) glV_RX12_91 ⟨rfl, rfl⟩ ⟨(Nat.le_of_ble_eq_true rfl), (Nat.le_of_ble_eq_true rfl)⟩ ⟨(Nat.le_of_ble_eq_true rfl), (Nat.le_of_ble_eq_true rfl)⟩ [0, 0] rfl 13 0 rfl rfl rfl rfl (Nat.le_of_ble_eq_true rfl) rfl (fun _ _ _ => rfl) dX12_clashes_8 (fun r0 u0 w0 => ?_)
    rcases w0 with ⟨k1, rfl⟩ | ⟨k2, rfl⟩ | ⟨k3, rfl⟩
    ·
      refine V_ws [(h0, oC 13 [.ref h1, .ref g0, .int 0, .ref g1, .ref g2, .int 0, .int 0, .int 0, .int (-1), .int 0, .int 0, .int 0, .long 0, .ref g3, .ref g4, .int 0, .int 0]), (h1, aI Y 3640 (clB 0 (fun _ => 0)))] rfl ?_
      obtain rfl : p0 = 0 := k1
      refine V_if_ne_t 11 B 18 dX12_clashes_11 (by decide) (by decide +kernel) ?_
      refine V_iconst 18 B (v := 0) dX12_clashes_18 (by decide +kernel) ?_
      refine V_iconst 19 B (v := 1) dX12_clashes_19 (by decide +kernel) ?_
      refine V_cvi 20 B (st := []) (As := [.int 0, .int 1]) (fun sz => mX12_throwsIf_2 l D Y (h0) (h1) (g0) (g1) (g2) (g3) (g4) sz) glV_RX12_69 ⟨rfl, rfl⟩ ⟨(Nat.le_of_ble_eq_true rfl), (Nat.le_of_ble_eq_true rfl)⟩ ⟨(Nat.le_of_ble_eq_true rfl), (Nat.le_of_ble_eq_true rfl)⟩ [0] rfl 13 0 rfl rfl rfl rfl (Nat.le_of_ble_eq_true rfl) rfl (fun _ _ _ => rfl) dX12_clashes_20 (fun r4 u4 w4 => ?_)
      obtain rfl := w4
      refine V_ws [(h0, oC 13 [.ref h1, .ref g0, .int 0, .ref g1, .ref g2, .int 0, .int 0, .int 0, .int (-1), .int 0, .int 0, .int 0, .long 0, .ref g3, .ref g4, .int 0, .int 0]), (h1, aI Y 3640 (clB 0 (fun _ => 0)))] rfl ?_
      refine V_if_eq_t 23 B 30 dX12_clashes_23 (by decide) (by decide +kernel) ?_
      refine V_aload_n 30 B dX12_clashes_30 0 rfl ?_
      refine V_cvi 31 B (st := []) (As := []) (fun sz => mX12_hasNoDraft_1 l D Y (h0) (h1) (g0) (g1) (g2) (g3) (g4) sz) glV_RX12_125 ⟨rfl, rfl⟩ ⟨(Nat.le_of_ble_eq_true rfl), (Nat.le_of_ble_eq_true rfl)⟩ ⟨(Nat.le_of_ble_eq_true rfl), (Nat.le_of_ble_eq_true rfl)⟩ [0, 0] rfl 13 0 rfl rfl rfl rfl (Nat.le_of_ble_eq_true rfl) rfl (fun _ _ _ => rfl) dX12_clashes_31 (fun r5 u5 w5 => ?_)
      obtain rfl := w5
      refine V_ws [(h0, oC 13 [.ref h1, .ref g0, .int 0, .ref g1, .ref g2, .int 0, .int 0, .int 0, .int (-1), .int 0, .int 0, .int 0, .long 0, .ref g3, .ref g4, .int 0, .int 0]), (h1, aI Y 3640 (clB 0 (fun _ => 0)))] rfl ?_
      refine V_if_eq_f 34 B 42 dX12_clashes_34 (by decide) (by decide +kernel) ?_
      refine V_bipush 37 B (v := (-4)) dX12_clashes_37 (by decide +kernel) ?_
      refine V_goto 39 B 50 dX12_clashes_39 (by decide) ?_
      exact V_iret 50 B dX12_clashes_50 0 (Or.inl ⟨rfl, rfl, rfl⟩) rfl
    ·
      refine V_ws [(h0, oC 13 [.ref h1, .ref g0, .int 0, .ref g1, .ref g2, .int 0, .int 0, .int 0, .int (-1), .int 0, .int 0, .int 0, .long 0, .ref g3, .ref g4, .int 0, .int 0]), (h1, aI Y 3640 (clB 0 (fun _ => 0)))] rfl ?_
      refine V_if_ne_f 11 B 18 dX12_clashes_11 (by decide) (by decide +kernel) ?_
      refine V_iconst 14 B (v := 1) dX12_clashes_14 (by decide +kernel) ?_
      refine V_goto 15 B 19 dX12_clashes_15 (by decide) ?_
      refine V_iconst 19 B (v := 1) dX12_clashes_19 (by decide +kernel) ?_
      refine V_cvi 20 B (st := []) (As := [.int 1, .int 1]) (fun sz => mX12_throwsIf_1 l D Y (h0) (h1) (g0) (g1) (g2) (g3) (g4) sz) glV_RX12_69 ⟨rfl, rfl⟩ ⟨(Nat.le_of_ble_eq_true rfl), (Nat.le_of_ble_eq_true rfl)⟩ ⟨(Nat.le_of_ble_eq_true rfl), (Nat.le_of_ble_eq_true rfl)⟩ [0] rfl 13 0 rfl rfl rfl rfl (Nat.le_of_ble_eq_true rfl) rfl (fun _ _ _ => rfl) dX12_clashes_20 (fun r6 u6 w6 => ?_)
      obtain rfl := w6
      refine V_ws [(h0, oC 13 [.ref h1, .ref g0, .int 1, .ref g1, .ref g2, .int 0, .int 0, .int 0, .int (-1), .int 0, .int 0, .int 0, .long 0, .ref g3, .ref g4, .int 0, .int 0]), (h1, aI Y 3640 (clB 0 (fun _ => 0)))] rfl ?_
      refine V_if_eq_f 23 B 30 dX12_clashes_23 (by decide) (by decide +kernel) ?_
      refine V_iconst 26 B (v := 0) dX12_clashes_26 (by decide +kernel) ?_
      refine V_goto 27 B 50 dX12_clashes_27 (by decide) ?_
      exact V_iret 50 B dX12_clashes_50 1 (Or.inr (Or.inl ⟨rfl, k2, rfl⟩)) rfl
    ·
      refine V_ws [(h0, oC 13 [.ref h1, .ref g0, .int 0, .ref g1, .ref g2, .int 0, .int 0, .int 0, .int (-1), .int 0, .int 0, .int 0, .long 0, .ref g3, .ref g4, .int 0, .int 0]), (h1, aI Y 3640 (clB 0 (fun _ => 0)))] rfl ?_
      refine V_if_ne_f 11 B 18 dX12_clashes_11 (by decide) (by decide +kernel) ?_
      refine V_iconst 14 B (v := 1) dX12_clashes_14 (by decide +kernel) ?_
      refine V_goto 15 B 19 dX12_clashes_15 (by decide) ?_
      refine V_iconst 19 B (v := 1) dX12_clashes_19 (by decide +kernel) ?_
      refine V_cvi 20 B (st := []) (As := [.int 1, .int 1]) (fun sz => mX12_throwsIf_1 l D Y (h0) (h1) (g0) (g1) (g2) (g3) (g4) sz) glV_RX12_69 ⟨rfl, rfl⟩ ⟨(Nat.le_of_ble_eq_true rfl), (Nat.le_of_ble_eq_true rfl)⟩ ⟨(Nat.le_of_ble_eq_true rfl), (Nat.le_of_ble_eq_true rfl)⟩ [0] rfl 13 0 rfl rfl rfl rfl (Nat.le_of_ble_eq_true rfl) rfl (fun _ _ _ => rfl) dX12_clashes_20 (fun r7 u7 w7 => ?_)
      obtain rfl := w7
      refine V_ws [(h0, oC 13 [.ref h1, .ref g0, .int 1, .ref g1, .ref g2, .int 0, .int 0, .int 0, .int (-1), .int 0, .int 0, .int 0, .long 0, .ref g3, .ref g4, .int 0, .int 0]), (h1, aI Y 3640 (clB 0 (fun _ => 0)))] rfl ?_
      refine V_if_eq_f 23 B 30 dX12_clashes_23 (by decide) (by decide +kernel) ?_
      refine V_iconst 26 B (v := 0) dX12_clashes_26 (by decide +kernel) ?_
      refine V_goto 27 B 50 dX12_clashes_27 (by decide) ?_
      exact V_iret 50 B dX12_clashes_50 2 (Or.inr (Or.inr ⟨rfl, k3, rfl⟩)) rfl)
