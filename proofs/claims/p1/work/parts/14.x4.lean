theorem dX11_errorCode_0 : decode cX11_errorCode 0 = .ok (.aload_n 0, 1) := by decide +kernel
theorem dX11_errorCode_1 : decode cX11_errorCode 1 = .ok (.getfield 46, 3) := by decide +kernel
theorem dX11_errorCode_4 : decode cX11_errorCode 4 = .ok (.getfield 101, 3) := by decide +kernel
theorem gf_RX11_101 : GF RX11 101 8 7 := ⟨RX7, TX7, 9, rfl, inw_X7, Nat.le_of_ble_eq_true rfl, (mT2 54 rfl rfl)⟩
theorem dX11_errorCode_7 : decode cX11_errorCode 7 = .ok (.ireturn, 1) := by decide +kernel
set_option maxRecDepth 100000 in
set_option maxHeartbeats 4000000 in
theorem mX11_errorCode_1 (l : Launch) (D : va_G) (Y : Nat → ClassId) (h0 : Nat) (g0 : Nat) (g1 : Nat) (g2 : Nat) (g3 : Nat) (g4 : Nat) (g5 : Nat) (h1 : Nat) (g6 : Nat) (g7 : Nat) (g8 : Nat) (sz : Nat) : Met l yX11_errorCode (WSm yX11_errorCode cX11_errorCode 1 (some .int)) (mkR 0 0 0 0) (PreC D Y [.ref h0] [(h0, oC 12 [.ref g0, .ref g1, .ref g2, .ref g3, .ref g4, .ref g5, .ref h1, .ref g6, .ref g7, .long 0]), (h1, oC 8 [.ref g8, .int 0, .int 0, .int 0, .int 0, .int 0, .long 0, .int 0, .int (-1)])] sz) (QI D (fun (r : Int32) (u : Unit) => 0 = r) (fun (_ : Unit) => [(h0, oC 12 [.ref g0, .ref g1, .ref g2, .ref g3, .ref g4, .ref g5, .ref h1, .ref g6, .ref g7, .long 0]), (h1, oC 8 [.ref g8, .int 0, .int 0, .int 0, .int 0, .int 0, .long 0, .int 0, .int (-1)])]) (va_A [(h0, oC 12 [.ref g0, .ref g1, .ref g2, .ref g3, .ref g4, .ref g5, .ref h1, .ref g6, .ref g7, .long 0]), (h1, oC 8 [.ref g8, .int 0, .int 0, .int 0, .int 0, .int 0, .long 0, .int 0, .int (-1)])] sz)) 0 0 (va_A [(h0, oC 12 [.ref g0, .ref g1, .ref g2, .ref g3, .ref g4, .ref g5, .ref h1, .ref g6, .ref g7, .long 0]), (h1, oC 8 [.ref g8, .int 0, .int 0, .int 0, .int 0, .int 0, .long 0, .int 0, .int (-1)])] sz) :=
  met_of (by decide +kernel) (Nat.le_of_ble_eq_true rfl) (fun p e s m args below meth c B hin hsz => by
    have B : VB p s m args meth c D Y (va_A [(h0, oC 12 [.ref g0, .ref g1, .ref g2, .ref g3, .ref g4, .ref g5, .ref h1, .ref g6, .ref g7, .long 0]), (h1, oC 8 [.ref g8, .int 0, .int 0, .int 0, .int 0, .int 0, .long 0, .int 0, .int (-1)])] sz) cX11_errorCode 1 RX11 (some .int) := B
    refine V_aload_n 0 B dX11_errorCode_0 0 rfl ?_
    refine V_get 1 B gf_RX11_46 0 rfl rfl dX11_errorCode_1 ?_
    refine V_get 4 B gf_RX11_101 1 rfl rfl dX11_errorCode_4 ?_
    exact V_iret 7 B dX11_errorCode_7 () rfl rfl)
theorem dX11_errorPosition_0 : decode cX11_errorPosition 0 = .ok (.aload_n 0, 1) := by decide +kernel
theorem dX11_errorPosition_1 : decode cX11_errorPosition 1 = .ok (.getfield 46, 3) := by decide +kernel
theorem dX11_errorPosition_4 : decode cX11_errorPosition 4 = .ok (.getfield 104, 3) := by decide +kernel
theorem gf_RX11_104 : GF RX11 104 8 8 := ⟨RX7, TX7, 9, rfl, inw_X7, Nat.le_of_ble_eq_true rfl, (mT2 56 rfl rfl)⟩
theorem dX11_errorPosition_7 : decode cX11_errorPosition 7 = .ok (.ireturn, 1) := by decide +kernel
set_option maxRecDepth 100000 in
set_option maxHeartbeats 4000000 in
theorem mX11_errorPosition_1 (l : Launch) (D : va_G) (Y : Nat → ClassId) (h0 : Nat) (g0 : Nat) (g1 : Nat) (g2 : Nat) (g3 : Nat) (g4 : Nat) (g5 : Nat) (h1 : Nat) (g6 : Nat) (g7 : Nat) (g8 : Nat) (sz : Nat) : Met l yX11_errorPosition (WSm yX11_errorPosition cX11_errorPosition 1 (some .int)) (mkR 0 0 0 0) (PreC D Y [.ref h0] [(h0, oC 12 [.ref g0, .ref g1, .ref g2, .ref g3, .ref g4, .ref g5, .ref h1, .ref g6, .ref g7, .long 0]), (h1, oC 8 [.ref g8, .int 0, .int 0, .int 0, .int 0, .int 0, .long 0, .int 0, .int (-1)])] sz) (QI D (fun (r : Int32) (u : Unit) => (-1) = r) (fun (_ : Unit) => [(h0, oC 12 [.ref g0, .ref g1, .ref g2, .ref g3, .ref g4, .ref g5, .ref h1, .ref g6, .ref g7, .long 0]), (h1, oC 8 [.ref g8, .int 0, .int 0, .int 0, .int 0, .int 0, .long 0, .int 0, .int (-1)])]) (va_A [(h0, oC 12 [.ref g0, .ref g1, .ref g2, .ref g3, .ref g4, .ref g5, .ref h1, .ref g6, .ref g7, .long 0]), (h1, oC 8 [.ref g8, .int 0, .int 0, .int 0, .int 0, .int 0, .long 0, .int 0, .int (-1)])] sz)) 0 0 (va_A [(h0, oC 12 [.ref g0, .ref g1, .ref g2, .ref g3, .ref g4, .ref g5, .ref h1, .ref g6, .ref g7, .long 0]), (h1, oC 8 [.ref g8, .int 0, .int 0, .int 0, .int 0, .int 0, .long 0, .int 0, .int (-1)])] sz) :=
  met_of (by decide +kernel) (Nat.le_of_ble_eq_true rfl) (fun p e s m args below meth c B hin hsz => by
    have B : VB p s m args meth c D Y (va_A [(h0, oC 12 [.ref g0, .ref g1, .ref g2, .ref g3, .ref g4, .ref g5, .ref h1, .ref g6, .ref g7, .long 0]), (h1, oC 8 [.ref g8, .int 0, .int 0, .int 0, .int 0, .int 0, .long 0, .int 0, .int (-1)])] sz) cX11_errorPosition 1 RX11 (some .int) := B
    refine V_aload_n 0 B dX11_errorPosition_0 0 rfl ?_
    refine V_get 1 B gf_RX11_46 0 rfl rfl dX11_errorPosition_1 ?_
    refine V_get 4 B gf_RX11_104 1 rfl rfl dX11_errorPosition_4 ?_
    exact V_iret 7 B dX11_errorPosition_7 () rfl rfl)
set_option maxRecDepth 100000 in
set_option maxHeartbeats 4000000 in
theorem mX1_size_2 (l : Launch) (D : va_G) (Y : Nat → ClassId) (h0 : Nat) (g0 : Nat) (sz : Nat) : Met l yX1_size (WSm yX1_size cX1_size 1 (some .int)) (mkR 0 0 0 0) (PreC D Y [.ref h0] [(h0, oC 3 [.ref g0, .int 1])] sz) (QI D (fun (r : Int32) (u : Unit) => 1 = r) (fun (_ : Unit) => [(h0, oC 3 [.ref g0, .int 1])]) (va_A [(h0, oC 3 [.ref g0, .int 1])] sz)) 0 0 (va_A [(h0, oC 3 [.ref g0, .int 1])] sz) :=
  met_of (by decide +kernel) (Nat.le_of_ble_eq_true rfl) (fun p e s m args below meth c B hin hsz => by
    have B : VB p s m args meth c D Y (va_A [(h0, oC 3 [.ref g0, .int 1])] sz) cX1_size 1 RX1 (some .int) := B
    refine V_aload_n 0 B dX1_size_0 0 rfl ?_
    refine V_get 1 B gf_RX1_21 0 rfl rfl dX1_size_1 ?_
    exact V_iret 4 B dX1_size_4 () rfl rfl)
theorem dX5_size_0 : decode cX5_size 0 = .ok (.aload_n 0, 1) := by decide +kernel
theorem dX5_size_1 : decode cX5_size 1 = .ok (.getfield 19, 3) := by decide +kernel
theorem dX5_size_4 : decode cX5_size 4 = .ok (.ireturn, 1) := by decide +kernel
set_option maxRecDepth 100000 in
set_option maxHeartbeats 4000000 in
theorem mX5_size_1 (l : Launch) (D : va_G) (Y : Nat → ClassId) (h0 : Nat) (g0 : Nat) (sz : Nat) : Met l yX5_size (WSm yX5_size cX5_size 1 (some .int)) (mkR 0 0 0 0) (PreC D Y [.ref h0] [(h0, oC 7 [.ref g0, .int 0])] sz) (QI D (fun (r : Int32) (u : Unit) => 0 = r) (fun (_ : Unit) => [(h0, oC 7 [.ref g0, .int 0])]) (va_A [(h0, oC 7 [.ref g0, .int 0])] sz)) 0 0 (va_A [(h0, oC 7 [.ref g0, .int 0])] sz) :=
  met_of (by decide +kernel) (Nat.le_of_ble_eq_true rfl) (fun p e s m args below meth c B hin hsz => by
    have B : VB p s m args meth c D Y (va_A [(h0, oC 7 [.ref g0, .int 0])] sz) cX5_size 1 RX5 (some .int) := B
    refine V_aload_n 0 B dX5_size_0 0 rfl ?_
    refine V_get 1 B gf_RX5_19 0 rfl rfl dX5_size_1 ?_
    exact V_iret 4 B dX5_size_4 () rfl rfl)
theorem dX6_lengthOf_0 : decode cX6_lengthOf 0 = .ok (.lload_n 0, 1) := by decide +kernel
theorem dX6_lengthOf_1 : decode cX6_lengthOf 1 = .ok (.ldc2_w 11, 3) := by decide +kernel
theorem dX6_lengthOf_4 : decode cX6_lengthOf 4 = .ok (.land, 1) := by decide +kernel
theorem dX6_lengthOf_5 : decode cX6_lengthOf 5 = .ok (.lconst 0, 1) := by decide +kernel
theorem dX6_lengthOf_6 : decode cX6_lengthOf 6 = .ok (.lcmp, 1) := by decide +kernel
theorem dX6_lengthOf_7 : decode cX6_lengthOf 7 = .ok (.ifCond .eq 5, 3) := by decide +kernel
theorem dX6_lengthOf_12 : decode cX6_lengthOf 12 = .ok (.lload_n 0, 1) := by decide +kernel
theorem dX6_lengthOf_13 : decode cX6_lengthOf 13 = .ok (.bipush 9, 2) := by decide +kernel
theorem dX6_lengthOf_15 : decode cX6_lengthOf 15 = .ok (.lshr, 1) := by decide +kernel
theorem dX6_lengthOf_16 : decode cX6_lengthOf 16 = .ok (.ldc2_w 11, 3) := by decide +kernel
theorem dX6_lengthOf_19 : decode cX6_lengthOf 19 = .ok (.land, 1) := by decide +kernel
theorem dX6_lengthOf_20 : decode cX6_lengthOf 20 = .ok (.lconst 0, 1) := by decide +kernel
theorem dX6_lengthOf_21 : decode cX6_lengthOf 21 = .ok (.lcmp, 1) := by decide +kernel
theorem dX6_lengthOf_22 : decode cX6_lengthOf 22 = .ok (.ifCond .eq 5, 3) := by decide +kernel
theorem dX6_lengthOf_27 : decode cX6_lengthOf 27 = .ok (.lload_n 0, 1) := by decide +kernel
theorem dX6_lengthOf_28 : decode cX6_lengthOf 28 = .ok (.bipush 18, 2) := by decide +kernel
theorem dX6_lengthOf_30 : decode cX6_lengthOf 30 = .ok (.lshr, 1) := by decide +kernel
theorem dX6_lengthOf_31 : decode cX6_lengthOf 31 = .ok (.ldc2_w 11, 3) := by decide +kernel
theorem dX6_lengthOf_34 : decode cX6_lengthOf 34 = .ok (.land, 1) := by decide +kernel
theorem dX6_lengthOf_35 : decode cX6_lengthOf 35 = .ok (.lconst 0, 1) := by decide +kernel
theorem dX6_lengthOf_36 : decode cX6_lengthOf 36 = .ok (.lcmp, 1) := by decide +kernel
theorem dX6_lengthOf_37 : decode cX6_lengthOf 37 = .ok (.ifCond .eq 5, 3) := by decide +kernel
theorem dX6_lengthOf_42 : decode cX6_lengthOf 42 = .ok (.lload_n 0, 1) := by decide +kernel
theorem dX6_lengthOf_43 : decode cX6_lengthOf 43 = .ok (.lconst 0, 1) := by decide +kernel
theorem dX6_lengthOf_44 : decode cX6_lengthOf 44 = .ok (.lcmp, 1) := by decide +kernel
theorem dX6_lengthOf_45 : decode cX6_lengthOf 45 = .ok (.ifCond .eq 7, 3) := by decide +kernel
theorem dX6_lengthOf_52 : decode cX6_lengthOf 52 = .ok (.iconst 0, 1) := by decide +kernel
theorem dX6_lengthOf_53 : decode cX6_lengthOf 53 = .ok (.ireturn, 1) := by decide +kernel
set_option maxRecDepth 100000 in
set_option maxHeartbeats 4000000 in
theorem mX6_lengthOf_1 (l : Launch) (D : va_G) (Y : Nat → ClassId)  (sz : Nat) : Met l yX6_lengthOf (WSm yX6_lengthOf cX6_lengthOf 2 (some .int)) (mkR 0 0 0 0) (PreC D Y [.long 0] [] sz) (QI D (fun (r : Int32) (u : Unit) => 0 = r) (fun (_ : Unit) => []) (va_A [] sz)) 0 0 (va_A [] sz) :=
  met_of (by decide +kernel) (Nat.le_of_ble_eq_true rfl) (fun p e s m args below meth c B hin hsz => by
    have B : VB p s m args meth c D Y (va_A [] sz) cX6_lengthOf 2 RX6 (some .int) := B
    refine V_lload_n 0 B dX6_lengthOf_0 0 rfl ?_
    refine V_ldc2 1 B (v := 511) dX6_lengthOf_1 (mT3 101 rfl rfl) ?_
    refine V_land 4 B (v := 0) dX6_lengthOf_4 (by decide +kernel) ?_
    refine V_lconst 5 B (v := 0) dX6_lengthOf_5 (by decide +kernel) ?_
    refine V_lcmp 6 B (v := 0) dX6_lengthOf_6 (by decide +kernel) ?_
    refine V_if_eq_t 7 B 12 dX6_lengthOf_7 (by decide) (by decide +kernel) ?_
    refine V_lload_n 12 B dX6_lengthOf_12 0 rfl ?_
    refine V_bipush 13 B (v := 9) dX6_lengthOf_13 (by decide +kernel) ?_
    refine V_lshr 15 B (v := 0) dX6_lengthOf_15 (by decide +kernel) ?_
    refine V_ldc2 16 B (v := 511) dX6_lengthOf_16 (mT3 101 rfl rfl) ?_
    refine V_land 19 B (v := 0) dX6_lengthOf_19 (by decide +kernel) ?_
    refine V_lconst 20 B (v := 0) dX6_lengthOf_20 (by decide +kernel) ?_
    refine V_lcmp 21 B (v := 0) dX6_lengthOf_21 (by decide +kernel) ?_
    refine V_if_eq_t 22 B 27 dX6_lengthOf_22 (by decide) (by decide +kernel) ?_
    refine V_lload_n 27 B dX6_lengthOf_27 0 rfl ?_
    refine V_bipush 28 B (v := 18) dX6_lengthOf_28 (by decide +kernel) ?_
    refine V_lshr 30 B (v := 0) dX6_lengthOf_30 (by decide +kernel) ?_
    refine V_ldc2 31 B (v := 511) dX6_lengthOf_31 (mT3 101 rfl rfl) ?_
    refine V_land 34 B (v := 0) dX6_lengthOf_34 (by decide +kernel) ?_
    refine V_lconst 35 B (v := 0) dX6_lengthOf_35 (by decide +kernel) ?_
    refine V_lcmp 36 B (v := 0) dX6_lengthOf_36 (by decide +kernel) ?_
    refine V_if_eq_t 37 B 42 dX6_lengthOf_37 (by decide) (by decide +kernel) ?_
    refine V_lload_n 42 B dX6_lengthOf_42 0 rfl ?_
    refine V_lconst 43 B (v := 0) dX6_lengthOf_43 (by decide +kernel) ?_
    refine V_lcmp 44 B (v := 0) dX6_lengthOf_44 (by decide +kernel) ?_
    refine V_if_eq_t 45 B 52 dX6_lengthOf_45 (by decide) (by decide +kernel) ?_
    refine V_iconst 52 B (v := 0) dX6_lengthOf_52 (by decide +kernel) ?_
    exact V_iret 53 B dX6_lengthOf_53 () rfl rfl)
theorem dX11_count_0 : decode cX11_count 0 = .ok (.iload_n 1, 1) := by decide +kernel
theorem dX11_count_1 : decode cX11_count 1 = .ok (.tableswitch 186 0 10 #[59, 70, 84, 95, 106, 117, 131, 142, 156, 167, 178], 59) := by decide +kernel
theorem dX11_count_60 : decode cX11_count 60 = .ok (.aload_n 0, 1) := by decide +kernel
theorem dX11_count_61 : decode cX11_count 61 = .ok (.getfield 10, 3) := by decide +kernel
theorem dX11_count_64 : decode cX11_count 64 = .ok (.getfield 107, 3) := by decide +kernel
theorem gf_RX11_107 : GF RX11 107 2 0 := ⟨RX0, TX0, 12, rfl, inw_X0, Nat.le_of_ble_eq_true rfl, (mT1 162 rfl rfl)⟩
theorem dX11_count_67 : decode cX11_count 67 = .ok (.invokevirtual 95, 3) := by decide +kernel
theorem dX11_count_70 : decode cX11_count 70 = .ok (.ireturn, 1) := by decide +kernel
theorem dX11_count_71 : decode cX11_count 71 = .ok (.aload_n 0, 1) := by decide +kernel
theorem dX11_count_72 : decode cX11_count 72 = .ok (.getfield 10, 3) := by decide +kernel
theorem dX11_count_75 : decode cX11_count 75 = .ok (.getfield 110, 3) := by decide +kernel
theorem gf_RX11_110 : GF RX11 110 2 9 := ⟨RX0, TX0, 12, rfl, inw_X0, Nat.le_of_ble_eq_true rfl, (mT1 195 rfl rfl)⟩
theorem dX11_count_78 : decode cX11_count 78 = .ok (.getfield 114, 3) := by decide +kernel
theorem gf_RX11_114 : GF RX11 114 4 0 := ⟨RX2, TX2, 4, rfl, inw_X2, Nat.le_of_ble_eq_true rfl, (mT1 84 rfl rfl)⟩
theorem dX11_count_81 : decode cX11_count 81 = .ok (.invokevirtual 95, 3) := by decide +kernel
theorem dX11_count_84 : decode cX11_count 84 = .ok (.ireturn, 1) := by decide +kernel
theorem dX11_count_85 : decode cX11_count 85 = .ok (.aload_n 0, 1) := by decide +kernel
theorem dX11_count_86 : decode cX11_count 86 = .ok (.getfield 10, 3) := by decide +kernel
theorem dX11_count_89 : decode cX11_count 89 = .ok (.getfield 119, 3) := by decide +kernel
theorem gf_RX11_119 : GF RX11 119 2 1 := ⟨RX0, TX0, 12, rfl, inw_X0, Nat.le_of_ble_eq_true rfl, (mT1 166 rfl rfl)⟩
theorem dX11_count_92 : decode cX11_count 92 = .ok (.invokevirtual 95, 3) := by decide +kernel
theorem dX11_count_95 : decode cX11_count 95 = .ok (.ireturn, 1) := by decide +kernel
theorem dX11_count_96 : decode cX11_count 96 = .ok (.aload_n 0, 1) := by decide +kernel
theorem dX11_count_97 : decode cX11_count 97 = .ok (.getfield 10, 3) := by decide +kernel
theorem dX11_count_100 : decode cX11_count 100 = .ok (.getfield 91, 3) := by decide +kernel
theorem dX11_count_103 : decode cX11_count 103 = .ok (.invokevirtual 95, 3) := by decide +kernel
theorem dX11_count_106 : decode cX11_count 106 = .ok (.ireturn, 1) := by decide +kernel
theorem dX11_count_107 : decode cX11_count 107 = .ok (.aload_n 0, 1) := by decide +kernel
theorem dX11_count_108 : decode cX11_count 108 = .ok (.getfield 10, 3) := by decide +kernel
theorem dX11_count_111 : decode cX11_count 111 = .ok (.getfield 122, 3) := by decide +kernel
theorem gf_RX11_122 : GF RX11 122 2 4 := ⟨RX0, TX0, 12, rfl, inw_X0, Nat.le_of_ble_eq_true rfl, (mT1 176 rfl rfl)⟩
theorem dX11_count_114 : decode cX11_count 114 = .ok (.invokevirtual 126, 3) := by decide +kernel
theorem glV_RX11_126 : GLV RX11 126 yX5_size RX5 cX5_size 1 (some .int) 0 := ⟨⟨(mT3 219 rfl rfl), (mT3 77 rfl rfl), (mT3 78 rfl rfl), (mT1 5 rfl rfl), (mT3 79 rfl rfl)⟩, by decide +kernel⟩
theorem dX11_count_117 : decode cX11_count 117 = .ok (.ireturn, 1) := by decide +kernel
theorem dX11_count_118 : decode cX11_count 118 = .ok (.aload_n 0, 1) := by decide +kernel
theorem dX11_count_119 : decode cX11_count 119 = .ok (.getfield 10, 3) := by decide +kernel
theorem dX11_count_122 : decode cX11_count 122 = .ok (.getfield 129, 3) := by decide +kernel
theorem gf_RX11_129 : GF RX11 129 2 10 := ⟨RX0, TX0, 12, rfl, inw_X0, Nat.le_of_ble_eq_true rfl, (mT1 201 rfl rfl)⟩
theorem dX11_count_125 : decode cX11_count 125 = .ok (.getfield 133, 3) := by decide +kernel
theorem gf_RX11_133 : GF RX11 133 9 2 := ⟨RX8, TX8, 9, rfl, inw_X8, Nat.le_of_ble_eq_true rfl, (mT1 117 rfl rfl)⟩
theorem dX11_count_128 : decode cX11_count 128 = .ok (.invokestatic 138, 3) := by decide +kernel
theorem glS_RX11_138 : GLS RX11 138 yX6_lengthOf cX6_lengthOf 2 (some .int) 1 := ⟨⟨(mT3 220 rfl rfl), (mT3 99 rfl rfl), (mT1 18 rfl rfl), (mT3 100 rfl rfl)⟩, by decide +kernel⟩
theorem dX11_count_131 : decode cX11_count 131 = .ok (.ireturn, 1) := by decide +kernel
theorem dX11_count_132 : decode cX11_count 132 = .ok (.aload_n 0, 1) := by decide +kernel
theorem dX11_count_133 : decode cX11_count 133 = .ok (.getfield 10, 3) := by decide +kernel
theorem dX11_count_136 : decode cX11_count 136 = .ok (.getfield 129, 3) := by decide +kernel
theorem dX11_count_139 : decode cX11_count 139 = .ok (.getfield 144, 3) := by decide +kernel
theorem gf_RX11_144 : GF RX11 144 9 6 := ⟨RX8, TX8, 9, rfl, inw_X8, Nat.le_of_ble_eq_true rfl, (mT1 129 rfl rfl)⟩
theorem dX11_count_142 : decode cX11_count 142 = .ok (.ireturn, 1) := by decide +kernel
theorem dX11_count_143 : decode cX11_count 143 = .ok (.aload_n 0, 1) := by decide +kernel
theorem dX11_count_144 : decode cX11_count 144 = .ok (.getfield 10, 3) := by decide +kernel
theorem dX11_count_147 : decode cX11_count 147 = .ok (.getfield 129, 3) := by decide +kernel
theorem dX11_count_150 : decode cX11_count 150 = .ok (.getfield 147, 3) := by decide +kernel
theorem gf_RX11_147 : GF RX11 147 9 0 := ⟨RX8, TX8, 9, rfl, inw_X8, Nat.le_of_ble_eq_true rfl, (mT1 111 rfl rfl)⟩
theorem dX11_count_153 : decode cX11_count 153 = .ok (.invokevirtual 95, 3) := by decide +kernel
theorem dX11_count_156 : decode cX11_count 156 = .ok (.ireturn, 1) := by decide +kernel
theorem dX11_count_157 : decode cX11_count 157 = .ok (.aload_n 0, 1) := by decide +kernel
theorem dX11_count_158 : decode cX11_count 158 = .ok (.getfield 10, 3) := by decide +kernel
theorem dX11_count_161 : decode cX11_count 161 = .ok (.getfield 150, 3) := by decide +kernel
theorem gf_RX11_150 : GF RX11 150 2 8 := ⟨RX0, TX0, 12, rfl, inw_X0, Nat.le_of_ble_eq_true rfl, (mT1 191 rfl rfl)⟩
theorem dX11_count_164 : decode cX11_count 164 = .ok (.invokevirtual 126, 3) := by decide +kernel
theorem dX11_count_167 : decode cX11_count 167 = .ok (.ireturn, 1) := by decide +kernel
theorem dX11_count_168 : decode cX11_count 168 = .ok (.aload_n 0, 1) := by decide +kernel
theorem dX11_count_169 : decode cX11_count 169 = .ok (.getfield 10, 3) := by decide +kernel
theorem dX11_count_172 : decode cX11_count 172 = .ok (.getfield 129, 3) := by decide +kernel
theorem dX11_count_175 : decode cX11_count 175 = .ok (.getfield 153, 3) := by decide +kernel
theorem gf_RX11_153 : GF RX11 153 9 8 := ⟨RX8, TX8, 9, rfl, inw_X8, Nat.le_of_ble_eq_true rfl, (mT1 134 rfl rfl)⟩
theorem dX11_count_178 : decode cX11_count 178 = .ok (.ireturn, 1) := by decide +kernel
theorem dX11_count_179 : decode cX11_count 179 = .ok (.aload_n 0, 1) := by decide +kernel
theorem dX11_count_180 : decode cX11_count 180 = .ok (.getfield 68, 3) := by decide +kernel
theorem gf_RX11_68 : GF RX11 68 12 9 := ⟨RX11, TX11, 10, rfl, inw_X11, Nat.le_of_ble_eq_true rfl, (mT2 137 rfl rfl)⟩
theorem dX11_count_183 : decode cX11_count 183 = .ok (.invokestatic 138, 3) := by decide +kernel
theorem dX11_count_186 : decode cX11_count 186 = .ok (.ireturn, 1) := by decide +kernel
theorem sw_out_0_10 {x : Int32} (h0 : ¬ x = 0) (h1 : ¬ x = 1) (h2 : ¬ x = 2) (h3 : ¬ x = 3) (h4 : ¬ x = 4) (h5 : ¬ x = 5) (h6 : ¬ x = 6) (h7 : ¬ x = 7) (h8 : ¬ x = 8) (h9 : ¬ x = 9) (h10 : ¬ x = 10) : x.toInt < 0 ∨ 10 < x.toInt := by
  have e0 := neT (n := 0) h0 (by decide +kernel)
  have e1 := neT (n := 1) h1 (by decide +kernel)
  have e2 := neT (n := 2) h2 (by decide +kernel)
  have e3 := neT (n := 3) h3 (by decide +kernel)
  have e4 := neT (n := 4) h4 (by decide +kernel)
  have e5 := neT (n := 5) h5 (by decide +kernel)
  have e6 := neT (n := 6) h6 (by decide +kernel)
  have e7 := neT (n := 7) h7 (by decide +kernel)
  have e8 := neT (n := 8) h8 (by decide +kernel)
  have e9 := neT (n := 9) h9 (by decide +kernel)
  have e10 := neT (n := 10) h10 (by decide +kernel)
  omega
theorem dX11_count_187 : decode cX11_count 187 = .ok (.iconst (-1), 1) := by decide +kernel
theorem dX11_count_188 : decode cX11_count 188 = .ok (.ireturn, 1) := by decide +kernel
set_option maxRecDepth 100000 in
set_option maxHeartbeats 4000000 in
theorem mX11_count_1 (l : Launch) (D : va_G) (Y : Nat → ClassId) (h0 : Nat) (h1 : Nat) (g0 : Nat) (g1 : Nat) (g2 : Nat) (g3 : Nat) (g4 : Nat) (g5 : Nat) (g6 : Nat) (g7 : Nat) (h2 : Nat) (h3 : Nat) (g8 : Nat) (g9 : Nat) (h4 : Nat) (h5 : Nat) (g10 : Nat) (g11 : Nat) (h6 : Nat) (h7 : Nat) (h9 : Nat) (g12 : Nat) (g13 : Nat) (g14 : Nat) (g15 : Nat) (g16 : Nat) (h8 : Nat) (g17 : Nat) (g18 : Nat) (g19 : Nat) (h10 : Nat) (g20 : Nat) (p0 : Int32) (sz : Nat) : Met l yX11_count (WSm yX11_count cX11_count 2 (some .int)) (mkR 1 0 0 21) (PreC D Y [.ref h0, .int p0] [(h0, oC 12 [.ref h1, .ref g0, .ref g1, .ref g2, .ref g3, .ref g4, .ref g5, .ref g6, .ref g7, .long 0]), (h1, oC 2 [.ref h2, .ref h3, .ref g8, .ref g9, .ref h4, .ref h5, .ref g10, .ref g11, .ref h6, .ref h7, .ref h9, .int 0]), (h2, oC 3 [.ref g12, .int 1]), (h3, oC 3 [.ref g13, .int 0]), (h4, oC 7 [.ref g14, .int 0]), (h5, oC 3 [.ref g15, .int 0]), (h6, oC 7 [.ref g16, .int 0]), (h7, oC 4 [.ref h8, .ref g17, .ref g18, .int 0]), (h8, oC 3 [.ref g19, .int 0]), (h9, oC 9 [.ref h10, .int 0, .long 0, .int (-1), .int 0, .int 0, .int 0, .int 0, .int 0]), (h10, oC 3 [.ref g20, .int 0])] sz) (QI D (fun (r : Int32) (u : Unit) => (p0 = 0 ∧ 1 = r) ∨ (p0 = 1 ∧ 0 = r) ∨ (p0 = 2 ∧ 0 = r) ∨ (p0 = 3 ∧ 0 = r) ∨ (p0 = 4 ∧ 0 = r) ∨ (p0 = 5 ∧ 0 = r) ∨ (p0 = 6 ∧ 0 = r) ∨ (p0 = 7 ∧ 0 = r) ∨ (p0 = 8 ∧ 0 = r) ∨ (p0 = 9 ∧ 0 = r) ∨ (p0 = 10 ∧ 0 = r) ∨ (¬ p0 = 0 ∧ ¬ p0 = 1 ∧ ¬ p0 = 2 ∧ ¬ p0 = 3 ∧ ¬ p0 = 4 ∧ ¬ p0 = 5 ∧ ¬ p0 = 6 ∧ ¬ p0 = 7 ∧ ¬ p0 = 8 ∧ ¬ p0 = 9 ∧ ¬ p0 = 10 ∧ (-1) = r)) (fun (_ : Unit) => [(h0, oC 12 [.ref h1, .ref g0, .ref g1, .ref g2, .ref g3, .ref g4, .ref g5, .ref g6, .ref g7, .long 0]), (h1, oC 2 [.ref h2, .ref h3, .ref g8, .ref g9, .ref h4, .ref h5, .ref g10, .ref g11, .ref h6, .ref h7, .ref h9, .int 0]), (h2, oC 3 [.ref g12, .int 1]), (h3, oC 3 [.ref g13, .int 0]), (h4, oC 7 [.ref g14, .int 0]), (h5, oC 3 [.ref g15, .int 0]), (h6, oC 7 [.ref g16, .int 0]), (h7, oC 4 [.ref h8, .ref g17, .ref g18, .int 0]), (h8, oC 3 [.ref g19, .int 0]), (h9, oC 9 [.ref h10, .int 0, .long 0, .int (-1), .int 0, .int 0, .int 0, .int 0, .int 0]), (h10, oC 3 [.ref g20, .int 0])]) (va_A [(h0, oC 12 [.ref h1, .ref g0, .ref g1, .ref g2, .ref g3, .ref g4, .ref g5, .ref g6, .ref g7, .long 0]), (h1, oC 2 [.ref h2, .ref h3, .ref g8, .ref g9, .ref h4, .ref h5, .ref g10, .ref g11, .ref h6, .ref h7, .ref h9, .int 0]), (h2, oC 3 [.ref g12, .int 1]), (h3, oC 3 [.ref g13, .int 0]), (h4, oC 7 [.ref g14, .int 0]), (h5, oC 3 [.ref g15, .int 0]), (h6, oC 7 [.ref g16, .int 0]), (h7, oC 4 [.ref h8, .ref g17, .ref g18, .int 0]), (h8, oC 3 [.ref g19, .int 0]), (h9, oC 9 [.ref h10, .int 0, .long 0, .int (-1), .int 0, .int 0, .int 0, .int 0, .int 0]), (h10, oC 3 [.ref g20, .int 0])] sz)) 0 0 (va_A [(h0, oC 12 [.ref h1, .ref g0, .ref g1, .ref g2, .ref g3, .ref g4, .ref g5, .ref g6, .ref g7, .long 0]), (h1, oC 2 [.ref h2, .ref h3, .ref g8, .ref g9, .ref h4, .ref h5, .ref g10, .ref g11, .ref h6, .ref h7, .ref h9, .int 0]), (h2, oC 3 [.ref g12, .int 1]), (h3, oC 3 [.ref g13, .int 0]), (h4, oC 7 [.ref g14, .int 0]), (h5, oC 3 [.ref g15, .int 0]), (h6, oC 7 [.ref g16, .int 0]), (h7, oC 4 [.ref h8, .ref g17, .ref g18, .int 0]), (h8, oC 3 [.ref g19, .int 0]), (h9, oC 9 [.ref h10, .int 0, .long 0, .int (-1), .int 0, .int 0, .int 0, .int 0, .int 0]), (h10, oC 3 [.ref g20, .int 0])] sz) :=
  met_of (by decide +kernel) (Nat.le_of_ble_eq_true rfl) (fun p e s m args below meth c B hin hsz => by
    have B : VB p s m args meth c D Y (va_A [(h0, oC 12 [.ref h1, .ref g0, .ref g1, .ref g2, .ref g3, .ref g4, .ref g5, .ref g6, .ref g7, .long 0]), (h1, oC 2 [.ref h2, .ref h3, .ref g8, .ref g9, .ref h4, .ref h5, .ref g10, .ref g11, .ref h6, .ref h7, .ref h9, .int 0]), (h2, oC 3 [.ref g12, .int 1]), (h3, oC 3 [.ref g13, .int 0]), (h4, oC 7 [.ref g14, .int 0]), (h5, oC 3 [.ref g15, .int 0]), (h6, oC 7 [.ref g16, .int 0]), (h7, oC 4 [.ref h8, .ref g17, .ref g18, .int 0]), (h8, oC 3 [.ref g19, .int 0]), (h9, oC 9 [.ref h10, .int 0, .long 0, .int (-1), .int 0, .int 0, .int 0, .int 0, .int 0]), (h10, oC 3 [.ref g20, .int 0])] sz) cX11_count 2 RX11 (some .int) := B
    refine V_iload_n 0 B dX11_count_0 1 rfl ?_
    by_cases k0 : p0 = 0
    ·
      obtain rfl : p0 = 0 := k0
      refine V_tableIn 1 B 60 dX11_count_1 (by decide +kernel) (by decide +kernel) (off := 59) (by decide +kernel) (by decide) ?_
      refine V_aload_n 60 B dX11_count_60 0 rfl ?_
      refine V_get 61 B gf_RX11_10 0 rfl rfl dX11_count_61 ?_
      refine V_get 64 B gf_RX11_107 1 rfl rfl dX11_count_64 ?_
      refine V_cvi 67 B (st := []) (As := []) (fun sz => mX1_size_2 l D Y (h2) (g12) sz) glV_RX11_95 ⟨rfl, rfl⟩ ⟨(Nat.le_of_ble_eq_true rfl), (Nat.le_of_ble_eq_true rfl)⟩ ⟨(Nat.le_of_ble_eq_true rfl), (Nat.le_of_ble_eq_true rfl)⟩ [2] rfl 3 0 rfl rfl rfl rfl (Nat.le_of_ble_eq_true rfl) rfl (fun _ _ _ => rfl) dX11_count_67 (fun r1 u1 w1 => ?_)
      obtain rfl := w1
      refine V_ws [(h0, oC 12 [.ref h1, .ref g0, .ref g1, .ref g2, .ref g3, .ref g4, .ref g5, .ref g6, .ref g7, .long 0]), (h1, oC 2 [.ref h2, .ref h3, .ref g8, .ref g9, .ref h4, .ref h5, .ref g10, .ref g11, .ref h6, .ref h7, .ref h9, .int 0]), (h2, oC 3 [.ref g12, .int 1]), (h3, oC 3 [.ref g13, .int 0]), (h4, oC 7 [.ref g14, .int 0]), (h5, oC 3 [.ref g15, .int 0]), (h6, oC 7 [.ref g16, .int 0]), (h7, oC 4 [.ref h8, .ref g17, .ref g18, .int 0]), (h8, oC 3 [.ref g19, .int 0]), (h9, oC 9 [.ref h10, .int 0, .long 0, .int (-1), .int 0, .int 0, .int 0, .int 0, .int 0]), (h10, oC 3 [.ref g20, .int 0])] rfl ?_
      exact V_iret 70 B dX11_count_70 () (Or.inl ⟨rfl, rfl⟩) rfl
    ·
      by_cases k2 : p0 = 1
      ·
        obtain rfl : p0 = 1 := k2
        refine V_tableIn 1 B 71 dX11_count_1 (by decide +kernel) (by decide +kernel) (off := 70) (by decide +kernel) (by decide) ?_
        refine V_aload_n 71 B dX11_count_71 0 rfl ?_
        refine V_get 72 B gf_RX11_10 0 rfl rfl dX11_count_72 ?_
        refine V_get 75 B gf_RX11_110 1 rfl rfl dX11_count_75 ?_
        refine V_get 78 B gf_RX11_114 7 rfl rfl dX11_count_78 ?_
        refine V_cvi 81 B (st := []) (As := []) (fun sz => mX1_size_1 l D Y (h8) (g19) sz) glV_RX11_95 ⟨rfl, rfl⟩ ⟨(Nat.le_of_ble_eq_true rfl), (Nat.le_of_ble_eq_true rfl)⟩ ⟨(Nat.le_of_ble_eq_true rfl), (Nat.le_of_ble_eq_true rfl)⟩ [8] rfl 3 0 rfl rfl rfl rfl (Nat.le_of_ble_eq_true rfl) rfl (fun _ _ _ => rfl) dX11_count_81 (fun r3 u3 w3 => ?_)
        obtain rfl := w3
        refine V_ws [(h0, oC 12 [.ref h1, .ref g0, .ref g1, .ref g2, .ref g3, .ref g4, .ref g5, .ref g6, .ref g7, .long 0]), (h1, oC 2 [.ref h2, .ref h3, .ref g8, .ref g9, .ref h4, .ref h5, .ref g10, .ref g11, .ref h6, .ref h7, .ref h9, .int 0]), (h2, oC 3 [.ref g12, .int 1]), (h3, oC 3 [.ref g13, .int 0]), (h4, oC 7 [.ref g14, .int 0]), (h5, oC 3 [.ref g15, .int 0]), (h6, oC 7 [.ref g16, .int 0]), (h7, oC 4 [.ref h8, .ref g17, .ref g18, .int 0]), (h8, oC 3 [.ref g19, .int 0]), (h9, oC 9 [.ref h10, .int 0, .long 0, .int (-1), .int 0, .int 0, .int 0, .int 0, .int 0]), (h10, oC 3 [.ref g20, .int 0])] rfl ?_
        exact V_iret 84 B dX11_count_84 () (Or.inr (Or.inl ⟨rfl, rfl⟩)) rfl
      ·
        by_cases k4 : p0 = 2
        ·
          obtain rfl : p0 = 2 := k4
          refine V_tableIn 1 B 85 dX11_count_1 (by decide +kernel) (by decide +kernel) (off := 84) (by decide +kernel) (by decide) ?_
          refine V_aload_n 85 B dX11_count_85 0 rfl ?_
          refine V_get 86 B gf_RX11_10 0 rfl rfl dX11_count_86 ?_
          refine V_get 89 B gf_RX11_119 1 rfl rfl dX11_count_89 ?_
          refine V_cvi 92 B (st := []) (As := []) (fun sz => mX1_size_1 l D Y (h3) (g13) sz) glV_RX11_95 ⟨rfl, rfl⟩ ⟨(Nat.le_of_ble_eq_true rfl), (Nat.le_of_ble_eq_true rfl)⟩ ⟨(Nat.le_of_ble_eq_true rfl), (Nat.le_of_ble_eq_true rfl)⟩ [3] rfl 3 0 rfl rfl rfl rfl (Nat.le_of_ble_eq_true rfl) rfl (fun _ _ _ => rfl) dX11_count_92 (fun r5 u5 w5 => ?_)
          obtain rfl := w5
          refine V_ws [(h0, oC 12 [.ref h1, .ref g0, .ref g1, .ref g2, .ref g3, .ref g4, .ref g5, .ref g6, .ref g7, .long 0]), (h1, oC 2 [.ref h2, .ref h3, .ref g8, .ref g9, .ref h4, .ref h5, .ref g10, .ref g11, .ref h6, .ref h7, .ref h9, .int 0]), (h2, oC 3 [.ref g12, .int 1]), (h3, oC 3 [.ref g13, .int 0]), (h4, oC 7 [.ref g14, .int 0]), (h5, oC 3 [.ref g15, .int 0]), (h6, oC 7 [.ref g16, .int 0]), (h7, oC 4 [.ref h8, .ref g17, .ref g18, .int 0]), (h8, oC 3 [.ref g19, .int 0]), (h9, oC 9 [.ref h10, .int 0, .long 0, .int (-1), .int 0, .int 0, .int 0, .int 0, .int 0]), (h10, oC 3 [.ref g20, .int 0])] rfl ?_
          exact V_iret 95 B dX11_count_95 () (Or.inr (Or.inr (Or.inl ⟨rfl, rfl⟩))) rfl
        ·
          by_cases k6 : p0 = 3
          ·
            obtain rfl : p0 = 3 := k6
            refine V_tableIn 1 B 96 dX11_count_1 (by decide +kernel) (by decide +kernel) (off := 95) (by decide +kernel) (by decide) ?_
            refine V_aload_n 96 B dX11_count_96 0 rfl ?_
            refine V_get 97 B gf_RX11_10 0 rfl rfl dX11_count_97 ?_
            refine V_get 100 B gf_RX11_91 1 rfl rfl dX11_count_100 ?_
            refine V_cvi 103 B (st := []) (As := []) (fun sz => mX1_size_1 l D Y (h5) (g15) sz) glV_RX11_95 ⟨rfl, rfl⟩ ⟨(Nat.le_of_ble_eq_true rfl), (Nat.le_of_ble_eq_true rfl)⟩ ⟨(Nat.le_of_ble_eq_true rfl), (Nat.le_of_ble_eq_true rfl)⟩ [5] rfl 3 0 rfl rfl rfl rfl (Nat.le_of_ble_eq_true rfl) rfl (fun _ _ _ => rfl) dX11_count_103 (fun r7 u7 w7 => ?_)
            obtain rfl := w7
            refine V_ws [(h0, oC 12 [.ref h1, .ref g0, .ref g1, .ref g2, .ref g3, .ref g4, .ref g5, .ref g6, .ref g7, .long 0]), (h1, oC 2 [.ref h2, .ref h3, .ref g8, .ref g9, .ref h4, .ref h5, .ref g10, .ref g11, .ref h6, .ref h7, .ref h9, .int 0]), (h2, oC 3 [.ref g12, .int 1]), (h3, oC 3 [.ref g13, .int 0]), (h4, oC 7 [.ref g14, .int 0]), (h5, oC 3 [.ref g15, .int 0]), (h6, oC 7 [.ref g16, .int 0]), (h7, oC 4 [.ref h8, .ref g17, .ref g18, .int 0]), (h8, oC 3 [.ref g19, .int 0]), (h9, oC 9 [.ref h10, .int 0, .long 0, .int (-1), .int 0, .int 0, .int 0, .int 0, .int 0]), (h10, oC 3 [.ref g20, .int 0])] rfl ?_
            exact V_iret 106 B dX11_count_106 () (Or.inr (Or.inr (Or.inr (Or.inl ⟨rfl, rfl⟩)))) rfl
          ·
            by_cases k8 : p0 = 4
            ·
              obtain rfl : p0 = 4 := k8
              refine V_tableIn 1 B 107 dX11_count_1 (by decide +kernel) (by decide +kernel) (off := 106) (by decide +kernel) (by decide) ?_
              refine V_aload_n 107 B dX11_count_107 0 rfl ?_
              refine V_get 108 B gf_RX11_10 0 rfl rfl dX11_count_108 ?_
              refine V_get 111 B gf_RX11_122 1 rfl rfl dX11_count_111 ?_
              refine V_cvi 114 B (st := []) (As := []) (fun sz => mX5_size_1 l D Y (h4) (g14) sz) glV_RX11_126 ⟨rfl, rfl⟩ ⟨(Nat.le_of_ble_eq_true rfl), (Nat.le_of_ble_eq_true rfl)⟩ ⟨(Nat.le_of_ble_eq_true rfl), (Nat.le_of_ble_eq_true rfl)⟩ [4] rfl 7 0 rfl rfl rfl rfl (Nat.le_of_ble_eq_true rfl) rfl (fun _ _ _ => rfl) dX11_count_114 (fun r9 u9 w9 => ?_)
              obtain rfl := w9
              refine V_ws [(h0, oC 12 [.ref h1, .ref g0, .ref g1, .ref g2, .ref g3, .ref g4, .ref g5, .ref g6, .ref g7, .long 0]), (h1, oC 2 [.ref h2, .ref h3, .ref g8, .ref g9, .ref h4, .ref h5, .ref g10, .ref g11, .ref h6, .ref h7, .ref h9, .int 0]), (h2, oC 3 [.ref g12, .int 1]), (h3, oC 3 [.ref g13, .int 0]), (h4, oC 7 [.ref g14, .int 0]), (h5, oC 3 [.ref g15, .int 0]), (h6, oC 7 [.ref g16, .int 0]), (h7, oC 4 [.ref h8, .ref g17, .ref g18, .int 0]), (h8, oC 3 [.ref g19, .int 0]), (h9, oC 9 [.ref h10, .int 0, .long 0, .int (-1), .int 0, .int 0, .int 0, .int 0, .int 0]), (h10, oC 3 [.ref g20, .int 0])] rfl ?_
              exact V_iret 117 B dX11_count_117 () (Or.inr (Or.inr (Or.inr (Or.inr (Or.inl ⟨rfl, rfl⟩))))) rfl
            ·
              by_cases k10 : p0 = 5
              ·
                obtain rfl : p0 = 5 := k10
                refine V_tableIn 1 B 118 dX11_count_1 (by decide +kernel) (by decide +kernel) (off := 117) (by decide +kernel) (by decide) ?_
                refine V_aload_n 118 B dX11_count_118 0 rfl ?_
                refine V_get 119 B gf_RX11_10 0 rfl rfl dX11_count_119 ?_
                refine V_get 122 B gf_RX11_129 1 rfl rfl dX11_count_122 ?_
                refine V_get 125 B gf_RX11_133 9 rfl rfl dX11_count_125 ?_
                refine V_csi 128 B (st := []) (As := [.long 0]) (fun sz => mX6_lengthOf_1 l D Y  sz) glS_RX11_138 ⟨rfl, rfl⟩ ⟨(Nat.le_of_ble_eq_true rfl), (Nat.le_of_ble_eq_true rfl)⟩ ⟨(Nat.le_of_ble_eq_true rfl), (Nat.le_of_ble_eq_true rfl)⟩ [] rfl rfl (Nat.le_of_ble_eq_true rfl) rfl (fun _ _ _ => rfl) dX11_count_128 (fun r11 u11 w11 => ?_)
                obtain rfl := w11
                refine V_ws [(h0, oC 12 [.ref h1, .ref g0, .ref g1, .ref g2, .ref g3, .ref g4, .ref g5, .ref g6, .ref g7, .long 0]), (h1, oC 2 [.ref h2, .ref h3, .ref g8, .ref g9, .ref h4, .ref h5, .ref g10, .ref g11, .ref h6, .ref h7, .ref h9, .int 0]), (h2, oC 3 [.ref g12, .int 1]), (h3, oC 3 [.ref g13, .int 0]), (h4, oC 7 [.ref g14, .int 0]), (h5, oC 3 [.ref g15, .int 0]), (h6, oC 7 [.ref g16, .int 0]), (h7, oC 4 [.ref h8, .ref g17, .ref g18, .int 0]), (h8, oC 3 [.ref g19, .int 0]), (h9, oC 9 [.ref h10, .int 0, .long 0, .int (-1), .int 0, .int 0, .int 0, .int 0, .int 0]), (h10, oC 3 [.ref g20, .int 0])] rfl ?_
                exact V_iret 131 B dX11_count_131 () (Or.inr (Or.inr (Or.inr (Or.inr (Or.inr (Or.inl ⟨rfl, rfl⟩)))))) rfl
              ·
                by_cases k12 : p0 = 6
                ·
                  obtain rfl : p0 = 6 := k12
                  refine V_tableIn 1 B 132 dX11_count_1 (by decide +kernel) (by decide +kernel) (off := 131) (by decide +kernel) (by decide) ?_
                  refine V_aload_n 132 B dX11_count_132 0 rfl ?_
                  refine V_get 133 B gf_RX11_10 0 rfl rfl dX11_count_133 ?_
                  refine V_get 136 B gf_RX11_129 1 rfl rfl dX11_count_136 ?_
                  refine V_get 139 B gf_RX11_144 9 rfl rfl dX11_count_139 ?_
                  exact V_iret 142 B dX11_count_142 () (Or.inr (Or.inr (Or.inr (Or.inr (Or.inr (Or.inr (Or.inl ⟨rfl, rfl⟩))))))) rfl
                ·
                  by_cases k13 : p0 = 7
                  ·
                    obtain rfl : p0 = 7 := k13
                    refine V_tableIn 1 B 143 dX11_count_1 (by decide +kernel) (by decide +kernel) (off := 142) (by decide +kernel) (by decide) ?_
                    refine V_aload_n 143 B dX11_count_143 0 rfl ?_
                    refine V_get 144 B gf_RX11_10 0 rfl rfl dX11_count_144 ?_
                    refine V_get 147 B gf_RX11_129 1 rfl rfl dX11_count_147 ?_
                    refine V_get 150 B gf_RX11_147 9 rfl rfl dX11_count_150 ?_
                    refine V_cvi 153 B (st := []) (As := []) (fun sz => mX1_size_1 l D Y (h10) (g20) sz) glV_RX11_95 ⟨rfl, rfl⟩ ⟨(Nat.le_of_ble_eq_true rfl), (Nat.le_of_ble_eq_true rfl)⟩ ⟨(Nat.le_of_ble_eq_true rfl), (Nat.le_of_ble_eq_true rfl)⟩ [10] rfl 3 0 rfl rfl rfl rfl (Nat.le_of_ble_eq_true rfl) rfl (fun _ _ _ => rfl) dX11_count_153 (fun r14 u14 w14 => ?_)
                    obtain rfl := w14
                    refine V_ws [(h0, oC 12 [.ref h1, .ref g0, .ref g1, .ref g2, .ref g3, .ref g4, .ref g5, .ref g6, .ref g7, .long 0]), (h1, oC 2 [.ref h2, .ref h3, .ref g8, .ref g9, .ref h4, .ref h5, .ref g10, .ref g11, .ref h6, .ref h7, .ref h9, .int 0]), (h2, oC 3 [.ref g12, .int 1]), (h3, oC 3 [.ref g13, .int 0]), (h4, oC 7 [.ref g14, .int 0]), (h5, oC 3 [.ref g15, .int 0]), (h6, oC 7 [.ref g16, .int 0]), (h7, oC 4 [.ref h8, .ref g17, .ref g18, .int 0]), (h8, oC 3 [.ref g19, .int 0]), (h9, oC 9 [.ref h10, .int 0, .long 0, .int (-1), .int 0, .int 0, .int 0, .int 0, .int 0]), (h10, oC 3 [.ref g20, .int 0])] rfl ?_
                    exact V_iret 156 B dX11_count_156 () (Or.inr (Or.inr (Or.inr (Or.inr (Or.inr (Or.inr (Or.inr (Or.inl ⟨rfl, rfl⟩)))))))) rfl
                  ·
                    by_cases k15 : p0 = 8
                    ·
                      obtain rfl : p0 = 8 := k15
                      refine V_tableIn 1 B 157 dX11_count_1 (by decide +kernel) (by decide +kernel) (off := 156) (by decide +kernel) (by decide) ?_
                      refine V_aload_n 157 B dX11_count_157 0 rfl ?_
                      refine V_get 158 B gf_RX11_10 0 rfl rfl dX11_count_158 ?_
                      refine V_get 161 B gf_RX11_150 1 rfl rfl dX11_count_161 ?_
                      refine V_cvi 164 B (st := []) (As := []) (fun sz => mX5_size_1 l D Y (h6) (g16) sz) glV_RX11_126 ⟨rfl, rfl⟩ ⟨(Nat.le_of_ble_eq_true rfl), (Nat.le_of_ble_eq_true rfl)⟩ ⟨(Nat.le_of_ble_eq_true rfl), (Nat.le_of_ble_eq_true rfl)⟩ [6] rfl 7 0 rfl rfl rfl rfl (Nat.le_of_ble_eq_true rfl) rfl (fun _ _ _ => rfl) dX11_count_164 (fun r16 u16 w16 => ?_)
                      obtain rfl := w16
                      refine V_ws [(h0, oC 12 [.ref h1, .ref g0, .ref g1, .ref g2, .ref g3, .ref g4, .ref g5, .ref g6, .ref g7, .long 0]), (h1, oC 2 [.ref h2, .ref h3, .ref g8, .ref g9, .ref h4, .ref h5, .ref g10, .ref g11, .ref h6, .ref h7, .ref h9, .int 0]), (h2, oC 3 [.ref g12, .int 1]), (h3, oC 3 [.ref g13, .int 0]), (h4, oC 7 [.ref g14, .int 0]), (h5, oC 3 [.ref g15, .int 0]), (h6, oC 7 [.ref g16, .int 0]), (h7, oC 4 [.ref h8, .ref g17, .ref g18, .int 0]), (h8, oC 3 [.ref g19, .int 0]), (h9, oC 9 [.ref h10, .int 0, .long 0, .int (-1), .int 0, .int 0, .int 0, .int 0, .int 0]), (h10, oC 3 [.ref g20, .int 0])] rfl ?_
                      exact V_iret 167 B dX11_count_167 () (Or.inr (Or.inr (Or.inr (Or.inr (Or.inr (Or.inr (Or.inr (Or.inr (Or.inl ⟨rfl, rfl⟩))))))))) rfl
                    ·
                      by_cases k17 : p0 = 9
                      ·
                        obtain rfl : p0 = 9 := k17
                        refine V_tableIn 1 B 168 dX11_count_1 (by decide +kernel) (by decide +kernel) (off := 167) (by decide +kernel) (by decide) ?_
                        refine V_aload_n 168 B dX11_count_168 0 rfl ?_
                        refine V_get 169 B gf_RX11_10 0 rfl rfl dX11_count_169 ?_
                        refine V_get 172 B gf_RX11_129 1 rfl rfl dX11_count_172 ?_
                        refine V_get 175 B gf_RX11_153 9 rfl rfl dX11_count_175 ?_
                        exact V_iret 178 B dX11_count_178 () (Or.inr (Or.inr (Or.inr (Or.inr (Or.inr (Or.inr (Or.inr (Or.inr (Or.inr (Or.inl ⟨rfl, rfl⟩)))))))))) rfl
                      ·
                        by_cases k18 : p0 = 10
                        ·
                          obtain rfl : p0 = 10 := k18
                          refine V_tableIn 1 B 179 dX11_count_1 (by decide +kernel) (by decide +kernel) (off := 178) (by decide +kernel) (by decide) ?_
                          refine V_aload_n 179 B dX11_count_179 0 rfl ?_
                          refine V_get 180 B gf_RX11_68 0 rfl rfl dX11_count_180 ?_
                          refine V_csi 183 B (st := []) (As := [.long 0]) (fun sz => mX6_lengthOf_1 l D Y  sz) glS_RX11_138 ⟨rfl, rfl⟩ ⟨(Nat.le_of_ble_eq_true rfl), (Nat.le_of_ble_eq_true rfl)⟩ ⟨(Nat.le_of_ble_eq_true rfl), (Nat.le_of_ble_eq_true rfl)⟩ [] rfl rfl (Nat.le_of_ble_eq_true rfl) rfl (fun _ _ _ => rfl) dX11_count_183 (fun r19 u19 w19 => ?_)
                          obtain rfl := w19
                          refine V_ws [(h0, oC 12 [.ref h1, .ref g0, .ref g1, .ref g2, .ref g3, .ref g4, .ref g5, .ref g6, .ref g7, .long 0]), (h1, oC 2 [.ref h2, .ref h3, .ref g8, .ref g9, .ref h4, .ref h5, .ref g10, .ref g11, .ref h6, .ref h7, .ref h9, .int 0]), (h2, oC 3 [.ref g12, .int 1]), (h3, oC 3 [.ref g13, .int 0]), (h4, oC 7 [.ref g14, .int 0]), (h5, oC 3 [.ref g15, .int 0]), (h6, oC 7 [.ref g16, .int 0]), (h7, oC 4 [.ref h8, .ref g17, .ref g18, .int 0]), (h8, oC 3 [.ref g19, .int 0]), (h9, oC 9 [.ref h10, .int 0, .long 0, .int (-1), .int 0, .int 0, .int 0, .int 0, .int 0]), (h10, oC 3 [.ref g20, .int 0])] rfl ?_
                          exact V_iret 186 B dX11_count_186 () (Or.inr (Or.inr (Or.inr (Or.inr (Or.inr (Or.inr (Or.inr (Or.inr (Or.inr (Or.inr (Or.inl ⟨rfl, rfl⟩))))))))))) rfl
                        ·
                          refine V_tableOut 1 B 187 dX11_count_1 (sw_out_0_10 k0 k2 k4 k6 k8 k10 k12 k13 k15 k17 k18) (by decide) ?_
                          refine V_iconst 187 B (v := (-1)) dX11_count_187 (by decide +kernel) ?_
                          exact V_iret 188 B dX11_count_188 () (Or.inr (Or.inr (Or.inr (Or.inr (Or.inr (Or.inr (Or.inr (Or.inr (Or.inr (Or.inr (Or.inr ⟨k0, k2, k4, k6, k8, k10, k12, k13, k15, k17, k18, rfl⟩))))))))))) rfl)
theorem dX6_isStroke_0 : decode cX6_isStroke 0 = .ok (.iload_n 0, 1) := by decide +kernel
theorem dX6_isStroke_1 : decode cX6_isStroke 1 = .ok (.ifCond .lt 23, 3) := by decide +kernel
theorem dX6_isStroke_24 : decode cX6_isStroke 24 = .ok (.iconst 0, 1) := by decide +kernel
theorem dX6_isStroke_25 : decode cX6_isStroke 25 = .ok (.ireturn, 1) := by decide +kernel
theorem dX6_isStroke_4 : decode cX6_isStroke 4 = .ok (.iload_n 0, 1) := by decide +kernel
theorem dX6_isStroke_5 : decode cX6_isStroke 5 = .ok (.sipush 512, 3) := by decide +kernel
theorem dX6_isStroke_8 : decode cX6_isStroke 8 = .ok (.if_icmp .ge 16, 3) := by decide +kernel
theorem dX6_isStroke_11 : decode cX6_isStroke 11 = .ok (.iload_n 0, 1) := by decide +kernel
theorem dX6_isStroke_12 : decode cX6_isStroke 12 = .ok (.bipush 31, 2) := by decide +kernel
theorem dX6_isStroke_14 : decode cX6_isStroke 14 = .ok (.iand, 1) := by decide +kernel
theorem dX6_isStroke_15 : decode cX6_isStroke 15 = .ok (.bipush 26, 2) := by decide +kernel
theorem dX6_isStroke_17 : decode cX6_isStroke 17 = .ok (.if_icmp .ge 7, 3) := by decide +kernel
theorem dX6_isStroke_20 : decode cX6_isStroke 20 = .ok (.iconst 1, 1) := by decide +kernel
theorem dX6_isStroke_21 : decode cX6_isStroke 21 = .ok (.goto 4, 3) := by decide +kernel
set_option maxRecDepth 100000 in
set_option maxHeartbeats 4000000 in
theorem mX6_isStroke_1 (l : Launch) (D : va_G) (Y : Nat → ClassId) (p0 : Int32) (sz : Nat) : Met l yX6_isStroke (WSm yX6_isStroke cX6_isStroke 1 (some .boolean)) (mkR 0 0 0 0) (PreC D Y [.int p0] [] sz) (QI D (fun (r : Int32) (u : Unit) => (p0 < 0 ∧ 0 = r) ∨ (¬ p0 < 0 ∧ 512 ≤ p0 ∧ 0 = r) ∨ (¬ p0 < 0 ∧ ¬ 512 ≤ p0 ∧ 26 ≤ (p0 &&& 31) ∧ 0 = r) ∨ (¬ p0 < 0 ∧ ¬ 512 ≤ p0 ∧ ¬ 26 ≤ (p0 &&& 31) ∧ 1 = r)) (fun (_ : Unit) => []) (va_A [] sz)) 0 0 (va_A [] sz) :=
  met_of (by decide +kernel) (Nat.le_of_ble_eq_true rfl) (fun p e s m args below meth c B hin hsz => by
    have B : VB p s m args meth c D Y (va_A [] sz) cX6_isStroke 1 RX6 (some .boolean) := B
    refine V_iload_n 0 B dX6_isStroke_0 0 rfl ?_
    refine V_if_lt 1 B 24 dX6_isStroke_1 (by decide) (fun k0 => ?_) (fun k0 => ?_)
    ·
      refine V_iconst 24 B (v := 0) dX6_isStroke_24 (by decide +kernel) ?_
      exact V_zret 25 B rfl dX6_isStroke_25 () (Or.inl ⟨k0, rfl⟩) rfl
    ·
      refine V_iload_n 4 B dX6_isStroke_4 0 rfl ?_
      refine V_sipush 5 B (v := 512) dX6_isStroke_5 (by decide +kernel) ?_
      refine V_icmp_ge 8 B 24 dX6_isStroke_8 (by decide) (fun k1 => ?_) (fun k1 => ?_)
      ·
        refine V_iconst 24 B (v := 0) dX6_isStroke_24 (by decide +kernel) ?_
        exact V_zret 25 B rfl dX6_isStroke_25 () (Or.inr (Or.inl ⟨k0, k1, rfl⟩)) rfl
      ·
        refine V_iload_n 11 B dX6_isStroke_11 0 rfl ?_
        refine V_bipush 12 B (v := 31) dX6_isStroke_12 (by decide +kernel) ?_
        refine V_iand 14 B dX6_isStroke_14 rfl ?_
        refine V_bipush 15 B (v := 26) dX6_isStroke_15 (by decide +kernel) ?_
        refine V_icmp_ge 17 B 24 dX6_isStroke_17 (by decide) (fun k2 => ?_) (fun k2 => ?_)
        ·
          refine V_iconst 24 B (v := 0) dX6_isStroke_24 (by decide +kernel) ?_
          exact V_zret 25 B rfl dX6_isStroke_25 () (Or.inr (Or.inr (Or.inl ⟨k0, k1, k2, rfl⟩))) rfl
        ·
          refine V_iconst 20 B (v := 1) dX6_isStroke_20 (by decide +kernel) ?_
          refine V_goto 21 B 25 dX6_isStroke_21 (by decide) ?_
          exact V_zret 25 B rfl dX6_isStroke_25 () (Or.inr (Or.inr (Or.inr ⟨k0, k1, k2, rfl⟩))) rfl)
theorem dX11_needStroke_0 : decode cX11_needStroke 0 = .ok (.iload_n 0, 1) := by decide +kernel
theorem dX11_needStroke_1 : decode cX11_needStroke 1 = .ok (.invokestatic 414, 3) := by decide +kernel
theorem glS_RX11_414 : GLS RX11 414 yX6_isStroke cX6_isStroke 1 (some .boolean) 1 := ⟨⟨(mT5 28 rfl rfl), (mT5 29 rfl rfl), (mT1 18 rfl rfl), (mT5 30 rfl rfl)⟩, by decide +kernel⟩
theorem dX11_needStroke_4 : decode cX11_needStroke 4 = .ok (.ifCond .ne 14, 3) := by decide +kernel
theorem dX11_needStroke_7 : decode cX11_needStroke 7 = .ok (.new 190, 3) := by decide +kernel
theorem gta_194 : (∀ w ∈ (vx_atS RX11 194 "java/lang/IllegalArgumentException" ["java/lang/RuntimeException", "java/lang/Exception"]).filter goodWord, w ∈ lw_good) ∧ ∀ w ∈ (vx_atS RX11 194 "java/lang/IllegalArgumentException" ["java/lang/RuntimeException", "java/lang/Exception"]).filter (fun w => !goodWord w), w ∈ ngw "java/lang/IllegalArgumentException" := by decide +kernel
theorem gt_RX11_190_417_194 : GT RX11 190 417 194 "java/lang/IllegalArgumentException" "no such stroke" ["java/lang/RuntimeException", "java/lang/Exception"] := ⟨rfl, (mT5 31 rfl rfl), (mT1 22 rfl rfl), List.mem_of_getElem? (i := 14) rfl, by decide +kernel, by decide +kernel, List.mem_of_getElem? (i := 0) rfl, gta_194⟩
theorem dX11_needStroke_10 : decode cX11_needStroke 10 = .ok (.dup, 1) := by decide +kernel
theorem dX11_needStroke_11 : decode cX11_needStroke 11 = .ok (.ldc_w 417, 3) := by decide +kernel
theorem dX11_needStroke_14 : decode cX11_needStroke 14 = .ok (.invokespecial 194, 3) := by decide +kernel
theorem dX11_needStroke_17 : decode cX11_needStroke 17 = .ok (.athrow, 1) := by decide +kernel
theorem dX11_needStroke_18 : decode cX11_needStroke 18 = .ok (.return_, 1) := by decide +kernel
set_option maxRecDepth 100000 in
set_option maxHeartbeats 4000000 in
theorem mX11_needStroke_1 (l : Launch) (hl9 : l.stackTraces = false) (D : va_G) (Y : Nat → ClassId) (p0 : Int32) (sz : Nat) : vx_Met l yX11_needStroke (WSm yX11_needStroke cX11_needStroke 1 none) (mkR 6 1 6 82) (PreX D Y [.int p0] [] sz) (QV D (fun (u : Unit) => ¬ p0 < 0 ∧ ¬ 512 ≤ p0 ∧ ¬ 26 ≤ (p0 &&& 31)) (fun (_ : Unit) => []) (va_A [] sz)) (XW D (fun (E : String) (u : Unit) => (E = "java/lang/IllegalArgumentException" ∧ p0 < 0) ∨ (E = "java/lang/IllegalArgumentException" ∧ ¬ p0 < 0 ∧ 512 ≤ p0) ∨ (E = "java/lang/IllegalArgumentException" ∧ ¬ p0 < 0 ∧ ¬ 512 ≤ p0 ∧ 26 ≤ (p0 &&& 31))) (fun (_ : Unit) => []) (va_A [] sz)) 1 6 (va_A [] sz) :=
  xmet_of (by decide +kernel) (Nat.le_of_ble_eq_true rfl) (fun p e s m args below meth c B EB hout hsz => by
    have B : VB p s m args meth c D Y (va_A [] sz) cX11_needStroke 1 RX11 none := B
    refine V_iload_n 0 B dX11_needStroke_0 0 rfl ?_
    refine V_csi 1 B (st := []) (As := [.int p0]) (fun sz => mX6_isStroke_1 l D Y (p0) sz) glS_RX11_414 ⟨rfl, rfl⟩ ⟨(Nat.le_of_ble_eq_true rfl), (Nat.le_of_ble_eq_true rfl)⟩ ⟨(Nat.le_of_ble_eq_true rfl), (Nat.le_of_ble_eq_true rfl)⟩ [] rfl rfl (Nat.le_of_ble_eq_true rfl) rfl (fun _ _ _ => rfl) dX11_needStroke_1 (fun r0 u0 w0 => ?_)
    rcases w0 with ⟨k1, rfl⟩ | ⟨k2, k3, rfl⟩ | ⟨k4, k5, k6, rfl⟩ | ⟨k7, k8, k9, rfl⟩
    ·
      refine V_ws [] rfl ?_
      refine V_if_ne_f 4 B 18 dX11_needStroke_4 (by decide) (by decide +kernel) ?_
      exact V_throwSW 7 B EB hl9 gt_RX11_190_417_194 hout dX11_needStroke_7 dX11_needStroke_10 dX11_needStroke_11 dX11_needStroke_14 dX11_needStroke_17 (Nat.le_of_ble_eq_true rfl) (Nat.le_of_ble_eq_true rfl) (Nat.le_of_ble_eq_true rfl) (Nat.le_of_ble_eq_true rfl) (Nat.le_of_ble_eq_true rfl) (Nat.le_of_ble_eq_true rfl) () (Or.inl ⟨rfl, k1⟩) rfl
    ·
      refine V_ws [] rfl ?_
      refine V_if_ne_f 4 B 18 dX11_needStroke_4 (by decide) (by decide +kernel) ?_
      exact V_throwSW 7 B EB hl9 gt_RX11_190_417_194 hout dX11_needStroke_7 dX11_needStroke_10 dX11_needStroke_11 dX11_needStroke_14 dX11_needStroke_17 (Nat.le_of_ble_eq_true rfl) (Nat.le_of_ble_eq_true rfl) (Nat.le_of_ble_eq_true rfl) (Nat.le_of_ble_eq_true rfl) (Nat.le_of_ble_eq_true rfl) (Nat.le_of_ble_eq_true rfl) () (Or.inr (Or.inl ⟨rfl, k2, k3⟩)) rfl
    ·
      refine V_ws [] rfl ?_
      refine V_if_ne_f 4 B 18 dX11_needStroke_4 (by decide) (by decide +kernel) ?_
      exact V_throwSW 7 B EB hl9 gt_RX11_190_417_194 hout dX11_needStroke_7 dX11_needStroke_10 dX11_needStroke_11 dX11_needStroke_14 dX11_needStroke_17 (Nat.le_of_ble_eq_true rfl) (Nat.le_of_ble_eq_true rfl) (Nat.le_of_ble_eq_true rfl) (Nat.le_of_ble_eq_true rfl) (Nat.le_of_ble_eq_true rfl) (Nat.le_of_ble_eq_true rfl) () (Or.inr (Or.inr ⟨rfl, k4, k5, k6⟩)) rfl
    ·
      refine V_ws [] rfl ?_
      refine V_if_ne_t 4 B 18 dX11_needStroke_4 (by decide) (by decide +kernel) ?_
      refine V_xret ?_
      refine V_widen (k := 1) (n := 6) (Nat.le_of_ble_eq_true rfl) (Nat.le_of_ble_eq_true rfl) ?_
      exact V_vret 18 B dX11_needStroke_18 () ⟨k7, k8, k9⟩ rfl)
theorem dX6_extended_0 : decode cX6_extended 0 = .ok (.lload_n 0, 1) := by decide +kernel
theorem dX6_extended_1 : decode cX6_extended 1 = .ok (.invokestatic 13, 3) := by decide +kernel
theorem glS_RX6_13 : GLS RX6 13 yX6_lengthOf cX6_lengthOf 2 (some .int) 1 := ⟨⟨(mT3 98 rfl rfl), (mT3 99 rfl rfl), (mT1 18 rfl rfl), (mT3 100 rfl rfl)⟩, by decide +kernel⟩
theorem dX6_extended_4 : decode cX6_extended 4 = .ok (.istore_n 3, 1) := by decide +kernel
theorem dX6_extended_5 : decode cX6_extended 5 = .ok (.iload_n 3, 1) := by decide +kernel
theorem dX6_extended_6 : decode cX6_extended 6 = .ok (.iconst 4, 1) := by decide +kernel
theorem dX6_extended_7 : decode cX6_extended 7 = .ok (.if_icmp .lt 5, 3) := by decide +kernel
theorem dX6_extended_12 : decode cX6_extended 12 = .ok (.lload_n 0, 1) := by decide +kernel
theorem dX6_extended_13 : decode cX6_extended 13 = .ok (.iload_n 2, 1) := by decide +kernel
theorem dX6_extended_14 : decode cX6_extended 14 = .ok (.iconst 1, 1) := by decide +kernel
theorem dX6_extended_15 : decode cX6_extended 15 = .ok (.iadd, 1) := by decide +kernel
theorem dX6_extended_16 : decode cX6_extended 16 = .ok (.i2l, 1) := by decide +kernel
theorem dX6_extended_17 : decode cX6_extended 17 = .ok (.bipush 9, 2) := by decide +kernel
theorem dX6_extended_19 : decode cX6_extended 19 = .ok (.iconst 3, 1) := by decide +kernel
theorem dX6_extended_20 : decode cX6_extended 20 = .ok (.iload_n 3, 1) := by decide +kernel
theorem dX6_extended_21 : decode cX6_extended 21 = .ok (.isub, 1) := by decide +kernel
theorem dX6_extended_22 : decode cX6_extended 22 = .ok (.imul, 1) := by decide +kernel
theorem dX6_extended_23 : decode cX6_extended 23 = .ok (.lshl, 1) := by decide +kernel
theorem dX6_extended_24 : decode cX6_extended 24 = .ok (.lor, 1) := by decide +kernel
theorem dX6_extended_25 : decode cX6_extended 25 = .ok (.lreturn, 1) := by decide +kernel
set_option maxRecDepth 100000 in
set_option maxHeartbeats 4000000 in
theorem mX6_extended_1 (l : Launch) (D : va_G) (Y : Nat → ClassId) (p0 : Int32) (sz : Nat) : Met l yX6_extended (WSm yX6_extended cX6_extended 4 (some .long)) (mkR 1 0 0 21) (PreC D Y [.long 0, .int p0] [] sz) (QJ D (fun (r : Int64) (u : Unit) => (0 ||| ((p0 + 1).toInt64 <<< ((27 : Int32).toInt64 &&& 63))) = r) (fun (_ : Unit) => []) (va_A [] sz)) 0 0 (va_A [] sz) :=
  met_of (by decide +kernel) (Nat.le_of_ble_eq_true rfl) (fun p e s m args below meth c B hin hsz => by
    have B : VB p s m args meth c D Y (va_A [] sz) cX6_extended 4 RX6 (some .long) := B
    refine V_lload_n 0 B dX6_extended_0 0 rfl ?_
    refine V_csi 1 B (st := []) (As := [.long 0]) (fun sz => mX6_lengthOf_1 l D Y  sz) glS_RX6_13 ⟨rfl, rfl⟩ ⟨(Nat.le_of_ble_eq_true rfl), (Nat.le_of_ble_eq_true rfl)⟩ ⟨(Nat.le_of_ble_eq_true rfl), (Nat.le_of_ble_eq_true rfl)⟩ [] rfl rfl (Nat.le_of_ble_eq_true rfl) rfl (fun _ _ _ => rfl) dX6_extended_1 (fun r0 u0 w0 => ?_)
    obtain rfl := w0
    refine V_ws [] rfl ?_
    refine V_istore_n 4 B (lv2 := [(3, .int 0), (0, .long 0), (2, .int p0)]) dX6_extended_4 (by decide) rfl ?_
    refine V_iload_n 5 B dX6_extended_5 0 rfl ?_
    refine V_iconst 6 B (v := 4) dX6_extended_6 (by decide +kernel) ?_
    refine V_icmp_lt_t 7 B 12 dX6_extended_7 (by decide) (by decide +kernel) ?_
    refine V_lload_n 12 B dX6_extended_12 1 rfl ?_
    refine V_iload_n 13 B dX6_extended_13 2 rfl ?_
    refine V_iconst 14 B (v := 1) dX6_extended_14 (by decide +kernel) ?_
    refine V_iadd 15 B dX6_extended_15 rfl ?_
    refine V_i2l 16 B dX6_extended_16 rfl ?_
    refine V_bipush 17 B (v := 9) dX6_extended_17 (by decide +kernel) ?_
    refine V_iconst 19 B (v := 3) dX6_extended_19 (by decide +kernel) ?_
    refine V_iload_n 20 B dX6_extended_20 0 rfl ?_
    refine V_isub 21 B (v := 3) dX6_extended_21 (by decide +kernel) ?_
    refine V_imul 22 B (v := 27) dX6_extended_22 (by decide +kernel) ?_
    refine V_lshl 23 B dX6_extended_23 rfl ?_
    refine V_lor 24 B dX6_extended_24 rfl ?_
    exact V_lret 25 B dX6_extended_25 () rfl rfl)
theorem dX11_draft_0 : decode cX11_draft 0 = .ok (.iload_n 1, 1) := by decide +kernel
theorem dX11_draft_1 : decode cX11_draft 1 = .ok (.invokestatic 156, 3) := by decide +kernel
theorem glS_RX11_156 : GLS RX11 156 yX11_needStroke cX11_needStroke 1 none 1 := ⟨⟨(mT5 25 rfl rfl), (mT5 26 rfl rfl), (mT1 1 rfl rfl), (mT5 27 rfl rfl)⟩, by decide +kernel⟩
theorem dX11_draft_4 : decode cX11_draft 4 = .ok (.aload_n 0, 1) := by decide +kernel
theorem dX11_draft_5 : decode cX11_draft 5 = .ok (.getfield 68, 3) := by decide +kernel
theorem dX11_draft_8 : decode cX11_draft 8 = .ok (.invokestatic 138, 3) := by decide +kernel
theorem dX11_draft_11 : decode cX11_draft 11 = .ok (.istore_n 2, 1) := by decide +kernel
theorem dX11_draft_12 : decode cX11_draft 12 = .ok (.iload_n 2, 1) := by decide +kernel
theorem dX11_draft_13 : decode cX11_draft 13 = .ok (.iconst 4, 1) := by decide +kernel
theorem dX11_draft_14 : decode cX11_draft 14 = .ok (.if_icmp .lt 6, 3) := by decide +kernel
theorem dX11_draft_20 : decode cX11_draft 20 = .ok (.aload_n 0, 1) := by decide +kernel
theorem dX11_draft_21 : decode cX11_draft 21 = .ok (.aload_n 0, 1) := by decide +kernel
theorem dX11_draft_22 : decode cX11_draft 22 = .ok (.getfield 68, 3) := by decide +kernel
theorem dX11_draft_25 : decode cX11_draft 25 = .ok (.iload_n 1, 1) := by decide +kernel
theorem dX11_draft_26 : decode cX11_draft 26 = .ok (.invokestatic 159, 3) := by decide +kernel
theorem glS_RX11_159 : GLS RX11 159 yX6_extended cX6_extended 4 (some .long) 2 := ⟨⟨(mT5 99 rfl rfl), (mT3 96 rfl rfl), (mT1 18 rfl rfl), (mT3 97 rfl rfl)⟩, by decide +kernel⟩
theorem dX11_draft_29 : decode cX11_draft 29 = .ok (.putfield 68, 3) := by decide +kernel
theorem dX11_draft_32 : decode cX11_draft 32 = .ok (.iload_n 2, 1) := by decide +kernel
theorem dX11_draft_33 : decode cX11_draft 33 = .ok (.iconst 1, 1) := by decide +kernel
theorem dX11_draft_34 : decode cX11_draft 34 = .ok (.iadd, 1) := by decide +kernel
theorem dX11_draft_35 : decode cX11_draft 35 = .ok (.ireturn, 1) := by decide +kernel
set_option maxRecDepth 100000 in
set_option maxHeartbeats 4000000 in
theorem mX11_draft_1 (l : Launch) (hl9 : l.stackTraces = false) (D : va_G) (Y : Nat → ClassId) (h0 : Nat) (g0 : Nat) (g1 : Nat) (g2 : Nat) (g3 : Nat) (g4 : Nat) (g5 : Nat) (g6 : Nat) (g7 : Nat) (g8 : Nat) (p0 : Int32) (sz : Nat) : vx_Met l yX11_draft (WSm yX11_draft cX11_draft 3 (some .int)) (mkR 7 1 6 102) (PreX D Y [.ref h0, .int p0] [(h0, oC 12 [.ref g0, .ref g1, .ref g2, .ref g3, .ref g4, .ref g5, .ref g6, .ref g7, .ref g8, .long 0])] sz) (QI D (fun (r : Int32) (u : Unit) => ¬ p0 < 0 ∧ ¬ 512 ≤ p0 ∧ ¬ 26 ≤ (p0 &&& 31) ∧ 1 = r) (fun (_ : Unit) => [(h0, oC 12 [.ref g0, .ref g1, .ref g2, .ref g3, .ref g4, .ref g5, .ref g6, .ref g7, .ref g8, .long (0 ||| ((p0 + 1).toInt64 <<< ((27 : Int32).toInt64 &&& 63)))])]) (va_A [(h0, oC 12 [.ref g0, .ref g1, .ref g2, .ref g3, .ref g4, .ref g5, .ref g6, .ref g7, .ref g8, .long 0])] sz)) (XW D (fun (E : String) (u : Unit) => (E = "java/lang/IllegalArgumentException" ∧ p0 < 0) ∨ (E = "java/lang/IllegalArgumentException" ∧ ¬ p0 < 0 ∧ 512 ≤ p0) ∨ (E = "java/lang/IllegalArgumentException" ∧ ¬ p0 < 0 ∧ ¬ 512 ≤ p0 ∧ 26 ≤ (p0 &&& 31))) (fun (_ : Unit) => [(h0, oC 12 [.ref g0, .ref g1, .ref g2, .ref g3, .ref g4, .ref g5, .ref g6, .ref g7, .ref g8, .long 0])]) (va_A [(h0, oC 12 [.ref g0, .ref g1, .ref g2, .ref g3, .ref g4, .ref g5, .ref g6, .ref g7, .ref g8, .long 0])] sz)) 1 6 (va_A [(h0, oC 12 [.ref g0, .ref g1, .ref g2, .ref g3, .ref g4, .ref g5, .ref g6, .ref g7, .ref g8, .long 0])] sz) :=
  xmet_of (by decide +kernel) (Nat.le_of_ble_eq_true rfl) (fun p e s m args below meth c B EB hout hsz => by
    have B : VB p s m args meth c D Y (va_A [(h0, oC 12 [.ref g0, .ref g1, .ref g2, .ref g3, .ref g4, .ref g5, .ref g6, .ref g7, .ref g8, .long 0])] sz) cX11_draft 3 RX11 (some .int) := B
    refine V_iload_n 0 B dX11_draft_0 1 rfl ?_
    refine V_xsv 1 B EB (st := []) (As := [.int p0]) (fun sz => mX11_needStroke_1 l hl9 D Y (p0) sz) glS_RX11_156 ⟨rfl, rfl⟩ ⟨(Nat.le_of_ble_eq_true rfl), (Nat.le_of_ble_eq_true rfl)⟩ ⟨(Nat.le_of_ble_eq_true rfl), (Nat.le_of_ble_eq_true rfl)⟩ [] rfl rfl (Nat.le_of_ble_eq_true rfl) rfl (fun _ _ => rfl) (fun _ _ _ => rfl) dX11_draft_1 (fun E u0 w0 => ?_) (fun u0 w0 => ?_)
    ·
      rcases w0 with ⟨rfl, k1⟩ | ⟨rfl, k2, k3⟩ | ⟨rfl, k4, k5, k6⟩
      ·
        exact VX_out 1 B hout () (Or.inl ⟨rfl, k1⟩) rfl (Nat.le_of_ble_eq_true rfl) (Nat.le_of_ble_eq_true rfl)
      ·
        exact VX_out 1 B hout () (Or.inr (Or.inl ⟨rfl, k2, k3⟩)) rfl (Nat.le_of_ble_eq_true rfl) (Nat.le_of_ble_eq_true rfl)
      ·
        exact VX_out 1 B hout () (Or.inr (Or.inr ⟨rfl, k4, k5, k6⟩)) rfl (Nat.le_of_ble_eq_true rfl) (Nat.le_of_ble_eq_true rfl)
    ·
      obtain ⟨k7, k8, k9⟩ := w0
      refine V_ws [(h0, oC 12 [.ref g0, .ref g1, .ref g2, .ref g3, .ref g4, .ref g5, .ref g6, .ref g7, .ref g8, .long 0])] rfl ?_
      refine V_aload_n 4 B dX11_draft_4 0 rfl ?_
      refine V_get 5 B gf_RX11_68 0 rfl rfl dX11_draft_5 ?_
      refine V_csi 8 B (st := []) (As := [.long 0]) (fun sz => mX6_lengthOf_1 l D Y  sz) glS_RX11_138 ⟨rfl, rfl⟩ ⟨(Nat.le_of_ble_eq_true rfl), (Nat.le_of_ble_eq_true rfl)⟩ ⟨(Nat.le_of_ble_eq_true rfl), (Nat.le_of_ble_eq_true rfl)⟩ [] rfl rfl (Nat.le_of_ble_eq_true rfl) rfl (fun _ _ _ => rfl) dX11_draft_8 (fun r10 u10 w10 => ?_)
      obtain rfl := w10
      refine V_ws [(h0, oC 12 [.ref g0, .ref g1, .ref g2, .ref g3, .ref g4, .ref g5, .ref g6, .ref g7, .ref g8, .long 0])] rfl ?_
      refine V_istore_n 11 B (lv2 := [(2, .int 0), (0, .ref h0), (1, .int p0)]) dX11_draft_11 (by decide) rfl ?_
      refine V_iload_n 12 B dX11_draft_12 0 rfl ?_
      refine V_iconst 13 B (v := 4) dX11_draft_13 (by decide +kernel) ?_
      refine V_icmp_lt_t 14 B 20 dX11_draft_14 (by decide) (by decide +kernel) ?_
      refine V_aload_n 20 B dX11_draft_20 1 rfl ?_
      refine V_aload_n 21 B dX11_draft_21 1 rfl ?_
      refine V_get 22 B gf_RX11_68 0 rfl rfl dX11_draft_22 ?_
      refine V_iload_n 25 B dX11_draft_25 2 rfl ?_
      refine V_csl 26 B (st := [.ref h0]) (As := [.long 0, .int p0]) (fun sz => mX6_extended_1 l D Y (p0) sz) glS_RX11_159 ⟨rfl, rfl⟩ ⟨(Nat.le_of_ble_eq_true rfl), (Nat.le_of_ble_eq_true rfl)⟩ ⟨(Nat.le_of_ble_eq_true rfl), (Nat.le_of_ble_eq_true rfl)⟩ [] rfl rfl (Nat.le_of_ble_eq_true rfl) rfl (fun _ _ _ => rfl) dX11_draft_26 (fun r11 u11 w11 => ?_)
      obtain rfl := w11
      refine V_ws [(h0, oC 12 [.ref g0, .ref g1, .ref g2, .ref g3, .ref g4, .ref g5, .ref g6, .ref g7, .ref g8, .long 0])] rfl ?_
      refine V_put 29 B gp_RX11_68 0 rfl (Nat.le_of_ble_eq_true rfl) rfl rfl dX11_draft_29 [(h0, oC 12 [.ref g0, .ref g1, .ref g2, .ref g3, .ref g4, .ref g5, .ref g6, .ref g7, .ref g8, .long (0 ||| ((p0 + 1).toInt64 <<< ((27 : Int32).toInt64 &&& 63)))])] rfl ?_
      refine V_iload_n 32 B dX11_draft_32 0 rfl ?_
      refine V_iconst 33 B (v := 1) dX11_draft_33 (by decide +kernel) ?_
      refine V_iadd 34 B (v := 1) dX11_draft_34 (by decide +kernel) ?_
      refine V_xret ?_
      exact V_iret 35 B dX11_draft_35 () ⟨k7, k8, k9, rfl⟩ rfl)
theorem dX11_clearDraft_0 : decode cX11_clearDraft 0 = .ok (.aload_n 0, 1) := by decide +kernel
theorem dX11_clearDraft_1 : decode cX11_clearDraft 1 = .ok (.getfield 68, 3) := by decide +kernel
theorem dX11_clearDraft_4 : decode cX11_clearDraft 4 = .ok (.invokestatic 138, 3) := by decide +kernel
theorem dX11_clearDraft_7 : decode cX11_clearDraft 7 = .ok (.istore_n 1, 1) := by decide +kernel
theorem dX11_clearDraft_8 : decode cX11_clearDraft 8 = .ok (.aload_n 0, 1) := by decide +kernel
theorem dX11_clearDraft_9 : decode cX11_clearDraft 9 = .ok (.lconst 0, 1) := by decide +kernel
theorem dX11_clearDraft_10 : decode cX11_clearDraft 10 = .ok (.putfield 68, 3) := by decide +kernel
theorem dX11_clearDraft_13 : decode cX11_clearDraft 13 = .ok (.iload_n 1, 1) := by decide +kernel
theorem dX11_clearDraft_14 : decode cX11_clearDraft 14 = .ok (.ireturn, 1) := by decide +kernel
set_option maxRecDepth 100000 in
set_option maxHeartbeats 4000000 in
theorem mX11_clearDraft_1 (l : Launch) (D : va_G) (Y : Nat → ClassId) (h0 : Nat) (g0 : Nat) (g1 : Nat) (g2 : Nat) (g3 : Nat) (g4 : Nat) (g5 : Nat) (g6 : Nat) (g7 : Nat) (g8 : Nat) (sz : Nat) : Met l yX11_clearDraft (WSm yX11_clearDraft cX11_clearDraft 2 (some .int)) (mkR 1 0 0 21) (PreC D Y [.ref h0] [(h0, oC 12 [.ref g0, .ref g1, .ref g2, .ref g3, .ref g4, .ref g5, .ref g6, .ref g7, .ref g8, .long 0])] sz) (QI D (fun (r : Int32) (u : Unit) => 0 = r) (fun (_ : Unit) => [(h0, oC 12 [.ref g0, .ref g1, .ref g2, .ref g3, .ref g4, .ref g5, .ref g6, .ref g7, .ref g8, .long 0])]) (va_A [(h0, oC 12 [.ref g0, .ref g1, .ref g2, .ref g3, .ref g4, .ref g5, .ref g6, .ref g7, .ref g8, .long 0])] sz)) 0 0 (va_A [(h0, oC 12 [.ref g0, .ref g1, .ref g2, .ref g3, .ref g4, .ref g5, .ref g6, .ref g7, .ref g8, .long 0])] sz) :=
  met_of (by decide +kernel) (Nat.le_of_ble_eq_true rfl) (fun p e s m args below meth c B hin hsz => by
    have B : VB p s m args meth c D Y (va_A [(h0, oC 12 [.ref g0, .ref g1, .ref g2, .ref g3, .ref g4, .ref g5, .ref g6, .ref g7, .ref g8, .long 0])] sz) cX11_clearDraft 2 RX11 (some .int) := B
    refine V_aload_n 0 B dX11_clearDraft_0 0 rfl ?_
    refine V_get 1 B gf_RX11_68 0 rfl rfl dX11_clearDraft_1 ?_
    refine V_csi 4 B (st := []) (As := [.long 0]) (fun sz => mX6_lengthOf_1 l D Y  sz) glS_RX11_138 ⟨rfl, rfl⟩ ⟨(Nat.le_of_ble_eq_true rfl), (Nat.le_of_ble_eq_true rfl)⟩ ⟨(Nat.le_of_ble_eq_true rfl), (Nat.le_of_ble_eq_true rfl)⟩ [] rfl rfl (Nat.le_of_ble_eq_true rfl) rfl (fun _ _ _ => rfl) dX11_clearDraft_4 (fun r0 u0 w0 => ?_)
    obtain rfl := w0
    refine V_ws [(h0, oC 12 [.ref g0, .ref g1, .ref g2, .ref g3, .ref g4, .ref g5, .ref g6, .ref g7, .ref g8, .long 0])] rfl ?_
    refine V_istore_n 7 B (lv2 := [(1, .int 0), (0, .ref h0)]) dX11_clearDraft_7 (by decide) rfl ?_
    refine V_aload_n 8 B dX11_clearDraft_8 1 rfl ?_
    refine V_lconst 9 B (v := 0) dX11_clearDraft_9 (by decide +kernel) ?_
    refine V_put 10 B gp_RX11_68 0 rfl (Nat.le_of_ble_eq_true rfl) rfl rfl dX11_clearDraft_10 [(h0, oC 12 [.ref g0, .ref g1, .ref g2, .ref g3, .ref g4, .ref g5, .ref g6, .ref g7, .ref g8, .long 0])] rfl ?_
    refine V_iload_n 13 B dX11_clearDraft_13 0 rfl ?_
    exact V_iret 14 B dX11_clearDraft_14 () rfl rfl)
theorem dX6_strokeAt_0 : decode cX6_strokeAt 0 = .ok (.iload_n 2, 1) := by decide +kernel
theorem dX6_strokeAt_1 : decode cX6_strokeAt 1 = .ok (.ifCond .lt 8, 3) := by decide +kernel
theorem dX6_strokeAt_9 : decode cX6_strokeAt 9 = .ok (.iconst (-1), 1) := by decide +kernel
theorem dX6_strokeAt_10 : decode cX6_strokeAt 10 = .ok (.ireturn, 1) := by decide +kernel
theorem dX6_strokeAt_4 : decode cX6_strokeAt 4 = .ok (.iload_n 2, 1) := by decide +kernel
theorem dX6_strokeAt_5 : decode cX6_strokeAt 5 = .ok (.iconst 4, 1) := by decide +kernel
theorem dX6_strokeAt_6 : decode cX6_strokeAt 6 = .ok (.if_icmp .lt 5, 3) := by decide +kernel
theorem dX6_strokeAt_11 : decode cX6_strokeAt 11 = .ok (.lload_n 0, 1) := by decide +kernel
theorem dX6_strokeAt_12 : decode cX6_strokeAt 12 = .ok (.bipush 9, 2) := by decide +kernel
theorem dX6_strokeAt_14 : decode cX6_strokeAt 14 = .ok (.iconst 3, 1) := by decide +kernel
theorem dX6_strokeAt_15 : decode cX6_strokeAt 15 = .ok (.iload_n 2, 1) := by decide +kernel
theorem dX6_strokeAt_16 : decode cX6_strokeAt 16 = .ok (.isub, 1) := by decide +kernel
theorem dX6_strokeAt_17 : decode cX6_strokeAt 17 = .ok (.imul, 1) := by decide +kernel
theorem dX6_strokeAt_18 : decode cX6_strokeAt 18 = .ok (.lshr, 1) := by decide +kernel
theorem dX6_strokeAt_19 : decode cX6_strokeAt 19 = .ok (.ldc2_w 11, 3) := by decide +kernel
theorem dX6_strokeAt_22 : decode cX6_strokeAt 22 = .ok (.land, 1) := by decide +kernel
theorem dX6_strokeAt_23 : decode cX6_strokeAt 23 = .ok (.l2i, 1) := by decide +kernel
theorem dX6_strokeAt_24 : decode cX6_strokeAt 24 = .ok (.iconst 1, 1) := by decide +kernel
theorem dX6_strokeAt_25 : decode cX6_strokeAt 25 = .ok (.isub, 1) := by decide +kernel
theorem dX6_strokeAt_26 : decode cX6_strokeAt 26 = .ok (.ireturn, 1) := by decide +kernel
set_option maxRecDepth 100000 in
set_option maxHeartbeats 4000000 in
theorem mX6_strokeAt_1 (l : Launch) (D : va_G) (Y : Nat → ClassId) (p0 : Int32) (sz : Nat) : Met l yX6_strokeAt (WSm yX6_strokeAt cX6_strokeAt 3 (some .int)) (mkR 0 0 0 0) (PreC D Y [.long 0, .int p0] [] sz) (QI D (fun (r : Int32) (u : Unit) => (p0 < 0 ∧ (-1) = r) ∨ (¬ p0 < 0 ∧ p0 < 4 ∧ (-1) = r) ∨ (¬ p0 < 0 ∧ ¬ p0 < 4 ∧ (-1) = r)) (fun (_ : Unit) => []) (va_A [] sz)) 0 0 (va_A [] sz) :=
  met_of (by decide +kernel) (Nat.le_of_ble_eq_true rfl) (fun p e s m args below meth c B hin hsz => by
    have B : VB p s m args meth c D Y (va_A [] sz) cX6_strokeAt 3 RX6 (some .int) := B
    refine V_iload_n 0 B dX6_strokeAt_0 1 rfl ?_
    refine V_if_lt 1 B 9 dX6_strokeAt_1 (by decide) (fun k0 => ?_) (fun k0 => ?_)
    ·
      refine V_iconst 9 B (v := (-1)) dX6_strokeAt_9 (by decide +kernel) ?_
      exact V_iret 10 B dX6_strokeAt_10 () (Or.inl ⟨k0, rfl⟩) rfl
    ·
      refine V_iload_n 4 B dX6_strokeAt_4 1 rfl ?_
      refine V_iconst 5 B (v := 4) dX6_strokeAt_5 (by decide +kernel) ?_
      refine V_icmp_lt 6 B 11 dX6_strokeAt_6 (by decide) (fun k1 => ?_) (fun k1 => ?_)
      ·
        refine V_lload_n 11 B dX6_strokeAt_11 0 rfl ?_
        refine V_bipush 12 B (v := 9) dX6_strokeAt_12 (by decide +kernel) ?_
        refine V_iconst 14 B (v := 3) dX6_strokeAt_14 (by decide +kernel) ?_
        refine V_iload_n 15 B dX6_strokeAt_15 1 rfl ?_
        refine V_isub 16 B dX6_strokeAt_16 rfl ?_
        refine V_imul 17 B dX6_strokeAt_17 rfl ?_
        refine V_lshr 18 B (v := 0) dX6_strokeAt_18 (zshr _) ?_
        refine V_ldc2 19 B (v := 511) dX6_strokeAt_19 (mT3 101 rfl rfl) ?_
        refine V_land 22 B (v := 0) dX6_strokeAt_22 (by decide +kernel) ?_
        refine V_l2i 23 B (v := 0) dX6_strokeAt_23 (by decide +kernel) ?_
        refine V_iconst 24 B (v := 1) dX6_strokeAt_24 (by decide +kernel) ?_
        refine V_isub 25 B (v := (-1)) dX6_strokeAt_25 (by decide +kernel) ?_
        exact V_iret 26 B dX6_strokeAt_26 () (Or.inr (Or.inl ⟨k0, k1, rfl⟩)) rfl
      ·
        refine V_iconst 9 B (v := (-1)) dX6_strokeAt_9 (by decide +kernel) ?_
        exact V_iret 10 B dX6_strokeAt_10 () (Or.inr (Or.inr ⟨k0, k1, rfl⟩)) rfl)
theorem dX11_draftStroke_0 : decode cX11_draftStroke 0 = .ok (.aload_n 0, 1) := by decide +kernel
theorem dX11_draftStroke_1 : decode cX11_draftStroke 1 = .ok (.getfield 68, 3) := by decide +kernel
theorem dX11_draftStroke_4 : decode cX11_draftStroke 4 = .ok (.iload_n 1, 1) := by decide +kernel
theorem dX11_draftStroke_5 : decode cX11_draftStroke 5 = .ok (.invokestatic 163, 3) := by decide +kernel
theorem glS_RX11_163 : GLS RX11 163 yX6_strokeAt cX6_strokeAt 3 (some .int) 2 := ⟨⟨(mT3 229 rfl rfl), (mT3 230 rfl rfl), (mT1 18 rfl rfl), (mT3 231 rfl rfl)⟩, by decide +kernel⟩
theorem dX11_draftStroke_8 : decode cX11_draftStroke 8 = .ok (.ireturn, 1) := by decide +kernel
set_option maxRecDepth 100000 in
set_option maxHeartbeats 4000000 in
theorem mX11_draftStroke_1 (l : Launch) (D : va_G) (Y : Nat → ClassId) (h0 : Nat) (g0 : Nat) (g1 : Nat) (g2 : Nat) (g3 : Nat) (g4 : Nat) (g5 : Nat) (g6 : Nat) (g7 : Nat) (g8 : Nat) (p0 : Int32) (sz : Nat) : Met l yX11_draftStroke (WSm yX11_draftStroke cX11_draftStroke 2 (some .int)) (mkR 1 0 0 22) (PreC D Y [.ref h0, .int p0] [(h0, oC 12 [.ref g0, .ref g1, .ref g2, .ref g3, .ref g4, .ref g5, .ref g6, .ref g7, .ref g8, .long 0])] sz) (QI D (fun (r : Int32) (u : Unit) => (p0 < 0 ∧ (-1) = r) ∨ (¬ p0 < 0 ∧ p0 < 4 ∧ (-1) = r) ∨ (¬ p0 < 0 ∧ ¬ p0 < 4 ∧ (-1) = r)) (fun (_ : Unit) => [(h0, oC 12 [.ref g0, .ref g1, .ref g2, .ref g3, .ref g4, .ref g5, .ref g6, .ref g7, .ref g8, .long 0])]) (va_A [(h0, oC 12 [.ref g0, .ref g1, .ref g2, .ref g3, .ref g4, .ref g5, .ref g6, .ref g7, .ref g8, .long 0])] sz)) 0 0 (va_A [(h0, oC 12 [.ref g0, .ref g1, .ref g2, .ref g3, .ref g4, .ref g5, .ref g6, .ref g7, .ref g8, .long 0])] sz) :=
  met_of (by decide +kernel) (Nat.le_of_ble_eq_true rfl) (fun p e s m args below meth c B hin hsz => by
    have B : VB p s m args meth c D Y (va_A [(h0, oC 12 [.ref g0, .ref g1, .ref g2, .ref g3, .ref g4, .ref g5, .ref g6, .ref g7, .ref g8, .long 0])] sz) cX11_draftStroke 2 RX11 (some .int) := B
    refine V_aload_n 0 B dX11_draftStroke_0 0 rfl ?_
    refine V_get 1 B gf_RX11_68 0 rfl rfl dX11_draftStroke_1 ?_
    refine V_iload_n 4 B dX11_draftStroke_4 1 rfl ?_
    refine V_csi 5 B (st := []) (As := [.long 0, .int p0]) (fun sz => mX6_strokeAt_1 l D Y (p0) sz) glS_RX11_163 ⟨rfl, rfl⟩ ⟨(Nat.le_of_ble_eq_true rfl), (Nat.le_of_ble_eq_true rfl)⟩ ⟨(Nat.le_of_ble_eq_true rfl), (Nat.le_of_ble_eq_true rfl)⟩ [] rfl rfl (Nat.le_of_ble_eq_true rfl) rfl (fun _ _ _ => rfl) dX11_draftStroke_5 (fun r0 u0 w0 => ?_)
    rcases w0 with ⟨k1, rfl⟩ | ⟨k2, k3, rfl⟩ | ⟨k4, k5, rfl⟩
    ·
      refine V_ws [(h0, oC 12 [.ref g0, .ref g1, .ref g2, .ref g3, .ref g4, .ref g5, .ref g6, .ref g7, .ref g8, .long 0])] rfl ?_
      exact V_iret 8 B dX11_draftStroke_8 () (Or.inl ⟨k1, rfl⟩) rfl
    ·
      refine V_ws [(h0, oC 12 [.ref g0, .ref g1, .ref g2, .ref g3, .ref g4, .ref g5, .ref g6, .ref g7, .ref g8, .long 0])] rfl ?_
      exact V_iret 8 B dX11_draftStroke_8 () (Or.inr (Or.inl ⟨k2, k3, rfl⟩)) rfl
    ·
      refine V_ws [(h0, oC 12 [.ref g0, .ref g1, .ref g2, .ref g3, .ref g4, .ref g5, .ref g6, .ref g7, .ref g8, .long 0])] rfl ?_
      exact V_iret 8 B dX11_draftStroke_8 () (Or.inr (Or.inr ⟨k4, k5, rfl⟩)) rfl)
theorem dX0_hasBinding_0 : decode cX0_hasBinding 0 = .ok (.iload_n 1, 1) := by decide +kernel
theorem dX0_hasBinding_1 : decode cX0_hasBinding 1 = .ok (.ifCond .lt 18, 3) := by decide +kernel
theorem dX0_hasBinding_19 : decode cX0_hasBinding 19 = .ok (.iconst 0, 1) := by decide +kernel
theorem dX0_hasBinding_20 : decode cX0_hasBinding 20 = .ok (.ireturn, 1) := by decide +kernel
theorem dX0_hasBinding_4 : decode cX0_hasBinding 4 = .ok (.iload_n 1, 1) := by decide +kernel
theorem dX0_hasBinding_5 : decode cX0_hasBinding 5 = .ok (.aload_n 0, 1) := by decide +kernel
theorem dX0_hasBinding_6 : decode cX0_hasBinding 6 = .ok (.getfield 36, 3) := by decide +kernel
theorem dX0_hasBinding_9 : decode cX0_hasBinding 9 = .ok (.invokevirtual 91, 3) := by decide +kernel
theorem glV_RX0_91 : GLV RX0 91 yX1_size RX1 cX1_size 1 (some .int) 0 := ⟨⟨(mT3 128 rfl rfl), (mT3 47 rfl rfl), (mT3 48 rfl rfl), (mT1 3 rfl rfl), (mT3 49 rfl rfl)⟩, by decide +kernel⟩
theorem dX0_hasBinding_12 : decode cX0_hasBinding 12 = .ok (.if_icmp .ge 7, 3) := by decide +kernel
set_option maxRecDepth 100000 in
set_option maxHeartbeats 4000000 in
theorem mX0_hasBinding_1 (l : Launch) (D : va_G) (Y : Nat → ClassId) (h0 : Nat) (g0 : Nat) (g1 : Nat) (g2 : Nat) (g3 : Nat) (g4 : Nat) (h1 : Nat) (g5 : Nat) (g6 : Nat) (g7 : Nat) (g8 : Nat) (g9 : Nat) (g10 : Nat) (p0 : Int32) (sz : Nat) : Met l yX0_hasBinding (WSm yX0_hasBinding cX0_hasBinding 2 (some .boolean)) (mkR 1 0 0 20) (PreC D Y [.ref h0, .int p0] [(h0, oC 2 [.ref g0, .ref g1, .ref g2, .ref g3, .ref g4, .ref h1, .ref g5, .ref g6, .ref g7, .ref g8, .ref g9, .int 0]), (h1, oC 3 [.ref g10, .int 0])] sz) (QI D (fun (r : Int32) (u : Unit) => (p0 < 0 ∧ 0 = r) ∨ (¬ p0 < 0 ∧ 0 = r)) (fun (_ : Unit) => [(h0, oC 2 [.ref g0, .ref g1, .ref g2, .ref g3, .ref g4, .ref h1, .ref g5, .ref g6, .ref g7, .ref g8, .ref g9, .int 0]), (h1, oC 3 [.ref g10, .int 0])]) (va_A [(h0, oC 2 [.ref g0, .ref g1, .ref g2, .ref g3, .ref g4, .ref h1, .ref g5, .ref g6, .ref g7, .ref g8, .ref g9, .int 0]), (h1, oC 3 [.ref g10, .int 0])] sz)) 0 0 (va_A [(h0, oC 2 [.ref g0, .ref g1, .ref g2, .ref g3, .ref g4, .ref h1, .ref g5, .ref g6, .ref g7, .ref g8, .ref g9, .int 0]), (h1, oC 3 [.ref g10, .int 0])] sz) :=
  met_of (by decide +kernel) (Nat.le_of_ble_eq_true rfl) (fun p e s m args below meth c B hin hsz => by
    have B : VB p s m args meth c D Y (va_A [(h0, oC 2 [.ref g0, .ref g1, .ref g2, .ref g3, .ref g4, .ref h1, .ref g5, .ref g6, .ref g7, .ref g8, .ref g9, .int 0]), (h1, oC 3 [.ref g10, .int 0])] sz) cX0_hasBinding 2 RX0 (some .boolean) := B
    refine V_iload_n 0 B dX0_hasBinding_0 1 rfl ?_
    refine V_if_lt 1 B 19 dX0_hasBinding_1 (by decide) (fun k0 => ?_) (fun k0 => ?_)
    ·
      refine V_iconst 19 B (v := 0) dX0_hasBinding_19 (by decide +kernel) ?_
      exact V_zret 20 B rfl dX0_hasBinding_20 () (Or.inl ⟨k0, rfl⟩) rfl
    ·
      refine V_iload_n 4 B dX0_hasBinding_4 1 rfl ?_
      refine V_aload_n 5 B dX0_hasBinding_5 0 rfl ?_
      refine V_get 6 B gf_RX0_36 0 rfl rfl dX0_hasBinding_6 ?_
      refine V_cvi 9 B (st := [.int p0]) (As := []) (fun sz => mX1_size_1 l D Y (h1) (g10) sz) glV_RX0_91 ⟨rfl, rfl⟩ ⟨(Nat.le_of_ble_eq_true rfl), (Nat.le_of_ble_eq_true rfl)⟩ ⟨(Nat.le_of_ble_eq_true rfl), (Nat.le_of_ble_eq_true rfl)⟩ [1] rfl 3 0 rfl rfl rfl rfl (Nat.le_of_ble_eq_true rfl) rfl (fun _ _ _ => rfl) dX0_hasBinding_9 (fun r1 u1 w1 => ?_)
      obtain rfl := w1
      refine V_ws [(h0, oC 2 [.ref g0, .ref g1, .ref g2, .ref g3, .ref g4, .ref h1, .ref g5, .ref g6, .ref g7, .ref g8, .ref g9, .int 0]), (h1, oC 3 [.ref g10, .int 0])] rfl ?_
      refine V_icmp_ge_t 12 B 19 dX0_hasBinding_12 (by decide) (q_ge (b_nlt k0 (n := 0) (by decide +kernel)) (by decide +kernel)) ?_
      refine V_iconst 19 B (v := 0) dX0_hasBinding_19 (by decide +kernel) ?_
      exact V_zret 20 B rfl dX0_hasBinding_20 () (Or.inr ⟨k0, rfl⟩) rfl)
theorem dX11_needBinding_0 : decode cX11_needBinding 0 = .ok (.aload_n 0, 1) := by decide +kernel
theorem dX11_needBinding_1 : decode cX11_needBinding 1 = .ok (.getfield 10, 3) := by decide +kernel
theorem dX11_needBinding_4 : decode cX11_needBinding 4 = .ok (.iload_n 1, 1) := by decide +kernel
theorem dX11_needBinding_5 : decode cX11_needBinding 5 = .ok (.invokevirtual 405, 3) := by decide +kernel
theorem glV_RX11_405 : GLV RX11 405 yX0_hasBinding RX0 cX0_hasBinding 2 (some .boolean) 1 := ⟨⟨(mT5 135 rfl rfl), (mT4 187 rfl rfl), (mT4 188 rfl rfl), (mT1 2 rfl rfl), (mT4 189 rfl rfl)⟩, by decide +kernel⟩
theorem dX11_needBinding_8 : decode cX11_needBinding 8 = .ok (.ifCond .ne 14, 3) := by decide +kernel
theorem dX11_needBinding_11 : decode cX11_needBinding 11 = .ok (.new 225, 3) := by decide +kernel
theorem gta_229 : (∀ w ∈ (vx_atS RX11 229 "java/lang/IndexOutOfBoundsException" ["java/lang/RuntimeException", "java/lang/Exception"]).filter goodWord, w ∈ lw_good) ∧ ∀ w ∈ (vx_atS RX11 229 "java/lang/IndexOutOfBoundsException" ["java/lang/RuntimeException", "java/lang/Exception"]).filter (fun w => !goodWord w), w ∈ ngw "java/lang/IndexOutOfBoundsException" := by decide +kernel
theorem gt_RX11_225_408_229 : GT RX11 225 408 229 "java/lang/IndexOutOfBoundsException" "no such binding" ["java/lang/RuntimeException", "java/lang/Exception"] := ⟨rfl, (mT5 136 rfl rfl), (mT1 23 rfl rfl), List.mem_of_getElem? (i := 11) rfl, by decide +kernel, by decide +kernel, List.mem_of_getElem? (i := 1) rfl, gta_229⟩
theorem dX11_needBinding_14 : decode cX11_needBinding 14 = .ok (.dup, 1) := by decide +kernel
theorem dX11_needBinding_15 : decode cX11_needBinding 15 = .ok (.ldc_w 408, 3) := by decide +kernel
theorem dX11_needBinding_18 : decode cX11_needBinding 18 = .ok (.invokespecial 229, 3) := by decide +kernel
theorem dX11_needBinding_21 : decode cX11_needBinding 21 = .ok (.athrow, 1) := by decide +kernel
set_option maxRecDepth 100000 in
set_option maxHeartbeats 4000000 in
theorem mX11_needBinding_1 (l : Launch) (hl9 : l.stackTraces = false) (D : va_G) (Y : Nat → ClassId) (h0 : Nat) (h1 : Nat) (g0 : Nat) (g1 : Nat) (g2 : Nat) (g3 : Nat) (g4 : Nat) (g5 : Nat) (g6 : Nat) (g7 : Nat) (g8 : Nat) (g9 : Nat) (g10 : Nat) (g11 : Nat) (g12 : Nat) (h2 : Nat) (g13 : Nat) (g14 : Nat) (g15 : Nat) (g16 : Nat) (g17 : Nat) (g18 : Nat) (p0 : Int32) (sz : Nat) : vx_Met l yX11_needBinding (WSm yX11_needBinding cX11_needBinding 2 none) (mkR 6 1 6 82) (PreX D Y [.ref h0, .int p0] [(h0, oC 12 [.ref h1, .ref g0, .ref g1, .ref g2, .ref g3, .ref g4, .ref g5, .ref g6, .ref g7, .long 0]), (h1, oC 2 [.ref g8, .ref g9, .ref g10, .ref g11, .ref g12, .ref h2, .ref g13, .ref g14, .ref g15, .ref g16, .ref g17, .int 0]), (h2, oC 3 [.ref g18, .int 0])] sz) (QV D (fun (u : Unit) => False) (fun (_ : Unit) => [(h0, oC 12 [.ref h1, .ref g0, .ref g1, .ref g2, .ref g3, .ref g4, .ref g5, .ref g6, .ref g7, .long 0]), (h1, oC 2 [.ref g8, .ref g9, .ref g10, .ref g11, .ref g12, .ref h2, .ref g13, .ref g14, .ref g15, .ref g16, .ref g17, .int 0]), (h2, oC 3 [.ref g18, .int 0])]) (va_A [(h0, oC 12 [.ref h1, .ref g0, .ref g1, .ref g2, .ref g3, .ref g4, .ref g5, .ref g6, .ref g7, .long 0]), (h1, oC 2 [.ref g8, .ref g9, .ref g10, .ref g11, .ref g12, .ref h2, .ref g13, .ref g14, .ref g15, .ref g16, .ref g17, .int 0]), (h2, oC 3 [.ref g18, .int 0])] sz)) (XW D (fun (E : String) (u : Unit) => (E = "java/lang/IndexOutOfBoundsException" ∧ p0 < 0) ∨ (E = "java/lang/IndexOutOfBoundsException" ∧ ¬ p0 < 0)) (fun (_ : Unit) => [(h0, oC 12 [.ref h1, .ref g0, .ref g1, .ref g2, .ref g3, .ref g4, .ref g5, .ref g6, .ref g7, .long 0]), (h1, oC 2 [.ref g8, .ref g9, .ref g10, .ref g11, .ref g12, .ref h2, .ref g13, .ref g14, .ref g15, .ref g16, .ref g17, .int 0]), (h2, oC 3 [.ref g18, .int 0])]) (va_A [(h0, oC 12 [.ref h1, .ref g0, .ref g1, .ref g2, .ref g3, .ref g4, .ref g5, .ref g6, .ref g7, .long 0]), (h1, oC 2 [.ref g8, .ref g9, .ref g10, .ref g11, .ref g12, .ref h2, .ref g13, .ref g14, .ref g15, .ref g16, .ref g17, .int 0]), (h2, oC 3 [.ref g18, .int 0])] sz)) 1 6 (va_A [(h0, oC 12 [.ref h1, .ref g0, .ref g1, .ref g2, .ref g3, .ref g4, .ref g5, .ref g6, .ref g7, .long 0]), (h1, oC 2 [.ref g8, .ref g9, .ref g10, .ref g11, .ref g12, .ref h2, .ref g13, .ref g14, .ref g15, .ref g16, .ref g17, .int 0]), (h2, oC 3 [.ref g18, .int 0])] sz) :=
  xmet_of (by decide +kernel) (Nat.le_of_ble_eq_true rfl) (fun p e s m args below meth c B EB hout hsz => by
    have B : VB p s m args meth c D Y (va_A [(h0, oC 12 [.ref h1, .ref g0, .ref g1, .ref g2, .ref g3, .ref g4, .ref g5, .ref g6, .ref g7, .long 0]), (h1, oC 2 [.ref g8, .ref g9, .ref g10, .ref g11, .ref g12, .ref h2, .ref g13, .ref g14, .ref g15, .ref g16, .ref g17, .int 0]), (h2, oC 3 [.ref g18, .int 0])] sz) cX11_needBinding 2 RX11 none := B
    refine V_aload_n 0 B dX11_needBinding_0 0 rfl ?_
    refine V_get 1 B gf_RX11_10 0 rfl rfl dX11_needBinding_1 ?_
    refine V_iload_n 4 B dX11_needBinding_4 1 rfl ?_
    refine V_cvi 5 B (st := []) (As := [.int p0]) (fun sz => mX0_hasBinding_1 l D Y (h1) (g8) (g9) (g10) (g11) (g12) (h2) (g13) (g14) (g15) (g16) (g17) (g18) (p0) sz) glV_RX11_405 ⟨rfl, rfl⟩ ⟨(Nat.le_of_ble_eq_true rfl), (Nat.le_of_ble_eq_true rfl)⟩ ⟨(Nat.le_of_ble_eq_true rfl), (Nat.le_of_ble_eq_true rfl)⟩ [1, 0] rfl 2 0 rfl rfl rfl rfl (Nat.le_of_ble_eq_true rfl) rfl (fun _ _ _ => rfl) dX11_needBinding_5 (fun r0 u0 w0 => ?_)
    rcases w0 with ⟨k1, rfl⟩ | ⟨k2, rfl⟩
    ·
      refine V_ws [(h0, oC 12 [.ref h1, .ref g0, .ref g1, .ref g2, .ref g3, .ref g4, .ref g5, .ref g6, .ref g7, .long 0]), (h1, oC 2 [.ref g8, .ref g9, .ref g10, .ref g11, .ref g12, .ref h2, .ref g13, .ref g14, .ref g15, .ref g16, .ref g17, .int 0]), (h2, oC 3 [.ref g18, .int 0])] rfl ?_
      refine V_if_ne_f 8 B 22 dX11_needBinding_8 (by decide) (by decide +kernel) ?_
      exact V_throwSW 11 B EB hl9 gt_RX11_225_408_229 hout dX11_needBinding_11 dX11_needBinding_14 dX11_needBinding_15 dX11_needBinding_18 dX11_needBinding_21 (Nat.le_of_ble_eq_true rfl) (Nat.le_of_ble_eq_true rfl) (Nat.le_of_ble_eq_true rfl) (Nat.le_of_ble_eq_true rfl) (Nat.le_of_ble_eq_true rfl) (Nat.le_of_ble_eq_true rfl) () (Or.inl ⟨rfl, k1⟩) rfl
    ·
      refine V_ws [(h0, oC 12 [.ref h1, .ref g0, .ref g1, .ref g2, .ref g3, .ref g4, .ref g5, .ref g6, .ref g7, .long 0]), (h1, oC 2 [.ref g8, .ref g9, .ref g10, .ref g11, .ref g12, .ref h2, .ref g13, .ref g14, .ref g15, .ref g16, .ref g17, .int 0]), (h2, oC 3 [.ref g18, .int 0])] rfl ?_
      refine V_if_ne_f 8 B 22 dX11_needBinding_8 (by decide) (by decide +kernel) ?_
      exact V_throwSW 11 B EB hl9 gt_RX11_225_408_229 hout dX11_needBinding_11 dX11_needBinding_14 dX11_needBinding_15 dX11_needBinding_18 dX11_needBinding_21 (Nat.le_of_ble_eq_true rfl) (Nat.le_of_ble_eq_true rfl) (Nat.le_of_ble_eq_true rfl) (Nat.le_of_ble_eq_true rfl) (Nat.le_of_ble_eq_true rfl) (Nat.le_of_ble_eq_true rfl) () (Or.inr ⟨rfl, k2⟩) rfl)
theorem dX11_draftFrom_0 : decode cX11_draftFrom 0 = .ok (.aload_n 0, 1) := by decide +kernel
theorem dX11_draftFrom_1 : decode cX11_draftFrom 1 = .ok (.iload_n 1, 1) := by decide +kernel
theorem dX11_draftFrom_2 : decode cX11_draftFrom 2 = .ok (.invokevirtual 167, 3) := by decide +kernel
theorem glV_RX11_167 : GLV RX11 167 yX11_needBinding RX11 cX11_needBinding 2 none 1 := ⟨⟨(mT5 131 rfl rfl), (mT5 133 rfl rfl), (mTs 20 rfl rfl), (mT1 1 rfl rfl), (mT5 134 rfl rfl)⟩, by decide +kernel⟩
set_option maxRecDepth 100000 in
set_option maxHeartbeats 4000000 in
theorem mX11_draftFrom_1 (l : Launch) (hl9 : l.stackTraces = false) (D : va_G) (Y : Nat → ClassId) (h0 : Nat) (h1 : Nat) (g0 : Nat) (g1 : Nat) (g2 : Nat) (g3 : Nat) (g4 : Nat) (g5 : Nat) (g6 : Nat) (g7 : Nat) (g8 : Nat) (g9 : Nat) (g10 : Nat) (g11 : Nat) (g12 : Nat) (h2 : Nat) (g13 : Nat) (g14 : Nat) (g15 : Nat) (g16 : Nat) (g17 : Nat) (g18 : Nat) (p0 : Int32) (sz : Nat) : vx_Met l yX11_draftFrom (WSm yX11_draftFrom cX11_draftFrom 2 (some .int)) (mkR 7 1 6 103) (PreX D Y [.ref h0, .int p0] [(h0, oC 12 [.ref h1, .ref g0, .ref g1, .ref g2, .ref g3, .ref g4, .ref g5, .ref g6, .ref g7, .long 0]), (h1, oC 2 [.ref g8, .ref g9, .ref g10, .ref g11, .ref g12, .ref h2, .ref g13, .ref g14, .ref g15, .ref g16, .ref g17, .int 0]), (h2, oC 3 [.ref g18, .int 0])] sz) (QI D (fun (r : Int32) (u : Unit) => False) (fun (_ : Unit) => [(h0, oC 12 [.ref h1, .ref g0, .ref g1, .ref g2, .ref g3, .ref g4, .ref g5, .ref g6, .ref g7, .long 0]), (h1, oC 2 [.ref g8, .ref g9, .ref g10, .ref g11, .ref g12, .ref h2, .ref g13, .ref g14, .ref g15, .ref g16, .ref g17, .int 0]), (h2, oC 3 [.ref g18, .int 0])]) (va_A [(h0, oC 12 [.ref h1, .ref g0, .ref g1, .ref g2, .ref g3, .ref g4, .ref g5, .ref g6, .ref g7, .long 0]), (h1, oC 2 [.ref g8, .ref g9, .ref g10, .ref g11, .ref g12, .ref h2, .ref g13, .ref g14, .ref g15, .ref g16, .ref g17, .int 0]), (h2, oC 3 [.ref g18, .int 0])] sz)) (XW D (fun (E : String) (u : Unit) => (E = "java/lang/IndexOutOfBoundsException" ∧ p0 < 0) ∨ (E = "java/lang/IndexOutOfBoundsException" ∧ ¬ p0 < 0)) (fun (_ : Unit) => [(h0, oC 12 [.ref h1, .ref g0, .ref g1, .ref g2, .ref g3, .ref g4, .ref g5, .ref g6, .ref g7, .long 0]), (h1, oC 2 [.ref g8, .ref g9, .ref g10, .ref g11, .ref g12, .ref h2, .ref g13, .ref g14, .ref g15, .ref g16, .ref g17, .int 0]), (h2, oC 3 [.ref g18, .int 0])]) (va_A [(h0, oC 12 [.ref h1, .ref g0, .ref g1, .ref g2, .ref g3, .ref g4, .ref g5, .ref g6, .ref g7, .long 0]), (h1, oC 2 [.ref g8, .ref g9, .ref g10, .ref g11, .ref g12, .ref h2, .ref g13, .ref g14, .ref g15, .ref g16, .ref g17, .int 0]), (h2, oC 3 [.ref g18, .int 0])] sz)) 1 6 (va_A [(h0, oC 12 [.ref h1, .ref g0, .ref g1, .ref g2, .ref g3, .ref g4, .ref g5, .ref g6, .ref g7, .long 0]), (h1, oC 2 [.ref g8, .ref g9, .ref g10, .ref g11, .ref g12, .ref h2, .ref g13, .ref g14, .ref g15, .ref g16, .ref g17, .int 0]), (h2, oC 3 [.ref g18, .int 0])] sz) :=
  xmet_of (by decide +kernel) (Nat.le_of_ble_eq_true rfl) (fun p e s m args below meth c B EB hout hsz => by
    have B : VB p s m args meth c D Y (va_A [(h0, oC 12 [.ref h1, .ref g0, .ref g1, .ref g2, .ref g3, .ref g4, .ref g5, .ref g6, .ref g7, .long 0]), (h1, oC 2 [.ref g8, .ref g9, .ref g10, .ref g11, .ref g12, .ref h2, .ref g13, .ref g14, .ref g15, .ref g16, .ref g17, .int 0]), (h2, oC 3 [.ref g18, .int 0])] sz) cX11_draftFrom 2 RX11 (some .int) := B
    refine V_aload_n 0 B dX11_draftFrom_0 0 rfl ?_
    refine V_iload_n 1 B dX11_draftFrom_1 1 rfl ?_
    refine V_xvv 2 B EB (st := []) (As := [.int p0]) (fun sz => mX11_needBinding_1 l hl9 D Y (h0) (h1) (g0) (g1) (g2) (g3) (g4) (g5) (g6) (g7) (g8) (g9) (g10) (g11) (g12) (h2) (g13) (g14) (g15) (g16) (g17) (g18) (p0) sz) glV_RX11_167 ⟨rfl, rfl⟩ ⟨(Nat.le_of_ble_eq_true rfl), (Nat.le_of_ble_eq_true rfl)⟩ ⟨(Nat.le_of_ble_eq_true rfl), (Nat.le_of_ble_eq_true rfl)⟩ [0, 0, 0] rfl 12 0 rfl rfl rfl rfl (Nat.le_of_ble_eq_true rfl) rfl (fun _ _ => rfl) (fun _ _ _ => rfl) dX11_draftFrom_2 (fun E u0 w0 => ?_) (fun u0 w0 => ?_)
    ·
      rcases w0 with ⟨rfl, k1⟩ | ⟨rfl, k2⟩
      ·
        exact VX_out 2 B hout () (Or.inl ⟨rfl, k1⟩) rfl (Nat.le_of_ble_eq_true rfl) (Nat.le_of_ble_eq_true rfl)
      ·
        exact VX_out 2 B hout () (Or.inr ⟨rfl, k2⟩) rfl (Nat.le_of_ble_eq_true rfl) (Nat.le_of_ble_eq_true rfl)
    ·
      exact w0.elim)
theorem dX6_costOf_0 : decode cX6_costOf 0 = .ok (.iconst 0, 1) := by decide +kernel
theorem dX6_costOf_1 : decode cX6_costOf 1 = .ok (.istore_n 2, 1) := by decide +kernel
theorem dX6_costOf_2 : decode cX6_costOf 2 = .ok (.lload_n 0, 1) := by decide +kernel
theorem dX6_costOf_3 : decode cX6_costOf 3 = .ok (.invokestatic 13, 3) := by decide +kernel
theorem dX6_costOf_6 : decode cX6_costOf 6 = .ok (.istore_n 3, 1) := by decide +kernel
theorem dX6_costOf_7 : decode cX6_costOf 7 = .ok (.iconst 0, 1) := by decide +kernel
theorem dX6_costOf_8 : decode cX6_costOf 8 = .ok (.istore 4, 2) := by decide +kernel
theorem dX6_costOf_10 : decode cX6_costOf 10 = .ok (.iload 4, 2) := by decide +kernel
theorem dX6_costOf_12 : decode cX6_costOf 12 = .ok (.iload_n 3, 1) := by decide +kernel
theorem dX6_costOf_13 : decode cX6_costOf 13 = .ok (.if_icmp .ge 21, 3) := by decide +kernel
theorem dX6_costOf_34 : decode cX6_costOf 34 = .ok (.iload_n 2, 1) := by decide +kernel
theorem dX6_costOf_35 : decode cX6_costOf 35 = .ok (.ireturn, 1) := by decide +kernel
set_option maxRecDepth 100000 in
set_option maxHeartbeats 4000000 in
theorem mX6_costOf_1 (l : Launch) (D : va_G) (Y : Nat → ClassId)  (sz : Nat) : Met l yX6_costOf (WSm yX6_costOf cX6_costOf 5 (some .int)) (mkR 1 0 0 21) (PreC D Y [.long 0] [] sz) (QI D (fun (r : Int32) (u : Unit) => 0 = r) (fun (_ : Unit) => []) (va_A [] sz)) 0 0 (va_A [] sz) :=
  met_of (by decide +kernel) (Nat.le_of_ble_eq_true rfl) (fun p e s m args below meth c B hin hsz => by
    have B : VB p s m args meth c D Y (va_A [] sz) cX6_costOf 5 RX6 (some .int) := B
    refine V_iconst 0 B (v := 0) dX6_costOf_0 (by decide +kernel) ?_
    refine V_istore_n 1 B (lv2 := [(2, .int 0), (0, .long 0)]) dX6_costOf_1 (by decide) rfl ?_
    refine V_lload_n 2 B dX6_costOf_2 1 rfl ?_
    refine V_csi 3 B (st := []) (As := [.long 0]) (fun sz => mX6_lengthOf_1 l D Y  sz) glS_RX6_13 ⟨rfl, rfl⟩ ⟨(Nat.le_of_ble_eq_true rfl), (Nat.le_of_ble_eq_true rfl)⟩ ⟨(Nat.le_of_ble_eq_true rfl), (Nat.le_of_ble_eq_true rfl)⟩ [] rfl rfl (Nat.le_of_ble_eq_true rfl) rfl (fun _ _ _ => rfl) dX6_costOf_3 (fun r0 u0 w0 => ?_)
    obtain rfl := w0
    refine V_ws [] rfl ?_
    refine V_istore_n 6 B (lv2 := [(3, .int 0), (2, .int 0), (0, .long 0)]) dX6_costOf_6 (by decide) rfl ?_
    refine V_iconst 7 B (v := 0) dX6_costOf_7 (by decide +kernel) ?_
    refine V_istore 8 B (lv2 := [(4, .int 0), (3, .int 0), (2, .int 0), (0, .long 0)]) dX6_costOf_8 (by decide) rfl ?_
    refine V_iload 10 B dX6_costOf_10 0 rfl ?_
    refine V_iload_n 12 B dX6_costOf_12 1 rfl ?_
    refine V_icmp_ge_t 13 B 34 dX6_costOf_13 (by decide) (by decide +kernel) ?_
    refine V_iload_n 34 B dX6_costOf_34 2 rfl ?_
    exact V_iret 35 B dX6_costOf_35 () rfl rfl)
theorem dX11_draftCost_0 : decode cX11_draftCost 0 = .ok (.aload_n 0, 1) := by decide +kernel
theorem dX11_draftCost_1 : decode cX11_draftCost 1 = .ok (.getfield 68, 3) := by decide +kernel
theorem dX11_draftCost_4 : decode cX11_draftCost 4 = .ok (.invokestatic 177, 3) := by decide +kernel
theorem glS_RX11_177 : GLS RX11 177 yX6_costOf cX6_costOf 5 (some .int) 1 := ⟨⟨(mT3 236 rfl rfl), (mT3 237 rfl rfl), (mT1 18 rfl rfl), (mT3 238 rfl rfl)⟩, by decide +kernel⟩
theorem dX11_draftCost_7 : decode cX11_draftCost 7 = .ok (.ireturn, 1) := by decide +kernel
set_option maxRecDepth 100000 in
set_option maxHeartbeats 4000000 in
theorem mX11_draftCost_1 (l : Launch) (D : va_G) (Y : Nat → ClassId) (h0 : Nat) (g0 : Nat) (g1 : Nat) (g2 : Nat) (g3 : Nat) (g4 : Nat) (g5 : Nat) (g6 : Nat) (g7 : Nat) (g8 : Nat) (sz : Nat) : Met l yX11_draftCost (WSm yX11_draftCost cX11_draftCost 1 (some .int)) (mkR 2 0 0 45) (PreC D Y [.ref h0] [(h0, oC 12 [.ref g0, .ref g1, .ref g2, .ref g3, .ref g4, .ref g5, .ref g6, .ref g7, .ref g8, .long 0])] sz) (QI D (fun (r : Int32) (u : Unit) => 0 = r) (fun (_ : Unit) => [(h0, oC 12 [.ref g0, .ref g1, .ref g2, .ref g3, .ref g4, .ref g5, .ref g6, .ref g7, .ref g8, .long 0])]) (va_A [(h0, oC 12 [.ref g0, .ref g1, .ref g2, .ref g3, .ref g4, .ref g5, .ref g6, .ref g7, .ref g8, .long 0])] sz)) 0 0 (va_A [(h0, oC 12 [.ref g0, .ref g1, .ref g2, .ref g3, .ref g4, .ref g5, .ref g6, .ref g7, .ref g8, .long 0])] sz) :=
  met_of (by decide +kernel) (Nat.le_of_ble_eq_true rfl) (fun p e s m args below meth c B hin hsz => by
    have B : VB p s m args meth c D Y (va_A [(h0, oC 12 [.ref g0, .ref g1, .ref g2, .ref g3, .ref g4, .ref g5, .ref g6, .ref g7, .ref g8, .long 0])] sz) cX11_draftCost 1 RX11 (some .int) := B
    refine V_aload_n 0 B dX11_draftCost_0 0 rfl ?_
    refine V_get 1 B gf_RX11_68 0 rfl rfl dX11_draftCost_1 ?_
    refine V_csi 4 B (st := []) (As := [.long 0]) (fun sz => mX6_costOf_1 l D Y  sz) glS_RX11_177 ⟨rfl, rfl⟩ ⟨(Nat.le_of_ble_eq_true rfl), (Nat.le_of_ble_eq_true rfl)⟩ ⟨(Nat.le_of_ble_eq_true rfl), (Nat.le_of_ble_eq_true rfl)⟩ [] rfl rfl (Nat.le_of_ble_eq_true rfl) rfl (fun _ _ _ => rfl) dX11_draftCost_4 (fun r0 u0 w0 => ?_)
    obtain rfl := w0
    refine V_ws [(h0, oC 12 [.ref g0, .ref g1, .ref g2, .ref g3, .ref g4, .ref g5, .ref g6, .ref g7, .ref g8, .long 0])] rfl ?_
    exact V_iret 7 B dX11_draftCost_7 () rfl rfl)
theorem dX0_hasMode_0 : decode cX0_hasMode 0 = .ok (.iload_n 1, 1) := by decide +kernel
theorem dX0_hasMode_1 : decode cX0_hasMode 1 = .ok (.ifCond .lt 18, 3) := by decide +kernel
theorem dX0_hasMode_19 : decode cX0_hasMode 19 = .ok (.iconst 0, 1) := by decide +kernel
theorem dX0_hasMode_20 : decode cX0_hasMode 20 = .ok (.ireturn, 1) := by decide +kernel
theorem dX0_hasMode_4 : decode cX0_hasMode 4 = .ok (.iload_n 1, 1) := by decide +kernel
theorem dX0_hasMode_5 : decode cX0_hasMode 5 = .ok (.aload_n 0, 1) := by decide +kernel
theorem dX0_hasMode_6 : decode cX0_hasMode 6 = .ok (.getfield 14, 3) := by decide +kernel
theorem dX0_hasMode_9 : decode cX0_hasMode 9 = .ok (.invokevirtual 91, 3) := by decide +kernel
theorem dX0_hasMode_12 : decode cX0_hasMode 12 = .ok (.if_icmp .ge 7, 3) := by decide +kernel
theorem dX0_hasMode_15 : decode cX0_hasMode 15 = .ok (.iconst 1, 1) := by decide +kernel
theorem dX0_hasMode_16 : decode cX0_hasMode 16 = .ok (.goto 4, 3) := by decide +kernel
set_option maxRecDepth 100000 in
set_option maxHeartbeats 4000000 in
theorem mX0_hasMode_1 (l : Launch) (D : va_G) (Y : Nat → ClassId) (h0 : Nat) (h1 : Nat) (g0 : Nat) (g1 : Nat) (g2 : Nat) (g3 : Nat) (g4 : Nat) (g5 : Nat) (g6 : Nat) (g7 : Nat) (g8 : Nat) (g9 : Nat) (g10 : Nat) (p0 : Int32) (sz : Nat) : Met l yX0_hasMode (WSm yX0_hasMode cX0_hasMode 2 (some .boolean)) (mkR 1 0 0 20) (PreC D Y [.ref h0, .int p0] [(h0, oC 2 [.ref h1, .ref g0, .ref g1, .ref g2, .ref g3, .ref g4, .ref g5, .ref g6, .ref g7, .ref g8, .ref g9, .int 0]), (h1, oC 3 [.ref g10, .int 1])] sz) (QI D (fun (r : Int32) (u : Unit) => (p0 < 0 ∧ 0 = r) ∨ (¬ p0 < 0 ∧ 1 ≤ p0 ∧ 0 = r) ∨ (p0 = 0 ∧ 1 = r)) (fun (_ : Unit) => [(h0, oC 2 [.ref h1, .ref g0, .ref g1, .ref g2, .ref g3, .ref g4, .ref g5, .ref g6, .ref g7, .ref g8, .ref g9, .int 0]), (h1, oC 3 [.ref g10, .int 1])]) (va_A [(h0, oC 2 [.ref h1, .ref g0, .ref g1, .ref g2, .ref g3, .ref g4, .ref g5, .ref g6, .ref g7, .ref g8, .ref g9, .int 0]), (h1, oC 3 [.ref g10, .int 1])] sz)) 0 0 (va_A [(h0, oC 2 [.ref h1, .ref g0, .ref g1, .ref g2, .ref g3, .ref g4, .ref g5, .ref g6, .ref g7, .ref g8, .ref g9, .int 0]), (h1, oC 3 [.ref g10, .int 1])] sz) :=
  met_of (by decide +kernel) (Nat.le_of_ble_eq_true rfl) (fun p e s m args below meth c B hin hsz => by
    have B : VB p s m args meth c D Y (va_A [(h0, oC 2 [.ref h1, .ref g0, .ref g1, .ref g2, .ref g3, .ref g4, .ref g5, .ref g6, .ref g7, .ref g8, .ref g9, .int 0]), (h1, oC 3 [.ref g10, .int 1])] sz) cX0_hasMode 2 RX0 (some .boolean) := B
    refine V_iload_n 0 B dX0_hasMode_0 1 rfl ?_
    refine V_if_lt 1 B 19 dX0_hasMode_1 (by decide) (fun k0 => ?_) (fun k0 => ?_)
    ·
      refine V_iconst 19 B (v := 0) dX0_hasMode_19 (by decide +kernel) ?_
      exact V_zret 20 B rfl dX0_hasMode_20 () (Or.inl ⟨k0, rfl⟩) rfl
    ·
      refine V_iload_n 4 B dX0_hasMode_4 1 rfl ?_
      refine V_aload_n 5 B dX0_hasMode_5 0 rfl ?_
      refine V_get 6 B gf_RX0_14 0 rfl rfl dX0_hasMode_6 ?_
      refine V_cvi 9 B (st := [.int p0]) (As := []) (fun sz => mX1_size_2 l D Y (h1) (g10) sz) glV_RX0_91 ⟨rfl, rfl⟩ ⟨(Nat.le_of_ble_eq_true rfl), (Nat.le_of_ble_eq_true rfl)⟩ ⟨(Nat.le_of_ble_eq_true rfl), (Nat.le_of_ble_eq_true rfl)⟩ [1] rfl 3 0 rfl rfl rfl rfl (Nat.le_of_ble_eq_true rfl) rfl (fun _ _ _ => rfl) dX0_hasMode_9 (fun r1 u1 w1 => ?_)
      obtain rfl := w1
      refine V_ws [(h0, oC 2 [.ref h1, .ref g0, .ref g1, .ref g2, .ref g3, .ref g4, .ref g5, .ref g6, .ref g7, .ref g8, .ref g9, .int 0]), (h1, oC 3 [.ref g10, .int 1])] rfl ?_
      refine V_icmp_ge 12 B 19 dX0_hasMode_12 (by decide) (fun k2 => ?_) (fun k2 => ?_)
      ·
        refine V_iconst 19 B (v := 0) dX0_hasMode_19 (by decide +kernel) ?_
        exact V_zret 20 B rfl dX0_hasMode_20 () (Or.inr (Or.inl ⟨k0, k2, rfl⟩)) rfl
      ·
        obtain rfl : p0 = 0 := q_eq (b_nlt k0 (n := 0) (by decide +kernel)) (b_nge k2 (n := 0) (by decide +kernel)) (by decide +kernel)
        refine V_iconst 15 B (v := 1) dX0_hasMode_15 (by decide +kernel) ?_
        refine V_goto 16 B 20 dX0_hasMode_16 (by decide) ?_
        exact V_zret 20 B rfl dX0_hasMode_20 () (Or.inr (Or.inr ⟨rfl, rfl⟩)) rfl)
theorem dX11_needMode_0 : decode cX11_needMode 0 = .ok (.aload_n 0, 1) := by decide +kernel
theorem dX11_needMode_1 : decode cX11_needMode 1 = .ok (.getfield 10, 3) := by decide +kernel
theorem dX11_needMode_4 : decode cX11_needMode 4 = .ok (.iload_n 1, 1) := by decide +kernel
theorem dX11_needMode_5 : decode cX11_needMode 5 = .ok (.invokevirtual 395, 3) := by decide +kernel
theorem glV_RX11_395 : GLV RX11 395 yX0_hasMode RX0 cX0_hasMode 2 (some .boolean) 1 := ⟨⟨(mT5 160 rfl rfl), (mT4 205 rfl rfl), (mT4 206 rfl rfl), (mT1 2 rfl rfl), (mT4 207 rfl rfl)⟩, by decide +kernel⟩
theorem dX11_needMode_8 : decode cX11_needMode 8 = .ok (.ifCond .ne 14, 3) := by decide +kernel
theorem dX11_needMode_11 : decode cX11_needMode 11 = .ok (.new 225, 3) := by decide +kernel
theorem gt_RX11_225_398_229 : GT RX11 225 398 229 "java/lang/IndexOutOfBoundsException" "no such mode" ["java/lang/RuntimeException", "java/lang/Exception"] := ⟨rfl, (mT5 136 rfl rfl), (mT1 23 rfl rfl), List.mem_of_getElem? (i := 9) rfl, by decide +kernel, by decide +kernel, List.mem_of_getElem? (i := 1) rfl, gta_229⟩
theorem dX11_needMode_14 : decode cX11_needMode 14 = .ok (.dup, 1) := by decide +kernel
theorem dX11_needMode_15 : decode cX11_needMode 15 = .ok (.ldc_w 398, 3) := by decide +kernel
theorem dX11_needMode_18 : decode cX11_needMode 18 = .ok (.invokespecial 229, 3) := by decide +kernel
theorem dX11_needMode_21 : decode cX11_needMode 21 = .ok (.athrow, 1) := by decide +kernel
theorem dX11_needMode_22 : decode cX11_needMode 22 = .ok (.return_, 1) := by decide +kernel
set_option maxRecDepth 100000 in
set_option maxHeartbeats 4000000 in
theorem mX11_needMode_1 (l : Launch) (hl9 : l.stackTraces = false) (D : va_G) (Y : Nat → ClassId) (h0 : Nat) (h1 : Nat) (g0 : Nat) (g1 : Nat) (g2 : Nat) (g3 : Nat) (g4 : Nat) (g5 : Nat) (g6 : Nat) (g7 : Nat) (h2 : Nat) (g8 : Nat) (g9 : Nat) (g10 : Nat) (g11 : Nat) (g12 : Nat) (g13 : Nat) (g14 : Nat) (g15 : Nat) (g16 : Nat) (g17 : Nat) (g18 : Nat) (p0 : Int32) (sz : Nat) : vx_Met l yX11_needMode (WSm yX11_needMode cX11_needMode 2 none) (mkR 6 1 6 82) (PreX D Y [.ref h0, .int p0] [(h0, oC 12 [.ref h1, .ref g0, .ref g1, .ref g2, .ref g3, .ref g4, .ref g5, .ref g6, .ref g7, .long 0]), (h1, oC 2 [.ref h2, .ref g8, .ref g9, .ref g10, .ref g11, .ref g12, .ref g13, .ref g14, .ref g15, .ref g16, .ref g17, .int 0]), (h2, oC 3 [.ref g18, .int 1])] sz) (QV D (fun (u : Unit) => p0 = 0) (fun (_ : Unit) => [(h0, oC 12 [.ref h1, .ref g0, .ref g1, .ref g2, .ref g3, .ref g4, .ref g5, .ref g6, .ref g7, .long 0]), (h1, oC 2 [.ref h2, .ref g8, .ref g9, .ref g10, .ref g11, .ref g12, .ref g13, .ref g14, .ref g15, .ref g16, .ref g17, .int 0]), (h2, oC 3 [.ref g18, .int 1])]) (va_A [(h0, oC 12 [.ref h1, .ref g0, .ref g1, .ref g2, .ref g3, .ref g4, .ref g5, .ref g6, .ref g7, .long 0]), (h1, oC 2 [.ref h2, .ref g8, .ref g9, .ref g10, .ref g11, .ref g12, .ref g13, .ref g14, .ref g15, .ref g16, .ref g17, .int 0]), (h2, oC 3 [.ref g18, .int 1])] sz)) (XW D (fun (E : String) (u : Unit) => (E = "java/lang/IndexOutOfBoundsException" ∧ p0 < 0) ∨ (E = "java/lang/IndexOutOfBoundsException" ∧ ¬ p0 < 0 ∧ 1 ≤ p0)) (fun (_ : Unit) => [(h0, oC 12 [.ref h1, .ref g0, .ref g1, .ref g2, .ref g3, .ref g4, .ref g5, .ref g6, .ref g7, .long 0]), (h1, oC 2 [.ref h2, .ref g8, .ref g9, .ref g10, .ref g11, .ref g12, .ref g13, .ref g14, .ref g15, .ref g16, .ref g17, .int 0]), (h2, oC 3 [.ref g18, .int 1])]) (va_A [(h0, oC 12 [.ref h1, .ref g0, .ref g1, .ref g2, .ref g3, .ref g4, .ref g5, .ref g6, .ref g7, .long 0]), (h1, oC 2 [.ref h2, .ref g8, .ref g9, .ref g10, .ref g11, .ref g12, .ref g13, .ref g14, .ref g15, .ref g16, .ref g17, .int 0]), (h2, oC 3 [.ref g18, .int 1])] sz)) 1 6 (va_A [(h0, oC 12 [.ref h1, .ref g0, .ref g1, .ref g2, .ref g3, .ref g4, .ref g5, .ref g6, .ref g7, .long 0]), (h1, oC 2 [.ref h2, .ref g8, .ref g9, .ref g10, .ref g11, .ref g12, .ref g13, .ref g14, .ref g15, .ref g16, .ref g17, .int 0]), (h2, oC 3 [.ref g18, .int 1])] sz) :=
  xmet_of (by decide +kernel) (Nat.le_of_ble_eq_true rfl) (fun p e s m args below meth c B EB hout hsz => by
    have B : VB p s m args meth c D Y (va_A [(h0, oC 12 [.ref h1, .ref g0, .ref g1, .ref g2, .ref g3, .ref g4, .ref g5, .ref g6, .ref g7, .long 0]), (h1, oC 2 [.ref h2, .ref g8, .ref g9, .ref g10, .ref g11, .ref g12, .ref g13, .ref g14, .ref g15, .ref g16, .ref g17, .int 0]), (h2, oC 3 [.ref g18, .int 1])] sz) cX11_needMode 2 RX11 none := B
    refine V_aload_n 0 B dX11_needMode_0 0 rfl ?_
    refine V_get 1 B gf_RX11_10 0 rfl rfl dX11_needMode_1 ?_
    refine V_iload_n 4 B dX11_needMode_4 1 rfl ?_
    refine V_cvi 5 B (st := []) (As := [.int p0]) (fun sz => mX0_hasMode_1 l D Y (h1) (h2) (g8) (g9) (g10) (g11) (g12) (g13) (g14) (g15) (g16) (g17) (g18) (p0) sz) glV_RX11_395 ⟨rfl, rfl⟩ ⟨(Nat.le_of_ble_eq_true rfl), (Nat.le_of_ble_eq_true rfl)⟩ ⟨(Nat.le_of_ble_eq_true rfl), (Nat.le_of_ble_eq_true rfl)⟩ [1, 0] rfl 2 0 rfl rfl rfl rfl (Nat.le_of_ble_eq_true rfl) rfl (fun _ _ _ => rfl) dX11_needMode_5 (fun r0 u0 w0 => ?_)
    rcases w0 with ⟨k1, rfl⟩ | ⟨k2, k3, rfl⟩ | ⟨k4, rfl⟩
    ·
      refine V_ws [(h0, oC 12 [.ref h1, .ref g0, .ref g1, .ref g2, .ref g3, .ref g4, .ref g5, .ref g6, .ref g7, .long 0]), (h1, oC 2 [.ref h2, .ref g8, .ref g9, .ref g10, .ref g11, .ref g12, .ref g13, .ref g14, .ref g15, .ref g16, .ref g17, .int 0]), (h2, oC 3 [.ref g18, .int 1])] rfl ?_
      refine V_if_ne_f 8 B 22 dX11_needMode_8 (by decide) (by decide +kernel) ?_
      exact V_throwSW 11 B EB hl9 gt_RX11_225_398_229 hout dX11_needMode_11 dX11_needMode_14 dX11_needMode_15 dX11_needMode_18 dX11_needMode_21 (Nat.le_of_ble_eq_true rfl) (Nat.le_of_ble_eq_true rfl) (Nat.le_of_ble_eq_true rfl) (Nat.le_of_ble_eq_true rfl) (Nat.le_of_ble_eq_true rfl) (Nat.le_of_ble_eq_true rfl) () (Or.inl ⟨rfl, k1⟩) rfl
    ·
      refine V_ws [(h0, oC 12 [.ref h1, .ref g0, .ref g1, .ref g2, .ref g3, .ref g4, .ref g5, .ref g6, .ref g7, .long 0]), (h1, oC 2 [.ref h2, .ref g8, .ref g9, .ref g10, .ref g11, .ref g12, .ref g13, .ref g14, .ref g15, .ref g16, .ref g17, .int 0]), (h2, oC 3 [.ref g18, .int 1])] rfl ?_
      refine V_if_ne_f 8 B 22 dX11_needMode_8 (by decide) (by decide +kernel) ?_
      exact V_throwSW 11 B EB hl9 gt_RX11_225_398_229 hout dX11_needMode_11 dX11_needMode_14 dX11_needMode_15 dX11_needMode_18 dX11_needMode_21 (Nat.le_of_ble_eq_true rfl) (Nat.le_of_ble_eq_true rfl) (Nat.le_of_ble_eq_true rfl) (Nat.le_of_ble_eq_true rfl) (Nat.le_of_ble_eq_true rfl) (Nat.le_of_ble_eq_true rfl) () (Or.inr ⟨rfl, k2, k3⟩) rfl
    ·
      refine V_ws [(h0, oC 12 [.ref h1, .ref g0, .ref g1, .ref g2, .ref g3, .ref g4, .ref g5, .ref g6, .ref g7, .long 0]), (h1, oC 2 [.ref h2, .ref g8, .ref g9, .ref g10, .ref g11, .ref g12, .ref g13, .ref g14, .ref g15, .ref g16, .ref g17, .int 0]), (h2, oC 3 [.ref g18, .int 1])] rfl ?_
      obtain rfl : p0 = 0 := k4
      refine V_if_ne_t 8 B 22 dX11_needMode_8 (by decide) (by decide +kernel) ?_
      refine V_xret ?_
      refine V_widen (k := 1) (n := 6) (Nat.le_of_ble_eq_true rfl) (Nat.le_of_ble_eq_true rfl) ?_
      exact V_vret 22 B dX11_needMode_22 () rfl rfl)
set_option maxRecDepth 100000 in
set_option maxHeartbeats 4000000 in
theorem mX1_push_3 (l : Launch) (D : va_G) (Y : Nat → ClassId) (h0 : Nat) (h1 : Nat) (sz : Nat) : Met l yX1_push (WSm yX1_push cX1_push 2 (some .boolean)) (mkR 0 0 0 0) (PreC D Y [.ref h0, .int 0] [(h0, oC 3 [.ref h1, .int 1]), (h1, aI Y 6 (upd (fun _ => 0) 0 (-1)))] sz) (QI D (fun (r : Int32) (u : Unit) => 1 = r) (fun (_ : Unit) => [(h0, oC 3 [.ref h1, .int 2]), (h1, aI Y 6 (upd (upd (fun _ => 0) 0 (-1)) 1 0))]) (va_A [(h0, oC 3 [.ref h1, .int 1]), (h1, aI Y 6 (upd (fun _ => 0) 0 (-1)))] sz)) 0 0 (va_A [(h0, oC 3 [.ref h1, .int 1]), (h1, aI Y 6 (upd (fun _ => 0) 0 (-1)))] sz) :=
  met_of (by decide +kernel) (Nat.le_of_ble_eq_true rfl) (fun p e s m args below meth c B hin hsz => by
    have B : VB p s m args meth c D Y (va_A [(h0, oC 3 [.ref h1, .int 1]), (h1, aI Y 6 (upd (fun _ => 0) 0 (-1)))] sz) cX1_push 2 RX1 (some .boolean) := B
    refine V_aload_n 0 B dX1_push_0 0 rfl ?_
    refine V_get 1 B gf_RX1_21 0 rfl rfl dX1_push_1 ?_
    refine V_if_lt_f 4 B 19 dX1_push_4 (by decide) (by decide +kernel) ?_
    refine V_aload_n 7 B dX1_push_7 0 rfl ?_
    refine V_get 8 B gf_RX1_21 0 rfl rfl dX1_push_8 ?_
    refine V_aload_n 11 B dX1_push_11 0 rfl ?_
    refine V_get 12 B gf_RX1_15 0 rfl rfl dX1_push_12 ?_
    refine V_alenI 15 B (v := 6) 1 rfl (by decide +kernel) dX1_push_15 ?_
    refine V_icmp_lt_t 16 B 21 dX1_push_16 (by decide) (by decide +kernel) ?_
    refine V_aload_n 21 B dX1_push_21 0 rfl ?_
    refine V_get 22 B gf_RX1_15 0 rfl rfl dX1_push_22 ?_
    refine V_aload_n 25 B dX1_push_25 0 rfl ?_
    refine V_get 26 B gf_RX1_21 0 rfl rfl dX1_push_26 ?_
    refine V_iload_n 29 B dX1_push_29 1 rfl ?_
    refine V_iast 30 B 1 rfl (vpin _ _ (by decide +kernel)) dX1_push_30 [(h0, oC 3 [.ref h1, .int 1]), (h1, aI Y 6 (upd (upd (fun _ => 0) 0 (-1)) 1 0))] rfl ?_
    refine V_aload_n 31 B dX1_push_31 0 rfl ?_
    refine V_dup 32 B dX1_push_32 rfl ?_
    refine V_get 33 B gf_RX1_21 0 rfl rfl dX1_push_33 ?_
    refine V_iconst 36 B (v := 1) dX1_push_36 (by decide +kernel) ?_
    refine V_iadd 37 B (v := 2) dX1_push_37 (by decide +kernel) ?_
    refine V_put 38 B gp_RX1_21 0 rfl (Nat.le_of_ble_eq_true rfl) rfl rfl dX1_push_38 [(h0, oC 3 [.ref h1, .int 2]), (h1, aI Y 6 (upd (upd (fun _ => 0) 0 (-1)) 1 0))] rfl ?_
    refine V_iconst 41 B (v := 1) dX1_push_41 (by decide +kernel) ?_
    exact V_zret 42 B rfl dX1_push_42 () rfl rfl)
set_option maxRecDepth 100000 in
set_option maxHeartbeats 4000000 in
theorem mX1_size_3 (l : Launch) (D : va_G) (Y : Nat → ClassId) (h0 : Nat) (g0 : Nat) (sz : Nat) : Met l yX1_size (WSm yX1_size cX1_size 1 (some .int)) (mkR 0 0 0 0) (PreC D Y [.ref h0] [(h0, oC 3 [.ref g0, .int 2])] sz) (QI D (fun (r : Int32) (u : Unit) => 2 = r) (fun (_ : Unit) => [(h0, oC 3 [.ref g0, .int 2])]) (va_A [(h0, oC 3 [.ref g0, .int 2])] sz)) 0 0 (va_A [(h0, oC 3 [.ref g0, .int 2])] sz) :=
  met_of (by decide +kernel) (Nat.le_of_ble_eq_true rfl) (fun p e s m args below meth c B hin hsz => by
    have B : VB p s m args meth c D Y (va_A [(h0, oC 3 [.ref g0, .int 2])] sz) cX1_size 1 RX1 (some .int) := B
    refine V_aload_n 0 B dX1_size_0 0 rfl ?_
    refine V_get 1 B gf_RX1_21 0 rfl rfl dX1_size_1 ?_
    exact V_iret 4 B dX1_size_4 () rfl rfl)
theorem dX11_addMode_0 : decode cX11_addMode 0 = .ok (.aload_n 0, 1) := by decide +kernel
theorem dX11_addMode_1 : decode cX11_addMode 1 = .ok (.iload_n 1, 1) := by decide +kernel
theorem dX11_addMode_2 : decode cX11_addMode 2 = .ok (.invokevirtual 180, 3) := by decide +kernel
theorem glV_RX11_180 : GLV RX11 180 yX11_needMode RX11 cX11_needMode 2 none 1 := ⟨⟨(mT5 156 rfl rfl), (mT5 158 rfl rfl), (mTs 21 rfl rfl), (mT1 1 rfl rfl), (mT5 159 rfl rfl)⟩, by decide +kernel⟩
theorem dX11_addMode_5 : decode cX11_addMode 5 = .ok (.aload_n 0, 1) := by decide +kernel
theorem dX11_addMode_6 : decode cX11_addMode 6 = .ok (.getfield 10, 3) := by decide +kernel
theorem dX11_addMode_9 : decode cX11_addMode 9 = .ok (.getfield 107, 3) := by decide +kernel
theorem dX11_addMode_12 : decode cX11_addMode 12 = .ok (.iload_n 1, 1) := by decide +kernel
theorem dX11_addMode_13 : decode cX11_addMode 13 = .ok (.invokevirtual 183, 3) := by decide +kernel
theorem glV_RX11_183 : GLV RX11 183 yX1_push RX1 cX1_push 2 (some .boolean) 1 := ⟨⟨(mT5 162 rfl rfl), (mT1 156 rfl rfl), (mT1 157 rfl rfl), (mT1 3 rfl rfl), (mT1 158 rfl rfl)⟩, by decide +kernel⟩
theorem dX11_addMode_16 : decode cX11_addMode 16 = .ok (.ifCond .eq 18, 3) := by decide +kernel
theorem dX11_addMode_19 : decode cX11_addMode 19 = .ok (.aload_n 0, 1) := by decide +kernel
theorem dX11_addMode_20 : decode cX11_addMode 20 = .ok (.getfield 10, 3) := by decide +kernel
theorem dX11_addMode_23 : decode cX11_addMode 23 = .ok (.getfield 107, 3) := by decide +kernel
theorem dX11_addMode_26 : decode cX11_addMode 26 = .ok (.invokevirtual 95, 3) := by decide +kernel
theorem dX11_addMode_29 : decode cX11_addMode 29 = .ok (.iconst 1, 1) := by decide +kernel
theorem dX11_addMode_30 : decode cX11_addMode 30 = .ok (.isub, 1) := by decide +kernel
theorem dX11_addMode_31 : decode cX11_addMode 31 = .ok (.goto 5, 3) := by decide +kernel
theorem dX11_addMode_36 : decode cX11_addMode 36 = .ok (.ireturn, 1) := by decide +kernel
set_option maxRecDepth 100000 in
set_option maxHeartbeats 4000000 in
theorem mX11_addMode_1 (l : Launch) (hl9 : l.stackTraces = false) (D : va_G) (Y : Nat → ClassId) (h0 : Nat) (h1 : Nat) (g0 : Nat) (g1 : Nat) (g2 : Nat) (g3 : Nat) (g4 : Nat) (g5 : Nat) (g6 : Nat) (g7 : Nat) (h2 : Nat) (g8 : Nat) (g9 : Nat) (g10 : Nat) (g11 : Nat) (g12 : Nat) (g13 : Nat) (g14 : Nat) (g15 : Nat) (g16 : Nat) (g17 : Nat) (h3 : Nat) (p0 : Int32) (sz : Nat) : vx_Met l yX11_addMode (WSm yX11_addMode cX11_addMode 2 (some .int)) (mkR 7 1 6 103) (PreX D Y [.ref h0, .int p0] [(h0, oC 12 [.ref h1, .ref g0, .ref g1, .ref g2, .ref g3, .ref g4, .ref g5, .ref g6, .ref g7, .long 0]), (h1, oC 2 [.ref h2, .ref g8, .ref g9, .ref g10, .ref g11, .ref g12, .ref g13, .ref g14, .ref g15, .ref g16, .ref g17, .int 0]), (h2, oC 3 [.ref h3, .int 1]), (h3, aI Y 6 (upd (fun _ => 0) 0 (-1)))] sz) (QI D (fun (r : Int32) (u : Unit) => p0 = 0 ∧ 1 = r) (fun (_ : Unit) => [(h0, oC 12 [.ref h1, .ref g0, .ref g1, .ref g2, .ref g3, .ref g4, .ref g5, .ref g6, .ref g7, .long 0]), (h1, oC 2 [.ref h2, .ref g8, .ref g9, .ref g10, .ref g11, .ref g12, .ref g13, .ref g14, .ref g15, .ref g16, .ref g17, .int 0]), (h2, oC 3 [.ref h3, .int 2]), (h3, aI Y 6 (upd (upd (fun _ => 0) 0 (-1)) 1 0))]) (va_A [(h0, oC 12 [.ref h1, .ref g0, .ref g1, .ref g2, .ref g3, .ref g4, .ref g5, .ref g6, .ref g7, .long 0]), (h1, oC 2 [.ref h2, .ref g8, .ref g9, .ref g10, .ref g11, .ref g12, .ref g13, .ref g14, .ref g15, .ref g16, .ref g17, .int 0]), (h2, oC 3 [.ref h3, .int 1]), (h3, aI Y 6 (upd (fun _ => 0) 0 (-1)))] sz)) (XW D (fun (E : String) (u : Unit) => (E = "java/lang/IndexOutOfBoundsException" ∧ p0 < 0) ∨ (E = "java/lang/IndexOutOfBoundsException" ∧ ¬ p0 < 0 ∧ 1 ≤ p0)) (fun (_ : Unit) => [(h0, oC 12 [.ref h1, .ref g0, .ref g1, .ref g2, .ref g3, .ref g4, .ref g5, .ref g6, .ref g7, .long 0]), (h1, oC 2 [.ref h2, .ref g8, .ref g9, .ref g10, .ref g11, .ref g12, .ref g13, .ref g14, .ref g15, .ref g16, .ref g17, .int 0]), (h2, oC 3 [.ref h3, .int 1]), (h3, aI Y 6 (upd (fun _ => 0) 0 (-1)))]) (va_A [(h0, oC 12 [.ref h1, .ref g0, .ref g1, .ref g2, .ref g3, .ref g4, .ref g5, .ref g6, .ref g7, .long 0]), (h1, oC 2 [.ref h2, .ref g8, .ref g9, .ref g10, .ref g11, .ref g12, .ref g13, .ref g14, .ref g15, .ref g16, .ref g17, .int 0]), (h2, oC 3 [.ref h3, .int 1]), (h3, aI Y 6 (upd (fun _ => 0) 0 (-1)))] sz)) 1 6 (va_A [(h0, oC 12 [.ref h1, .ref g0, .ref g1, .ref g2, .ref g3, .ref g4, .ref g5, .ref g6, .ref g7, .long 0]), (h1, oC 2 [.ref h2, .ref g8, .ref g9, .ref g10, .ref g11, .ref g12, .ref g13, .ref g14, .ref g15, .ref g16, .ref g17, .int 0]), (h2, oC 3 [.ref h3, .int 1]), (h3, aI Y 6 (upd (fun _ => 0) 0 (-1)))] sz) :=
  xmet_of (by decide +kernel) (Nat.le_of_ble_eq_true rfl) (fun p e s m args below meth c B EB hout hsz => by
    have B : VB p s m args meth c D Y (va_A [(h0, oC 12 [.ref h1, .ref g0, .ref g1, .ref g2, .ref g3, .ref g4, .ref g5, .ref g6, .ref g7, .long 0]), (h1, oC 2 [.ref h2, .ref g8, .ref g9, .ref g10, .ref g11, .ref g12, .ref g13, .ref g14, .ref g15, .ref g16, .ref g17, .int 0]), (h2, oC 3 [.ref h3, .int 1]), (h3, aI Y 6 (upd (fun _ => 0) 0 (-1)))] sz) cX11_addMode 2 RX11 (some .int) := B
    refine V_aload_n 0 B dX11_addMode_0 0 rfl ?_
    refine V_iload_n 1 B dX11_addMode_1 1 rfl ?_
    refine V_xvv 2 B EB (st := []) (As := [.int p0]) (fun sz => mX11_needMode_1 l hl9 D Y (h0) (h1) (g0) (g1) (g2) (g3) (g4) (g5) (g6) (g7) (h2) (g8) (g9) (g10) (g11) (g12) (g13) (g14) (g15) (g16) (g17) (h3) (p0) sz) glV_RX11_180 ⟨rfl, rfl⟩ ⟨(Nat.le_of_ble_eq_true rfl), (Nat.le_of_ble_eq_true rfl)⟩ ⟨(Nat.le_of_ble_eq_true rfl), (Nat.le_of_ble_eq_true rfl)⟩ [0, 0, 0] rfl 12 0 rfl rfl rfl rfl (Nat.le_of_ble_eq_true rfl) rfl (fun _ _ => rfl) (fun _ _ _ => rfl) dX11_addMode_2 (fun E u0 w0 => ?_) (fun u0 w0 => ?_)
    ·
      rcases w0 with ⟨rfl, k1⟩ | ⟨rfl, k2, k3⟩
      ·
        exact VX_out 2 B hout () (Or.inl ⟨rfl, k1⟩) rfl (Nat.le_of_ble_eq_true rfl) (Nat.le_of_ble_eq_true rfl)
      ·
        exact VX_out 2 B hout () (Or.inr ⟨rfl, k2, k3⟩) rfl (Nat.le_of_ble_eq_true rfl) (Nat.le_of_ble_eq_true rfl)
    ·
      have k4 := w0
      refine V_ws [(h0, oC 12 [.ref h1, .ref g0, .ref g1, .ref g2, .ref g3, .ref g4, .ref g5, .ref g6, .ref g7, .long 0]), (h1, oC 2 [.ref h2, .ref g8, .ref g9, .ref g10, .ref g11, .ref g12, .ref g13, .ref g14, .ref g15, .ref g16, .ref g17, .int 0]), (h2, oC 3 [.ref h3, .int 1]), (h3, aI Y 6 (upd (fun _ => 0) 0 (-1)))] rfl ?_
      obtain rfl : p0 = 0 := k4
      refine V_aload_n 5 B dX11_addMode_5 0 rfl ?_
      refine V_get 6 B gf_RX11_10 0 rfl rfl dX11_addMode_6 ?_
      refine V_get 9 B gf_RX11_107 1 rfl rfl dX11_addMode_9 ?_
      refine V_iload_n 12 B dX11_addMode_12 1 rfl ?_
      refine V_cvi 13 B (st := []) (As := [.int 0]) (fun sz => mX1_push_3 l D Y (h2) (h3) sz) glV_RX11_183 ⟨rfl, rfl⟩ ⟨(Nat.le_of_ble_eq_true rfl), (Nat.le_of_ble_eq_true rfl)⟩ ⟨(Nat.le_of_ble_eq_true rfl), (Nat.le_of_ble_eq_true rfl)⟩ [2, 0] rfl 3 0 rfl rfl rfl rfl (Nat.le_of_ble_eq_true rfl) rfl (fun _ _ _ => rfl) dX11_addMode_13 (fun r5 u5 w5 => ?_)
      obtain rfl := w5
      refine V_ws [(h0, oC 12 [.ref h1, .ref g0, .ref g1, .ref g2, .ref g3, .ref g4, .ref g5, .ref g6, .ref g7, .long 0]), (h1, oC 2 [.ref h2, .ref g8, .ref g9, .ref g10, .ref g11, .ref g12, .ref g13, .ref g14, .ref g15, .ref g16, .ref g17, .int 0]), (h2, oC 3 [.ref h3, .int 2]), (h3, aI Y 6 (upd (upd (fun _ => 0) 0 (-1)) 1 0))] rfl ?_
      refine V_if_eq_f 16 B 34 dX11_addMode_16 (by decide) (by decide +kernel) ?_
      refine V_aload_n 19 B dX11_addMode_19 0 rfl ?_
      refine V_get 20 B gf_RX11_10 0 rfl rfl dX11_addMode_20 ?_
      refine V_get 23 B gf_RX11_107 1 rfl rfl dX11_addMode_23 ?_
      refine V_cvi 26 B (st := []) (As := []) (fun sz => mX1_size_3 l D Y (h2) (h3) sz) glV_RX11_95 ⟨rfl, rfl⟩ ⟨(Nat.le_of_ble_eq_true rfl), (Nat.le_of_ble_eq_true rfl)⟩ ⟨(Nat.le_of_ble_eq_true rfl), (Nat.le_of_ble_eq_true rfl)⟩ [2] rfl 3 0 rfl rfl rfl rfl (Nat.le_of_ble_eq_true rfl) rfl (fun _ _ _ => rfl) dX11_addMode_26 (fun r6 u6 w6 => ?_)
      obtain rfl := w6
      refine V_ws [(h0, oC 12 [.ref h1, .ref g0, .ref g1, .ref g2, .ref g3, .ref g4, .ref g5, .ref g6, .ref g7, .long 0]), (h1, oC 2 [.ref h2, .ref g8, .ref g9, .ref g10, .ref g11, .ref g12, .ref g13, .ref g14, .ref g15, .ref g16, .ref g17, .int 0]), (h2, oC 3 [.ref h3, .int 2]), (h3, aI Y 6 (upd (upd (fun _ => 0) 0 (-1)) 1 0))] rfl ?_
      refine V_iconst 29 B (v := 1) dX11_addMode_29 (by decide +kernel) ?_
      refine V_isub 30 B (v := 1) dX11_addMode_30 (by decide +kernel) ?_
      refine V_goto 31 B 36 dX11_addMode_31 (by decide) ?_
      refine V_xret ?_
      exact V_iret 36 B dX11_addMode_36 () ⟨rfl, rfl⟩ rfl)
theorem dX1_at_0 : decode cX1_at 0 = .ok (.iload_n 1, 1) := by decide +kernel
theorem dX1_at_1 : decode cX1_at 1 = .ok (.ifCond .lt 29, 3) := by decide +kernel
theorem dX1_at_4 : decode cX1_at 4 = .ok (.iload_n 1, 1) := by decide +kernel
theorem dX1_at_5 : decode cX1_at 5 = .ok (.aload_n 0, 1) := by decide +kernel
theorem dX1_at_6 : decode cX1_at 6 = .ok (.getfield 21, 3) := by decide +kernel
theorem dX1_at_9 : decode cX1_at 9 = .ok (.if_icmp .ge 21, 3) := by decide +kernel
theorem dX1_at_12 : decode cX1_at 12 = .ok (.iload_n 1, 1) := by decide +kernel
theorem dX1_at_13 : decode cX1_at 13 = .ok (.aload_n 0, 1) := by decide +kernel
theorem dX1_at_14 : decode cX1_at 14 = .ok (.getfield 15, 3) := by decide +kernel
theorem dX1_at_17 : decode cX1_at 17 = .ok (.arraylength, 1) := by decide +kernel
theorem dX1_at_18 : decode cX1_at 18 = .ok (.if_icmp .ge 12, 3) := by decide +kernel
theorem dX1_at_21 : decode cX1_at 21 = .ok (.aload_n 0, 1) := by decide +kernel
theorem dX1_at_22 : decode cX1_at 22 = .ok (.getfield 15, 3) := by decide +kernel
theorem dX1_at_25 : decode cX1_at 25 = .ok (.iload_n 1, 1) := by decide +kernel
theorem dX1_at_26 : decode cX1_at 26 = .ok (.iaload, 1) := by decide +kernel
theorem dX1_at_27 : decode cX1_at 27 = .ok (.goto 4, 3) := by decide +kernel
theorem dX1_at_31 : decode cX1_at 31 = .ok (.ireturn, 1) := by decide +kernel
set_option maxRecDepth 100000 in
set_option maxHeartbeats 4000000 in
theorem mX1_at_1 (l : Launch) (D : va_G) (Y : Nat → ClassId) (h0 : Nat) (h1 : Nat) (sz : Nat) : Met l yX1_at (WSm yX1_at cX1_at 2 (some .int)) (mkR 0 0 0 0) (PreC D Y [.ref h0, .int 0] [(h0, oC 3 [.ref h1, .int 1]), (h1, aI Y 6 (upd (fun _ => 0) 0 (-1)))] sz) (QI D (fun (r : Int32) (u : Unit) => (-1) = r) (fun (_ : Unit) => [(h0, oC 3 [.ref h1, .int 1]), (h1, aI Y 6 (upd (fun _ => 0) 0 (-1)))]) (va_A [(h0, oC 3 [.ref h1, .int 1]), (h1, aI Y 6 (upd (fun _ => 0) 0 (-1)))] sz)) 0 0 (va_A [(h0, oC 3 [.ref h1, .int 1]), (h1, aI Y 6 (upd (fun _ => 0) 0 (-1)))] sz) :=
  met_of (by decide +kernel) (Nat.le_of_ble_eq_true rfl) (fun p e s m args below meth c B hin hsz => by
    have B : VB p s m args meth c D Y (va_A [(h0, oC 3 [.ref h1, .int 1]), (h1, aI Y 6 (upd (fun _ => 0) 0 (-1)))] sz) cX1_at 2 RX1 (some .int) := B
    refine V_iload_n 0 B dX1_at_0 1 rfl ?_
    refine V_if_lt_f 1 B 30 dX1_at_1 (by decide) (by decide +kernel) ?_
    refine V_iload_n 4 B dX1_at_4 1 rfl ?_
    refine V_aload_n 5 B dX1_at_5 0 rfl ?_
    refine V_get 6 B gf_RX1_21 0 rfl rfl dX1_at_6 ?_
    refine V_icmp_ge_f 9 B 30 dX1_at_9 (by decide) (by decide +kernel) ?_
    refine V_iload_n 12 B dX1_at_12 1 rfl ?_
    refine V_aload_n 13 B dX1_at_13 0 rfl ?_
    refine V_get 14 B gf_RX1_15 0 rfl rfl dX1_at_14 ?_
    refine V_alenI 17 B (v := 6) 1 rfl (by decide +kernel) dX1_at_17 ?_
    refine V_icmp_ge_f 18 B 30 dX1_at_18 (by decide) (by decide +kernel) ?_
    refine V_aload_n 21 B dX1_at_21 0 rfl ?_
    refine V_get 22 B gf_RX1_15 0 rfl rfl dX1_at_22 ?_
    refine V_iload_n 25 B dX1_at_25 1 rfl ?_
    refine V_iald 26 B (v := (-1)) 1 rfl (vpin _ _ (by decide +kernel)) dX1_at_26 rfl ?_
    refine V_goto 27 B 31 dX1_at_27 (by decide) ?_
    exact V_iret 31 B dX1_at_31 () rfl rfl)
theorem dX11_parentOf_0 : decode cX11_parentOf 0 = .ok (.aload_n 0, 1) := by decide +kernel
theorem dX11_parentOf_1 : decode cX11_parentOf 1 = .ok (.iload_n 1, 1) := by decide +kernel
theorem dX11_parentOf_2 : decode cX11_parentOf 2 = .ok (.invokevirtual 180, 3) := by decide +kernel
theorem dX11_parentOf_5 : decode cX11_parentOf 5 = .ok (.aload_n 0, 1) := by decide +kernel
theorem dX11_parentOf_6 : decode cX11_parentOf 6 = .ok (.getfield 10, 3) := by decide +kernel
theorem dX11_parentOf_9 : decode cX11_parentOf 9 = .ok (.getfield 107, 3) := by decide +kernel
theorem dX11_parentOf_12 : decode cX11_parentOf 12 = .ok (.iload_n 1, 1) := by decide +kernel
theorem dX11_parentOf_13 : decode cX11_parentOf 13 = .ok (.invokevirtual 187, 3) := by decide +kernel
theorem glV_RX11_187 : GLV RX11 187 yX1_at RX1 cX1_at 2 (some .int) 1 := ⟨⟨(mT4 21 rfl rfl), (mT3 134 rfl rfl), (mT3 135 rfl rfl), (mT1 3 rfl rfl), (mT3 136 rfl rfl)⟩, by decide +kernel⟩
theorem dX11_parentOf_16 : decode cX11_parentOf 16 = .ok (.ireturn, 1) := by decide +kernel
set_option maxRecDepth 100000 in
set_option maxHeartbeats 4000000 in
theorem mX11_parentOf_1 (l : Launch) (hl9 : l.stackTraces = false) (D : va_G) (Y : Nat → ClassId) (h0 : Nat) (h1 : Nat) (g0 : Nat) (g1 : Nat) (g2 : Nat) (g3 : Nat) (g4 : Nat) (g5 : Nat) (g6 : Nat) (g7 : Nat) (h2 : Nat) (g8 : Nat) (g9 : Nat) (g10 : Nat) (g11 : Nat) (g12 : Nat) (g13 : Nat) (g14 : Nat) (g15 : Nat) (g16 : Nat) (g17 : Nat) (h3 : Nat) (p0 : Int32) (sz : Nat) : vx_Met l yX11_parentOf (WSm yX11_parentOf cX11_parentOf 2 (some .int)) (mkR 7 1 6 103) (PreX D Y [.ref h0, .int p0] [(h0, oC 12 [.ref h1, .ref g0, .ref g1, .ref g2, .ref g3, .ref g4, .ref g5, .ref g6, .ref g7, .long 0]), (h1, oC 2 [.ref h2, .ref g8, .ref g9, .ref g10, .ref g11, .ref g12, .ref g13, .ref g14, .ref g15, .ref g16, .ref g17, .int 0]), (h2, oC 3 [.ref h3, .int 1]), (h3, aI Y 6 (upd (fun _ => 0) 0 (-1)))] sz) (QI D (fun (r : Int32) (u : Unit) => p0 = 0 ∧ (-1) = r) (fun (_ : Unit) => [(h0, oC 12 [.ref h1, .ref g0, .ref g1, .ref g2, .ref g3, .ref g4, .ref g5, .ref g6, .ref g7, .long 0]), (h1, oC 2 [.ref h2, .ref g8, .ref g9, .ref g10, .ref g11, .ref g12, .ref g13, .ref g14, .ref g15, .ref g16, .ref g17, .int 0]), (h2, oC 3 [.ref h3, .int 1]), (h3, aI Y 6 (upd (fun _ => 0) 0 (-1)))]) (va_A [(h0, oC 12 [.ref h1, .ref g0, .ref g1, .ref g2, .ref g3, .ref g4, .ref g5, .ref g6, .ref g7, .long 0]), (h1, oC 2 [.ref h2, .ref g8, .ref g9, .ref g10, .ref g11, .ref g12, .ref g13, .ref g14, .ref g15, .ref g16, .ref g17, .int 0]), (h2, oC 3 [.ref h3, .int 1]), (h3, aI Y 6 (upd (fun _ => 0) 0 (-1)))] sz)) (XW D (fun (E : String) (u : Unit) => (E = "java/lang/IndexOutOfBoundsException" ∧ p0 < 0) ∨ (E = "java/lang/IndexOutOfBoundsException" ∧ ¬ p0 < 0 ∧ 1 ≤ p0)) (fun (_ : Unit) => [(h0, oC 12 [.ref h1, .ref g0, .ref g1, .ref g2, .ref g3, .ref g4, .ref g5, .ref g6, .ref g7, .long 0]), (h1, oC 2 [.ref h2, .ref g8, .ref g9, .ref g10, .ref g11, .ref g12, .ref g13, .ref g14, .ref g15, .ref g16, .ref g17, .int 0]), (h2, oC 3 [.ref h3, .int 1]), (h3, aI Y 6 (upd (fun _ => 0) 0 (-1)))]) (va_A [(h0, oC 12 [.ref h1, .ref g0, .ref g1, .ref g2, .ref g3, .ref g4, .ref g5, .ref g6, .ref g7, .long 0]), (h1, oC 2 [.ref h2, .ref g8, .ref g9, .ref g10, .ref g11, .ref g12, .ref g13, .ref g14, .ref g15, .ref g16, .ref g17, .int 0]), (h2, oC 3 [.ref h3, .int 1]), (h3, aI Y 6 (upd (fun _ => 0) 0 (-1)))] sz)) 1 6 (va_A [(h0, oC 12 [.ref h1, .ref g0, .ref g1, .ref g2, .ref g3, .ref g4, .ref g5, .ref g6, .ref g7, .long 0]), (h1, oC 2 [.ref h2, .ref g8, .ref g9, .ref g10, .ref g11, .ref g12, .ref g13, .ref g14, .ref g15, .ref g16, .ref g17, .int 0]), (h2, oC 3 [.ref h3, .int 1]), (h3, aI Y 6 (upd (fun _ => 0) 0 (-1)))] sz) :=
  xmet_of (by decide +kernel) (Nat.le_of_ble_eq_true rfl) (fun p e s m args below meth c B EB hout hsz => by
    have B : VB p s m args meth c D Y (va_A [(h0, oC 12 [.ref h1, .ref g0, .ref g1, .ref g2, .ref g3, .ref g4, .ref g5, .ref g6, .ref g7, .long 0]), (h1, oC 2 [.ref h2, .ref g8, .ref g9, .ref g10, .ref g11, .ref g12, .ref g13, .ref g14, .ref g15, .ref g16, .ref g17, .int 0]), (h2, oC 3 [.ref h3, .int 1]), (h3, aI Y 6 (upd (fun _ => 0) 0 (-1)))] sz) cX11_parentOf 2 RX11 (some .int) := B
    refine V_aload_n 0 B dX11_parentOf_0 0 rfl ?_
    refine V_iload_n 1 B dX11_parentOf_1 1 rfl ?_
    refine V_xvv 2 B EB (st := []) (As := [.int p0]) (fun sz => mX11_needMode_1 l hl9 D Y (h0) (h1) (g0) (g1) (g2) (g3) (g4) (g5) (g6) (g7) (h2) (g8) (g9) (g10) (g11) (g12) (g13) (g14) (g15) (g16) (g17) (h3) (p0) sz) glV_RX11_180 ⟨rfl, rfl⟩ ⟨(Nat.le_of_ble_eq_true rfl), (Nat.le_of_ble_eq_true rfl)⟩ ⟨(Nat.le_of_ble_eq_true rfl), (Nat.le_of_ble_eq_true rfl)⟩ [0, 0, 0] rfl 12 0 rfl rfl rfl rfl (Nat.le_of_ble_eq_true rfl) rfl (fun _ _ => rfl) (fun _ _ _ => rfl) dX11_parentOf_2 (fun E u0 w0 => ?_) (fun u0 w0 => ?_)
    ·
      rcases w0 with ⟨rfl, k1⟩ | ⟨rfl, k2, k3⟩
      ·
        exact VX_out 2 B hout () (Or.inl ⟨rfl, k1⟩) rfl (Nat.le_of_ble_eq_true rfl) (Nat.le_of_ble_eq_true rfl)
      ·
        exact VX_out 2 B hout () (Or.inr ⟨rfl, k2, k3⟩) rfl (Nat.le_of_ble_eq_true rfl) (Nat.le_of_ble_eq_true rfl)
    ·
      have k4 := w0
      refine V_ws [(h0, oC 12 [.ref h1, .ref g0, .ref g1, .ref g2, .ref g3, .ref g4, .ref g5, .ref g6, .ref g7, .long 0]), (h1, oC 2 [.ref h2, .ref g8, .ref g9, .ref g10, .ref g11, .ref g12, .ref g13, .ref g14, .ref g15, .ref g16, .ref g17, .int 0]), (h2, oC 3 [.ref h3, .int 1]), (h3, aI Y 6 (upd (fun _ => 0) 0 (-1)))] rfl ?_
      obtain rfl : p0 = 0 := k4
      refine V_aload_n 5 B dX11_parentOf_5 0 rfl ?_
      refine V_get 6 B gf_RX11_10 0 rfl rfl dX11_parentOf_6 ?_
      refine V_get 9 B gf_RX11_107 1 rfl rfl dX11_parentOf_9 ?_
      refine V_iload_n 12 B dX11_parentOf_12 1 rfl ?_
      refine V_cvi 13 B (st := []) (As := [.int 0]) (fun sz => mX1_at_1 l D Y (h2) (h3) sz) glV_RX11_187 ⟨rfl, rfl⟩ ⟨(Nat.le_of_ble_eq_true rfl), (Nat.le_of_ble_eq_true rfl)⟩ ⟨(Nat.le_of_ble_eq_true rfl), (Nat.le_of_ble_eq_true rfl)⟩ [2, 0] rfl 3 0 rfl rfl rfl rfl (Nat.le_of_ble_eq_true rfl) rfl (fun _ _ _ => rfl) dX11_parentOf_13 (fun r5 u5 w5 => ?_)
      obtain rfl := w5
      refine V_ws [(h0, oC 12 [.ref h1, .ref g0, .ref g1, .ref g2, .ref g3, .ref g4, .ref g5, .ref g6, .ref g7, .long 0]), (h1, oC 2 [.ref h2, .ref g8, .ref g9, .ref g10, .ref g11, .ref g12, .ref g13, .ref g14, .ref g15, .ref g16, .ref g17, .int 0]), (h2, oC 3 [.ref h3, .int 1]), (h3, aI Y 6 (upd (fun _ => 0) 0 (-1)))] rfl ?_
      refine V_xret ?_
      exact V_iret 16 B dX11_parentOf_16 () ⟨rfl, rfl⟩ rfl)
theorem dX1_isFull_0 : decode cX1_isFull 0 = .ok (.aload_n 0, 1) := by decide +kernel
theorem dX1_isFull_1 : decode cX1_isFull 1 = .ok (.getfield 21, 3) := by decide +kernel
theorem dX1_isFull_4 : decode cX1_isFull 4 = .ok (.aload_n 0, 1) := by decide +kernel
theorem dX1_isFull_5 : decode cX1_isFull 5 = .ok (.getfield 15, 3) := by decide +kernel
theorem dX1_isFull_8 : decode cX1_isFull 8 = .ok (.arraylength, 1) := by decide +kernel
theorem dX1_isFull_9 : decode cX1_isFull 9 = .ok (.if_icmp .lt 7, 3) := by decide +kernel
theorem dX1_isFull_16 : decode cX1_isFull 16 = .ok (.iconst 0, 1) := by decide +kernel
theorem dX1_isFull_17 : decode cX1_isFull 17 = .ok (.ireturn, 1) := by decide +kernel
set_option maxRecDepth 100000 in
set_option maxHeartbeats 4000000 in
theorem mX1_isFull_1 (l : Launch) (D : va_G) (Y : Nat → ClassId) (h0 : Nat) (h1 : Nat) (sz : Nat) : Met l yX1_isFull (WSm yX1_isFull cX1_isFull 1 (some .boolean)) (mkR 0 0 0 0) (PreC D Y [.ref h0] [(h0, oC 3 [.ref h1, .int 0]), (h1, aI Y 40 (fun _ => 0))] sz) (QI D (fun (r : Int32) (u : Unit) => 0 = r) (fun (_ : Unit) => [(h0, oC 3 [.ref h1, .int 0]), (h1, aI Y 40 (fun _ => 0))]) (va_A [(h0, oC 3 [.ref h1, .int 0]), (h1, aI Y 40 (fun _ => 0))] sz)) 0 0 (va_A [(h0, oC 3 [.ref h1, .int 0]), (h1, aI Y 40 (fun _ => 0))] sz) :=
  met_of (by decide +kernel) (Nat.le_of_ble_eq_true rfl) (fun p e s m args below meth c B hin hsz => by
    have B : VB p s m args meth c D Y (va_A [(h0, oC 3 [.ref h1, .int 0]), (h1, aI Y 40 (fun _ => 0))] sz) cX1_isFull 1 RX1 (some .boolean) := B
    refine V_aload_n 0 B dX1_isFull_0 0 rfl ?_
    refine V_get 1 B gf_RX1_21 0 rfl rfl dX1_isFull_1 ?_
    refine V_aload_n 4 B dX1_isFull_4 0 rfl ?_
    refine V_get 5 B gf_RX1_15 0 rfl rfl dX1_isFull_5 ?_
    refine V_alenI 8 B (v := 40) 1 rfl (by decide +kernel) dX1_isFull_8 ?_
    refine V_icmp_lt_t 9 B 16 dX1_isFull_9 (by decide) (by decide +kernel) ?_
    refine V_iconst 16 B (v := 0) dX1_isFull_16 (by decide +kernel) ?_
    exact V_zret 17 B rfl dX1_isFull_17 () rfl rfl)
set_option maxRecDepth 100000 in
set_option maxHeartbeats 4000000 in
theorem mX1_push_4 (l : Launch) (D : va_G) (Y : Nat → ClassId) (h0 : Nat) (h1 : Nat) (p0 : Int32) (sz : Nat) : Met l yX1_push (WSm yX1_push cX1_push 2 (some .boolean)) (mkR 0 0 0 0) (PreC D Y [.ref h0, .int p0] [(h0, oC 3 [.ref h1, .int 0]), (h1, aI Y 40 (fun _ => 0))] sz) (QI D (fun (r : Int32) (u : Unit) => 1 = r) (fun (_ : Unit) => [(h0, oC 3 [.ref h1, .int 1]), (h1, aI Y 40 (upd (fun _ => 0) 0 p0))]) (va_A [(h0, oC 3 [.ref h1, .int 0]), (h1, aI Y 40 (fun _ => 0))] sz)) 0 0 (va_A [(h0, oC 3 [.ref h1, .int 0]), (h1, aI Y 40 (fun _ => 0))] sz) :=
  met_of (by decide +kernel) (Nat.le_of_ble_eq_true rfl) (fun p e s m args below meth c B hin hsz => by
    have B : VB p s m args meth c D Y (va_A [(h0, oC 3 [.ref h1, .int 0]), (h1, aI Y 40 (fun _ => 0))] sz) cX1_push 2 RX1 (some .boolean) := B
    refine V_aload_n 0 B dX1_push_0 0 rfl ?_
    refine V_get 1 B gf_RX1_21 0 rfl rfl dX1_push_1 ?_
    refine V_if_lt_f 4 B 19 dX1_push_4 (by decide) (by decide +kernel) ?_
    refine V_aload_n 7 B dX1_push_7 0 rfl ?_
    refine V_get 8 B gf_RX1_21 0 rfl rfl dX1_push_8 ?_
    refine V_aload_n 11 B dX1_push_11 0 rfl ?_
    refine V_get 12 B gf_RX1_15 0 rfl rfl dX1_push_12 ?_
    refine V_alenI 15 B (v := 40) 1 rfl (by decide +kernel) dX1_push_15 ?_
    refine V_icmp_lt_t 16 B 21 dX1_push_16 (by decide) (by decide +kernel) ?_
    refine V_aload_n 21 B dX1_push_21 0 rfl ?_
    refine V_get 22 B gf_RX1_15 0 rfl rfl dX1_push_22 ?_
    refine V_aload_n 25 B dX1_push_25 0 rfl ?_
    refine V_get 26 B gf_RX1_21 0 rfl rfl dX1_push_26 ?_
    refine V_iload_n 29 B dX1_push_29 1 rfl ?_
    refine V_iast 30 B 1 rfl (vpin _ _ (by decide +kernel)) dX1_push_30 [(h0, oC 3 [.ref h1, .int 0]), (h1, aI Y 40 (upd (fun _ => 0) 0 p0))] rfl ?_
    refine V_aload_n 31 B dX1_push_31 0 rfl ?_
    refine V_dup 32 B dX1_push_32 rfl ?_
    refine V_get 33 B gf_RX1_21 0 rfl rfl dX1_push_33 ?_
    refine V_iconst 36 B (v := 1) dX1_push_36 (by decide +kernel) ?_
    refine V_iadd 37 B (v := 1) dX1_push_37 (by decide +kernel) ?_
    refine V_put 38 B gp_RX1_21 0 rfl (Nat.le_of_ble_eq_true rfl) rfl rfl dX1_push_38 [(h0, oC 3 [.ref h1, .int 1]), (h1, aI Y 40 (upd (fun _ => 0) 0 p0))] rfl ?_
    refine V_iconst 41 B (v := 1) dX1_push_41 (by decide +kernel) ?_
    exact V_zret 42 B rfl dX1_push_42 () rfl rfl)
set_option maxRecDepth 100000 in
set_option maxHeartbeats 4000000 in
theorem mX1_push_5 (l : Launch) (D : va_G) (Y : Nat → ClassId) (h0 : Nat) (h1 : Nat) (sz : Nat) : Met l yX1_push (WSm yX1_push cX1_push 2 (some .boolean)) (mkR 0 0 0 0) (PreC D Y [.ref h0, .int (-1)] [(h0, oC 3 [.ref h1, .int 0]), (h1, aI Y 40 (fun _ => 0))] sz) (QI D (fun (r : Int32) (u : Unit) => 1 = r) (fun (_ : Unit) => [(h0, oC 3 [.ref h1, .int 1]), (h1, aI Y 40 (upd (fun _ => 0) 0 (-1)))]) (va_A [(h0, oC 3 [.ref h1, .int 0]), (h1, aI Y 40 (fun _ => 0))] sz)) 0 0 (va_A [(h0, oC 3 [.ref h1, .int 0]), (h1, aI Y 40 (fun _ => 0))] sz) :=
  met_of (by decide +kernel) (Nat.le_of_ble_eq_true rfl) (fun p e s m args below meth c B hin hsz => by
    have B : VB p s m args meth c D Y (va_A [(h0, oC 3 [.ref h1, .int 0]), (h1, aI Y 40 (fun _ => 0))] sz) cX1_push 2 RX1 (some .boolean) := B
    refine V_aload_n 0 B dX1_push_0 0 rfl ?_
    refine V_get 1 B gf_RX1_21 0 rfl rfl dX1_push_1 ?_
    refine V_if_lt_f 4 B 19 dX1_push_4 (by decide) (by decide +kernel) ?_
    refine V_aload_n 7 B dX1_push_7 0 rfl ?_
    refine V_get 8 B gf_RX1_21 0 rfl rfl dX1_push_8 ?_
    refine V_aload_n 11 B dX1_push_11 0 rfl ?_
    refine V_get 12 B gf_RX1_15 0 rfl rfl dX1_push_12 ?_
    refine V_alenI 15 B (v := 40) 1 rfl (by decide +kernel) dX1_push_15 ?_
    refine V_icmp_lt_t 16 B 21 dX1_push_16 (by decide) (by decide +kernel) ?_
    refine V_aload_n 21 B dX1_push_21 0 rfl ?_
    refine V_get 22 B gf_RX1_15 0 rfl rfl dX1_push_22 ?_
    refine V_aload_n 25 B dX1_push_25 0 rfl ?_
    refine V_get 26 B gf_RX1_21 0 rfl rfl dX1_push_26 ?_
    refine V_iload_n 29 B dX1_push_29 1 rfl ?_
    refine V_iast 30 B 1 rfl (vpin _ _ (by decide +kernel)) dX1_push_30 [(h0, oC 3 [.ref h1, .int 0]), (h1, aI Y 40 (upd (fun _ => 0) 0 (-1)))] rfl ?_
    refine V_aload_n 31 B dX1_push_31 0 rfl ?_
    refine V_dup 32 B dX1_push_32 rfl ?_
    refine V_get 33 B gf_RX1_21 0 rfl rfl dX1_push_33 ?_
    refine V_iconst 36 B (v := 1) dX1_push_36 (by decide +kernel) ?_
    refine V_iadd 37 B (v := 1) dX1_push_37 (by decide +kernel) ?_
    refine V_put 38 B gp_RX1_21 0 rfl (Nat.le_of_ble_eq_true rfl) rfl rfl dX1_push_38 [(h0, oC 3 [.ref h1, .int 1]), (h1, aI Y 40 (upd (fun _ => 0) 0 (-1)))] rfl ?_
    refine V_iconst 41 B (v := 1) dX1_push_41 (by decide +kernel) ?_
    exact V_zret 42 B rfl dX1_push_42 () rfl rfl)
set_option maxRecDepth 100000 in
set_option maxHeartbeats 4000000 in
theorem mX1_push_6 (l : Launch) (D : va_G) (Y : Nat → ClassId) (h0 : Nat) (h1 : Nat) (sz : Nat) : Met l yX1_push (WSm yX1_push cX1_push 2 (some .boolean)) (mkR 0 0 0 0) (PreC D Y [.ref h0, .int 0] [(h0, oC 3 [.ref h1, .int 0]), (h1, aI Y 40 (fun _ => 0))] sz) (QI D (fun (r : Int32) (u : Unit) => 1 = r) (fun (_ : Unit) => [(h0, oC 3 [.ref h1, .int 1]), (h1, aI Y 40 (upd (fun _ => 0) 0 0))]) (va_A [(h0, oC 3 [.ref h1, .int 0]), (h1, aI Y 40 (fun _ => 0))] sz)) 0 0 (va_A [(h0, oC 3 [.ref h1, .int 0]), (h1, aI Y 40 (fun _ => 0))] sz) :=
  met_of (by decide +kernel) (Nat.le_of_ble_eq_true rfl) (fun p e s m args below meth c B hin hsz => by
    have B : VB p s m args meth c D Y (va_A [(h0, oC 3 [.ref h1, .int 0]), (h1, aI Y 40 (fun _ => 0))] sz) cX1_push 2 RX1 (some .boolean) := B
    refine V_aload_n 0 B dX1_push_0 0 rfl ?_
    refine V_get 1 B gf_RX1_21 0 rfl rfl dX1_push_1 ?_
    refine V_if_lt_f 4 B 19 dX1_push_4 (by decide) (by decide +kernel) ?_
    refine V_aload_n 7 B dX1_push_7 0 rfl ?_
    refine V_get 8 B gf_RX1_21 0 rfl rfl dX1_push_8 ?_
    refine V_aload_n 11 B dX1_push_11 0 rfl ?_
    refine V_get 12 B gf_RX1_15 0 rfl rfl dX1_push_12 ?_
    refine V_alenI 15 B (v := 40) 1 rfl (by decide +kernel) dX1_push_15 ?_
    refine V_icmp_lt_t 16 B 21 dX1_push_16 (by decide) (by decide +kernel) ?_
    refine V_aload_n 21 B dX1_push_21 0 rfl ?_
    refine V_get 22 B gf_RX1_15 0 rfl rfl dX1_push_22 ?_
    refine V_aload_n 25 B dX1_push_25 0 rfl ?_
    refine V_get 26 B gf_RX1_21 0 rfl rfl dX1_push_26 ?_
    refine V_iload_n 29 B dX1_push_29 1 rfl ?_
    refine V_iast 30 B 1 rfl (vpin _ _ (by decide +kernel)) dX1_push_30 [(h0, oC 3 [.ref h1, .int 0]), (h1, aI Y 40 (upd (fun _ => 0) 0 0))] rfl ?_
    refine V_aload_n 31 B dX1_push_31 0 rfl ?_
    refine V_dup 32 B dX1_push_32 rfl ?_
    refine V_get 33 B gf_RX1_21 0 rfl rfl dX1_push_33 ?_
    refine V_iconst 36 B (v := 1) dX1_push_36 (by decide +kernel) ?_
    refine V_iadd 37 B (v := 1) dX1_push_37 (by decide +kernel) ?_
    refine V_put 38 B gp_RX1_21 0 rfl (Nat.le_of_ble_eq_true rfl) rfl rfl dX1_push_38 [(h0, oC 3 [.ref h1, .int 1]), (h1, aI Y 40 (upd (fun _ => 0) 0 0))] rfl ?_
    refine V_iconst 41 B (v := 1) dX1_push_41 (by decide +kernel) ?_
    exact V_zret 42 B rfl dX1_push_42 () rfl rfl)
