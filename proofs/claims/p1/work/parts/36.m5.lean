set_option maxRecDepth 100000 in
set_option maxHeartbeats 4000000 in
theorem mX12_appendBytes_4 (l : Launch) (D : va_G) (Y : Nat → ClassId) (h0 : Nat) (g0 : Nat) (g1 : Nat) (g2 : Nat) (h1 : Nat) (g3 : Nat) (g4 : Nat) (p0 : Int32) (f0 : Nat → Int32) (sz : Nat) : Met l yX12_appendBytes (WSm yX12_appendBytes cX12_appendBytes 3 none) (mkR 0 0 0 0) (PreC D Y [.ref h0, .int p0] [(h0, oC 13 [.ref g0, .ref g1, .int 0, .ref g2, .ref h1, .int 12, .int 0, .int 0, .int (-1), .int 0, .int 0, .int 0, .long 0, .ref g3, .ref g4, .int 0, .int 0]), (h1, aB Y 1600 f0)] sz) (QV D (fun (u : Unit) => True) (fun (_ : Unit) => [(h0, oC 13 [.ref g0, .ref g1, .int 0, .ref g2, .ref h1, .int 16, .int 0, .int 0, .int (-1), .int 0, .int 0, .int 0, .long 0, .ref g3, .ref g4, .int 0, .int 0]), (h1, aB Y 1600 (upd (upd (upd (upd f0 12 (vp_nar .byte ((p0 >>> (24 &&& 31)).toInt8.toInt32))) 13 (vp_nar .byte ((p0 >>> (16 &&& 31)).toInt8.toInt32))) 14 (vp_nar .byte ((p0 >>> (8 &&& 31)).toInt8.toInt32))) 15 (vp_nar .byte ((p0 >>> (0 &&& 31)).toInt8.toInt32))))]) (va_A [(h0, oC 13 [.ref g0, .ref g1, .int 0, .ref g2, .ref h1, .int 12, .int 0, .int 0, .int (-1), .int 0, .int 0, .int 0, .long 0, .ref g3, .ref g4, .int 0, .int 0]), (h1, aB Y 1600 f0)] sz)) 0 0 (va_A [(h0, oC 13 [.ref g0, .ref g1, .int 0, .ref g2, .ref h1, .int 12, .int 0, .int 0, .int (-1), .int 0, .int 0, .int 0, .long 0, .ref g3, .ref g4, .int 0, .int 0]), (h1, aB Y 1600 f0)] sz) :=
  met_of (by decide +kernel) (Nat.le_of_ble_eq_true rfl) (fun p e s m args below meth c B hin hsz => by
    have B : VB p s m args meth c D Y (va_A [(h0, oC 13 [.ref g0, .ref g1, .int 0, .ref g2, .ref h1, .int 12, .int 0, .int 0, .int (-1), .int 0, .int 0, .int 0, .long 0, .ref g3, .ref g4, .int 0, .int 0]), (h1, aB Y 1600 f0)] sz) cX12_appendBytes 3 RX12 none := B
    refine V_bipush 0 B (v := 24) dX12_appendBytes_0 (by decide +kernel) ?_
    refine V_istore_n 2 B (lv2 := [(2, .int 24), (0, .ref h0), (1, .int p0)]) dX12_appendBytes_2 (by decide) rfl ?_
    refine V_iload_n 3 B dX12_appendBytes_3 0 rfl ?_
    refine V_if_lt_f 4 B 36 dX12_appendBytes_4 (by decide) (by decide +kernel) ?_
    refine V_aload_n 7 B dX12_appendBytes_7 1 rfl ?_
    refine V_get 8 B gf_RX12_20 0 rfl rfl dX12_appendBytes_8 ?_
    refine V_aload_n 11 B dX12_appendBytes_11 1 rfl ?_
    refine V_get 12 B gf_RX12_240 0 rfl rfl dX12_appendBytes_12 ?_
    refine V_iload_n 15 B dX12_appendBytes_15 2 rfl ?_
    refine V_iload_n 16 B dX12_appendBytes_16 0 rfl ?_
    refine V_ishr 17 B dX12_appendBytes_17 rfl ?_
    refine V_i2b 18 B dX12_appendBytes_18 rfl ?_
    refine V_bast 19 B 1 rfl (vpin _ _ (by decide +kernel)) dX12_appendBytes_19 [(h0, oC 13 [.ref g0, .ref g1, .int 0, .ref g2, .ref h1, .int 12, .int 0, .int 0, .int (-1), .int 0, .int 0, .int 0, .long 0, .ref g3, .ref g4, .int 0, .int 0]), (h1, aB Y 1600 (upd f0 12 (vp_nar .byte ((p0 >>> (24 &&& 31)).toInt8.toInt32))))] rfl ?_
    refine V_aload_n 20 B dX12_appendBytes_20 1 rfl ?_
    refine V_dup 21 B dX12_appendBytes_21 rfl ?_
    refine V_get 22 B gf_RX12_240 0 rfl rfl dX12_appendBytes_22 ?_
    refine V_iconst 25 B (v := 1) dX12_appendBytes_25 (by decide +kernel) ?_
    refine V_iadd 26 B (v := 13) dX12_appendBytes_26 (by decide +kernel) ?_
    refine V_put 27 B gp_RX12_240 0 rfl (Nat.le_of_ble_eq_true rfl) rfl rfl dX12_appendBytes_27 [(h0, oC 13 [.ref g0, .ref g1, .int 0, .ref g2, .ref h1, .int 13, .int 0, .int 0, .int (-1), .int 0, .int 0, .int 0, .long 0, .ref g3, .ref g4, .int 0, .int 0]), (h1, aB Y 1600 (upd f0 12 (vp_nar .byte ((p0 >>> (24 &&& 31)).toInt8.toInt32))))] rfl ?_
    refine V_iinc 30 B (v := 16) (lv2 := [(2, .int 16), (0, .ref h0), (1, .int p0)]) dX12_appendBytes_30 0 rfl (by decide +kernel) (by decide) rfl ?_
    refine V_goto 33 B 3 dX12_appendBytes_33 (by decide) ?_
    refine V_iload_n 3 B dX12_appendBytes_3 0 rfl ?_
    refine V_if_lt_f 4 B 36 dX12_appendBytes_4 (by decide) (by decide +kernel) ?_
    refine V_aload_n 7 B dX12_appendBytes_7 1 rfl ?_
    refine V_get 8 B gf_RX12_20 0 rfl rfl dX12_appendBytes_8 ?_
    refine V_aload_n 11 B dX12_appendBytes_11 1 rfl ?_
    refine V_get 12 B gf_RX12_240 0 rfl rfl dX12_appendBytes_12 ?_
    refine V_iload_n 15 B dX12_appendBytes_15 2 rfl ?_
    refine V_iload_n 16 B dX12_appendBytes_16 0 rfl ?_
    refine V_ishr 17 B dX12_appendBytes_17 rfl ?_
    refine V_i2b 18 B dX12_appendBytes_18 rfl ?_
    refine V_bast 19 B 1 rfl (vpin _ _ (by decide +kernel)) dX12_appendBytes_19 [(h0, oC 13 [.ref g0, .ref g1, .int 0, .ref g2, .ref h1, .int 13, .int 0, .int 0, .int (-1), .int 0, .int 0, .int 0, .long 0, .ref g3, .ref g4, .int 0, .int 0]), (h1, aB Y 1600 (upd (upd f0 12 (vp_nar .byte ((p0 >>> (24 &&& 31)).toInt8.toInt32))) 13 (vp_nar .byte ((p0 >>> (16 &&& 31)).toInt8.toInt32))))] rfl ?_
    refine V_aload_n 20 B dX12_appendBytes_20 1 rfl ?_
    refine V_dup 21 B dX12_appendBytes_21 rfl ?_
    refine V_get 22 B gf_RX12_240 0 rfl rfl dX12_appendBytes_22 ?_
    refine V_iconst 25 B (v := 1) dX12_appendBytes_25 (by decide +kernel) ?_
    refine V_iadd 26 B (v := 14) dX12_appendBytes_26 (by decide +kernel) ?_
    refine V_put 27 B gp_RX12_240 0 rfl (Nat.le_of_ble_eq_true rfl) rfl rfl dX12_appendBytes_27 [(h0, oC 13 [.ref g0, .ref g1, .int 0, .ref g2, .ref h1, .int 14, .int 0, .int 0, .int (-1), .int 0, .int 0, .int 0, .long 0, .ref g3, .ref g4, .int 0, .int 0]), (h1, aB Y 1600 (upd (upd f0 12 (vp_nar .byte ((p0 >>> (24 &&& 31)).toInt8.toInt32))) 13 (vp_nar .byte ((p0 >>> (16 &&& 31)).toInt8.toInt32))))] rfl ?_
    refine V_iinc 30 B (v := 8) (lv2 := [(2, .int 8), (0, .ref h0), (1, .int p0)]) dX12_appendBytes_30 0 rfl (by decide +kernel) (by decide) rfl ?_
    refine V_goto 33 B 3 dX12_appendBytes_33 (by decide) ?_
    refine V_iload_n 3 B dX12_appendBytes_3 0 rfl ?_
    refine V_if_lt_f 4 B 36 dX12_appendBytes_4 (by decide) (by decide +kernel) ?_
    refine V_aload_n 7 B dX12_appendBytes_7 1 rfl ?_
    refine V_get 8 B gf_RX12_20 0 rfl rfl dX12_appendBytes_8 ?_
    refine V_aload_n 11 B dX12_appendBytes_11 1 rfl ?_
    refine V_get 12 B gf_RX12_240 0 rfl rfl dX12_appendBytes_12 ?_
    refine V_iload_n 15 B dX12_appendBytes_15 2 rfl ?_
    refine V_iload_n 16 B dX12_appendBytes_16 0 rfl ?_
    refine V_ishr 17 B dX12_appendBytes_17 rfl ?_
    refine V_i2b 18 B dX12_appendBytes_18 rfl ?_
    refine V_bast 19 B 1 rfl (vpin _ _ (by decide +kernel)) dX12_appendBytes_19 [(h0, oC 13 [.ref g0, .ref g1, .int 0, .ref g2, .ref h1, .int 14, .int 0, .int 0, .int (-1), .int 0, .int 0, .int 0, .long 0, .ref g3, .ref g4, .int 0, .int 0]), (h1, aB Y 1600 (upd (upd (upd f0 12 (vp_nar .byte ((p0 >>> (24 &&& 31)).toInt8.toInt32))) 13 (vp_nar .byte ((p0 >>> (16 &&& 31)).toInt8.toInt32))) 14 (vp_nar .byte ((p0 >>> (8 &&& 31)).toInt8.toInt32))))] rfl ?_
    refine V_aload_n 20 B dX12_appendBytes_20 1 rfl ?_
    refine V_dup 21 B dX12_appendBytes_21 rfl ?_
    refine V_get 22 B gf_RX12_240 0 rfl rfl dX12_appendBytes_22 ?_
    refine V_iconst 25 B (v := 1) dX12_appendBytes_25 (by decide +kernel) ?_
    refine V_iadd 26 B (v := 15) dX12_appendBytes_26 (by decide +kernel) ?_
    refine V_put 27 B gp_RX12_240 0 rfl (Nat.le_of_ble_eq_true rfl) rfl rfl dX12_appendBytes_27 [(h0, oC 13 [.ref g0, .ref g1, .int 0, .ref g2, .ref h1, .int 15, .int 0, .int 0, .int (-1), .int 0, .int 0, .int 0, .long 0, .ref g3, .ref g4, .int 0, .int 0]), (h1, aB Y 1600 (upd (upd (upd f0 12 (vp_nar .byte ((p0 >>> (24 &&& 31)).toInt8.toInt32))) 13 (vp_nar .byte ((p0 >>> (16 &&& 31)).toInt8.toInt32))) 14 (vp_nar .byte ((p0 >>> (8 &&& 31)).toInt8.toInt32))))] rfl ?_
    refine V_iinc 30 B (v := 0) (lv2 := [(2, .int 0), (0, .ref h0), (1, .int p0)]) dX12_appendBytes_30 0 rfl (by decide +kernel) (by decide) rfl ?_
    refine V_goto 33 B 3 dX12_appendBytes_33 (by decide) ?_
    refine V_iload_n 3 B dX12_appendBytes_3 0 rfl ?_
    refine V_if_lt_f 4 B 36 dX12_appendBytes_4 (by decide) (by decide +kernel) ?_
    refine V_aload_n 7 B dX12_appendBytes_7 1 rfl ?_
    refine V_get 8 B gf_RX12_20 0 rfl rfl dX12_appendBytes_8 ?_
    refine V_aload_n 11 B dX12_appendBytes_11 1 rfl ?_
    refine V_get 12 B gf_RX12_240 0 rfl rfl dX12_appendBytes_12 ?_
    refine V_iload_n 15 B dX12_appendBytes_15 2 rfl ?_
    refine V_iload_n 16 B dX12_appendBytes_16 0 rfl ?_
    refine V_ishr 17 B dX12_appendBytes_17 rfl ?_
    refine V_i2b 18 B dX12_appendBytes_18 rfl ?_
    refine V_bast 19 B 1 rfl (vpin _ _ (by decide +kernel)) dX12_appendBytes_19 [(h0, oC 13 [.ref g0, .ref g1, .int 0, .ref g2, .ref h1, .int 15, .int 0, .int 0, .int (-1), .int 0, .int 0, .int 0, .long 0, .ref g3, .ref g4, .int 0, .int 0]), (h1, aB Y 1600 (upd (upd (upd (upd f0 12 (vp_nar .byte ((p0 >>> (24 &&& 31)).toInt8.toInt32))) 13 (vp_nar .byte ((p0 >>> (16 &&& 31)).toInt8.toInt32))) 14 (vp_nar .byte ((p0 >>> (8 &&& 31)).toInt8.toInt32))) 15 (vp_nar .byte ((p0 >>> (0 &&& 31)).toInt8.toInt32))))] rfl ?_
    refine V_aload_n 20 B dX12_appendBytes_20 1 rfl ?_
    refine V_dup 21 B dX12_appendBytes_21 rfl ?_
    refine V_get 22 B gf_RX12_240 0 rfl rfl dX12_appendBytes_22 ?_
    refine V_iconst 25 B (v := 1) dX12_appendBytes_25 (by decide +kernel) ?_
    refine V_iadd 26 B (v := 16) dX12_appendBytes_26 (by decide +kernel) ?_
    refine V_put 27 B gp_RX12_240 0 rfl (Nat.le_of_ble_eq_true rfl) rfl rfl dX12_appendBytes_27 [(h0, oC 13 [.ref g0, .ref g1, .int 0, .ref g2, .ref h1, .int 16, .int 0, .int 0, .int (-1), .int 0, .int 0, .int 0, .long 0, .ref g3, .ref g4, .int 0, .int 0]), (h1, aB Y 1600 (upd (upd (upd (upd f0 12 (vp_nar .byte ((p0 >>> (24 &&& 31)).toInt8.toInt32))) 13 (vp_nar .byte ((p0 >>> (16 &&& 31)).toInt8.toInt32))) 14 (vp_nar .byte ((p0 >>> (8 &&& 31)).toInt8.toInt32))) 15 (vp_nar .byte ((p0 >>> (0 &&& 31)).toInt8.toInt32))))] rfl ?_
    refine V_iinc 30 B (v := (-8)) (lv2 := [(2, .int (-8)), (0, .ref h0), (1, .int p0)]) dX12_appendBytes_30 0 rfl (by decide +kernel) (by decide) rfl ?_
    refine V_goto 33 B 3 dX12_appendBytes_33 (by decide) ?_
    refine V_iload_n 3 B dX12_appendBytes_3 0 rfl ?_
    refine V_if_lt_t 4 B 36 dX12_appendBytes_4 (by decide) (by decide +kernel) ?_
    exact V_vret 36 B dX12_appendBytes_36 () trivial rfl)
set_option maxRecDepth 100000 in
set_option maxHeartbeats 4000000 in
theorem mX12_appendBytes_5 (l : Launch) (D : va_G) (Y : Nat → ClassId) (h0 : Nat) (g0 : Nat) (g1 : Nat) (g2 : Nat) (h1 : Nat) (g3 : Nat) (g4 : Nat) (p0 : Int32) (f0 : Nat → Int32) (sz : Nat) : Met l yX12_appendBytes (WSm yX12_appendBytes cX12_appendBytes 3 none) (mkR 0 0 0 0) (PreC D Y [.ref h0, .int p0] [(h0, oC 13 [.ref g0, .ref g1, .int 0, .ref g2, .ref h1, .int 16, .int 0, .int 0, .int (-1), .int 0, .int 0, .int 0, .long 0, .ref g3, .ref g4, .int 0, .int 0]), (h1, aB Y 1600 f0)] sz) (QV D (fun (u : Unit) => True) (fun (_ : Unit) => [(h0, oC 13 [.ref g0, .ref g1, .int 0, .ref g2, .ref h1, .int 20, .int 0, .int 0, .int (-1), .int 0, .int 0, .int 0, .long 0, .ref g3, .ref g4, .int 0, .int 0]), (h1, aB Y 1600 (upd (upd (upd (upd f0 16 (vp_nar .byte ((p0 >>> (24 &&& 31)).toInt8.toInt32))) 17 (vp_nar .byte ((p0 >>> (16 &&& 31)).toInt8.toInt32))) 18 (vp_nar .byte ((p0 >>> (8 &&& 31)).toInt8.toInt32))) 19 (vp_nar .byte ((p0 >>> (0 &&& 31)).toInt8.toInt32))))]) (va_A [(h0, oC 13 [.ref g0, .ref g1, .int 0, .ref g2, .ref h1, .int 16, .int 0, .int 0, .int (-1), .int 0, .int 0, .int 0, .long 0, .ref g3, .ref g4, .int 0, .int 0]), (h1, aB Y 1600 f0)] sz)) 0 0 (va_A [(h0, oC 13 [.ref g0, .ref g1, .int 0, .ref g2, .ref h1, .int 16, .int 0, .int 0, .int (-1), .int 0, .int 0, .int 0, .long 0, .ref g3, .ref g4, .int 0, .int 0]), (h1, aB Y 1600 f0)] sz) :=
  met_of (by decide +kernel) (Nat.le_of_ble_eq_true rfl) (fun p e s m args below meth c B hin hsz => by
    have B : VB p s m args meth c D Y (va_A [(h0, oC 13 [.ref g0, .ref g1, .int 0, .ref g2, .ref h1, .int 16, .int 0, .int 0, .int (-1), .int 0, .int 0, .int 0, .long 0, .ref g3, .ref g4, .int 0, .int 0]), (h1, aB Y 1600 f0)] sz) cX12_appendBytes 3 RX12 none := B
    refine V_bipush 0 B (v := 24) dX12_appendBytes_0 (by decide +kernel) ?_
    refine V_istore_n 2 B (lv2 := [(2, .int 24), (0, .ref h0), (1, .int p0)]) dX12_appendBytes_2 (by decide) rfl ?_
    refine V_iload_n 3 B dX12_appendBytes_3 0 rfl ?_
    refine V_if_lt_f 4 B 36 dX12_appendBytes_4 (by decide) (by decide +kernel) ?_
    refine V_aload_n 7 B dX12_appendBytes_7 1 rfl ?_
    refine V_get 8 B gf_RX12_20 0 rfl rfl dX12_appendBytes_8 ?_
    refine V_aload_n 11 B dX12_appendBytes_11 1 rfl ?_
    refine V_get 12 B gf_RX12_240 0 rfl rfl dX12_appendBytes_12 ?_
    refine V_iload_n 15 B dX12_appendBytes_15 2 rfl ?_
    refine V_iload_n 16 B dX12_appendBytes_16 0 rfl ?_
    refine V_ishr 17 B dX12_appendBytes_17 rfl ?_
    refine V_i2b 18 B dX12_appendBytes_18 rfl ?_
    refine V_bast 19 B 1 rfl (vpin _ _ (by decide +kernel)) dX12_appendBytes_19 [(h0, oC 13 [.ref g0, .ref g1, .int 0, .ref g2, .ref h1, .int 16, .int 0, .int 0, .int (-1), .int 0, .int 0, .int 0, .long 0, .ref g3, .ref g4, .int 0, .int 0]), (h1, aB Y 1600 (upd f0 16 (vp_nar .byte ((p0 >>> (24 &&& 31)).toInt8.toInt32))))] rfl ?_
    refine V_aload_n 20 B dX12_appendBytes_20 1 rfl ?_
    refine V_dup 21 B dX12_appendBytes_21 rfl ?_
    refine V_get 22 B gf_RX12_240 0 rfl rfl dX12_appendBytes_22 ?_
    refine V_iconst 25 B (v := 1) dX12_appendBytes_25 (by decide +kernel) ?_
    refine V_iadd 26 B (v := 17) dX12_appendBytes_26 (by decide +kernel) ?_
    refine V_put 27 B gp_RX12_240 0 rfl (Nat.le_of_ble_eq_true rfl) rfl rfl dX12_appendBytes_27 [(h0, oC 13 [.ref g0, .ref g1, .int 0, .ref g2, .ref h1, .int 17, .int 0, .int 0, .int (-1), .int 0, .int 0, .int 0, .long 0, .ref g3, .ref g4, .int 0, .int 0]), (h1, aB Y 1600 (upd f0 16 (vp_nar .byte ((p0 >>> (24 &&& 31)).toInt8.toInt32))))] rfl ?_
    refine V_iinc 30 B (v := 16) (lv2 := [(2, .int 16), (0, .ref h0), (1, .int p0)]) dX12_appendBytes_30 0 rfl (by decide +kernel) (by decide) rfl ?_
    refine V_goto 33 B 3 dX12_appendBytes_33 (by decide) ?_
    refine V_iload_n 3 B dX12_appendBytes_3 0 rfl ?_
    refine V_if_lt_f 4 B 36 dX12_appendBytes_4 (by decide) (by decide +kernel) ?_
    refine V_aload_n 7 B dX12_appendBytes_7 1 rfl ?_
    refine V_get 8 B gf_RX12_20 0 rfl rfl dX12_appendBytes_8 ?_
    refine V_aload_n 11 B dX12_appendBytes_11 1 rfl ?_
    refine V_get 12 B gf_RX12_240 0 rfl rfl dX12_appendBytes_12 ?_
    refine V_iload_n 15 B dX12_appendBytes_15 2 rfl ?_
    refine V_iload_n 16 B dX12_appendBytes_16 0 rfl ?_
    refine V_ishr 17 B dX12_appendBytes_17 rfl ?_
    refine V_i2b 18 B dX12_appendBytes_18 rfl ?_
    refine V_bast 19 B 1 rfl (vpin _ _ (by decide +kernel)) dX12_appendBytes_19 [(h0, oC 13 [.ref g0, .ref g1, .int 0, .ref g2, .ref h1, .int 17, .int 0, .int 0, .int (-1), .int 0, .int 0, .int 0, .long 0, .ref g3, .ref g4, .int 0, .int 0]), (h1, aB Y 1600 (upd (upd f0 16 (vp_nar .byte ((p0 >>> (24 &&& 31)).toInt8.toInt32))) 17 (vp_nar .byte ((p0 >>> (16 &&& 31)).toInt8.toInt32))))] rfl ?_
    refine V_aload_n 20 B dX12_appendBytes_20 1 rfl ?_
    refine V_dup 21 B dX12_appendBytes_21 rfl ?_
    refine V_get 22 B gf_RX12_240 0 rfl rfl dX12_appendBytes_22 ?_
    refine V_iconst 25 B (v := 1) dX12_appendBytes_25 (by decide +kernel) ?_
    refine V_iadd 26 B (v := 18) dX12_appendBytes_26 (by decide +kernel) ?_
    refine V_put 27 B gp_RX12_240 0 rfl (Nat.le_of_ble_eq_true rfl) rfl rfl dX12_appendBytes_27 [(h0, oC 13 [.ref g0, .ref g1, .int 0, .ref g2, .ref h1, .int 18, .int 0, .int 0, .int (-1), .int 0, .int 0, .int 0, .long 0, .ref g3, .ref g4, .int 0, .int 0]), (h1, aB Y 1600 (upd (upd f0 16 (vp_nar .byte ((p0 >>> (24 &&& 31)).toInt8.toInt32))) 17 (vp_nar .byte ((p0 >>> (16 &&& 31)).toInt8.toInt32))))] rfl ?_
    refine V_iinc 30 B (v := 8) (lv2 := [(2, .int 8), (0, .ref h0), (1, .int p0)]) dX12_appendBytes_30 0 rfl (by decide +kernel) (by decide) rfl ?_
    refine V_goto 33 B 3 dX12_appendBytes_33 (by decide) ?_
    refine V_iload_n 3 B dX12_appendBytes_3 0 rfl ?_
    refine V_if_lt_f 4 B 36 dX12_appendBytes_4 (by decide) (by decide +kernel) ?_
    refine V_aload_n 7 B dX12_appendBytes_7 1 rfl ?_
    refine V_get 8 B gf_RX12_20 0 rfl rfl dX12_appendBytes_8 ?_
    refine V_aload_n 11 B dX12_appendBytes_11 1 rfl ?_
    refine V_get 12 B gf_RX12_240 0 rfl rfl dX12_appendBytes_12 ?_
    refine V_iload_n 15 B dX12_appendBytes_15 2 rfl ?_
    refine V_iload_n 16 B dX12_appendBytes_16 0 rfl ?_
    refine V_ishr 17 B dX12_appendBytes_17 rfl ?_
    refine V_i2b 18 B dX12_appendBytes_18 rfl ?_
    refine V_bast 19 B 1 rfl (vpin _ _ (by decide +kernel)) dX12_appendBytes_19 [(h0, oC 13 [.ref g0, .ref g1, .int 0, .ref g2, .ref h1, .int 18, .int 0, .int 0, .int (-1), .int 0, .int 0, .int 0, .long 0, .ref g3, .ref g4, .int 0, .int 0]), (h1, aB Y 1600 (upd (upd (upd f0 16 (vp_nar .byte ((p0 >>> (24 &&& 31)).toInt8.toInt32))) 17 (vp_nar .byte ((p0 >>> (16 &&& 31)).toInt8.toInt32))) 18 (vp_nar .byte ((p0 >>> (8 &&& 31)).toInt8.toInt32))))] rfl ?_
    refine V_aload_n 20 B dX12_appendBytes_20 1 rfl ?_
    refine V_dup 21 B dX12_appendBytes_21 rfl ?_
    refine V_get 22 B gf_RX12_240 0 rfl rfl dX12_appendBytes_22 ?_
    refine V_iconst 25 B (v := 1) dX12_appendBytes_25 (by decide +kernel) ?_
    refine V_iadd 26 B (v := 19) dX12_appendBytes_26 (by decide +kernel) ?_
    refine V_put 27 B gp_RX12_240 0 rfl (Nat.le_of_ble_eq_true rfl) rfl rfl dX12_appendBytes_27 [(h0, oC 13 [.ref g0, .ref g1, .int 0, .ref g2, .ref h1, .int 19, .int 0, .int 0, .int (-1), .int 0, .int 0, .int 0, .long 0, .ref g3, .ref g4, .int 0, .int 0]), (h1, aB Y 1600 (upd (upd (upd f0 16 (vp_nar .byte ((p0 >>> (24 &&& 31)).toInt8.toInt32))) 17 (vp_nar .byte ((p0 >>> (16 &&& 31)).toInt8.toInt32))) 18 (vp_nar .byte ((p0 >>> (8 &&& 31)).toInt8.toInt32))))] rfl ?_
    refine V_iinc 30 B (v := 0) (lv2 := [(2, .int 0), (0, .ref h0), (1, .int p0)]) dX12_appendBytes_30 0 rfl (by decide +kernel) (by decide) rfl ?_
    refine V_goto 33 B 3 dX12_appendBytes_33 (by decide) ?_
    refine V_iload_n 3 B dX12_appendBytes_3 0 rfl ?_
    refine V_if_lt_f 4 B 36 dX12_appendBytes_4 (by decide) (by decide +kernel) ?_
    refine V_aload_n 7 B dX12_appendBytes_7 1 rfl ?_
    refine V_get 8 B gf_RX12_20 0 rfl rfl dX12_appendBytes_8 ?_
    refine V_aload_n 11 B dX12_appendBytes_11 1 rfl ?_
    refine V_get 12 B gf_RX12_240 0 rfl rfl dX12_appendBytes_12 ?_
    refine V_iload_n 15 B dX12_appendBytes_15 2 rfl ?_
    refine V_iload_n 16 B dX12_appendBytes_16 0 rfl ?_
    refine V_ishr 17 B dX12_appendBytes_17 rfl ?_
    refine V_i2b 18 B dX12_appendBytes_18 rfl ?_
    refine V_bast 19 B 1 rfl (vpin _ _ (by decide +kernel)) dX12_appendBytes_19 [(h0, oC 13 [.ref g0, .ref g1, .int 0, .ref g2, .ref h1, .int 19, .int 0, .int 0, .int (-1), .int 0, .int 0, .int 0, .long 0, .ref g3, .ref g4, .int 0, .int 0]), (h1, aB Y 1600 (upd (upd (upd (upd f0 16 (vp_nar .byte ((p0 >>> (24 &&& 31)).toInt8.toInt32))) 17 (vp_nar .byte ((p0 >>> (16 &&& 31)).toInt8.toInt32))) 18 (vp_nar .byte ((p0 >>> (8 &&& 31)).toInt8.toInt32))) 19 (vp_nar .byte ((p0 >>> (0 &&& 31)).toInt8.toInt32))))] rfl ?_
    refine V_aload_n 20 B dX12_appendBytes_20 1 rfl ?_
    refine V_dup 21 B dX12_appendBytes_21 rfl ?_
    refine V_get 22 B gf_RX12_240 0 rfl rfl dX12_appendBytes_22 ?_
    refine V_iconst 25 B (v := 1) dX12_appendBytes_25 (by decide +kernel) ?_
    refine V_iadd 26 B (v := 20) dX12_appendBytes_26 (by decide +kernel) ?_
    refine V_put 27 B gp_RX12_240 0 rfl (Nat.le_of_ble_eq_true rfl) rfl rfl dX12_appendBytes_27 [(h0, oC 13 [.ref g0, .ref g1, .int 0, .ref g2, .ref h1, .int 20, .int 0, .int 0, .int (-1), .int 0, .int 0, .int 0, .long 0, .ref g3, .ref g4, .int 0, .int 0]), (h1, aB Y 1600 (upd (upd (upd (upd f0 16 (vp_nar .byte ((p0 >>> (24 &&& 31)).toInt8.toInt32))) 17 (vp_nar .byte ((p0 >>> (16 &&& 31)).toInt8.toInt32))) 18 (vp_nar .byte ((p0 >>> (8 &&& 31)).toInt8.toInt32))) 19 (vp_nar .byte ((p0 >>> (0 &&& 31)).toInt8.toInt32))))] rfl ?_
    refine V_iinc 30 B (v := (-8)) (lv2 := [(2, .int (-8)), (0, .ref h0), (1, .int p0)]) dX12_appendBytes_30 0 rfl (by decide +kernel) (by decide) rfl ?_
    refine V_goto 33 B 3 dX12_appendBytes_33 (by decide) ?_
    refine V_iload_n 3 B dX12_appendBytes_3 0 rfl ?_
    refine V_if_lt_t 4 B 36 dX12_appendBytes_4 (by decide) (by decide +kernel) ?_
    exact V_vret 36 B dX12_appendBytes_36 () trivial rfl)
theorem dX12_appendInput_0 : decode cX12_appendInput 0 = .ok (.aload_n 0, 1) := by decide +kernel
theorem dX12_appendInput_1 : decode cX12_appendInput 1 = .ok (.iconst 0, 1) := by decide +kernel
theorem dX12_appendInput_2 : decode cX12_appendInput 2 = .ok (.putfield 38, 3) := by decide +kernel
theorem dX12_appendInput_5 : decode cX12_appendInput 5 = .ok (.aload_n 0, 1) := by decide +kernel
theorem dX12_appendInput_6 : decode cX12_appendInput 6 = .ok (.getfield 240, 3) := by decide +kernel
theorem dX12_appendInput_9 : decode cX12_appendInput 9 = .ok (.bipush 20, 2) := by decide +kernel
theorem dX12_appendInput_11 : decode cX12_appendInput 11 = .ok (.iadd, 1) := by decide +kernel
theorem dX12_appendInput_12 : decode cX12_appendInput 12 = .ok (.sipush 1600, 3) := by decide +kernel
theorem dX12_appendInput_15 : decode cX12_appendInput 15 = .ok (.if_icmp .le 5, 3) := by decide +kernel
theorem dX12_appendInput_20 : decode cX12_appendInput 20 = .ok (.aload_n 0, 1) := by decide +kernel
theorem dX12_appendInput_21 : decode cX12_appendInput 21 = .ok (.iload_n 1, 1) := by decide +kernel
theorem dX12_appendInput_22 : decode cX12_appendInput 22 = .ok (.invokevirtual 243, 3) := by decide +kernel
theorem glV_RX12_243 : GLV RX12 243 yX12_appendBytes RX12 cX12_appendBytes 3 none 1 := ⟨⟨(mT9 177 rfl rfl), (mT9 179 rfl rfl), (mTs 71 rfl rfl), (mT1 13 rfl rfl), (mT9 180 rfl rfl)⟩, by decide +kernel⟩
theorem dX12_appendInput_25 : decode cX12_appendInput 25 = .ok (.aload_n 0, 1) := by decide +kernel
theorem dX12_appendInput_26 : decode cX12_appendInput 26 = .ok (.iload_n 2, 1) := by decide +kernel
theorem dX12_appendInput_27 : decode cX12_appendInput 27 = .ok (.invokevirtual 243, 3) := by decide +kernel
theorem dX12_appendInput_30 : decode cX12_appendInput 30 = .ok (.aload_n 0, 1) := by decide +kernel
theorem dX12_appendInput_31 : decode cX12_appendInput 31 = .ok (.iload_n 3, 1) := by decide +kernel
theorem dX12_appendInput_32 : decode cX12_appendInput 32 = .ok (.invokevirtual 243, 3) := by decide +kernel
theorem dX12_appendInput_35 : decode cX12_appendInput 35 = .ok (.aload_n 0, 1) := by decide +kernel
theorem dX12_appendInput_36 : decode cX12_appendInput 36 = .ok (.iload 4, 2) := by decide +kernel
theorem dX12_appendInput_38 : decode cX12_appendInput 38 = .ok (.invokevirtual 243, 3) := by decide +kernel
theorem dX12_appendInput_41 : decode cX12_appendInput 41 = .ok (.aload_n 0, 1) := by decide +kernel
theorem dX12_appendInput_42 : decode cX12_appendInput 42 = .ok (.iload 5, 2) := by decide +kernel
theorem dX12_appendInput_44 : decode cX12_appendInput 44 = .ok (.invokevirtual 243, 3) := by decide +kernel
theorem dX12_appendInput_47 : decode cX12_appendInput 47 = .ok (.aload_n 0, 1) := by decide +kernel
theorem dX12_appendInput_48 : decode cX12_appendInput 48 = .ok (.getfield 240, 3) := by decide +kernel
theorem dX12_appendInput_51 : decode cX12_appendInput 51 = .ok (.ireturn, 1) := by decide +kernel
set_option maxRecDepth 100000 in
set_option maxHeartbeats 4000000 in
theorem mX12_appendInput_1 (l : Launch) (D : va_G) (Y : Nat → ClassId) (h0 : Nat) (g0 : Nat) (g1 : Nat) (g2 : Nat) (h1 : Nat) (g3 : Nat) (g4 : Nat) (p0 : Int32) (p1 : Int32) (p2 : Int32) (p3 : Int32) (p4 : Int32) (sz : Nat) : Met l yX12_appendInput (WSm yX12_appendInput cX12_appendInput 6 (some .int)) (mkR 1 0 0 22) (PreC D Y [.ref h0, .int p0, .int p1, .int p2, .int p3, .int p4] [(h0, oC 13 [.ref g0, .ref g1, .int 0, .ref g2, .ref h1, .int 0, .int 0, .int 0, .int (-1), .int 0, .int 0, .int 0, .long 0, .ref g3, .ref g4, .int 0, .int 0]), (h1, aB Y 1600 (fun _ => 0))] sz) (QI D (fun (r : Int32) (u : Unit) => 20 = r) (fun (_ : Unit) => [(h0, oC 13 [.ref g0, .ref g1, .int 0, .ref g2, .ref h1, .int 20, .int 0, .int 0, .int (-1), .int 0, .int 0, .int 0, .long 0, .ref g3, .ref g4, .int 0, .int 0]), (h1, aB Y 1600 (upd (upd (upd (upd (upd (upd (upd (upd (upd (upd (upd (upd (upd (upd (upd (upd (upd (upd (upd (upd (fun _ => 0) 0 (vp_nar .byte ((p0 >>> (24 &&& 31)).toInt8.toInt32))) 1 (vp_nar .byte ((p0 >>> (16 &&& 31)).toInt8.toInt32))) 2 (vp_nar .byte ((p0 >>> (8 &&& 31)).toInt8.toInt32))) 3 (vp_nar .byte ((p0 >>> (0 &&& 31)).toInt8.toInt32))) 4 (vp_nar .byte ((p1 >>> (24 &&& 31)).toInt8.toInt32))) 5 (vp_nar .byte ((p1 >>> (16 &&& 31)).toInt8.toInt32))) 6 (vp_nar .byte ((p1 >>> (8 &&& 31)).toInt8.toInt32))) 7 (vp_nar .byte ((p1 >>> (0 &&& 31)).toInt8.toInt32))) 8 (vp_nar .byte ((p2 >>> (24 &&& 31)).toInt8.toInt32))) 9 (vp_nar .byte ((p2 >>> (16 &&& 31)).toInt8.toInt32))) 10 (vp_nar .byte ((p2 >>> (8 &&& 31)).toInt8.toInt32))) 11 (vp_nar .byte ((p2 >>> (0 &&& 31)).toInt8.toInt32))) 12 (vp_nar .byte ((p3 >>> (24 &&& 31)).toInt8.toInt32))) 13 (vp_nar .byte ((p3 >>> (16 &&& 31)).toInt8.toInt32))) 14 (vp_nar .byte ((p3 >>> (8 &&& 31)).toInt8.toInt32))) 15 (vp_nar .byte ((p3 >>> (0 &&& 31)).toInt8.toInt32))) 16 (vp_nar .byte ((p4 >>> (24 &&& 31)).toInt8.toInt32))) 17 (vp_nar .byte ((p4 >>> (16 &&& 31)).toInt8.toInt32))) 18 (vp_nar .byte ((p4 >>> (8 &&& 31)).toInt8.toInt32))) 19 (vp_nar .byte ((p4 >>> (0 &&& 31)).toInt8.toInt32))))]) (va_A [(h0, oC 13 [.ref g0, .ref g1, .int 0, .ref g2, .ref h1, .int 0, .int 0, .int 0, .int (-1), .int 0, .int 0, .int 0, .long 0, .ref g3, .ref g4, .int 0, .int 0]), (h1, aB Y 1600 (fun _ => 0))] sz)) 0 0 (va_A [(h0, oC 13 [.ref g0, .ref g1, .int 0, .ref g2, .ref h1, .int 0, .int 0, .int 0, .int (-1), .int 0, .int 0, .int 0, .long 0, .ref g3, .ref g4, .int 0, .int 0]), (h1, aB Y 1600 (fun _ => 0))] sz) :=
  met_of (by decide +kernel) (Nat.le_of_ble_eq_true rfl) (fun p e s m args below meth c B hin hsz => by
    have B : VB p s m args meth c D Y (va_A [(h0, oC 13 [.ref g0, .ref g1, .int 0, .ref g2, .ref h1, .int 0, .int 0, .int 0, .int (-1), .int 0, .int 0, .int 0, .long 0, .ref g3, .ref g4, .int 0, .int 0]), (h1, aB Y 1600 (fun _ => 0))] sz) cX12_appendInput 6 RX12 (some .int) := B
    refine V_aload_n 0 B dX12_appendInput_0 0 rfl ?_
    refine V_iconst 1 B (v := 0) dX12_appendInput_1 (by decide +kernel) ?_
    refine V_put 2 B gp_RX12_38 0 rfl (Nat.le_of_ble_eq_true rfl) rfl rfl dX12_appendInput_2 [(h0, oC 13 [.ref g0, .ref g1, .int 0, .ref g2, .ref h1, .int 0, .int 0, .int 0, .int (-1), .int 0, .int 0, .int 0, .long 0, .ref g3, .ref g4, .int 0, .int 0]), (h1, aB Y 1600 (fun _ => 0))] rfl ?_
    refine V_aload_n 5 B dX12_appendInput_5 0 rfl ?_
    refine V_get 6 B gf_RX12_240 0 rfl rfl dX12_appendInput_6 ?_
    refine V_bipush 9 B (v := 20) dX12_appendInput_9 (by decide +kernel) ?_
    refine V_iadd 11 B (v := 20) dX12_appendInput_11 (by decide +kernel) ?_
    refine V_sipush 12 B (v := 1600) dX12_appendInput_12 (by decide +kernel) ?_
    refine V_icmp_le_t 15 B 20 dX12_appendInput_15 (by decide) (by decide +kernel) ?_
    refine V_aload_n 20 B dX12_appendInput_20 0 rfl ?_
    refine V_iload_n 21 B dX12_appendInput_21 1 rfl ?_
    refine V_cvv 22 B (st := []) (As := [.int p0]) (fun sz => mX12_appendBytes_1 l D Y (h0) (g0) (g1) (g2) (h1) (g3) (g4) (p0) sz) glV_RX12_243 ⟨rfl, rfl⟩ ⟨(Nat.le_of_ble_eq_true rfl), (Nat.le_of_ble_eq_true rfl)⟩ ⟨(Nat.le_of_ble_eq_true rfl), (Nat.le_of_ble_eq_true rfl)⟩ [0, 0] rfl 13 0 rfl rfl rfl rfl (Nat.le_of_ble_eq_true rfl) rfl (fun _ _ => rfl) dX12_appendInput_22 (fun u0 w0 => ?_)
    refine V_ws [(h0, oC 13 [.ref g0, .ref g1, .int 0, .ref g2, .ref h1, .int 4, .int 0, .int 0, .int (-1), .int 0, .int 0, .int 0, .long 0, .ref g3, .ref g4, .int 0, .int 0]), (h1, aB Y 1600 (upd (upd (upd (upd (fun _ => 0) 0 (vp_nar .byte ((p0 >>> (24 &&& 31)).toInt8.toInt32))) 1 (vp_nar .byte ((p0 >>> (16 &&& 31)).toInt8.toInt32))) 2 (vp_nar .byte ((p0 >>> (8 &&& 31)).toInt8.toInt32))) 3 (vp_nar .byte ((p0 >>> (0 &&& 31)).toInt8.toInt32))))] rfl ?_
    refine V_aload_n 25 B dX12_appendInput_25 0 rfl ?_
    refine V_iload_n 26 B dX12_appendInput_26 2 rfl ?_
    refine V_cvv 27 B (st := []) (As := [.int p1]) (fun sz => mX12_appendBytes_2 l D Y (h0) (g0) (g1) (g2) (h1) (g3) (g4) (p1) ((upd (upd (upd (upd (fun _ => 0) 0 (vp_nar .byte ((p0 >>> (24 &&& 31)).toInt8.toInt32))) 1 (vp_nar .byte ((p0 >>> (16 &&& 31)).toInt8.toInt32))) 2 (vp_nar .byte ((p0 >>> (8 &&& 31)).toInt8.toInt32))) 3 (vp_nar .byte ((p0 >>> (0 &&& 31)).toInt8.toInt32)))) sz) glV_RX12_243 ⟨rfl, rfl⟩ ⟨(Nat.le_of_ble_eq_true rfl), (Nat.le_of_ble_eq_true rfl)⟩ ⟨(Nat.le_of_ble_eq_true rfl), (Nat.le_of_ble_eq_true rfl)⟩ [0, 0] rfl 13 0 rfl rfl rfl rfl (Nat.le_of_ble_eq_true rfl) rfl (fun _ _ => rfl) dX12_appendInput_27 (fun u1 w1 => ?_)
    refine V_ws [(h0, oC 13 [.ref g0, .ref g1, .int 0, .ref g2, .ref h1, .int 8, .int 0, .int 0, .int (-1), .int 0, .int 0, .int 0, .long 0, .ref g3, .ref g4, .int 0, .int 0]), (h1, aB Y 1600 (upd (upd (upd (upd (upd (upd (upd (upd (fun _ => 0) 0 (vp_nar .byte ((p0 >>> (24 &&& 31)).toInt8.toInt32))) 1 (vp_nar .byte ((p0 >>> (16 &&& 31)).toInt8.toInt32))) 2 (vp_nar .byte ((p0 >>> (8 &&& 31)).toInt8.toInt32))) 3 (vp_nar .byte ((p0 >>> (0 &&& 31)).toInt8.toInt32))) 4 (vp_nar .byte ((p1 >>> (24 &&& 31)).toInt8.toInt32))) 5 (vp_nar .byte ((p1 >>> (16 &&& 31)).toInt8.toInt32))) 6 (vp_nar .byte ((p1 >>> (8 &&& 31)).toInt8.toInt32))) 7 (vp_nar .byte ((p1 >>> (0 &&& 31)).toInt8.toInt32))))] rfl ?_
    refine V_aload_n 30 B dX12_appendInput_30 0 rfl ?_
    refine V_iload_n 31 B dX12_appendInput_31 3 rfl ?_
    refine V_cvv 32 B (st := []) (As := [.int p2]) (fun sz => mX12_appendBytes_3 l D Y (h0) (g0) (g1) (g2) (h1) (g3) (g4) (p2) ((upd (upd (upd (upd (upd (upd (upd (upd (fun _ => 0) 0 (vp_nar .byte ((p0 >>> (24 &&& 31)).toInt8.toInt32))) 1 (vp_nar .byte ((p0 >>> (16 &&& 31)).toInt8.toInt32))) 2 (vp_nar .byte ((p0 >>> (8 &&& 31)).toInt8.toInt32))) 3 (vp_nar .byte ((p0 >>> (0 &&& 31)).toInt8.toInt32))) 4 (vp_nar .byte ((p1 >>> (24 &&& 31)).toInt8.toInt32))) 5 (vp_nar .byte ((p1 >>> (16 &&& 31)).toInt8.toInt32))) 6 (vp_nar .byte ((p1 >>> (8 &&& 31)).toInt8.toInt32))) 7 (vp_nar .byte ((p1 >>> (0 &&& 31)).toInt8.toInt32)))) sz) glV_RX12_243 ⟨rfl, rfl⟩ ⟨(Nat.le_of_ble_eq_true rfl), (Nat.le_of_ble_eq_true rfl)⟩ ⟨(Nat.le_of_ble_eq_true rfl), (Nat.le_of_ble_eq_true rfl)⟩ [0, 0] rfl 13 0 rfl rfl rfl rfl (Nat.le_of_ble_eq_true rfl) rfl (fun _ _ => rfl) dX12_appendInput_32 (fun u2 w2 => ?_)
    refine V_ws [(h0, oC 13 [.ref g0, .ref g1, .int 0, .ref g2, .ref h1, .int 12, .int 0, .int 0, .int (-1), .int 0, .int 0, .int 0, .long 0, .ref g3, .ref g4, .int 0, .int 0]), (h1, aB Y 1600 (upd (upd (upd (upd (upd (upd (upd (upd (upd (upd (upd (upd (fun _ => 0) 0 (vp_nar .byte ((p0 >>> (24 &&& 31)).toInt8.toInt32))) 1 (vp_nar .byte ((p0 >>> (16 &&& 31)).toInt8.toInt32))) 2 (vp_nar .byte ((p0 >>> (8 &&& 31)).toInt8.toInt32))) 3 (vp_nar .byte ((p0 >>> (0 &&& 31)).toInt8.toInt32))) 4 (vp_nar .byte ((p1 >>> (24 &&& 31)).toInt8.toInt32))) 5 (vp_nar .byte ((p1 >>> (16 &&& 31)).toInt8.toInt32))) 6 (vp_nar .byte ((p1 >>> (8 &&& 31)).toInt8.toInt32))) 7 (vp_nar .byte ((p1 >>> (0 &&& 31)).toInt8.toInt32))) 8 (vp_nar .byte ((p2 >>> (24 &&& 31)).toInt8.toInt32))) 9 (vp_nar .byte ((p2 >>> (16 &&& 31)).toInt8.toInt32))) 10 (vp_nar .byte ((p2 >>> (8 &&& 31)).toInt8.toInt32))) 11 (vp_nar .byte ((p2 >>> (0 &&& 31)).toInt8.toInt32))))] rfl ?_
    refine V_aload_n 35 B dX12_appendInput_35 0 rfl ?_
    refine V_iload 36 B dX12_appendInput_36 4 rfl ?_
    refine V_cvv 38 B (st := []) (As := [.int p3]) (fun sz => mX12_appendBytes_4 l D Y (h0) (g0) (g1) (g2) (h1) (g3) (g4) (p3) ((upd (upd (upd (upd (upd (upd (upd (upd (upd (upd (upd (upd (fun _ => 0) 0 (vp_nar .byte ((p0 >>> (24 &&& 31)).toInt8.toInt32))) 1 (vp_nar .byte ((p0 >>> (16 &&& 31)).toInt8.toInt32))) 2 (vp_nar .byte ((p0 >>> (8 &&& 31)).toInt8.toInt32))) 3 (vp_nar .byte ((p0 >>> (0 &&& 31)).toInt8.toInt32))) 4 (vp_nar .byte ((p1 >>> (24 &&& 31)).toInt8.toInt32))) 5 (vp_nar .byte ((p1 >>> (16 &&& 31)).toInt8.toInt32))) 6 (vp_nar .byte ((p1 >>> (8 &&& 31)).toInt8.toInt32))) 7 (vp_nar .byte ((p1 >>> (0 &&& 31)).toInt8.toInt32))) 8 (vp_nar .byte ((p2 >>> (24 &&& 31)).toInt8.toInt32))) 9 (vp_nar .byte ((p2 >>> (16 &&& 31)).toInt8.toInt32))) 10 (vp_nar .byte ((p2 >>> (8 &&& 31)).toInt8.toInt32))) 11 (vp_nar .byte ((p2 >>> (0 &&& 31)).toInt8.toInt32)))) sz) glV_RX12_243 ⟨rfl, rfl⟩ ⟨(Nat.le_of_ble_eq_true rfl), (Nat.le_of_ble_eq_true rfl)⟩ ⟨(Nat.le_of_ble_eq_true rfl), (Nat.le_of_ble_eq_true rfl)⟩ [0, 0] rfl 13 0 rfl rfl rfl rfl (Nat.le_of_ble_eq_true rfl) rfl (fun _ _ => rfl) dX12_appendInput_38 (fun u3 w3 => ?_)
    refine V_ws [(h0, oC 13 [.ref g0, .ref g1, .int 0, .ref g2, .ref h1, .int 16, .int 0, .int 0, .int (-1), .int 0, .int 0, .int 0, .long 0, .ref g3, .ref g4, .int 0, .int 0]), (h1, aB Y 1600 (upd (upd (upd (upd (upd (upd (upd (upd (upd (upd (upd (upd (upd (upd (upd (upd (fun _ => 0) 0 (vp_nar .byte ((p0 >>> (24 &&& 31)).toInt8.toInt32))) 1 (vp_nar .byte ((p0 >>> (16 &&& 31)).toInt8.toInt32))) 2 (vp_nar .byte ((p0 >>> (8 &&& 31)).toInt8.toInt32))) 3 (vp_nar .byte ((p0 >>> (0 &&& 31)).toInt8.toInt32))) 4 (vp_nar .byte ((p1 >>> (24 &&& 31)).toInt8.toInt32))) 5 (vp_nar .byte ((p1 >>> (16 &&& 31)).toInt8.toInt32))) 6 (vp_nar .byte ((p1 >>> (8 &&& 31)).toInt8.toInt32))) 7 (vp_nar .byte ((p1 >>> (0 &&& 31)).toInt8.toInt32))) 8 (vp_nar .byte ((p2 >>> (24 &&& 31)).toInt8.toInt32))) 9 (vp_nar .byte ((p2 >>> (16 &&& 31)).toInt8.toInt32))) 10 (vp_nar .byte ((p2 >>> (8 &&& 31)).toInt8.toInt32))) 11 (vp_nar .byte ((p2 >>> (0 &&& 31)).toInt8.toInt32))) 12 (vp_nar .byte ((p3 >>> (24 &&& 31)).toInt8.toInt32))) 13 (vp_nar .byte ((p3 >>> (16 &&& 31)).toInt8.toInt32))) 14 (vp_nar .byte ((p3 >>> (8 &&& 31)).toInt8.toInt32))) 15 (vp_nar .byte ((p3 >>> (0 &&& 31)).toInt8.toInt32))))] rfl ?_
    refine V_aload_n 41 B dX12_appendInput_41 0 rfl ?_
    refine V_iload 42 B dX12_appendInput_42 5 rfl ?_
    refine V_cvv 44 B (st := []) (As := [.int p4]) (fun sz => mX12_appendBytes_5 l D Y (h0) (g0) (g1) (g2) (h1) (g3) (g4) (p4) ((upd (upd (upd (upd (upd (upd (upd (upd (upd (upd (upd (upd (upd (upd (upd (upd (fun _ => 0) 0 (vp_nar .byte ((p0 >>> (24 &&& 31)).toInt8.toInt32))) 1 (vp_nar .byte ((p0 >>> (16 &&& 31)).toInt8.toInt32))) 2 (vp_nar .byte ((p0 >>> (8 &&& 31)).toInt8.toInt32))) 3 (vp_nar .byte ((p0 >>> (0 &&& 31)).toInt8.toInt32))) 4 (vp_nar .byte ((p1 >>> (24 &&& 31)).toInt8.toInt32))) 5 (vp_nar .byte ((p1 >>> (16 &&& 31)).toInt8.toInt32))) 6 (vp_nar .byte ((p1 >>> (8 &&& 31)).toInt8.toInt32))) 7 (vp_nar .byte ((p1 >>> (0 &&& 31)).toInt8.toInt32))) 8 (vp_nar .byte ((p2 >>> (24 &&& 31)).toInt8.toInt32))) 9 (vp_nar .byte ((p2 >>> (16 &&& 31)).toInt8.toInt32))) 10 (vp_nar .byte ((p2 >>> (8 &&& 31)).toInt8.toInt32))) 11 (vp_nar .byte ((p2 >>> (0 &&& 31)).toInt8.toInt32))) 12 (vp_nar .byte ((p3 >>> (24 &&& 31)).toInt8.toInt32))) 13 (vp_nar .byte ((p3 >>> (16 &&& 31)).toInt8.toInt32))) 14 (vp_nar .byte ((p3 >>> (8 &&& 31)).toInt8.toInt32))) 15 (vp_nar .byte ((p3 >>> (0 &&& 31)).toInt8.toInt32)))) sz) glV_RX12_243 ⟨rfl, rfl⟩ ⟨(Nat.le_of_ble_eq_true rfl), (Nat.le_of_ble_eq_true rfl)⟩ ⟨(Nat.le_of_ble_eq_true rfl), (Nat.le_of_ble_eq_true rfl)⟩ [0, 0] rfl 13 0 rfl rfl rfl rfl (Nat.le_of_ble_eq_true rfl) rfl (fun _ _ => rfl) dX12_appendInput_44 (fun u4 w4 => ?_)
    refine V_ws [(h0, oC 13 [.ref g0, .ref g1, .int 0, .ref g2, .ref h1, .int 20, .int 0, .int 0, .int (-1), .int 0, .int 0, .int 0, .long 0, .ref g3, .ref g4, .int 0, .int 0]), (h1, aB Y 1600 (upd (upd (upd (upd (upd (upd (upd (upd (upd (upd (upd (upd (upd (upd (upd (upd (upd (upd (upd (upd (fun _ => 0) 0 (vp_nar .byte ((p0 >>> (24 &&& 31)).toInt8.toInt32))) 1 (vp_nar .byte ((p0 >>> (16 &&& 31)).toInt8.toInt32))) 2 (vp_nar .byte ((p0 >>> (8 &&& 31)).toInt8.toInt32))) 3 (vp_nar .byte ((p0 >>> (0 &&& 31)).toInt8.toInt32))) 4 (vp_nar .byte ((p1 >>> (24 &&& 31)).toInt8.toInt32))) 5 (vp_nar .byte ((p1 >>> (16 &&& 31)).toInt8.toInt32))) 6 (vp_nar .byte ((p1 >>> (8 &&& 31)).toInt8.toInt32))) 7 (vp_nar .byte ((p1 >>> (0 &&& 31)).toInt8.toInt32))) 8 (vp_nar .byte ((p2 >>> (24 &&& 31)).toInt8.toInt32))) 9 (vp_nar .byte ((p2 >>> (16 &&& 31)).toInt8.toInt32))) 10 (vp_nar .byte ((p2 >>> (8 &&& 31)).toInt8.toInt32))) 11 (vp_nar .byte ((p2 >>> (0 &&& 31)).toInt8.toInt32))) 12 (vp_nar .byte ((p3 >>> (24 &&& 31)).toInt8.toInt32))) 13 (vp_nar .byte ((p3 >>> (16 &&& 31)).toInt8.toInt32))) 14 (vp_nar .byte ((p3 >>> (8 &&& 31)).toInt8.toInt32))) 15 (vp_nar .byte ((p3 >>> (0 &&& 31)).toInt8.toInt32))) 16 (vp_nar .byte ((p4 >>> (24 &&& 31)).toInt8.toInt32))) 17 (vp_nar .byte ((p4 >>> (16 &&& 31)).toInt8.toInt32))) 18 (vp_nar .byte ((p4 >>> (8 &&& 31)).toInt8.toInt32))) 19 (vp_nar .byte ((p4 >>> (0 &&& 31)).toInt8.toInt32))))] rfl ?_
    refine V_aload_n 47 B dX12_appendInput_47 0 rfl ?_
    refine V_get 48 B gf_RX12_240 0 rfl rfl dX12_appendInput_48 ?_
    exact V_iret 51 B dX12_appendInput_51 () rfl rfl)
theorem dX12_truncateInput_0 : decode cX12_truncateInput 0 = .ok (.aload_n 0, 1) := by decide +kernel
theorem dX12_truncateInput_1 : decode cX12_truncateInput 1 = .ok (.iconst 0, 1) := by decide +kernel
theorem dX12_truncateInput_2 : decode cX12_truncateInput 2 = .ok (.putfield 38, 3) := by decide +kernel
theorem dX12_truncateInput_5 : decode cX12_truncateInput 5 = .ok (.iload_n 1, 1) := by decide +kernel
theorem dX12_truncateInput_6 : decode cX12_truncateInput 6 = .ok (.i2l, 1) := by decide +kernel
theorem dX12_truncateInput_7 : decode cX12_truncateInput 7 = .ok (.lconst 0, 1) := by decide +kernel
theorem dX12_truncateInput_8 : decode cX12_truncateInput 8 = .ok (.aload_n 0, 1) := by decide +kernel
theorem dX12_truncateInput_9 : decode cX12_truncateInput 9 = .ok (.getfield 240, 3) := by decide +kernel
theorem dX12_truncateInput_12 : decode cX12_truncateInput 12 = .ok (.i2l, 1) := by decide +kernel
theorem dX12_truncateInput_13 : decode cX12_truncateInput 13 = .ok (.invokestatic 41, 3) := by decide +kernel
theorem dX12_truncateInput_16 : decode cX12_truncateInput 16 = .ok (.ifCond .ne 5, 3) := by decide +kernel
theorem dX12_truncateInput_21 : decode cX12_truncateInput 21 = .ok (.aload_n 0, 1) := by decide +kernel
theorem dX12_truncateInput_22 : decode cX12_truncateInput 22 = .ok (.iload_n 1, 1) := by decide +kernel
theorem dX12_truncateInput_23 : decode cX12_truncateInput 23 = .ok (.putfield 240, 3) := by decide +kernel
theorem dX12_truncateInput_26 : decode cX12_truncateInput 26 = .ok (.iload_n 1, 1) := by decide +kernel
theorem dX12_truncateInput_27 : decode cX12_truncateInput 27 = .ok (.ireturn, 1) := by decide +kernel
theorem dX12_truncateInput_19 : decode cX12_truncateInput 19 = .ok (.iconst (-1), 1) := by decide +kernel
theorem dX12_truncateInput_20 : decode cX12_truncateInput 20 = .ok (.ireturn, 1) := by decide +kernel
set_option maxRecDepth 100000 in
set_option maxHeartbeats 4000000 in
theorem mX12_truncateInput_1 (l : Launch) (D : va_G) (Y : Nat → ClassId) (h0 : Nat) (g0 : Nat) (g1 : Nat) (g2 : Nat) (g3 : Nat) (g4 : Nat) (g5 : Nat) (p0 : Int32) (sz : Nat) : Met l yX12_truncateInput (WSm yX12_truncateInput cX12_truncateInput 2 (some .int)) (mkR 1 0 0 25) (PreC D Y [.ref h0, .int p0] [(h0, oC 13 [.ref g0, .ref g1, .int 0, .ref g2, .ref g3, .int 0, .int 0, .int 0, .int (-1), .int 0, .int 0, .int 0, .long 0, .ref g4, .ref g5, .int 0, .int 0])] sz) (QI D (fun (r : Int32) (u : Unit) => (p0 = 0 ∧ 0 = r) ∨ (p0 < 0 ∧ (-1) = r) ∨ (0 < p0 ∧ (-1) = r)) (fun (_ : Unit) => [(h0, oC 13 [.ref g0, .ref g1, .int 0, .ref g2, .ref g3, .int 0, .int 0, .int 0, .int (-1), .int 0, .int 0, .int 0, .long 0, .ref g4, .ref g5, .int 0, .int 0])]) (va_A [(h0, oC 13 [.ref g0, .ref g1, .int 0, .ref g2, .ref g3, .int 0, .int 0, .int 0, .int (-1), .int 0, .int 0, .int 0, .long 0, .ref g4, .ref g5, .int 0, .int 0])] sz)) 0 0 (va_A [(h0, oC 13 [.ref g0, .ref g1, .int 0, .ref g2, .ref g3, .int 0, .int 0, .int 0, .int (-1), .int 0, .int 0, .int 0, .long 0, .ref g4, .ref g5, .int 0, .int 0])] sz) :=
  met_of (by decide +kernel) (Nat.le_of_ble_eq_true rfl) (fun p e s m args below meth c B hin hsz => by
    have B : VB p s m args meth c D Y (va_A [(h0, oC 13 [.ref g0, .ref g1, .int 0, .ref g2, .ref g3, .int 0, .int 0, .int 0, .int (-1), .int 0, .int 0, .int 0, .long 0, .ref g4, .ref g5, .int 0, .int 0])] sz) cX12_truncateInput 2 RX12 (some .int) := B
    refine V_aload_n 0 B dX12_truncateInput_0 0 rfl ?_
    refine V_iconst 1 B (v := 0) dX12_truncateInput_1 (by decide +kernel) ?_
    refine V_put 2 B gp_RX12_38 0 rfl (Nat.le_of_ble_eq_true rfl) rfl rfl dX12_truncateInput_2 [(h0, oC 13 [.ref g0, .ref g1, .int 0, .ref g2, .ref g3, .int 0, .int 0, .int 0, .int (-1), .int 0, .int 0, .int 0, .long 0, .ref g4, .ref g5, .int 0, .int 0])] rfl ?_
    refine V_iload_n 5 B dX12_truncateInput_5 1 rfl ?_
    refine V_i2l 6 B dX12_truncateInput_6 rfl ?_
    refine V_lconst 7 B (v := 0) dX12_truncateInput_7 (by decide +kernel) ?_
    refine V_aload_n 8 B dX12_truncateInput_8 0 rfl ?_
    refine V_get 9 B gf_RX12_240 0 rfl rfl dX12_truncateInput_9 ?_
    refine V_i2l 12 B (v := 0) dX12_truncateInput_12 (by decide +kernel) ?_
    refine V_csi 13 B (st := []) (As := [.long p0.toInt64, .long 0, .long 0]) (fun sz => mX12_inRange_m l D Y (p0) (0) (0) (0) (0) (by decide +kernel) (by decide +kernel) sz) glS_RX12_41 ⟨rfl, rfl⟩ ⟨(Nat.le_of_ble_eq_true rfl), (Nat.le_of_ble_eq_true rfl)⟩ ⟨(Nat.le_of_ble_eq_true rfl), (Nat.le_of_ble_eq_true rfl)⟩ [] rfl rfl (Nat.le_of_ble_eq_true rfl) rfl (fun _ _ _ => rfl) dX12_truncateInput_13 (fun r0 u0 w0 => ?_)
    rcases w0 with ⟨k1, k2, rfl⟩ | ⟨k3, rfl⟩ | ⟨k4, rfl⟩
    ·
      refine V_ws [(h0, oC 13 [.ref g0, .ref g1, .int 0, .ref g2, .ref g3, .int 0, .int 0, .int 0, .int (-1), .int 0, .int 0, .int 0, .long 0, .ref g4, .ref g5, .int 0, .int 0])] rfl ?_
      obtain rfl : p0 = 0 := q_eq (b_nlt k1 (n := 0) (by decide +kernel)) (b_ngt k2 (n := 0) (by decide +kernel)) (by decide +kernel)
      refine V_if_ne_t 16 B 21 dX12_truncateInput_16 (by decide) (by decide +kernel) ?_
      refine V_aload_n 21 B dX12_truncateInput_21 0 rfl ?_
      refine V_iload_n 22 B dX12_truncateInput_22 1 rfl ?_
      refine V_put 23 B gp_RX12_240 0 rfl (Nat.le_of_ble_eq_true rfl) rfl rfl dX12_truncateInput_23 [(h0, oC 13 [.ref g0, .ref g1, .int 0, .ref g2, .ref g3, .int 0, .int 0, .int 0, .int (-1), .int 0, .int 0, .int 0, .long 0, .ref g4, .ref g5, .int 0, .int 0])] rfl ?_
      refine V_iload_n 26 B dX12_truncateInput_26 1 rfl ?_
      exact V_iret 27 B dX12_truncateInput_27 () (Or.inl ⟨rfl, rfl⟩) rfl
    ·
      refine V_ws [(h0, oC 13 [.ref g0, .ref g1, .int 0, .ref g2, .ref g3, .int 0, .int 0, .int 0, .int (-1), .int 0, .int 0, .int 0, .long 0, .ref g4, .ref g5, .int 0, .int 0])] rfl ?_
      refine V_if_ne_f 16 B 21 dX12_truncateInput_16 (by decide) (by decide +kernel) ?_
      refine V_iconst 19 B (v := (-1)) dX12_truncateInput_19 (by decide +kernel) ?_
      exact V_iret 20 B dX12_truncateInput_20 () (Or.inr (Or.inl ⟨k3, rfl⟩)) rfl
    ·
      refine V_ws [(h0, oC 13 [.ref g0, .ref g1, .int 0, .ref g2, .ref g3, .int 0, .int 0, .int 0, .int (-1), .int 0, .int 0, .int 0, .long 0, .ref g4, .ref g5, .int 0, .int 0])] rfl ?_
      refine V_if_ne_f 16 B 21 dX12_truncateInput_16 (by decide) (by decide +kernel) ?_
      refine V_iconst 19 B (v := (-1)) dX12_truncateInput_19 (by decide +kernel) ?_
      exact V_iret 20 B dX12_truncateInput_20 () (Or.inr (Or.inr ⟨k4, rfl⟩)) rfl)
theorem dX12_errorCode_0 : decode cX12_errorCode 0 = .ok (.aload_n 0, 1) := by decide +kernel
theorem dX12_errorCode_1 : decode cX12_errorCode 1 = .ok (.iconst 0, 1) := by decide +kernel
theorem dX12_errorCode_2 : decode cX12_errorCode 2 = .ok (.putfield 38, 3) := by decide +kernel
theorem dX12_errorCode_5 : decode cX12_errorCode 5 = .ok (.aload_n 0, 1) := by decide +kernel
theorem dX12_errorCode_6 : decode cX12_errorCode 6 = .ok (.getfield 246, 3) := by decide +kernel
theorem gf_RX12_246 : GF RX12 246 13 7 := ⟨RX12, TX12, 17, rfl, inw_X12, Nat.le_of_ble_eq_true rfl, (mT7 144 rfl rfl)⟩
theorem dX12_errorCode_9 : decode cX12_errorCode 9 = .ok (.ireturn, 1) := by decide +kernel
set_option maxRecDepth 100000 in
set_option maxHeartbeats 4000000 in
theorem mX12_errorCode_1 (l : Launch) (D : va_G) (Y : Nat → ClassId) (h0 : Nat) (g0 : Nat) (g1 : Nat) (g2 : Nat) (g3 : Nat) (g4 : Nat) (g5 : Nat) (sz : Nat) : Met l yX12_errorCode (WSm yX12_errorCode cX12_errorCode 1 (some .int)) (mkR 0 0 0 0) (PreC D Y [.ref h0] [(h0, oC 13 [.ref g0, .ref g1, .int 0, .ref g2, .ref g3, .int 0, .int 0, .int 0, .int (-1), .int 0, .int 0, .int 0, .long 0, .ref g4, .ref g5, .int 0, .int 0])] sz) (QI D (fun (r : Int32) (u : Unit) => 0 = r) (fun (_ : Unit) => [(h0, oC 13 [.ref g0, .ref g1, .int 0, .ref g2, .ref g3, .int 0, .int 0, .int 0, .int (-1), .int 0, .int 0, .int 0, .long 0, .ref g4, .ref g5, .int 0, .int 0])]) (va_A [(h0, oC 13 [.ref g0, .ref g1, .int 0, .ref g2, .ref g3, .int 0, .int 0, .int 0, .int (-1), .int 0, .int 0, .int 0, .long 0, .ref g4, .ref g5, .int 0, .int 0])] sz)) 0 0 (va_A [(h0, oC 13 [.ref g0, .ref g1, .int 0, .ref g2, .ref g3, .int 0, .int 0, .int 0, .int (-1), .int 0, .int 0, .int 0, .long 0, .ref g4, .ref g5, .int 0, .int 0])] sz) :=
  met_of (by decide +kernel) (Nat.le_of_ble_eq_true rfl) (fun p e s m args below meth c B hin hsz => by
    have B : VB p s m args meth c D Y (va_A [(h0, oC 13 [.ref g0, .ref g1, .int 0, .ref g2, .ref g3, .int 0, .int 0, .int 0, .int (-1), .int 0, .int 0, .int 0, .long 0, .ref g4, .ref g5, .int 0, .int 0])] sz) cX12_errorCode 1 RX12 (some .int) := B
    refine V_aload_n 0 B dX12_errorCode_0 0 rfl ?_
    refine V_iconst 1 B (v := 0) dX12_errorCode_1 (by decide +kernel) ?_
    refine V_put 2 B gp_RX12_38 0 rfl (Nat.le_of_ble_eq_true rfl) rfl rfl dX12_errorCode_2 [(h0, oC 13 [.ref g0, .ref g1, .int 0, .ref g2, .ref g3, .int 0, .int 0, .int 0, .int (-1), .int 0, .int 0, .int 0, .long 0, .ref g4, .ref g5, .int 0, .int 0])] rfl ?_
    refine V_aload_n 5 B dX12_errorCode_5 0 rfl ?_
    refine V_get 6 B gf_RX12_246 0 rfl rfl dX12_errorCode_6 ?_
    exact V_iret 9 B dX12_errorCode_9 () rfl rfl)
theorem dX12_errorPosition_0 : decode cX12_errorPosition 0 = .ok (.aload_n 0, 1) := by decide +kernel
theorem dX12_errorPosition_1 : decode cX12_errorPosition 1 = .ok (.iconst 0, 1) := by decide +kernel
theorem dX12_errorPosition_2 : decode cX12_errorPosition 2 = .ok (.putfield 38, 3) := by decide +kernel
theorem dX12_errorPosition_5 : decode cX12_errorPosition 5 = .ok (.aload_n 0, 1) := by decide +kernel
theorem dX12_errorPosition_6 : decode cX12_errorPosition 6 = .ok (.getfield 24, 3) := by decide +kernel
theorem gf_RX12_24 : GF RX12 24 13 8 := ⟨RX12, TX12, 17, rfl, inw_X12, Nat.le_of_ble_eq_true rfl, (mT7 145 rfl rfl)⟩
theorem dX12_errorPosition_9 : decode cX12_errorPosition 9 = .ok (.ireturn, 1) := by decide +kernel
set_option maxRecDepth 100000 in
set_option maxHeartbeats 4000000 in
theorem mX12_errorPosition_1 (l : Launch) (D : va_G) (Y : Nat → ClassId) (h0 : Nat) (g0 : Nat) (g1 : Nat) (g2 : Nat) (g3 : Nat) (g4 : Nat) (g5 : Nat) (sz : Nat) : Met l yX12_errorPosition (WSm yX12_errorPosition cX12_errorPosition 1 (some .int)) (mkR 0 0 0 0) (PreC D Y [.ref h0] [(h0, oC 13 [.ref g0, .ref g1, .int 0, .ref g2, .ref g3, .int 0, .int 0, .int 0, .int (-1), .int 0, .int 0, .int 0, .long 0, .ref g4, .ref g5, .int 0, .int 0])] sz) (QI D (fun (r : Int32) (u : Unit) => (-1) = r) (fun (_ : Unit) => [(h0, oC 13 [.ref g0, .ref g1, .int 0, .ref g2, .ref g3, .int 0, .int 0, .int 0, .int (-1), .int 0, .int 0, .int 0, .long 0, .ref g4, .ref g5, .int 0, .int 0])]) (va_A [(h0, oC 13 [.ref g0, .ref g1, .int 0, .ref g2, .ref g3, .int 0, .int 0, .int 0, .int (-1), .int 0, .int 0, .int 0, .long 0, .ref g4, .ref g5, .int 0, .int 0])] sz)) 0 0 (va_A [(h0, oC 13 [.ref g0, .ref g1, .int 0, .ref g2, .ref g3, .int 0, .int 0, .int 0, .int (-1), .int 0, .int 0, .int 0, .long 0, .ref g4, .ref g5, .int 0, .int 0])] sz) :=
  met_of (by decide +kernel) (Nat.le_of_ble_eq_true rfl) (fun p e s m args below meth c B hin hsz => by
    have B : VB p s m args meth c D Y (va_A [(h0, oC 13 [.ref g0, .ref g1, .int 0, .ref g2, .ref g3, .int 0, .int 0, .int 0, .int (-1), .int 0, .int 0, .int 0, .long 0, .ref g4, .ref g5, .int 0, .int 0])] sz) cX12_errorPosition 1 RX12 (some .int) := B
    refine V_aload_n 0 B dX12_errorPosition_0 0 rfl ?_
    refine V_iconst 1 B (v := 0) dX12_errorPosition_1 (by decide +kernel) ?_
    refine V_put 2 B gp_RX12_38 0 rfl (Nat.le_of_ble_eq_true rfl) rfl rfl dX12_errorPosition_2 [(h0, oC 13 [.ref g0, .ref g1, .int 0, .ref g2, .ref g3, .int 0, .int 0, .int 0, .int (-1), .int 0, .int 0, .int 0, .long 0, .ref g4, .ref g5, .int 0, .int 0])] rfl ?_
    refine V_aload_n 5 B dX12_errorPosition_5 0 rfl ?_
    refine V_get 6 B gf_RX12_24 0 rfl rfl dX12_errorPosition_6 ?_
    exact V_iret 9 B dX12_errorPosition_9 () rfl rfl)
theorem dX12_byteAt_0 : decode cX12_byteAt 0 = .ok (.iload_n 1, 1) := by decide +kernel
theorem dX12_byteAt_1 : decode cX12_byteAt 1 = .ok (.aload_n 0, 1) := by decide +kernel
theorem dX12_byteAt_2 : decode cX12_byteAt 2 = .ok (.getfield 240, 3) := by decide +kernel
theorem dX12_byteAt_5 : decode cX12_byteAt 5 = .ok (.if_icmp .ge 16, 3) := by decide +kernel
theorem dX12_byteAt_21 : decode cX12_byteAt 21 = .ok (.iconst (-1), 1) := by decide +kernel
theorem dX12_byteAt_22 : decode cX12_byteAt 22 = .ok (.ireturn, 1) := by decide +kernel
set_option maxRecDepth 100000 in
set_option maxHeartbeats 4000000 in
theorem mX12_byteAt_1 (l : Launch) (D : va_G) (Y : Nat → ClassId) (h0 : Nat) (g0 : Nat) (g1 : Nat) (g2 : Nat) (g3 : Nat) (g4 : Nat) (g5 : Nat) (sz : Nat) : Met l yX12_byteAt (WSm yX12_byteAt cX12_byteAt 2 (some .int)) (mkR 0 0 0 0) (PreC D Y [.ref h0, .int 0] [(h0, oC 13 [.ref g0, .ref g1, .int 0, .ref g2, .ref g3, .int 0, .int 0, .int 0, .int (-1), .int 0, .int 0, .int 0, .long 0, .ref g4, .ref g5, .int 0, .int 0])] sz) (QI D (fun (r : Int32) (u : Unit) => (-1) = r) (fun (_ : Unit) => [(h0, oC 13 [.ref g0, .ref g1, .int 0, .ref g2, .ref g3, .int 0, .int 0, .int 0, .int (-1), .int 0, .int 0, .int 0, .long 0, .ref g4, .ref g5, .int 0, .int 0])]) (va_A [(h0, oC 13 [.ref g0, .ref g1, .int 0, .ref g2, .ref g3, .int 0, .int 0, .int 0, .int (-1), .int 0, .int 0, .int 0, .long 0, .ref g4, .ref g5, .int 0, .int 0])] sz)) 0 0 (va_A [(h0, oC 13 [.ref g0, .ref g1, .int 0, .ref g2, .ref g3, .int 0, .int 0, .int 0, .int (-1), .int 0, .int 0, .int 0, .long 0, .ref g4, .ref g5, .int 0, .int 0])] sz) :=
  met_of (by decide +kernel) (Nat.le_of_ble_eq_true rfl) (fun p e s m args below meth c B hin hsz => by
    have B : VB p s m args meth c D Y (va_A [(h0, oC 13 [.ref g0, .ref g1, .int 0, .ref g2, .ref g3, .int 0, .int 0, .int 0, .int (-1), .int 0, .int 0, .int 0, .long 0, .ref g4, .ref g5, .int 0, .int 0])] sz) cX12_byteAt 2 RX12 (some .int) := B
    refine V_iload_n 0 B dX12_byteAt_0 1 rfl ?_
    refine V_aload_n 1 B dX12_byteAt_1 0 rfl ?_
    refine V_get 2 B gf_RX12_240 0 rfl rfl dX12_byteAt_2 ?_
    refine V_icmp_ge_t 5 B 21 dX12_byteAt_5 (by decide) (by decide +kernel) ?_
    refine V_iconst 21 B (v := (-1)) dX12_byteAt_21 (by decide +kernel) ?_
    exact V_iret 22 B dX12_byteAt_22 () rfl rfl)
theorem dX12_advance_0 : decode cX12_advance 0 = .ok (.aload_n 0, 1) := by decide +kernel
theorem dX12_advance_1 : decode cX12_advance 1 = .ok (.aload_n 0, 1) := by decide +kernel
theorem dX12_advance_2 : decode cX12_advance 2 = .ok (.getfield 264, 3) := by decide +kernel
theorem gf_RX12_264 : GF RX12 264 13 6 := ⟨RX12, TX12, 17, rfl, inw_X12, Nat.le_of_ble_eq_true rfl, (mT7 143 rfl rfl)⟩
theorem dX12_advance_5 : decode cX12_advance 5 = .ok (.invokevirtual 267, 3) := by decide +kernel
theorem glV_RX12_267 : GLV RX12 267 yX12_byteAt RX12 cX12_byteAt 2 (some .int) 1 := ⟨⟨(mT9 205 rfl rfl), (mT9 207 rfl rfl), (mTs 74 rfl rfl), (mT1 13 rfl rfl), (mT9 208 rfl rfl)⟩, by decide +kernel⟩
theorem dX12_advance_8 : decode cX12_advance 8 = .ok (.bipush 32, 2) := by decide +kernel
theorem dX12_advance_10 : decode cX12_advance 10 = .ok (.if_icmp .eq 16, 3) := by decide +kernel
theorem dX12_advance_13 : decode cX12_advance 13 = .ok (.aload_n 0, 1) := by decide +kernel
theorem dX12_advance_14 : decode cX12_advance 14 = .ok (.aload_n 0, 1) := by decide +kernel
theorem dX12_advance_15 : decode cX12_advance 15 = .ok (.getfield 264, 3) := by decide +kernel
theorem dX12_advance_18 : decode cX12_advance 18 = .ok (.invokevirtual 267, 3) := by decide +kernel
theorem dX12_advance_21 : decode cX12_advance 21 = .ok (.bipush 10, 2) := by decide +kernel
theorem dX12_advance_23 : decode cX12_advance 23 = .ok (.if_icmp .ne 16, 3) := by decide +kernel
theorem dX12_advance_39 : decode cX12_advance 39 = .ok (.aload_n 0, 1) := by decide +kernel
theorem dX12_advance_40 : decode cX12_advance 40 = .ok (.aload_n 0, 1) := by decide +kernel
theorem dX12_advance_41 : decode cX12_advance 41 = .ok (.getfield 264, 3) := by decide +kernel
theorem dX12_advance_44 : decode cX12_advance 44 = .ok (.putfield 270, 3) := by decide +kernel
theorem gp_RX12_270 : GP RX12 270 13 10 .int false := ⟨RX12, TX12, 17, ⟨rfl, inw_X12, Nat.le_of_ble_eq_true rfl, (mT7 147 rfl rfl)⟩, ⟨tyX12, tyX12_ok⟩, nmX12, rfl, by decide +kernel, fun h => nomatch h⟩
theorem dX12_advance_47 : decode cX12_advance 47 = .ok (.aload_n 0, 1) := by decide +kernel
theorem dX12_advance_48 : decode cX12_advance 48 = .ok (.lconst 0, 1) := by decide +kernel
theorem dX12_advance_49 : decode cX12_advance 49 = .ok (.putfield 273, 3) := by decide +kernel
theorem gp_RX12_273 : GP RX12 273 13 12 .long false := ⟨RX12, TX12, 17, ⟨rfl, inw_X12, Nat.le_of_ble_eq_true rfl, (mT7 149 rfl rfl)⟩, ⟨tyX12, tyX12_ok⟩, nmX12, rfl, by decide +kernel, fun h => nomatch h⟩
theorem dX12_advance_52 : decode cX12_advance 52 = .ok (.aload_n 0, 1) := by decide +kernel
theorem dX12_advance_53 : decode cX12_advance 53 = .ok (.aload_n 0, 1) := by decide +kernel
theorem dX12_advance_54 : decode cX12_advance 54 = .ok (.getfield 270, 3) := by decide +kernel
theorem gf_RX12_270 : GF RX12 270 13 10 := ⟨RX12, TX12, 17, rfl, inw_X12, Nat.le_of_ble_eq_true rfl, (mT7 147 rfl rfl)⟩
theorem dX12_advance_57 : decode cX12_advance 57 = .ok (.invokevirtual 267, 3) := by decide +kernel
theorem dX12_advance_60 : decode cX12_advance 60 = .ok (.istore_n 1, 1) := by decide +kernel
theorem dX12_advance_61 : decode cX12_advance 61 = .ok (.aload_n 0, 1) := by decide +kernel
theorem dX12_advance_62 : decode cX12_advance 62 = .ok (.iload_n 1, 1) := by decide +kernel
theorem dX12_advance_63 : decode cX12_advance 63 = .ok (.iconst (-1), 1) := by decide +kernel
theorem dX12_advance_64 : decode cX12_advance 64 = .ok (.if_icmp .ne 7, 3) := by decide +kernel
theorem dX12_advance_67 : decode cX12_advance 67 = .ok (.iconst 0, 1) := by decide +kernel
theorem dX12_advance_68 : decode cX12_advance 68 = .ok (.goto 36, 3) := by decide +kernel
theorem dX12_advance_104 : decode cX12_advance 104 = .ok (.putfield 283, 3) := by decide +kernel
theorem gp_RX12_283 : GP RX12 283 13 9 .int false := ⟨RX12, TX12, 17, ⟨rfl, inw_X12, Nat.le_of_ble_eq_true rfl, (mT7 146 rfl rfl)⟩, ⟨tyX12, tyX12_ok⟩, nmX12, rfl, by decide +kernel, fun h => nomatch h⟩
theorem dX12_advance_107 : decode cX12_advance 107 = .ok (.aload_n 0, 1) := by decide +kernel
theorem dX12_advance_108 : decode cX12_advance 108 = .ok (.getfield 283, 3) := by decide +kernel
theorem gf_RX12_283 : GF RX12 283 13 9 := ⟨RX12, TX12, 17, rfl, inw_X12, Nat.le_of_ble_eq_true rfl, (mT7 146 rfl rfl)⟩
theorem dX12_advance_111 : decode cX12_advance 111 = .ok (.iconst 2, 1) := by decide +kernel
theorem dX12_advance_112 : decode cX12_advance 112 = .ok (.if_icmp .le 13, 3) := by decide +kernel
theorem dX12_advance_125 : decode cX12_advance 125 = .ok (.aload_n 0, 1) := by decide +kernel
theorem dX12_advance_126 : decode cX12_advance 126 = .ok (.getfield 283, 3) := by decide +kernel
theorem dX12_advance_129 : decode cX12_advance 129 = .ok (.iconst 1, 1) := by decide +kernel
theorem dX12_advance_130 : decode cX12_advance 130 = .ok (.if_icmp .ne 65, 3) := by decide +kernel
theorem dX12_advance_195 : decode cX12_advance 195 = .ok (.aload_n 0, 1) := by decide +kernel
theorem dX12_advance_196 : decode cX12_advance 196 = .ok (.getfield 283, 3) := by decide +kernel
theorem dX12_advance_199 : decode cX12_advance 199 = .ok (.iconst 2, 1) := by decide +kernel
theorem dX12_advance_200 : decode cX12_advance 200 = .ok (.if_icmp .ne 69, 3) := by decide +kernel
theorem dX12_advance_269 : decode cX12_advance 269 = .ok (.aload_n 0, 1) := by decide +kernel
theorem dX12_advance_270 : decode cX12_advance 270 = .ok (.getfield 283, 3) := by decide +kernel
theorem dX12_advance_273 : decode cX12_advance 273 = .ok (.iconst 1, 1) := by decide +kernel
theorem dX12_advance_274 : decode cX12_advance 274 = .ok (.if_icmp .ne 17, 3) := by decide +kernel
theorem dX12_advance_291 : decode cX12_advance 291 = .ok (.aload_n 0, 1) := by decide +kernel
theorem dX12_advance_292 : decode cX12_advance 292 = .ok (.getfield 283, 3) := by decide +kernel
theorem dX12_advance_295 : decode cX12_advance 295 = .ok (.iconst 2, 1) := by decide +kernel
theorem dX12_advance_296 : decode cX12_advance 296 = .ok (.if_icmp .ne 21, 3) := by decide +kernel
theorem dX12_advance_317 : decode cX12_advance 317 = .ok (.return_, 1) := by decide +kernel
set_option maxRecDepth 100000 in
set_option maxHeartbeats 4000000 in
theorem mX12_advance_1 (l : Launch) (D : va_G) (Y : Nat → ClassId) (h0 : Nat) (g0 : Nat) (g1 : Nat) (g2 : Nat) (g3 : Nat) (g4 : Nat) (g5 : Nat) (sz : Nat) : Met l yX12_advance (WSm yX12_advance cX12_advance 2 none) (mkR 1 0 0 21) (PreC D Y [.ref h0] [(h0, oC 13 [.ref g0, .ref g1, .int 0, .ref g2, .ref g3, .int 0, .int 0, .int 0, .int (-1), .int 0, .int 0, .int 0, .long 0, .ref g4, .ref g5, .int 0, .int 0])] sz) (QV D (fun (u : Unit) => True) (fun (_ : Unit) => [(h0, oC 13 [.ref g0, .ref g1, .int 0, .ref g2, .ref g3, .int 0, .int 0, .int 0, .int (-1), .int 0, .int 0, .int 0, .long 0, .ref g4, .ref g5, .int 0, .int 0])]) (va_A [(h0, oC 13 [.ref g0, .ref g1, .int 0, .ref g2, .ref g3, .int 0, .int 0, .int 0, .int (-1), .int 0, .int 0, .int 0, .long 0, .ref g4, .ref g5, .int 0, .int 0])] sz)) 0 0 (va_A [(h0, oC 13 [.ref g0, .ref g1, .int 0, .ref g2, .ref g3, .int 0, .int 0, .int 0, .int (-1), .int 0, .int 0, .int 0, .long 0, .ref g4, .ref g5, .int 0, .int 0])] sz) :=
  met_of (by decide +kernel) (Nat.le_of_ble_eq_true rfl) (fun p e s m args below meth c B hin hsz => by
    have B : VB p s m args meth c D Y (va_A [(h0, oC 13 [.ref g0, .ref g1, .int 0, .ref g2, .ref g3, .int 0, .int 0, .int 0, .int (-1), .int 0, .int 0, .int 0, .long 0, .ref g4, .ref g5, .int 0, .int 0])] sz) cX12_advance 2 RX12 none := B
    refine V_aload_n 0 B dX12_advance_0 0 rfl ?_
    refine V_aload_n 1 B dX12_advance_1 0 rfl ?_
    refine V_get 2 B gf_RX12_264 0 rfl rfl dX12_advance_2 ?_
    refine V_cvi 5 B (st := []) (As := [.int 0]) (fun sz => mX12_byteAt_1 l D Y (h0) (g0) (g1) (g2) (g3) (g4) (g5) sz) glV_RX12_267 ⟨rfl, rfl⟩ ⟨(Nat.le_of_ble_eq_true rfl), (Nat.le_of_ble_eq_true rfl)⟩ ⟨(Nat.le_of_ble_eq_true rfl), (Nat.le_of_ble_eq_true rfl)⟩ [0] rfl 13 0 rfl rfl rfl rfl (Nat.le_of_ble_eq_true rfl) rfl (fun _ _ _ => rfl) dX12_advance_5 (fun r0 u0 w0 => ?_)
    obtain rfl := w0
    refine V_ws [(h0, oC 13 [.ref g0, .ref g1, .int 0, .ref g2, .ref g3, .int 0, .int 0, .int 0, .int (-1), .int 0, .int 0, .int 0, .long 0, .ref g4, .ref g5, .int 0, .int 0])] rfl ?_
    refine V_bipush 8 B (v := 32) dX12_advance_8 (by decide +kernel) ?_
    refine V_icmp_eq_f 10 B 26 dX12_advance_10 (by decide) (by decide +kernel) ?_
    refine V_aload_n 13 B dX12_advance_13 0 rfl ?_
    refine V_aload_n 14 B dX12_advance_14 0 rfl ?_
    refine V_get 15 B gf_RX12_264 0 rfl rfl dX12_advance_15 ?_
    refine V_cvi 18 B (st := []) (As := [.int 0]) (fun sz => mX12_byteAt_1 l D Y (h0) (g0) (g1) (g2) (g3) (g4) (g5) sz) glV_RX12_267 ⟨rfl, rfl⟩ ⟨(Nat.le_of_ble_eq_true rfl), (Nat.le_of_ble_eq_true rfl)⟩ ⟨(Nat.le_of_ble_eq_true rfl), (Nat.le_of_ble_eq_true rfl)⟩ [0] rfl 13 0 rfl rfl rfl rfl (Nat.le_of_ble_eq_true rfl) rfl (fun _ _ _ => rfl) dX12_advance_18 (fun r1 u1 w1 => ?_)
    obtain rfl := w1
    refine V_ws [(h0, oC 13 [.ref g0, .ref g1, .int 0, .ref g2, .ref g3, .int 0, .int 0, .int 0, .int (-1), .int 0, .int 0, .int 0, .long 0, .ref g4, .ref g5, .int 0, .int 0])] rfl ?_
    refine V_bipush 21 B (v := 10) dX12_advance_21 (by decide +kernel) ?_
    refine V_icmp_ne_t 23 B 39 dX12_advance_23 (by decide) (by decide +kernel) ?_
    refine V_aload_n 39 B dX12_advance_39 0 rfl ?_
    refine V_aload_n 40 B dX12_advance_40 0 rfl ?_
    refine V_get 41 B gf_RX12_264 0 rfl rfl dX12_advance_41 ?_
    refine V_put 44 B gp_RX12_270 0 rfl (Nat.le_of_ble_eq_true rfl) rfl rfl dX12_advance_44 [(h0, oC 13 [.ref g0, .ref g1, .int 0, .ref g2, .ref g3, .int 0, .int 0, .int 0, .int (-1), .int 0, .int 0, .int 0, .long 0, .ref g4, .ref g5, .int 0, .int 0])] rfl ?_
    refine V_aload_n 47 B dX12_advance_47 0 rfl ?_
    refine V_lconst 48 B (v := 0) dX12_advance_48 (by decide +kernel) ?_
    refine V_put 49 B gp_RX12_273 0 rfl (Nat.le_of_ble_eq_true rfl) rfl rfl dX12_advance_49 [(h0, oC 13 [.ref g0, .ref g1, .int 0, .ref g2, .ref g3, .int 0, .int 0, .int 0, .int (-1), .int 0, .int 0, .int 0, .long 0, .ref g4, .ref g5, .int 0, .int 0])] rfl ?_
    refine V_aload_n 52 B dX12_advance_52 0 rfl ?_
    refine V_aload_n 53 B dX12_advance_53 0 rfl ?_
    refine V_get 54 B gf_RX12_270 0 rfl rfl dX12_advance_54 ?_
    refine V_cvi 57 B (st := []) (As := [.int 0]) (fun sz => mX12_byteAt_1 l D Y (h0) (g0) (g1) (g2) (g3) (g4) (g5) sz) glV_RX12_267 ⟨rfl, rfl⟩ ⟨(Nat.le_of_ble_eq_true rfl), (Nat.le_of_ble_eq_true rfl)⟩ ⟨(Nat.le_of_ble_eq_true rfl), (Nat.le_of_ble_eq_true rfl)⟩ [0] rfl 13 0 rfl rfl rfl rfl (Nat.le_of_ble_eq_true rfl) rfl (fun _ _ _ => rfl) dX12_advance_57 (fun r2 u2 w2 => ?_)
    obtain rfl := w2
    refine V_ws [(h0, oC 13 [.ref g0, .ref g1, .int 0, .ref g2, .ref g3, .int 0, .int 0, .int 0, .int (-1), .int 0, .int 0, .int 0, .long 0, .ref g4, .ref g5, .int 0, .int 0])] rfl ?_
    refine V_istore_n 60 B (lv2 := [(1, .int (-1)), (0, .ref h0)]) dX12_advance_60 (by decide) rfl ?_
    refine V_aload_n 61 B dX12_advance_61 1 rfl ?_
    refine V_iload_n 62 B dX12_advance_62 0 rfl ?_
    refine V_iconst 63 B (v := (-1)) dX12_advance_63 (by decide +kernel) ?_
    refine V_icmp_ne_f 64 B 71 dX12_advance_64 (by decide) (by decide +kernel) ?_
    refine V_iconst 67 B (v := 0) dX12_advance_67 (by decide +kernel) ?_
    refine V_goto 68 B 104 dX12_advance_68 (by decide) ?_
    refine V_put 104 B gp_RX12_283 0 rfl (Nat.le_of_ble_eq_true rfl) rfl rfl dX12_advance_104 [(h0, oC 13 [.ref g0, .ref g1, .int 0, .ref g2, .ref g3, .int 0, .int 0, .int 0, .int (-1), .int 0, .int 0, .int 0, .long 0, .ref g4, .ref g5, .int 0, .int 0])] rfl ?_
    refine V_aload_n 107 B dX12_advance_107 1 rfl ?_
    refine V_get 108 B gf_RX12_283 0 rfl rfl dX12_advance_108 ?_
    refine V_iconst 111 B (v := 2) dX12_advance_111 (by decide +kernel) ?_
    refine V_icmp_le_t 112 B 125 dX12_advance_112 (by decide) (by decide +kernel) ?_
    refine V_aload_n 125 B dX12_advance_125 1 rfl ?_
    refine V_get 126 B gf_RX12_283 0 rfl rfl dX12_advance_126 ?_
    refine V_iconst 129 B (v := 1) dX12_advance_129 (by decide +kernel) ?_
    refine V_icmp_ne_t 130 B 195 dX12_advance_130 (by decide) (by decide +kernel) ?_
    refine V_aload_n 195 B dX12_advance_195 1 rfl ?_
    refine V_get 196 B gf_RX12_283 0 rfl rfl dX12_advance_196 ?_
    refine V_iconst 199 B (v := 2) dX12_advance_199 (by decide +kernel) ?_
    refine V_icmp_ne_t 200 B 269 dX12_advance_200 (by decide) (by decide +kernel) ?_
    refine V_aload_n 269 B dX12_advance_269 1 rfl ?_
    refine V_get 270 B gf_RX12_283 0 rfl rfl dX12_advance_270 ?_
    refine V_iconst 273 B (v := 1) dX12_advance_273 (by decide +kernel) ?_
    refine V_icmp_ne_t 274 B 291 dX12_advance_274 (by decide) (by decide +kernel) ?_
    refine V_aload_n 291 B dX12_advance_291 1 rfl ?_
    refine V_get 292 B gf_RX12_283 0 rfl rfl dX12_advance_292 ?_
    refine V_iconst 295 B (v := 2) dX12_advance_295 (by decide +kernel) ?_
    refine V_icmp_ne_t 296 B 317 dX12_advance_296 (by decide) (by decide +kernel) ?_
    exact V_vret 317 B dX12_advance_317 () trivial rfl)
theorem dX12_beginText_0 : decode cX12_beginText 0 = .ok (.aload_n 0, 1) := by decide +kernel
theorem dX12_beginText_1 : decode cX12_beginText 1 = .ok (.iconst 0, 1) := by decide +kernel
theorem dX12_beginText_2 : decode cX12_beginText 2 = .ok (.putfield 246, 3) := by decide +kernel
theorem gp_RX12_246 : GP RX12 246 13 7 .int false := ⟨RX12, TX12, 17, ⟨rfl, inw_X12, Nat.le_of_ble_eq_true rfl, (mT7 144 rfl rfl)⟩, ⟨tyX12, tyX12_ok⟩, nmX12, rfl, by decide +kernel, fun h => nomatch h⟩
theorem dX12_beginText_5 : decode cX12_beginText 5 = .ok (.aload_n 0, 1) := by decide +kernel
theorem dX12_beginText_6 : decode cX12_beginText 6 = .ok (.iconst (-1), 1) := by decide +kernel
theorem dX12_beginText_7 : decode cX12_beginText 7 = .ok (.putfield 24, 3) := by decide +kernel
theorem dX12_beginText_10 : decode cX12_beginText 10 = .ok (.aload_n 0, 1) := by decide +kernel
theorem dX12_beginText_11 : decode cX12_beginText 11 = .ok (.iconst 0, 1) := by decide +kernel
theorem dX12_beginText_12 : decode cX12_beginText 12 = .ok (.putfield 264, 3) := by decide +kernel
theorem gp_RX12_264 : GP RX12 264 13 6 .int false := ⟨RX12, TX12, 17, ⟨rfl, inw_X12, Nat.le_of_ble_eq_true rfl, (mT7 143 rfl rfl)⟩, ⟨tyX12, tyX12_ok⟩, nmX12, rfl, by decide +kernel, fun h => nomatch h⟩
theorem dX12_beginText_15 : decode cX12_beginText 15 = .ok (.aload_n 0, 1) := by decide +kernel
theorem dX12_beginText_16 : decode cX12_beginText 16 = .ok (.invokevirtual 288, 3) := by decide +kernel
theorem glV_RX12_288 : GLV RX12 288 yX12_advance RX12 cX12_advance 2 none 0 := ⟨⟨(mT9 201 rfl rfl), (mT9 203 rfl rfl), (mTs 73 rfl rfl), (mT1 13 rfl rfl), (mT9 204 rfl rfl)⟩, by decide +kernel⟩
theorem dX12_beginText_19 : decode cX12_beginText 19 = .ok (.return_, 1) := by decide +kernel
set_option maxRecDepth 100000 in
set_option maxHeartbeats 4000000 in
theorem mX12_beginText_1 (l : Launch) (D : va_G) (Y : Nat → ClassId) (h0 : Nat) (g0 : Nat) (g1 : Nat) (g2 : Nat) (g3 : Nat) (g4 : Nat) (g5 : Nat) (sz : Nat) : Met l yX12_beginText (WSm yX12_beginText cX12_beginText 1 none) (mkR 2 0 0 42) (PreC D Y [.ref h0] [(h0, oC 13 [.ref g0, .ref g1, .int 0, .ref g2, .ref g3, .int 0, .int 0, .int 0, .int (-1), .int 0, .int 0, .int 0, .long 0, .ref g4, .ref g5, .int 0, .int 0])] sz) (QV D (fun (u : Unit) => True) (fun (_ : Unit) => [(h0, oC 13 [.ref g0, .ref g1, .int 0, .ref g2, .ref g3, .int 0, .int 0, .int 0, .int (-1), .int 0, .int 0, .int 0, .long 0, .ref g4, .ref g5, .int 0, .int 0])]) (va_A [(h0, oC 13 [.ref g0, .ref g1, .int 0, .ref g2, .ref g3, .int 0, .int 0, .int 0, .int (-1), .int 0, .int 0, .int 0, .long 0, .ref g4, .ref g5, .int 0, .int 0])] sz)) 0 0 (va_A [(h0, oC 13 [.ref g0, .ref g1, .int 0, .ref g2, .ref g3, .int 0, .int 0, .int 0, .int (-1), .int 0, .int 0, .int 0, .long 0, .ref g4, .ref g5, .int 0, .int 0])] sz) :=
  met_of (by decide +kernel) (Nat.le_of_ble_eq_true rfl) (fun p e s m args below meth c B hin hsz => by
    have B : VB p s m args meth c D Y (va_A [(h0, oC 13 [.ref g0, .ref g1, .int 0, .ref g2, .ref g3, .int 0, .int 0, .int 0, .int (-1), .int 0, .int 0, .int 0, .long 0, .ref g4, .ref g5, .int 0, .int 0])] sz) cX12_beginText 1 RX12 none := B
    refine V_aload_n 0 B dX12_beginText_0 0 rfl ?_
    refine V_iconst 1 B (v := 0) dX12_beginText_1 (by decide +kernel) ?_
    refine V_put 2 B gp_RX12_246 0 rfl (Nat.le_of_ble_eq_true rfl) rfl rfl dX12_beginText_2 [(h0, oC 13 [.ref g0, .ref g1, .int 0, .ref g2, .ref g3, .int 0, .int 0, .int 0, .int (-1), .int 0, .int 0, .int 0, .long 0, .ref g4, .ref g5, .int 0, .int 0])] rfl ?_
    refine V_aload_n 5 B dX12_beginText_5 0 rfl ?_
    refine V_iconst 6 B (v := (-1)) dX12_beginText_6 (by decide +kernel) ?_
    refine V_put 7 B gp_RX12_24 0 rfl (Nat.le_of_ble_eq_true rfl) rfl rfl dX12_beginText_7 [(h0, oC 13 [.ref g0, .ref g1, .int 0, .ref g2, .ref g3, .int 0, .int 0, .int 0, .int (-1), .int 0, .int 0, .int 0, .long 0, .ref g4, .ref g5, .int 0, .int 0])] rfl ?_
    refine V_aload_n 10 B dX12_beginText_10 0 rfl ?_
    refine V_iconst 11 B (v := 0) dX12_beginText_11 (by decide +kernel) ?_
    refine V_put 12 B gp_RX12_264 0 rfl (Nat.le_of_ble_eq_true rfl) rfl rfl dX12_beginText_12 [(h0, oC 13 [.ref g0, .ref g1, .int 0, .ref g2, .ref g3, .int 0, .int 0, .int 0, .int (-1), .int 0, .int 0, .int 0, .long 0, .ref g4, .ref g5, .int 0, .int 0])] rfl ?_
    refine V_aload_n 15 B dX12_beginText_15 0 rfl ?_
    refine V_cvv 16 B (st := []) (As := []) (fun sz => mX12_advance_1 l D Y (h0) (g0) (g1) (g2) (g3) (g4) (g5) sz) glV_RX12_288 ⟨rfl, rfl⟩ ⟨(Nat.le_of_ble_eq_true rfl), (Nat.le_of_ble_eq_true rfl)⟩ ⟨(Nat.le_of_ble_eq_true rfl), (Nat.le_of_ble_eq_true rfl)⟩ [0] rfl 13 0 rfl rfl rfl rfl (Nat.le_of_ble_eq_true rfl) rfl (fun _ _ => rfl) dX12_beginText_16 (fun u0 w0 => ?_)
    refine V_ws [(h0, oC 13 [.ref g0, .ref g1, .int 0, .ref g2, .ref g3, .int 0, .int 0, .int 0, .int (-1), .int 0, .int 0, .int 0, .long 0, .ref g4, .ref g5, .int 0, .int 0])] rfl ?_
    exact V_vret 19 B dX12_beginText_19 () trivial rfl)
theorem dX12_areTargetsThere_0 : decode cX12_areTargetsThere 0 = .ok (.iconst 0, 1) := by decide +kernel
theorem dX12_areTargetsThere_1 : decode cX12_areTargetsThere 1 = .ok (.istore_n 1, 1) := by decide +kernel
theorem dX12_areTargetsThere_2 : decode cX12_areTargetsThere 2 = .ok (.iload_n 1, 1) := by decide +kernel
theorem dX12_areTargetsThere_3 : decode cX12_areTargetsThere 3 = .ok (.aload_n 0, 1) := by decide +kernel
theorem dX12_areTargetsThere_4 : decode cX12_areTargetsThere 4 = .ok (.getfield 9, 3) := by decide +kernel
theorem dX12_areTargetsThere_7 : decode cX12_areTargetsThere 7 = .ok (.sipush 2719, 3) := by decide +kernel
theorem dX12_areTargetsThere_10 : decode cX12_areTargetsThere 10 = .ok (.iaload, 1) := by decide +kernel
theorem dX12_areTargetsThere_11 : decode cX12_areTargetsThere 11 = .ok (.if_icmp .ge 40, 3) := by decide +kernel
theorem dX12_areTargetsThere_51 : decode cX12_areTargetsThere 51 = .ok (.iconst 1, 1) := by decide +kernel
theorem dX12_areTargetsThere_52 : decode cX12_areTargetsThere 52 = .ok (.ireturn, 1) := by decide +kernel
set_option maxRecDepth 100000 in
set_option maxHeartbeats 4000000 in
theorem mX12_areTargetsThere_1 (l : Launch) (D : va_G) (Y : Nat → ClassId) (h0 : Nat) (h1 : Nat) (g0 : Nat) (g1 : Nat) (g2 : Nat) (g3 : Nat) (g4 : Nat) (sz : Nat) : Met l yX12_areTargetsThere (WSm yX12_areTargetsThere cX12_areTargetsThere 2 (some .boolean)) (mkR 0 0 0 0) (PreC D Y [.ref h0] [(h0, oC 13 [.ref h1, .ref g0, .int 0, .ref g1, .ref g2, .int 0, .int 0, .int 0, .int (-1), .int 0, .int 0, .int 0, .long 0, .ref g3, .ref g4, .int 0, .int 0]), (h1, aI Y 3640 (clB 3 (clB 0 (fun _ => 0))))] sz) (QI D (fun (r : Int32) (u : Unit) => 1 = r) (fun (_ : Unit) => [(h0, oC 13 [.ref h1, .ref g0, .int 0, .ref g1, .ref g2, .int 0, .int 0, .int 0, .int (-1), .int 0, .int 0, .int 0, .long 0, .ref g3, .ref g4, .int 0, .int 0]), (h1, aI Y 3640 (clB 3 (clB 0 (fun _ => 0))))]) (va_A [(h0, oC 13 [.ref h1, .ref g0, .int 0, .ref g1, .ref g2, .int 0, .int 0, .int 0, .int (-1), .int 0, .int 0, .int 0, .long 0, .ref g3, .ref g4, .int 0, .int 0]), (h1, aI Y 3640 (clB 3 (clB 0 (fun _ => 0))))] sz)) 0 0 (va_A [(h0, oC 13 [.ref h1, .ref g0, .int 0, .ref g1, .ref g2, .int 0, .int 0, .int 0, .int (-1), .int 0, .int 0, .int 0, .long 0, .ref g3, .ref g4, .int 0, .int 0]), (h1, aI Y 3640 (clB 3 (clB 0 (fun _ => 0))))] sz) :=
  met_of (by decide +kernel) (Nat.le_of_ble_eq_true rfl) (fun p e s m args below meth c B hin hsz => by
    have B : VB p s m args meth c D Y (va_A [(h0, oC 13 [.ref h1, .ref g0, .int 0, .ref g1, .ref g2, .int 0, .int 0, .int 0, .int (-1), .int 0, .int 0, .int 0, .long 0, .ref g3, .ref g4, .int 0, .int 0]), (h1, aI Y 3640 (clB 3 (clB 0 (fun _ => 0))))] sz) cX12_areTargetsThere 2 RX12 (some .boolean) := B
    refine V_iconst 0 B (v := 0) dX12_areTargetsThere_0 (by decide +kernel) ?_
    refine V_istore_n 1 B (lv2 := [(1, .int 0), (0, .ref h0)]) dX12_areTargetsThere_1 (by decide) rfl ?_
    refine V_iload_n 2 B dX12_areTargetsThere_2 0 rfl ?_
    refine V_aload_n 3 B dX12_areTargetsThere_3 1 rfl ?_
    refine V_get 4 B gf_RX12_9 0 rfl rfl dX12_areTargetsThere_4 ?_
    refine V_sipush 7 B (v := 2719) dX12_areTargetsThere_7 (by decide +kernel) ?_
    refine V_iald 10 B (v := 0) 1 rfl (vpin _ _ (by decide +kernel)) dX12_areTargetsThere_10 rfl ?_
    refine V_icmp_ge_t 11 B 51 dX12_areTargetsThere_11 (by decide) (by decide +kernel) ?_
    refine V_iconst 51 B (v := 1) dX12_areTargetsThere_51 (by decide +kernel) ?_
    exact V_zret 52 B rfl dX12_areTargetsThere_52 () rfl rfl)
theorem dX12_load_0 : decode cX12_load 0 = .ok (.aload_n 0, 1) := by decide +kernel
theorem dX12_load_1 : decode cX12_load 1 = .ok (.iconst 0, 1) := by decide +kernel
theorem dX12_load_2 : decode cX12_load 2 = .ok (.putfield 38, 3) := by decide +kernel
theorem dX12_load_5 : decode cX12_load 5 = .ok (.aload_n 0, 1) := by decide +kernel
theorem dX12_load_6 : decode cX12_load 6 = .ok (.iconst 3, 1) := by decide +kernel
theorem dX12_load_7 : decode cX12_load 7 = .ok (.invokevirtual 34, 3) := by decide +kernel
theorem dX12_load_10 : decode cX12_load 10 = .ok (.aload_n 0, 1) := by decide +kernel
theorem dX12_load_11 : decode cX12_load 11 = .ok (.invokevirtual 349, 3) := by decide +kernel
theorem glV_RX12_349 : GLV RX12 349 yX12_beginText RX12 cX12_beginText 1 none 0 := ⟨⟨(mT9 197 rfl rfl), (mT9 199 rfl rfl), (mTs 72 rfl rfl), (mT1 13 rfl rfl), (mT9 200 rfl rfl)⟩, by decide +kernel⟩
theorem dX12_load_14 : decode cX12_load 14 = .ok (.iconst 1, 1) := by decide +kernel
theorem dX12_load_15 : decode cX12_load 15 = .ok (.istore_n 1, 1) := by decide +kernel
theorem dX12_load_16 : decode cX12_load 16 = .ok (.iload_n 1, 1) := by decide +kernel
theorem dX12_load_17 : decode cX12_load 17 = .ok (.ifCond .eq 18, 3) := by decide +kernel
theorem dX12_load_20 : decode cX12_load 20 = .ok (.aload_n 0, 1) := by decide +kernel
theorem dX12_load_21 : decode cX12_load 21 = .ok (.getfield 283, 3) := by decide +kernel
theorem dX12_load_24 : decode cX12_load 24 = .ok (.ifCond .eq 11, 3) := by decide +kernel
theorem dX12_load_35 : decode cX12_load 35 = .ok (.iload_n 1, 1) := by decide +kernel
theorem dX12_load_36 : decode cX12_load 36 = .ok (.ifCond .eq 20, 3) := by decide +kernel
theorem dX12_load_39 : decode cX12_load 39 = .ok (.aload_n 0, 1) := by decide +kernel
theorem dX12_load_40 : decode cX12_load 40 = .ok (.invokevirtual 355, 3) := by decide +kernel
theorem glV_RX12_355 : GLV RX12 355 yX12_areTargetsThere RX12 cX12_areTargetsThere 2 (some .boolean) 0 := ⟨⟨(mT10 54 rfl rfl), (mT10 56 rfl rfl), (mTs 91 rfl rfl), (mT1 13 rfl rfl), (mT10 57 rfl rfl)⟩, by decide +kernel⟩
theorem dX12_load_43 : decode cX12_load 43 = .ok (.ifCond .ne 13, 3) := by decide +kernel
theorem dX12_load_56 : decode cX12_load 56 = .ok (.aload_n 0, 1) := by decide +kernel
theorem dX12_load_57 : decode cX12_load 57 = .ok (.iconst 0, 1) := by decide +kernel
theorem dX12_load_58 : decode cX12_load 58 = .ok (.putfield 240, 3) := by decide +kernel
theorem dX12_load_61 : decode cX12_load 61 = .ok (.iload_n 1, 1) := by decide +kernel
theorem dX12_load_62 : decode cX12_load 62 = .ok (.ifCond .ne 6, 3) := by decide +kernel
theorem dX12_load_68 : decode cX12_load 68 = .ok (.aload_n 0, 1) := by decide +kernel
theorem dX12_load_69 : decode cX12_load 69 = .ok (.iconst 3, 1) := by decide +kernel
theorem dX12_load_70 : decode cX12_load 70 = .ok (.iconst 0, 1) := by decide +kernel
theorem dX12_load_71 : decode cX12_load 71 = .ok (.invokevirtual 45, 3) := by decide +kernel
theorem dX12_load_74 : decode cX12_load 74 = .ok (.aload_n 0, 1) := by decide +kernel
theorem dX12_load_75 : decode cX12_load 75 = .ok (.getfield 13, 3) := by decide +kernel
theorem dX12_load_78 : decode cX12_load 78 = .ok (.iconst 0, 1) := by decide +kernel
theorem dX12_load_79 : decode cX12_load 79 = .ok (.iconst 0, 1) := by decide +kernel
theorem dX12_load_80 : decode cX12_load 80 = .ok (.bastore, 1) := by decide +kernel
theorem dX12_load_81 : decode cX12_load 81 = .ok (.aload_n 0, 1) := by decide +kernel
theorem dX12_load_82 : decode cX12_load 82 = .ok (.getfield 13, 3) := by decide +kernel
theorem dX12_load_85 : decode cX12_load 85 = .ok (.iconst 1, 1) := by decide +kernel
theorem dX12_load_86 : decode cX12_load 86 = .ok (.iconst 0, 1) := by decide +kernel
theorem dX12_load_87 : decode cX12_load 87 = .ok (.bastore, 1) := by decide +kernel
theorem dX12_load_88 : decode cX12_load 88 = .ok (.aload_n 0, 1) := by decide +kernel
theorem dX12_load_89 : decode cX12_load 89 = .ok (.getfield 9, 3) := by decide +kernel
theorem dX12_load_92 : decode cX12_load 92 = .ok (.iconst 3, 1) := by decide +kernel
theorem dX12_load_93 : decode cX12_load 93 = .ok (.iaload, 1) := by decide +kernel
theorem dX12_load_94 : decode cX12_load 94 = .ok (.ireturn, 1) := by decide +kernel
set_option maxRecDepth 100000 in
set_option maxHeartbeats 4000000 in
theorem mX12_load_1 (l : Launch) (D : va_G) (Y : Nat → ClassId) (h0 : Nat) (h1 : Nat) (h2 : Nat) (g0 : Nat) (g1 : Nat) (g2 : Nat) (g3 : Nat) (sz : Nat) : Met l yX12_load (WSm yX12_load cX12_load 2 (some .int)) (mkR 3 0 0 62) (PreC D Y [.ref h0] [(h0, oC 13 [.ref h1, .ref h2, .int 0, .ref g0, .ref g1, .int 0, .int 0, .int 0, .int (-1), .int 0, .int 0, .int 0, .long 0, .ref g2, .ref g3, .int 0, .int 0]), (h1, aI Y 3640 (clB 0 (fun _ => 0))), (h2, aZ Y 2 (fun _ => 0))] sz) (QI D (fun (r : Int32) (u : Unit) => 0 = r) (fun (_ : Unit) => [(h0, oC 13 [.ref h1, .ref h2, .int 0, .ref g0, .ref g1, .int 0, .int 0, .int 0, .int (-1), .int 0, .int 0, .int 0, .long 0, .ref g2, .ref g3, .int 0, .int 0]), (h1, aI Y 3640 (cpB 3 0 906 (clB 3 (clB 0 (fun _ => 0))))), (h2, aZ Y 2 (upd (upd (fun _ => 0) 0 (vp_nar .boolean 0)) 1 (vp_nar .boolean 0)))]) (va_A [(h0, oC 13 [.ref h1, .ref h2, .int 0, .ref g0, .ref g1, .int 0, .int 0, .int 0, .int (-1), .int 0, .int 0, .int 0, .long 0, .ref g2, .ref g3, .int 0, .int 0]), (h1, aI Y 3640 (clB 0 (fun _ => 0))), (h2, aZ Y 2 (fun _ => 0))] sz)) 0 0 (va_A [(h0, oC 13 [.ref h1, .ref h2, .int 0, .ref g0, .ref g1, .int 0, .int 0, .int 0, .int (-1), .int 0, .int 0, .int 0, .long 0, .ref g2, .ref g3, .int 0, .int 0]), (h1, aI Y 3640 (clB 0 (fun _ => 0))), (h2, aZ Y 2 (fun _ => 0))] sz) :=
  met_of (by decide +kernel) (Nat.le_of_ble_eq_true rfl) (fun p e s m args below meth c B hin hsz => by
    have B : VB p s m args meth c D Y (va_A [(h0, oC 13 [.ref h1, .ref h2, .int 0, .ref g0, .ref g1, .int 0, .int 0, .int 0, .int (-1), .int 0, .int 0, .int 0, .long 0, .ref g2, .ref g3, .int 0, .int 0]), (h1, aI Y 3640 (clB 0 (fun _ => 0))), (h2, aZ Y 2 (fun _ => 0))] sz) cX12_load 2 RX12 (some .int) := B
    refine V_aload_n 0 B dX12_load_0 0 rfl ?_
    refine V_iconst 1 B (v := 0) dX12_load_1 (by decide +kernel) ?_
    refine V_put 2 B gp_RX12_38 0 rfl (Nat.le_of_ble_eq_true rfl) rfl rfl dX12_load_2 [(h0, oC 13 [.ref h1, .ref h2, .int 0, .ref g0, .ref g1, .int 0, .int 0, .int 0, .int (-1), .int 0, .int 0, .int 0, .long 0, .ref g2, .ref g3, .int 0, .int 0]), (h1, aI Y 3640 (clB 0 (fun _ => 0))), (h2, aZ Y 2 (fun _ => 0))] rfl ?_
    refine V_aload_n 5 B dX12_load_5 0 rfl ?_
    refine V_iconst 6 B (v := 3) dX12_load_6 (by decide +kernel) ?_
    refine V_cvv 7 B (st := []) (As := [.int 3]) (fun sz => mX12_clearBlock_m l D Y (h0) (h1) (.ref h2) (.int 0) (.ref g0) (.ref g1) (.int 0) (.int 0) (.int 0) (.int (-1)) (.int 0) (.int 0) (.int 0) (.long 0) (.ref g2) (.ref g3) (.int 0) (.int 0) ((clB 0 (fun _ => 0))) (3) (by decide) sz) glV_RX12_34 ⟨rfl, rfl⟩ ⟨(Nat.le_of_ble_eq_true rfl), (Nat.le_of_ble_eq_true rfl)⟩ ⟨(Nat.le_of_ble_eq_true rfl), (Nat.le_of_ble_eq_true rfl)⟩ [0, 0] rfl 13 0 rfl rfl rfl rfl (Nat.le_of_ble_eq_true rfl) rfl (fun _ _ => rfl) dX12_load_7 (fun u0 w0 => ?_)
    refine V_ws [(h0, oC 13 [.ref h1, .ref h2, .int 0, .ref g0, .ref g1, .int 0, .int 0, .int 0, .int (-1), .int 0, .int 0, .int 0, .long 0, .ref g2, .ref g3, .int 0, .int 0]), (h1, aI Y 3640 (clB 3 (clB 0 (fun _ => 0)))), (h2, aZ Y 2 (fun _ => 0))] rfl ?_
    refine V_aload_n 10 B dX12_load_10 0 rfl ?_
    refine V_cvv 11 B (st := []) (As := []) (fun sz => mX12_beginText_1 l D Y (h0) (h1) (h2) (g0) (g1) (g2) (g3) sz) glV_RX12_349 ⟨rfl, rfl⟩ ⟨(Nat.le_of_ble_eq_true rfl), (Nat.le_of_ble_eq_true rfl)⟩ ⟨(Nat.le_of_ble_eq_true rfl), (Nat.le_of_ble_eq_true rfl)⟩ [0] rfl 13 0 rfl rfl rfl rfl (Nat.le_of_ble_eq_true rfl) rfl (fun _ _ => rfl) dX12_load_11 (fun u1 w1 => ?_)
    refine V_ws [(h0, oC 13 [.ref h1, .ref h2, .int 0, .ref g0, .ref g1, .int 0, .int 0, .int 0, .int (-1), .int 0, .int 0, .int 0, .long 0, .ref g2, .ref g3, .int 0, .int 0]), (h1, aI Y 3640 (clB 3 (clB 0 (fun _ => 0)))), (h2, aZ Y 2 (fun _ => 0))] rfl ?_
    refine V_iconst 14 B (v := 1) dX12_load_14 (by decide +kernel) ?_
    refine V_istore_n 15 B (lv2 := [(1, .int 1), (0, .ref h0)]) dX12_load_15 (by decide) rfl ?_
    refine V_iload_n 16 B dX12_load_16 0 rfl ?_
    refine V_if_eq_f 17 B 35 dX12_load_17 (by decide) (by decide +kernel) ?_
    refine V_aload_n 20 B dX12_load_20 1 rfl ?_
    refine V_get 21 B gf_RX12_283 0 rfl rfl dX12_load_21 ?_
    refine V_if_eq_t 24 B 35 dX12_load_24 (by decide) (by decide +kernel) ?_
    refine V_iload_n 35 B dX12_load_35 0 rfl ?_
    refine V_if_eq_f 36 B 56 dX12_load_36 (by decide) (by decide +kernel) ?_
    refine V_aload_n 39 B dX12_load_39 1 rfl ?_
    refine V_cvi 40 B (st := []) (As := []) (fun sz => mX12_areTargetsThere_1 l D Y (h0) (h1) (h2) (g0) (g1) (g2) (g3) sz) glV_RX12_355 ⟨rfl, rfl⟩ ⟨(Nat.le_of_ble_eq_true rfl), (Nat.le_of_ble_eq_true rfl)⟩ ⟨(Nat.le_of_ble_eq_true rfl), (Nat.le_of_ble_eq_true rfl)⟩ [0, 0] rfl 13 0 rfl rfl rfl rfl (Nat.le_of_ble_eq_true rfl) rfl (fun _ _ _ => rfl) dX12_load_40 (fun r2 u2 w2 => ?_)
    obtain rfl := w2
    refine V_ws [(h0, oC 13 [.ref h1, .ref h2, .int 0, .ref g0, .ref g1, .int 0, .int 0, .int 0, .int (-1), .int 0, .int 0, .int 0, .long 0, .ref g2, .ref g3, .int 0, .int 0]), (h1, aI Y 3640 (clB 3 (clB 0 (fun _ => 0)))), (h2, aZ Y 2 (fun _ => 0))] rfl ?_
    refine V_if_ne_t 43 B 56 dX12_load_43 (by decide) (by decide +kernel) ?_
    refine V_aload_n 56 B dX12_load_56 1 rfl ?_
    refine V_iconst 57 B (v := 0) dX12_load_57 (by decide +kernel) ?_
    refine V_put 58 B gp_RX12_240 0 rfl (Nat.le_of_ble_eq_true rfl) rfl rfl dX12_load_58 [(h0, oC 13 [.ref h1, .ref h2, .int 0, .ref g0, .ref g1, .int 0, .int 0, .int 0, .int (-1), .int 0, .int 0, .int 0, .long 0, .ref g2, .ref g3, .int 0, .int 0]), (h1, aI Y 3640 (clB 3 (clB 0 (fun _ => 0)))), (h2, aZ Y 2 (fun _ => 0))] rfl ?_
    refine V_iload_n 61 B dX12_load_61 0 rfl ?_
    refine V_if_ne_t 62 B 68 dX12_load_62 (by decide) (by decide +kernel) ?_
    refine V_aload_n 68 B dX12_load_68 1 rfl ?_
    refine V_iconst 69 B (v := 3) dX12_load_69 (by decide +kernel) ?_
    refine V_iconst 70 B (v := 0) dX12_load_70 (by decide +kernel) ?_
    refine V_cvv 71 B (st := []) (As := [.int 3, .int 0]) (fun sz => mX12_copyBlock_m l D Y (h0) (h1) (.ref h2) (.int 0) (.ref g0) (.ref g1) (.int 0) (.int 0) (.int 0) (.int (-1)) (.int 0) (.int 0) (.int 0) (.long 0) (.ref g2) (.ref g3) (.int 0) (.int 0) ((clB 3 (clB 0 (fun _ => 0)))) (3) (0) (by decide) (by decide) (by decide) sz) glV_RX12_45 ⟨rfl, rfl⟩ ⟨(Nat.le_of_ble_eq_true rfl), (Nat.le_of_ble_eq_true rfl)⟩ ⟨(Nat.le_of_ble_eq_true rfl), (Nat.le_of_ble_eq_true rfl)⟩ [0, 0] rfl 13 0 rfl rfl rfl rfl (Nat.le_of_ble_eq_true rfl) rfl (fun _ _ => rfl) dX12_load_71 (fun u3 w3 => ?_)
    refine V_ws [(h0, oC 13 [.ref h1, .ref h2, .int 0, .ref g0, .ref g1, .int 0, .int 0, .int 0, .int (-1), .int 0, .int 0, .int 0, .long 0, .ref g2, .ref g3, .int 0, .int 0]), (h1, aI Y 3640 (cpB 3 0 906 (clB 3 (clB 0 (fun _ => 0))))), (h2, aZ Y 2 (fun _ => 0))] rfl ?_
    refine V_aload_n 74 B dX12_load_74 1 rfl ?_
    refine V_get 75 B gf_RX12_13 0 rfl rfl dX12_load_75 ?_
    refine V_iconst 78 B (v := 0) dX12_load_78 (by decide +kernel) ?_
    refine V_iconst 79 B (v := 0) dX12_load_79 (by decide +kernel) ?_
    refine V_zast 80 B 2 rfl (vpin _ _ (by decide +kernel)) dX12_load_80 [(h0, oC 13 [.ref h1, .ref h2, .int 0, .ref g0, .ref g1, .int 0, .int 0, .int 0, .int (-1), .int 0, .int 0, .int 0, .long 0, .ref g2, .ref g3, .int 0, .int 0]), (h1, aI Y 3640 (cpB 3 0 906 (clB 3 (clB 0 (fun _ => 0))))), (h2, aZ Y 2 (upd (fun _ => 0) 0 (vp_nar .boolean 0)))] rfl ?_
    refine V_aload_n 81 B dX12_load_81 1 rfl ?_
    refine V_get 82 B gf_RX12_13 0 rfl rfl dX12_load_82 ?_
    refine V_iconst 85 B (v := 1) dX12_load_85 (by decide +kernel) ?_
    refine V_iconst 86 B (v := 0) dX12_load_86 (by decide +kernel) ?_
    refine V_zast 87 B 2 rfl (vpin _ _ (by decide +kernel)) dX12_load_87 [(h0, oC 13 [.ref h1, .ref h2, .int 0, .ref g0, .ref g1, .int 0, .int 0, .int 0, .int (-1), .int 0, .int 0, .int 0, .long 0, .ref g2, .ref g3, .int 0, .int 0]), (h1, aI Y 3640 (cpB 3 0 906 (clB 3 (clB 0 (fun _ => 0))))), (h2, aZ Y 2 (upd (upd (fun _ => 0) 0 (vp_nar .boolean 0)) 1 (vp_nar .boolean 0)))] rfl ?_
    refine V_aload_n 88 B dX12_load_88 1 rfl ?_
    refine V_get 89 B gf_RX12_9 0 rfl rfl dX12_load_89 ?_
    refine V_iconst 92 B (v := 3) dX12_load_92 (by decide +kernel) ?_
    refine V_iald 93 B (v := 0) 1 rfl (vpin _ _ (by decide +kernel)) dX12_load_93 rfl ?_
    exact V_iret 94 B dX12_load_94 () rfl rfl)
theorem dX12_play_0 : decode cX12_play 0 = .ok (.aload_n 0, 1) := by decide +kernel
theorem dX12_play_1 : decode cX12_play 1 = .ok (.iconst 0, 1) := by decide +kernel
theorem dX12_play_2 : decode cX12_play 2 = .ok (.putfield 38, 3) := by decide +kernel
theorem dX12_play_5 : decode cX12_play 5 = .ok (.aload_n 0, 1) := by decide +kernel
theorem dX12_play_6 : decode cX12_play 6 = .ok (.iconst 0, 1) := by decide +kernel
theorem dX12_play_7 : decode cX12_play 7 = .ok (.putfield 361, 3) := by decide +kernel
theorem gp_RX12_361 : GP RX12 361 13 15 .int false := ⟨RX12, TX12, 17, ⟨rfl, inw_X12, Nat.le_of_ble_eq_true rfl, (mT7 152 rfl rfl)⟩, ⟨tyX12, tyX12_ok⟩, nmX12, rfl, by decide +kernel, fun h => nomatch h⟩
theorem dX12_play_10 : decode cX12_play 10 = .ok (.aload_n 0, 1) := by decide +kernel
theorem dX12_play_11 : decode cX12_play 11 = .ok (.iconst 0, 1) := by decide +kernel
theorem dX12_play_12 : decode cX12_play 12 = .ok (.putfield 358, 3) := by decide +kernel
theorem gp_RX12_358 : GP RX12 358 13 16 .int false := ⟨RX12, TX12, 17, ⟨rfl, inw_X12, Nat.le_of_ble_eq_true rfl, (mT7 153 rfl rfl)⟩, ⟨tyX12, tyX12_ok⟩, nmX12, rfl, by decide +kernel, fun h => nomatch h⟩
theorem dX12_play_15 : decode cX12_play 15 = .ok (.aload_n 0, 1) := by decide +kernel
theorem dX12_play_16 : decode cX12_play 16 = .ok (.invokevirtual 349, 3) := by decide +kernel
theorem dX12_play_19 : decode cX12_play 19 = .ok (.iconst 1, 1) := by decide +kernel
theorem dX12_play_20 : decode cX12_play 20 = .ok (.istore_n 1, 1) := by decide +kernel
theorem dX12_play_21 : decode cX12_play 21 = .ok (.iload_n 1, 1) := by decide +kernel
theorem dX12_play_22 : decode cX12_play 22 = .ok (.ifCond .eq 18, 3) := by decide +kernel
theorem dX12_play_25 : decode cX12_play 25 = .ok (.aload_n 0, 1) := by decide +kernel
theorem dX12_play_26 : decode cX12_play 26 = .ok (.getfield 283, 3) := by decide +kernel
theorem dX12_play_29 : decode cX12_play 29 = .ok (.ifCond .eq 11, 3) := by decide +kernel
theorem dX12_play_40 : decode cX12_play 40 = .ok (.aload_n 0, 1) := by decide +kernel
theorem dX12_play_41 : decode cX12_play 41 = .ok (.iconst 0, 1) := by decide +kernel
theorem dX12_play_42 : decode cX12_play 42 = .ok (.putfield 240, 3) := by decide +kernel
theorem dX12_play_45 : decode cX12_play 45 = .ok (.iload_n 1, 1) := by decide +kernel
theorem dX12_play_46 : decode cX12_play 46 = .ok (.ifCond .ne 6, 3) := by decide +kernel
theorem dX12_play_52 : decode cX12_play 52 = .ok (.iconst 0, 1) := by decide +kernel
theorem dX12_play_53 : decode cX12_play 53 = .ok (.istore_n 2, 1) := by decide +kernel
theorem dX12_play_54 : decode cX12_play 54 = .ok (.iload_n 2, 1) := by decide +kernel
theorem dX12_play_55 : decode cX12_play 55 = .ok (.aload_n 0, 1) := by decide +kernel
theorem dX12_play_56 : decode cX12_play 56 = .ok (.getfield 361, 3) := by decide +kernel
theorem gf_RX12_361 : GF RX12 361 13 15 := ⟨RX12, TX12, 17, rfl, inw_X12, Nat.le_of_ble_eq_true rfl, (mT7 152 rfl rfl)⟩
theorem dX12_play_59 : decode cX12_play 59 = .ok (.if_icmp .ge 19, 3) := by decide +kernel
theorem dX12_play_78 : decode cX12_play 78 = .ok (.aload_n 0, 1) := by decide +kernel
theorem dX12_play_79 : decode cX12_play 79 = .ok (.iconst 0, 1) := by decide +kernel
theorem dX12_play_80 : decode cX12_play 80 = .ok (.putfield 38, 3) := by decide +kernel
theorem dX12_play_83 : decode cX12_play 83 = .ok (.iload_n 2, 1) := by decide +kernel
theorem dX12_play_84 : decode cX12_play 84 = .ok (.ireturn, 1) := by decide +kernel
set_option maxRecDepth 100000 in
set_option maxHeartbeats 4000000 in
theorem mX12_play_1 (l : Launch) (D : va_G) (Y : Nat → ClassId) (h0 : Nat) (g0 : Nat) (g1 : Nat) (g2 : Nat) (g3 : Nat) (g4 : Nat) (g5 : Nat) (sz : Nat) : Met l yX12_play (WSm yX12_play cX12_play 3 (some .int)) (mkR 3 0 0 62) (PreC D Y [.ref h0] [(h0, oC 13 [.ref g0, .ref g1, .int 0, .ref g2, .ref g3, .int 0, .int 0, .int 0, .int (-1), .int 0, .int 0, .int 0, .long 0, .ref g4, .ref g5, .int 0, .int 0])] sz) (QI D (fun (r : Int32) (u : Unit) => 0 = r) (fun (_ : Unit) => [(h0, oC 13 [.ref g0, .ref g1, .int 0, .ref g2, .ref g3, .int 0, .int 0, .int 0, .int (-1), .int 0, .int 0, .int 0, .long 0, .ref g4, .ref g5, .int 0, .int 0])]) (va_A [(h0, oC 13 [.ref g0, .ref g1, .int 0, .ref g2, .ref g3, .int 0, .int 0, .int 0, .int (-1), .int 0, .int 0, .int 0, .long 0, .ref g4, .ref g5, .int 0, .int 0])] sz)) 0 0 (va_A [(h0, oC 13 [.ref g0, .ref g1, .int 0, .ref g2, .ref g3, .int 0, .int 0, .int 0, .int (-1), .int 0, .int 0, .int 0, .long 0, .ref g4, .ref g5, .int 0, .int 0])] sz) :=
  met_of (by decide +kernel) (Nat.le_of_ble_eq_true rfl) (fun p e s m args below meth c B hin hsz => by
    have B : VB p s m args meth c D Y (va_A [(h0, oC 13 [.ref g0, .ref g1, .int 0, .ref g2, .ref g3, .int 0, .int 0, .int 0, .int (-1), .int 0, .int 0, .int 0, .long 0, .ref g4, .ref g5, .int 0, .int 0])] sz) cX12_play 3 RX12 (some .int) := B
    refine V_aload_n 0 B dX12_play_0 0 rfl ?_
    refine V_iconst 1 B (v := 0) dX12_play_1 (by decide +kernel) ?_
    refine V_put 2 B gp_RX12_38 0 rfl (Nat.le_of_ble_eq_true rfl) rfl rfl dX12_play_2 [(h0, oC 13 [.ref g0, .ref g1, .int 0, .ref g2, .ref g3, .int 0, .int 0, .int 0, .int (-1), .int 0, .int 0, .int 0, .long 0, .ref g4, .ref g5, .int 0, .int 0])] rfl ?_
    refine V_aload_n 5 B dX12_play_5 0 rfl ?_
    refine V_iconst 6 B (v := 0) dX12_play_6 (by decide +kernel) ?_
    refine V_put 7 B gp_RX12_361 0 rfl (Nat.le_of_ble_eq_true rfl) rfl rfl dX12_play_7 [(h0, oC 13 [.ref g0, .ref g1, .int 0, .ref g2, .ref g3, .int 0, .int 0, .int 0, .int (-1), .int 0, .int 0, .int 0, .long 0, .ref g4, .ref g5, .int 0, .int 0])] rfl ?_
    refine V_aload_n 10 B dX12_play_10 0 rfl ?_
    refine V_iconst 11 B (v := 0) dX12_play_11 (by decide +kernel) ?_
    refine V_put 12 B gp_RX12_358 0 rfl (Nat.le_of_ble_eq_true rfl) rfl rfl dX12_play_12 [(h0, oC 13 [.ref g0, .ref g1, .int 0, .ref g2, .ref g3, .int 0, .int 0, .int 0, .int (-1), .int 0, .int 0, .int 0, .long 0, .ref g4, .ref g5, .int 0, .int 0])] rfl ?_
    refine V_aload_n 15 B dX12_play_15 0 rfl ?_
    refine V_cvv 16 B (st := []) (As := []) (fun sz => mX12_beginText_1 l D Y (h0) (g0) (g1) (g2) (g3) (g4) (g5) sz) glV_RX12_349 ⟨rfl, rfl⟩ ⟨(Nat.le_of_ble_eq_true rfl), (Nat.le_of_ble_eq_true rfl)⟩ ⟨(Nat.le_of_ble_eq_true rfl), (Nat.le_of_ble_eq_true rfl)⟩ [0] rfl 13 0 rfl rfl rfl rfl (Nat.le_of_ble_eq_true rfl) rfl (fun _ _ => rfl) dX12_play_16 (fun u0 w0 => ?_)
    refine V_ws [(h0, oC 13 [.ref g0, .ref g1, .int 0, .ref g2, .ref g3, .int 0, .int 0, .int 0, .int (-1), .int 0, .int 0, .int 0, .long 0, .ref g4, .ref g5, .int 0, .int 0])] rfl ?_
    refine V_iconst 19 B (v := 1) dX12_play_19 (by decide +kernel) ?_
    refine V_istore_n 20 B (lv2 := [(1, .int 1), (0, .ref h0)]) dX12_play_20 (by decide) rfl ?_
    refine V_iload_n 21 B dX12_play_21 0 rfl ?_
    refine V_if_eq_f 22 B 40 dX12_play_22 (by decide) (by decide +kernel) ?_
    refine V_aload_n 25 B dX12_play_25 1 rfl ?_
    refine V_get 26 B gf_RX12_283 0 rfl rfl dX12_play_26 ?_
    refine V_if_eq_t 29 B 40 dX12_play_29 (by decide) (by decide +kernel) ?_
    refine V_aload_n 40 B dX12_play_40 1 rfl ?_
    refine V_iconst 41 B (v := 0) dX12_play_41 (by decide +kernel) ?_
    refine V_put 42 B gp_RX12_240 0 rfl (Nat.le_of_ble_eq_true rfl) rfl rfl dX12_play_42 [(h0, oC 13 [.ref g0, .ref g1, .int 0, .ref g2, .ref g3, .int 0, .int 0, .int 0, .int (-1), .int 0, .int 0, .int 0, .long 0, .ref g4, .ref g5, .int 0, .int 0])] rfl ?_
    refine V_iload_n 45 B dX12_play_45 0 rfl ?_
    refine V_if_ne_t 46 B 52 dX12_play_46 (by decide) (by decide +kernel) ?_
    refine V_iconst 52 B (v := 0) dX12_play_52 (by decide +kernel) ?_
    refine V_istore_n 53 B (lv2 := [(2, .int 0), (1, .int 1), (0, .ref h0)]) dX12_play_53 (by decide) rfl ?_
    refine V_iload_n 54 B dX12_play_54 0 rfl ?_
    refine V_aload_n 55 B dX12_play_55 2 rfl ?_
    refine V_get 56 B gf_RX12_361 0 rfl rfl dX12_play_56 ?_
    refine V_icmp_ge_t 59 B 78 dX12_play_59 (by decide) (by decide +kernel) ?_
    refine V_aload_n 78 B dX12_play_78 2 rfl ?_
    refine V_iconst 79 B (v := 0) dX12_play_79 (by decide +kernel) ?_
    refine V_put 80 B gp_RX12_38 0 rfl (Nat.le_of_ble_eq_true rfl) rfl rfl dX12_play_80 [(h0, oC 13 [.ref g0, .ref g1, .int 0, .ref g2, .ref g3, .int 0, .int 0, .int 0, .int (-1), .int 0, .int 0, .int 0, .long 0, .ref g4, .ref g5, .int 0, .int 0])] rfl ?_
    refine V_iload_n 83 B dX12_play_83 0 rfl ?_
    exact V_iret 84 B dX12_play_84 () rfl rfl)
