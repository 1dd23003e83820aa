theorem dX7_appendFour_0 : decode cX7_appendFour 0 = .ok (.bipush 24, 2) := by decide +kernel
theorem dX7_appendFour_2 : decode cX7_appendFour 2 = .ok (.istore_n 2, 1) := by decide +kernel
theorem dX7_appendFour_3 : decode cX7_appendFour 3 = .ok (.iload_n 2, 1) := by decide +kernel
theorem dX7_appendFour_4 : decode cX7_appendFour 4 = .ok (.ifCond .lt 51, 3) := by decide +kernel
theorem dX7_appendFour_7 : decode cX7_appendFour 7 = .ok (.aload_n 0, 1) := by decide +kernel
theorem dX7_appendFour_8 : decode cX7_appendFour 8 = .ok (.getfield 19, 3) := by decide +kernel
theorem gf_RX7_19 : GF RX7 19 8 1 := ⟨RX7, TX7, 9, rfl, inw_X7, Nat.le_of_ble_eq_true rfl, (mT2 38 rfl rfl)⟩
theorem dX7_appendFour_11 : decode cX7_appendFour 11 = .ok (.ifCond .lt 38, 3) := by decide +kernel
theorem dX7_appendFour_14 : decode cX7_appendFour 14 = .ok (.aload_n 0, 1) := by decide +kernel
theorem dX7_appendFour_15 : decode cX7_appendFour 15 = .ok (.getfield 19, 3) := by decide +kernel
theorem dX7_appendFour_18 : decode cX7_appendFour 18 = .ok (.aload_n 0, 1) := by decide +kernel
theorem dX7_appendFour_19 : decode cX7_appendFour 19 = .ok (.getfield 9, 3) := by decide +kernel
theorem gf_RX7_9 : GF RX7 9 8 0 := ⟨RX7, TX7, 9, rfl, inw_X7, Nat.le_of_ble_eq_true rfl, (mT2 36 rfl rfl)⟩
theorem dX7_appendFour_22 : decode cX7_appendFour 22 = .ok (.arraylength, 1) := by decide +kernel
theorem dX7_appendFour_23 : decode cX7_appendFour 23 = .ok (.if_icmp .ge 26, 3) := by decide +kernel
theorem dX7_appendFour_26 : decode cX7_appendFour 26 = .ok (.aload_n 0, 1) := by decide +kernel
theorem dX7_appendFour_27 : decode cX7_appendFour 27 = .ok (.getfield 9, 3) := by decide +kernel
theorem dX7_appendFour_30 : decode cX7_appendFour 30 = .ok (.aload_n 0, 1) := by decide +kernel
theorem dX7_appendFour_31 : decode cX7_appendFour 31 = .ok (.getfield 19, 3) := by decide +kernel
theorem dX7_appendFour_34 : decode cX7_appendFour 34 = .ok (.iload_n 1, 1) := by decide +kernel
theorem dX7_appendFour_35 : decode cX7_appendFour 35 = .ok (.iload_n 2, 1) := by decide +kernel
theorem dX7_appendFour_36 : decode cX7_appendFour 36 = .ok (.ishr, 1) := by decide +kernel
theorem dX7_appendFour_37 : decode cX7_appendFour 37 = .ok (.i2b, 1) := by decide +kernel
theorem dX7_appendFour_38 : decode cX7_appendFour 38 = .ok (.bastore, 1) := by decide +kernel
theorem dX7_appendFour_39 : decode cX7_appendFour 39 = .ok (.aload_n 0, 1) := by decide +kernel
theorem dX7_appendFour_40 : decode cX7_appendFour 40 = .ok (.dup, 1) := by decide +kernel
theorem dX7_appendFour_41 : decode cX7_appendFour 41 = .ok (.getfield 19, 3) := by decide +kernel
theorem dX7_appendFour_44 : decode cX7_appendFour 44 = .ok (.iconst 1, 1) := by decide +kernel
theorem dX7_appendFour_45 : decode cX7_appendFour 45 = .ok (.iadd, 1) := by decide +kernel
theorem dX7_appendFour_46 : decode cX7_appendFour 46 = .ok (.putfield 19, 3) := by decide +kernel
theorem gp_RX7_19 : GP RX7 19 8 1 .int false := ⟨RX7, TX7, 9, ⟨rfl, inw_X7, Nat.le_of_ble_eq_true rfl, (mT2 38 rfl rfl)⟩, ⟨tyX7, tyX7_ok⟩, nmX7, rfl, by decide +kernel, fun h => nomatch h⟩
theorem dX7_appendFour_49 : decode cX7_appendFour 49 = .ok (.iinc 2 (-8), 3) := by decide +kernel
theorem dX7_appendFour_52 : decode cX7_appendFour 52 = .ok (.goto (-49), 3) := by decide +kernel
theorem dX7_appendFour_55 : decode cX7_appendFour 55 = .ok (.return_, 1) := by decide +kernel
set_option maxRecDepth 100000 in
set_option maxHeartbeats 4000000 in
theorem mX7_appendFour_1 (l : Launch) (D : va_G) (Y : Nat → ClassId) (h0 : Nat) (h1 : Nat) (p0 : Int32) (sz : Nat) : Met l yX7_appendFour (WSm yX7_appendFour cX7_appendFour 3 none) (mkR 0 0 0 0) (PreC D Y [.ref h0, .int p0] [(h0, oC 8 [.ref h1, .int 0, .int 0, .int 0, .int 0, .int 0, .long 0, .int 0, .int (-1)]), (h1, aB Y 1600 (fun _ => 0))] sz) (QV D (fun (u : Unit) => True) (fun (_ : Unit) => [(h0, oC 8 [.ref h1, .int 4, .int 0, .int 0, .int 0, .int 0, .long 0, .int 0, .int (-1)]), (h1, aB Y 1600 (upd (upd (upd (upd (fun _ => 0) 0 (vp_nar .byte ((p0 >>> (24 &&& 31)).toInt8.toInt32))) 1 (vp_nar .byte ((p0 >>> (16 &&& 31)).toInt8.toInt32))) 2 (vp_nar .byte ((p0 >>> (8 &&& 31)).toInt8.toInt32))) 3 (vp_nar .byte ((p0 >>> (0 &&& 31)).toInt8.toInt32))))]) (va_A [(h0, oC 8 [.ref h1, .int 0, .int 0, .int 0, .int 0, .int 0, .long 0, .int 0, .int (-1)]), (h1, aB Y 1600 (fun _ => 0))] sz)) 0 0 (va_A [(h0, oC 8 [.ref h1, .int 0, .int 0, .int 0, .int 0, .int 0, .long 0, .int 0, .int (-1)]), (h1, aB Y 1600 (fun _ => 0))] sz) :=
  met_of (by decide +kernel) (Nat.le_of_ble_eq_true rfl) (fun p e s m args below meth c B hin hsz => by
    have B : VB p s m args meth c D Y (va_A [(h0, oC 8 [.ref h1, .int 0, .int 0, .int 0, .int 0, .int 0, .long 0, .int 0, .int (-1)]), (h1, aB Y 1600 (fun _ => 0))] sz) cX7_appendFour 3 RX7 none := B
    refine V_bipush 0 B (v := 24) dX7_appendFour_0 (by decide +kernel) ?_
    refine V_istore_n 2 B (lv2 := [(2, .int 24), (0, .ref h0), (1, .int p0)]) dX7_appendFour_2 (by decide) rfl ?_
    refine V_iload_n 3 B dX7_appendFour_3 0 rfl ?_
    refine V_if_lt_f 4 B 55 dX7_appendFour_4 (by decide) (by decide +kernel) ?_
    refine V_aload_n 7 B dX7_appendFour_7 1 rfl ?_
    refine V_get 8 B gf_RX7_19 0 rfl rfl dX7_appendFour_8 ?_
    refine V_if_lt_f 11 B 49 dX7_appendFour_11 (by decide) (by decide +kernel) ?_
    refine V_aload_n 14 B dX7_appendFour_14 1 rfl ?_
    refine V_get 15 B gf_RX7_19 0 rfl rfl dX7_appendFour_15 ?_
    refine V_aload_n 18 B dX7_appendFour_18 1 rfl ?_
    refine V_get 19 B gf_RX7_9 0 rfl rfl dX7_appendFour_19 ?_
    refine V_alenB 22 B (v := 1600) 1 rfl (by decide +kernel) dX7_appendFour_22 ?_
    refine V_icmp_ge_f 23 B 49 dX7_appendFour_23 (by decide) (by decide +kernel) ?_
    refine V_aload_n 26 B dX7_appendFour_26 1 rfl ?_
    refine V_get 27 B gf_RX7_9 0 rfl rfl dX7_appendFour_27 ?_
    refine V_aload_n 30 B dX7_appendFour_30 1 rfl ?_
    refine V_get 31 B gf_RX7_19 0 rfl rfl dX7_appendFour_31 ?_
    refine V_iload_n 34 B dX7_appendFour_34 2 rfl ?_
    refine V_iload_n 35 B dX7_appendFour_35 0 rfl ?_
    refine V_ishr 36 B dX7_appendFour_36 rfl ?_
    refine V_i2b 37 B dX7_appendFour_37 rfl ?_
    refine V_bast 38 B 1 rfl (vpin _ _ (by decide +kernel)) dX7_appendFour_38 [(h0, oC 8 [.ref h1, .int 0, .int 0, .int 0, .int 0, .int 0, .long 0, .int 0, .int (-1)]), (h1, aB Y 1600 (upd (fun _ => 0) 0 (vp_nar .byte ((p0 >>> (24 &&& 31)).toInt8.toInt32))))] rfl ?_
    refine V_aload_n 39 B dX7_appendFour_39 1 rfl ?_
    refine V_dup 40 B dX7_appendFour_40 rfl ?_
    refine V_get 41 B gf_RX7_19 0 rfl rfl dX7_appendFour_41 ?_
    refine V_iconst 44 B (v := 1) dX7_appendFour_44 (by decide +kernel) ?_
    refine V_iadd 45 B (v := 1) dX7_appendFour_45 (by decide +kernel) ?_
    refine V_put 46 B gp_RX7_19 0 rfl (Nat.le_of_ble_eq_true rfl) rfl rfl dX7_appendFour_46 [(h0, oC 8 [.ref h1, .int 1, .int 0, .int 0, .int 0, .int 0, .long 0, .int 0, .int (-1)]), (h1, aB Y 1600 (upd (fun _ => 0) 0 (vp_nar .byte ((p0 >>> (24 &&& 31)).toInt8.toInt32))))] rfl ?_
    refine V_iinc 49 B (v := 16) (lv2 := [(2, .int 16), (0, .ref h0), (1, .int p0)]) dX7_appendFour_49 0 rfl (by decide +kernel) (by decide) rfl ?_
    refine V_goto 52 B 3 dX7_appendFour_52 (by decide) ?_
    refine V_iload_n 3 B dX7_appendFour_3 0 rfl ?_
    refine V_if_lt_f 4 B 55 dX7_appendFour_4 (by decide) (by decide +kernel) ?_
    refine V_aload_n 7 B dX7_appendFour_7 1 rfl ?_
    refine V_get 8 B gf_RX7_19 0 rfl rfl dX7_appendFour_8 ?_
    refine V_if_lt_f 11 B 49 dX7_appendFour_11 (by decide) (by decide +kernel) ?_
    refine V_aload_n 14 B dX7_appendFour_14 1 rfl ?_
    refine V_get 15 B gf_RX7_19 0 rfl rfl dX7_appendFour_15 ?_
    refine V_aload_n 18 B dX7_appendFour_18 1 rfl ?_
    refine V_get 19 B gf_RX7_9 0 rfl rfl dX7_appendFour_19 ?_
    refine V_alenB 22 B (v := 1600) 1 rfl (by decide +kernel) dX7_appendFour_22 ?_
    refine V_icmp_ge_f 23 B 49 dX7_appendFour_23 (by decide) (by decide +kernel) ?_
    refine V_aload_n 26 B dX7_appendFour_26 1 rfl ?_
    refine V_get 27 B gf_RX7_9 0 rfl rfl dX7_appendFour_27 ?_
    refine V_aload_n 30 B dX7_appendFour_30 1 rfl ?_
    refine V_get 31 B gf_RX7_19 0 rfl rfl dX7_appendFour_31 ?_
    refine V_iload_n 34 B dX7_appendFour_34 2 rfl ?_
    refine V_iload_n 35 B dX7_appendFour_35 0 rfl ?_
    refine V_ishr 36 B dX7_appendFour_36 rfl ?_
    refine V_i2b 37 B dX7_appendFour_37 rfl ?_
    refine V_bast 38 B 1 rfl (vpin _ _ (by decide +kernel)) dX7_appendFour_38 [(h0, oC 8 [.ref h1, .int 1, .int 0, .int 0, .int 0, .int 0, .long 0, .int 0, .int (-1)]), (h1, aB Y 1600 (upd (upd (fun _ => 0) 0 (vp_nar .byte ((p0 >>> (24 &&& 31)).toInt8.toInt32))) 1 (vp_nar .byte ((p0 >>> (16 &&& 31)).toInt8.toInt32))))] rfl ?_
    refine V_aload_n 39 B dX7_appendFour_39 1 rfl ?_
    refine V_dup 40 B dX7_appendFour_40 rfl ?_
    refine V_get 41 B gf_RX7_19 0 rfl rfl dX7_appendFour_41 ?_
    refine V_iconst 44 B (v := 1) dX7_appendFour_44 (by decide +kernel) ?_
    refine V_iadd 45 B (v := 2) dX7_appendFour_45 (by decide +kernel) ?_
    refine V_put 46 B gp_RX7_19 0 rfl (Nat.le_of_ble_eq_true rfl) rfl rfl dX7_appendFour_46 [(h0, oC 8 [.ref h1, .int 2, .int 0, .int 0, .int 0, .int 0, .long 0, .int 0, .int (-1)]), (h1, aB Y 1600 (upd (upd (fun _ => 0) 0 (vp_nar .byte ((p0 >>> (24 &&& 31)).toInt8.toInt32))) 1 (vp_nar .byte ((p0 >>> (16 &&& 31)).toInt8.toInt32))))] rfl ?_
    refine V_iinc 49 B (v := 8) (lv2 := [(2, .int 8), (0, .ref h0), (1, .int p0)]) dX7_appendFour_49 0 rfl (by decide +kernel) (by decide) rfl ?_
    refine V_goto 52 B 3 dX7_appendFour_52 (by decide) ?_
    refine V_iload_n 3 B dX7_appendFour_3 0 rfl ?_
    refine V_if_lt_f 4 B 55 dX7_appendFour_4 (by decide) (by decide +kernel) ?_
    refine V_aload_n 7 B dX7_appendFour_7 1 rfl ?_
    refine V_get 8 B gf_RX7_19 0 rfl rfl dX7_appendFour_8 ?_
    refine V_if_lt_f 11 B 49 dX7_appendFour_11 (by decide) (by decide +kernel) ?_
    refine V_aload_n 14 B dX7_appendFour_14 1 rfl ?_
    refine V_get 15 B gf_RX7_19 0 rfl rfl dX7_appendFour_15 ?_
    refine V_aload_n 18 B dX7_appendFour_18 1 rfl ?_
    refine V_get 19 B gf_RX7_9 0 rfl rfl dX7_appendFour_19 ?_
    refine V_alenB 22 B (v := 1600) 1 rfl (by decide +kernel) dX7_appendFour_22 ?_
    refine V_icmp_ge_f 23 B 49 dX7_appendFour_23 (by decide) (by decide +kernel) ?_
    refine V_aload_n 26 B dX7_appendFour_26 1 rfl ?_
    refine V_get 27 B gf_RX7_9 0 rfl rfl dX7_appendFour_27 ?_
    refine V_aload_n 30 B dX7_appendFour_30 1 rfl ?_
    refine V_get 31 B gf_RX7_19 0 rfl rfl dX7_appendFour_31 ?_
    refine V_iload_n 34 B dX7_appendFour_34 2 rfl ?_
    refine V_iload_n 35 B dX7_appendFour_35 0 rfl ?_
    refine V_ishr 36 B dX7_appendFour_36 rfl ?_
    refine V_i2b 37 B dX7_appendFour_37 rfl ?_
    refine V_bast 38 B 1 rfl (vpin _ _ (by decide +kernel)) dX7_appendFour_38 [(h0, oC 8 [.ref h1, .int 2, .int 0, .int 0, .int 0, .int 0, .long 0, .int 0, .int (-1)]), (h1, aB Y 1600 (upd (upd (upd (fun _ => 0) 0 (vp_nar .byte ((p0 >>> (24 &&& 31)).toInt8.toInt32))) 1 (vp_nar .byte ((p0 >>> (16 &&& 31)).toInt8.toInt32))) 2 (vp_nar .byte ((p0 >>> (8 &&& 31)).toInt8.toInt32))))] rfl ?_
    refine V_aload_n 39 B dX7_appendFour_39 1 rfl ?_
    refine V_dup 40 B dX7_appendFour_40 rfl ?_
    refine V_get 41 B gf_RX7_19 0 rfl rfl dX7_appendFour_41 ?_
    refine V_iconst 44 B (v := 1) dX7_appendFour_44 (by decide +kernel) ?_
    refine V_iadd 45 B (v := 3) dX7_appendFour_45 (by decide +kernel) ?_
    refine V_put 46 B gp_RX7_19 0 rfl (Nat.le_of_ble_eq_true rfl) rfl rfl dX7_appendFour_46 [(h0, oC 8 [.ref h1, .int 3, .int 0, .int 0, .int 0, .int 0, .long 0, .int 0, .int (-1)]), (h1, aB Y 1600 (upd (upd (upd (fun _ => 0) 0 (vp_nar .byte ((p0 >>> (24 &&& 31)).toInt8.toInt32))) 1 (vp_nar .byte ((p0 >>> (16 &&& 31)).toInt8.toInt32))) 2 (vp_nar .byte ((p0 >>> (8 &&& 31)).toInt8.toInt32))))] rfl ?_
    refine V_iinc 49 B (v := 0) (lv2 := [(2, .int 0), (0, .ref h0), (1, .int p0)]) dX7_appendFour_49 0 rfl (by decide +kernel) (by decide) rfl ?_
    refine V_goto 52 B 3 dX7_appendFour_52 (by decide) ?_
    refine V_iload_n 3 B dX7_appendFour_3 0 rfl ?_
    refine V_if_lt_f 4 B 55 dX7_appendFour_4 (by decide) (by decide +kernel) ?_
    refine V_aload_n 7 B dX7_appendFour_7 1 rfl ?_
    refine V_get 8 B gf_RX7_19 0 rfl rfl dX7_appendFour_8 ?_
    refine V_if_lt_f 11 B 49 dX7_appendFour_11 (by decide) (by decide +kernel) ?_
    refine V_aload_n 14 B dX7_appendFour_14 1 rfl ?_
    refine V_get 15 B gf_RX7_19 0 rfl rfl dX7_appendFour_15 ?_
    refine V_aload_n 18 B dX7_appendFour_18 1 rfl ?_
    refine V_get 19 B gf_RX7_9 0 rfl rfl dX7_appendFour_19 ?_
    refine V_alenB 22 B (v := 1600) 1 rfl (by decide +kernel) dX7_appendFour_22 ?_
    refine V_icmp_ge_f 23 B 49 dX7_appendFour_23 (by decide) (by decide +kernel) ?_
    refine V_aload_n 26 B dX7_appendFour_26 1 rfl ?_
    refine V_get 27 B gf_RX7_9 0 rfl rfl dX7_appendFour_27 ?_
    refine V_aload_n 30 B dX7_appendFour_30 1 rfl ?_
    refine V_get 31 B gf_RX7_19 0 rfl rfl dX7_appendFour_31 ?_
    refine V_iload_n 34 B dX7_appendFour_34 2 rfl ?_
    refine V_iload_n 35 B dX7_appendFour_35 0 rfl ?_
    refine V_ishr 36 B dX7_appendFour_36 rfl ?_
    refine V_i2b 37 B dX7_appendFour_37 rfl ?_
    refine V_bast 38 B 1 rfl (vpin _ _ (by decide +kernel)) dX7_appendFour_38 [(h0, oC 8 [.ref h1, .int 3, .int 0, .int 0, .int 0, .int 0, .long 0, .int 0, .int (-1)]), (h1, aB Y 1600 (upd (upd (upd (upd (fun _ => 0) 0 (vp_nar .byte ((p0 >>> (24 &&& 31)).toInt8.toInt32))) 1 (vp_nar .byte ((p0 >>> (16 &&& 31)).toInt8.toInt32))) 2 (vp_nar .byte ((p0 >>> (8 &&& 31)).toInt8.toInt32))) 3 (vp_nar .byte ((p0 >>> (0 &&& 31)).toInt8.toInt32))))] rfl ?_
    refine V_aload_n 39 B dX7_appendFour_39 1 rfl ?_
    refine V_dup 40 B dX7_appendFour_40 rfl ?_
    refine V_get 41 B gf_RX7_19 0 rfl rfl dX7_appendFour_41 ?_
    refine V_iconst 44 B (v := 1) dX7_appendFour_44 (by decide +kernel) ?_
    refine V_iadd 45 B (v := 4) dX7_appendFour_45 (by decide +kernel) ?_
    refine V_put 46 B gp_RX7_19 0 rfl (Nat.le_of_ble_eq_true rfl) rfl rfl dX7_appendFour_46 [(h0, oC 8 [.ref h1, .int 4, .int 0, .int 0, .int 0, .int 0, .long 0, .int 0, .int (-1)]), (h1, aB Y 1600 (upd (upd (upd (upd (fun _ => 0) 0 (vp_nar .byte ((p0 >>> (24 &&& 31)).toInt8.toInt32))) 1 (vp_nar .byte ((p0 >>> (16 &&& 31)).toInt8.toInt32))) 2 (vp_nar .byte ((p0 >>> (8 &&& 31)).toInt8.toInt32))) 3 (vp_nar .byte ((p0 >>> (0 &&& 31)).toInt8.toInt32))))] rfl ?_
    refine V_iinc 49 B (v := (-8)) (lv2 := [(2, .int (-8)), (0, .ref h0), (1, .int p0)]) dX7_appendFour_49 0 rfl (by decide +kernel) (by decide) rfl ?_
    refine V_goto 52 B 3 dX7_appendFour_52 (by decide) ?_
    refine V_iload_n 3 B dX7_appendFour_3 0 rfl ?_
    refine V_if_lt_t 4 B 55 dX7_appendFour_4 (by decide) (by decide +kernel) ?_
    exact V_vret 55 B dX7_appendFour_55 () trivial rfl)
set_option maxRecDepth 100000 in
set_option maxHeartbeats 4000000 in
theorem mX7_appendFour_2 (l : Launch) (D : va_G) (Y : Nat → ClassId) (h0 : Nat) (h1 : Nat) (p0 : Int32) (f0 : Nat → Int32) (sz : Nat) : Met l yX7_appendFour (WSm yX7_appendFour cX7_appendFour 3 none) (mkR 0 0 0 0) (PreC D Y [.ref h0, .int p0] [(h0, oC 8 [.ref h1, .int 4, .int 0, .int 0, .int 0, .int 0, .long 0, .int 0, .int (-1)]), (h1, aB Y 1600 f0)] sz) (QV D (fun (u : Unit) => True) (fun (_ : Unit) => [(h0, oC 8 [.ref h1, .int 8, .int 0, .int 0, .int 0, .int 0, .long 0, .int 0, .int (-1)]), (h1, aB Y 1600 (upd (upd (upd (upd f0 4 (vp_nar .byte ((p0 >>> (24 &&& 31)).toInt8.toInt32))) 5 (vp_nar .byte ((p0 >>> (16 &&& 31)).toInt8.toInt32))) 6 (vp_nar .byte ((p0 >>> (8 &&& 31)).toInt8.toInt32))) 7 (vp_nar .byte ((p0 >>> (0 &&& 31)).toInt8.toInt32))))]) (va_A [(h0, oC 8 [.ref h1, .int 4, .int 0, .int 0, .int 0, .int 0, .long 0, .int 0, .int (-1)]), (h1, aB Y 1600 f0)] sz)) 0 0 (va_A [(h0, oC 8 [.ref h1, .int 4, .int 0, .int 0, .int 0, .int 0, .long 0, .int 0, .int (-1)]), (h1, aB Y 1600 f0)] sz) :=
  met_of (by decide +kernel) (Nat.le_of_ble_eq_true rfl) (fun p e s m args below meth c B hin hsz => by
    have B : VB p s m args meth c D Y (va_A [(h0, oC 8 [.ref h1, .int 4, .int 0, .int 0, .int 0, .int 0, .long 0, .int 0, .int (-1)]), (h1, aB Y 1600 f0)] sz) cX7_appendFour 3 RX7 none := B
    refine V_bipush 0 B (v := 24) dX7_appendFour_0 (by decide +kernel) ?_
    refine V_istore_n 2 B (lv2 := [(2, .int 24), (0, .ref h0), (1, .int p0)]) dX7_appendFour_2 (by decide) rfl ?_
    refine V_iload_n 3 B dX7_appendFour_3 0 rfl ?_
    refine V_if_lt_f 4 B 55 dX7_appendFour_4 (by decide) (by decide +kernel) ?_
    refine V_aload_n 7 B dX7_appendFour_7 1 rfl ?_
    refine V_get 8 B gf_RX7_19 0 rfl rfl dX7_appendFour_8 ?_
    refine V_if_lt_f 11 B 49 dX7_appendFour_11 (by decide) (by decide +kernel) ?_
    refine V_aload_n 14 B dX7_appendFour_14 1 rfl ?_
    refine V_get 15 B gf_RX7_19 0 rfl rfl dX7_appendFour_15 ?_
    refine V_aload_n 18 B dX7_appendFour_18 1 rfl ?_
    refine V_get 19 B gf_RX7_9 0 rfl rfl dX7_appendFour_19 ?_
    refine V_alenB 22 B (v := 1600) 1 rfl (by decide +kernel) dX7_appendFour_22 ?_
    refine V_icmp_ge_f 23 B 49 dX7_appendFour_23 (by decide) (by decide +kernel) ?_
    refine V_aload_n 26 B dX7_appendFour_26 1 rfl ?_
    refine V_get 27 B gf_RX7_9 0 rfl rfl dX7_appendFour_27 ?_
    refine V_aload_n 30 B dX7_appendFour_30 1 rfl ?_
    refine V_get 31 B gf_RX7_19 0 rfl rfl dX7_appendFour_31 ?_
    refine V_iload_n 34 B dX7_appendFour_34 2 rfl ?_
    refine V_iload_n 35 B dX7_appendFour_35 0 rfl ?_
    refine V_ishr 36 B dX7_appendFour_36 rfl ?_
    refine V_i2b 37 B dX7_appendFour_37 rfl ?_
    refine V_bast 38 B 1 rfl (vpin _ _ (by decide +kernel)) dX7_appendFour_38 [(h0, oC 8 [.ref h1, .int 4, .int 0, .int 0, .int 0, .int 0, .long 0, .int 0, .int (-1)]), (h1, aB Y 1600 (upd f0 4 (vp_nar .byte ((p0 >>> (24 &&& 31)).toInt8.toInt32))))] rfl ?_
    refine V_aload_n 39 B dX7_appendFour_39 1 rfl ?_
    refine V_dup 40 B dX7_appendFour_40 rfl ?_
    refine V_get 41 B gf_RX7_19 0 rfl rfl dX7_appendFour_41 ?_
    refine V_iconst 44 B (v := 1) dX7_appendFour_44 (by decide +kernel) ?_
    refine V_iadd 45 B (v := 5) dX7_appendFour_45 (by decide +kernel) ?_
    refine V_put 46 B gp_RX7_19 0 rfl (Nat.le_of_ble_eq_true rfl) rfl rfl dX7_appendFour_46 [(h0, oC 8 [.ref h1, .int 5, .int 0, .int 0, .int 0, .int 0, .long 0, .int 0, .int (-1)]), (h1, aB Y 1600 (upd f0 4 (vp_nar .byte ((p0 >>> (24 &&& 31)).toInt8.toInt32))))] rfl ?_
    refine V_iinc 49 B (v := 16) (lv2 := [(2, .int 16), (0, .ref h0), (1, .int p0)]) dX7_appendFour_49 0 rfl (by decide +kernel) (by decide) rfl ?_
    refine V_goto 52 B 3 dX7_appendFour_52 (by decide) ?_
    refine V_iload_n 3 B dX7_appendFour_3 0 rfl ?_
    refine V_if_lt_f 4 B 55 dX7_appendFour_4 (by decide) (by decide +kernel) ?_
    refine V_aload_n 7 B dX7_appendFour_7 1 rfl ?_
    refine V_get 8 B gf_RX7_19 0 rfl rfl dX7_appendFour_8 ?_
    refine V_if_lt_f 11 B 49 dX7_appendFour_11 (by decide) (by decide +kernel) ?_
    refine V_aload_n 14 B dX7_appendFour_14 1 rfl ?_
    refine V_get 15 B gf_RX7_19 0 rfl rfl dX7_appendFour_15 ?_
    refine V_aload_n 18 B dX7_appendFour_18 1 rfl ?_
    refine V_get 19 B gf_RX7_9 0 rfl rfl dX7_appendFour_19 ?_
    refine V_alenB 22 B (v := 1600) 1 rfl (by decide +kernel) dX7_appendFour_22 ?_
    refine V_icmp_ge_f 23 B 49 dX7_appendFour_23 (by decide) (by decide +kernel) ?_
    refine V_aload_n 26 B dX7_appendFour_26 1 rfl ?_
    refine V_get 27 B gf_RX7_9 0 rfl rfl dX7_appendFour_27 ?_
    refine V_aload_n 30 B dX7_appendFour_30 1 rfl ?_
    refine V_get 31 B gf_RX7_19 0 rfl rfl dX7_appendFour_31 ?_
    refine V_iload_n 34 B dX7_appendFour_34 2 rfl ?_
    refine V_iload_n 35 B dX7_appendFour_35 0 rfl ?_
    refine V_ishr 36 B dX7_appendFour_36 rfl ?_
    refine V_i2b 37 B dX7_appendFour_37 rfl ?_
    refine V_bast 38 B 1 rfl (vpin _ _ (by decide +kernel)) dX7_appendFour_38 [(h0, oC 8 [.ref h1, .int 5, .int 0, .int 0, .int 0, .int 0, .long 0, .int 0, .int (-1)]), (h1, aB Y 1600 (upd (upd f0 4 (vp_nar .byte ((p0 >>> (24 &&& 31)).toInt8.toInt32))) 5 (vp_nar .byte ((p0 >>> (16 &&& 31)).toInt8.toInt32))))] rfl ?_
    refine V_aload_n 39 B dX7_appendFour_39 1 rfl ?_
    refine V_dup 40 B dX7_appendFour_40 rfl ?_
    refine V_get 41 B gf_RX7_19 0 rfl rfl dX7_appendFour_41 ?_
    refine V_iconst 44 B (v := 1) dX7_appendFour_44 (by decide +kernel) ?_
    refine V_iadd 45 B (v := 6) dX7_appendFour_45 (by decide +kernel) ?_
    refine V_put 46 B gp_RX7_19 0 rfl (Nat.le_of_ble_eq_true rfl) rfl rfl dX7_appendFour_46 [(h0, oC 8 [.ref h1, .int 6, .int 0, .int 0, .int 0, .int 0, .long 0, .int 0, .int (-1)]), (h1, aB Y 1600 (upd (upd f0 4 (vp_nar .byte ((p0 >>> (24 &&& 31)).toInt8.toInt32))) 5 (vp_nar .byte ((p0 >>> (16 &&& 31)).toInt8.toInt32))))] rfl ?_
    refine V_iinc 49 B (v := 8) (lv2 := [(2, .int 8), (0, .ref h0), (1, .int p0)]) dX7_appendFour_49 0 rfl (by decide +kernel) (by decide) rfl ?_
    refine V_goto 52 B 3 dX7_appendFour_52 (by decide) ?_
    refine V_iload_n 3 B dX7_appendFour_3 0 rfl ?_
    refine V_if_lt_f 4 B 55 dX7_appendFour_4 (by decide) (by decide +kernel) ?_
    refine V_aload_n 7 B dX7_appendFour_7 1 rfl ?_
    refine V_get 8 B gf_RX7_19 0 rfl rfl dX7_appendFour_8 ?_
    refine V_if_lt_f 11 B 49 dX7_appendFour_11 (by decide) (by decide +kernel) ?_
    refine V_aload_n 14 B dX7_appendFour_14 1 rfl ?_
    refine V_get 15 B gf_RX7_19 0 rfl rfl dX7_appendFour_15 ?_
    refine V_aload_n 18 B dX7_appendFour_18 1 rfl ?_
    refine V_get 19 B gf_RX7_9 0 rfl rfl dX7_appendFour_19 ?_
    refine V_alenB 22 B (v := 1600) 1 rfl (by decide +kernel) dX7_appendFour_22 ?_
    refine V_icmp_ge_f 23 B 49 dX7_appendFour_23 (by decide) (by decide +kernel) ?_
    refine V_aload_n 26 B dX7_appendFour_26 1 rfl ?_
    refine V_get 27 B gf_RX7_9 0 rfl rfl dX7_appendFour_27 ?_
    refine V_aload_n 30 B dX7_appendFour_30 1 rfl ?_
    refine V_get 31 B gf_RX7_19 0 rfl rfl dX7_appendFour_31 ?_
    refine V_iload_n 34 B dX7_appendFour_34 2 rfl ?_
    refine V_iload_n 35 B dX7_appendFour_35 0 rfl ?_
    refine V_ishr 36 B dX7_appendFour_36 rfl ?_
    refine V_i2b 37 B dX7_appendFour_37 rfl ?_
    refine V_bast 38 B 1 rfl (vpin _ _ (by decide +kernel)) dX7_appendFour_38 [(h0, oC 8 [.ref h1, .int 6, .int 0, .int 0, .int 0, .int 0, .long 0, .int 0, .int (-1)]), (h1, aB Y 1600 (upd (upd (upd f0 4 (vp_nar .byte ((p0 >>> (24 &&& 31)).toInt8.toInt32))) 5 (vp_nar .byte ((p0 >>> (16 &&& 31)).toInt8.toInt32))) 6 (vp_nar .byte ((p0 >>> (8 &&& 31)).toInt8.toInt32))))] rfl ?_
    refine V_aload_n 39 B dX7_appendFour_39 1 rfl ?_
    refine V_dup 40 B dX7_appendFour_40 rfl ?_
    refine V_get 41 B gf_RX7_19 0 rfl rfl dX7_appendFour_41 ?_
    refine V_iconst 44 B (v := 1) dX7_appendFour_44 (by decide +kernel) ?_
    refine V_iadd 45 B (v := 7) dX7_appendFour_45 (by decide +kernel) ?_
    refine V_put 46 B gp_RX7_19 0 rfl (Nat.le_of_ble_eq_true rfl) rfl rfl dX7_appendFour_46 [(h0, oC 8 [.ref h1, .int 7, .int 0, .int 0, .int 0, .int 0, .long 0, .int 0, .int (-1)]), (h1, aB Y 1600 (upd (upd (upd f0 4 (vp_nar .byte ((p0 >>> (24 &&& 31)).toInt8.toInt32))) 5 (vp_nar .byte ((p0 >>> (16 &&& 31)).toInt8.toInt32))) 6 (vp_nar .byte ((p0 >>> (8 &&& 31)).toInt8.toInt32))))] rfl ?_
    refine V_iinc 49 B (v := 0) (lv2 := [(2, .int 0), (0, .ref h0), (1, .int p0)]) dX7_appendFour_49 0 rfl (by decide +kernel) (by decide) rfl ?_
    refine V_goto 52 B 3 dX7_appendFour_52 (by decide) ?_
    refine V_iload_n 3 B dX7_appendFour_3 0 rfl ?_
    refine V_if_lt_f 4 B 55 dX7_appendFour_4 (by decide) (by decide +kernel) ?_
    refine V_aload_n 7 B dX7_appendFour_7 1 rfl ?_
    refine V_get 8 B gf_RX7_19 0 rfl rfl dX7_appendFour_8 ?_
    refine V_if_lt_f 11 B 49 dX7_appendFour_11 (by decide) (by decide +kernel) ?_
    refine V_aload_n 14 B dX7_appendFour_14 1 rfl ?_
    refine V_get 15 B gf_RX7_19 0 rfl rfl dX7_appendFour_15 ?_
    refine V_aload_n 18 B dX7_appendFour_18 1 rfl ?_
    refine V_get 19 B gf_RX7_9 0 rfl rfl dX7_appendFour_19 ?_
    refine V_alenB 22 B (v := 1600) 1 rfl (by decide +kernel) dX7_appendFour_22 ?_
    refine V_icmp_ge_f 23 B 49 dX7_appendFour_23 (by decide) (by decide +kernel) ?_
    refine V_aload_n 26 B dX7_appendFour_26 1 rfl ?_
    refine V_get 27 B gf_RX7_9 0 rfl rfl dX7_appendFour_27 ?_
    refine V_aload_n 30 B dX7_appendFour_30 1 rfl ?_
    refine V_get 31 B gf_RX7_19 0 rfl rfl dX7_appendFour_31 ?_
    refine V_iload_n 34 B dX7_appendFour_34 2 rfl ?_
    refine V_iload_n 35 B dX7_appendFour_35 0 rfl ?_
    refine V_ishr 36 B dX7_appendFour_36 rfl ?_
    refine V_i2b 37 B dX7_appendFour_37 rfl ?_
    refine V_bast 38 B 1 rfl (vpin _ _ (by decide +kernel)) dX7_appendFour_38 [(h0, oC 8 [.ref h1, .int 7, .int 0, .int 0, .int 0, .int 0, .long 0, .int 0, .int (-1)]), (h1, aB Y 1600 (upd (upd (upd (upd f0 4 (vp_nar .byte ((p0 >>> (24 &&& 31)).toInt8.toInt32))) 5 (vp_nar .byte ((p0 >>> (16 &&& 31)).toInt8.toInt32))) 6 (vp_nar .byte ((p0 >>> (8 &&& 31)).toInt8.toInt32))) 7 (vp_nar .byte ((p0 >>> (0 &&& 31)).toInt8.toInt32))))] rfl ?_
    refine V_aload_n 39 B dX7_appendFour_39 1 rfl ?_
    refine V_dup 40 B dX7_appendFour_40 rfl ?_
    refine V_get 41 B gf_RX7_19 0 rfl rfl dX7_appendFour_41 ?_
    refine V_iconst 44 B (v := 1) dX7_appendFour_44 (by decide +kernel) ?_
    refine V_iadd 45 B (v := 8) dX7_appendFour_45 (by decide +kernel) ?_
    refine V_put 46 B gp_RX7_19 0 rfl (Nat.le_of_ble_eq_true rfl) rfl rfl dX7_appendFour_46 [(h0, oC 8 [.ref h1, .int 8, .int 0, .int 0, .int 0, .int 0, .long 0, .int 0, .int (-1)]), (h1, aB Y 1600 (upd (upd (upd (upd f0 4 (vp_nar .byte ((p0 >>> (24 &&& 31)).toInt8.toInt32))) 5 (vp_nar .byte ((p0 >>> (16 &&& 31)).toInt8.toInt32))) 6 (vp_nar .byte ((p0 >>> (8 &&& 31)).toInt8.toInt32))) 7 (vp_nar .byte ((p0 >>> (0 &&& 31)).toInt8.toInt32))))] rfl ?_
    refine V_iinc 49 B (v := (-8)) (lv2 := [(2, .int (-8)), (0, .ref h0), (1, .int p0)]) dX7_appendFour_49 0 rfl (by decide +kernel) (by decide) rfl ?_
    refine V_goto 52 B 3 dX7_appendFour_52 (by decide) ?_
    refine V_iload_n 3 B dX7_appendFour_3 0 rfl ?_
    refine V_if_lt_t 4 B 55 dX7_appendFour_4 (by decide) (by decide +kernel) ?_
    exact V_vret 55 B dX7_appendFour_55 () trivial rfl)
set_option maxRecDepth 100000 in
set_option maxHeartbeats 4000000 in
theorem mX7_appendFour_3 (l : Launch) (D : va_G) (Y : Nat → ClassId) (h0 : Nat) (h1 : Nat) (p0 : Int32) (f0 : Nat → Int32) (sz : Nat) : Met l yX7_appendFour (WSm yX7_appendFour cX7_appendFour 3 none) (mkR 0 0 0 0) (PreC D Y [.ref h0, .int p0] [(h0, oC 8 [.ref h1, .int 8, .int 0, .int 0, .int 0, .int 0, .long 0, .int 0, .int (-1)]), (h1, aB Y 1600 f0)] sz) (QV D (fun (u : Unit) => True) (fun (_ : Unit) => [(h0, oC 8 [.ref h1, .int 12, .int 0, .int 0, .int 0, .int 0, .long 0, .int 0, .int (-1)]), (h1, aB Y 1600 (upd (upd (upd (upd f0 8 (vp_nar .byte ((p0 >>> (24 &&& 31)).toInt8.toInt32))) 9 (vp_nar .byte ((p0 >>> (16 &&& 31)).toInt8.toInt32))) 10 (vp_nar .byte ((p0 >>> (8 &&& 31)).toInt8.toInt32))) 11 (vp_nar .byte ((p0 >>> (0 &&& 31)).toInt8.toInt32))))]) (va_A [(h0, oC 8 [.ref h1, .int 8, .int 0, .int 0, .int 0, .int 0, .long 0, .int 0, .int (-1)]), (h1, aB Y 1600 f0)] sz)) 0 0 (va_A [(h0, oC 8 [.ref h1, .int 8, .int 0, .int 0, .int 0, .int 0, .long 0, .int 0, .int (-1)]), (h1, aB Y 1600 f0)] sz) :=
  met_of (by decide +kernel) (Nat.le_of_ble_eq_true rfl) (fun p e s m args below meth c B hin hsz => by
    have B : VB p s m args meth c D Y (va_A [(h0, oC 8 [.ref h1, .int 8, .int 0, .int 0, .int 0, .int 0, .long 0, .int 0, .int (-1)]), (h1, aB Y 1600 f0)] sz) cX7_appendFour 3 RX7 none := B
    refine V_bipush 0 B (v := 24) dX7_appendFour_0 (by decide +kernel) ?_
    refine V_istore_n 2 B (lv2 := [(2, .int 24), (0, .ref h0), (1, .int p0)]) dX7_appendFour_2 (by decide) rfl ?_
    refine V_iload_n 3 B dX7_appendFour_3 0 rfl ?_
    refine V_if_lt_f 4 B 55 dX7_appendFour_4 (by decide) (by decide +kernel) ?_
    refine V_aload_n 7 B dX7_appendFour_7 1 rfl ?_
    refine V_get 8 B gf_RX7_19 0 rfl rfl dX7_appendFour_8 ?_
    refine V_if_lt_f 11 B 49 dX7_appendFour_11 (by decide) (by decide +kernel) ?_
    refine V_aload_n 14 B dX7_appendFour_14 1 rfl ?_
    refine V_get 15 B gf_RX7_19 0 rfl rfl dX7_appendFour_15 ?_
    refine V_aload_n 18 B dX7_appendFour_18 1 rfl ?_
    refine V_get 19 B gf_RX7_9 0 rfl rfl dX7_appendFour_19 ?_
    refine V_alenB 22 B (v := 1600) 1 rfl (by decide +kernel) dX7_appendFour_22 ?_
    refine V_icmp_ge_f 23 B 49 dX7_appendFour_23 (by decide) (by decide +kernel) ?_
    refine V_aload_n 26 B dX7_appendFour_26 1 rfl ?_
    refine V_get 27 B gf_RX7_9 0 rfl rfl dX7_appendFour_27 ?_
    refine V_aload_n 30 B dX7_appendFour_30 1 rfl ?_
    refine V_get 31 B gf_RX7_19 0 rfl rfl dX7_appendFour_31 ?_
    refine V_iload_n 34 B dX7_appendFour_34 2 rfl ?_
    refine V_iload_n 35 B dX7_appendFour_35 0 rfl ?_
    refine V_ishr 36 B dX7_appendFour_36 rfl ?_
    refine V_i2b 37 B dX7_appendFour_37 rfl ?_
    refine V_bast 38 B 1 rfl (vpin _ _ (by decide +kernel)) dX7_appendFour_38 [(h0, oC 8 [.ref h1, .int 8, .int 0, .int 0, .int 0, .int 0, .long 0, .int 0, .int (-1)]), (h1, aB Y 1600 (upd f0 8 (vp_nar .byte ((p0 >>> (24 &&& 31)).toInt8.toInt32))))] rfl ?_
    refine V_aload_n 39 B dX7_appendFour_39 1 rfl ?_
    refine V_dup 40 B dX7_appendFour_40 rfl ?_
    refine V_get 41 B gf_RX7_19 0 rfl rfl dX7_appendFour_41 ?_
    refine V_iconst 44 B (v := 1) dX7_appendFour_44 (by decide +kernel) ?_
    refine V_iadd 45 B (v := 9) dX7_appendFour_45 (by decide +kernel) ?_
    refine V_put 46 B gp_RX7_19 0 rfl (Nat.le_of_ble_eq_true rfl) rfl rfl dX7_appendFour_46 [(h0, oC 8 [.ref h1, .int 9, .int 0, .int 0, .int 0, .int 0, .long 0, .int 0, .int (-1)]), (h1, aB Y 1600 (upd f0 8 (vp_nar .byte ((p0 >>> (24 &&& 31)).toInt8.toInt32))))] rfl ?_
    refine V_iinc 49 B (v := 16) (lv2 := [(2, .int 16), (0, .ref h0), (1, .int p0)]) dX7_appendFour_49 0 rfl (by decide +kernel) (by decide) rfl ?_
    refine V_goto 52 B 3 dX7_appendFour_52 (by decide) ?_
    refine V_iload_n 3 B dX7_appendFour_3 0 rfl ?_
    refine V_if_lt_f 4 B 55 dX7_appendFour_4 (by decide) (by decide +kernel) ?_
    refine V_aload_n 7 B dX7_appendFour_7 1 rfl ?_
    refine V_get 8 B gf_RX7_19 0 rfl rfl dX7_appendFour_8 ?_
    refine V_if_lt_f 11 B 49 dX7_appendFour_11 (by decide) (by decide +kernel) ?_
    refine V_aload_n 14 B dX7_appendFour_14 1 rfl ?_
    refine V_get 15 B gf_RX7_19 0 rfl rfl dX7_appendFour_15 ?_
    refine V_aload_n 18 B dX7_appendFour_18 1 rfl ?_
    refine V_get 19 B gf_RX7_9 0 rfl rfl dX7_appendFour_19 ?_
    refine V_alenB 22 B (v := 1600) 1 rfl (by decide +kernel) dX7_appendFour_22 ?_
    refine V_icmp_ge_f 23 B 49 dX7_appendFour_23 (by decide) (by decide +kernel) ?_
    refine V_aload_n 26 B dX7_appendFour_26 1 rfl ?_
    refine V_get 27 B gf_RX7_9 0 rfl rfl dX7_appendFour_27 ?_
    refine V_aload_n 30 B dX7_appendFour_30 1 rfl ?_
    refine V_get 31 B gf_RX7_19 0 rfl rfl dX7_appendFour_31 ?_
    refine V_iload_n 34 B dX7_appendFour_34 2 rfl ?_
    refine V_iload_n 35 B dX7_appendFour_35 0 rfl ?_
    refine V_ishr 36 B dX7_appendFour_36 rfl ?_
    refine V_i2b 37 B dX7_appendFour_37 rfl ?_
    refine V_bast 38 B 1 rfl (vpin _ _ (by decide +kernel)) dX7_appendFour_38 [(h0, oC 8 [.ref h1, .int 9, .int 0, .int 0, .int 0, .int 0, .long 0, .int 0, .int (-1)]), (h1, aB Y 1600 (upd (upd f0 8 (vp_nar .byte ((p0 >>> (24 &&& 31)).toInt8.toInt32))) 9 (vp_nar .byte ((p0 >>> (16 &&& 31)).toInt8.toInt32))))] rfl ?_
    refine V_aload_n 39 B dX7_appendFour_39 1 rfl ?_
    refine V_dup 40 B dX7_appendFour_40 rfl ?_
    refine V_get 41 B gf_RX7_19 0 rfl rfl dX7_appendFour_41 ?_
    refine V_iconst 44 B (v := 1) dX7_appendFour_44 (by decide +kernel) ?_
    refine V_iadd 45 B (v := 10) dX7_appendFour_45 (by decide +kernel) ?_
    refine V_put 46 B gp_RX7_19 0 rfl (Nat.le_of_ble_eq_true rfl) rfl rfl dX7_appendFour_46 [(h0, oC 8 [.ref h1, .int 10, .int 0, .int 0, .int 0, .int 0, .long 0, .int 0, .int (-1)]), (h1, aB Y 1600 (upd (upd f0 8 (vp_nar .byte ((p0 >>> (24 &&& 31)).toInt8.toInt32))) 9 (vp_nar .byte ((p0 >>> (16 &&& 31)).toInt8.toInt32))))] rfl ?_
    refine V_iinc 49 B (v := 8) (lv2 := [(2, .int 8), (0, .ref h0), (1, .int p0)]) dX7_appendFour_49 0 rfl (by decide +kernel) (by decide) rfl ?_
    refine V_goto 52 B 3 dX7_appendFour_52 (by decide) ?_
    refine V_iload_n 3 B dX7_appendFour_3 0 rfl ?_
    refine V_if_lt_f 4 B 55 dX7_appendFour_4 (by decide) (by decide +kernel) ?_
    refine V_aload_n 7 B dX7_appendFour_7 1 rfl ?_
    refine V_get 8 B gf_RX7_19 0 rfl rfl dX7_appendFour_8 ?_
    refine V_if_lt_f 11 B 49 dX7_appendFour_11 (by decide) (by decide +kernel) ?_
    refine V_aload_n 14 B dX7_appendFour_14 1 rfl ?_
    refine V_get 15 B gf_RX7_19 0 rfl rfl dX7_appendFour_15 ?_
    refine V_aload_n 18 B dX7_appendFour_18 1 rfl ?_
    refine V_get 19 B gf_RX7_9 0 rfl rfl dX7_appendFour_19 ?_
    refine V_alenB 22 B (v := 1600) 1 rfl (by decide +kernel) dX7_appendFour_22 ?_
    refine V_icmp_ge_f 23 B 49 dX7_appendFour_23 (by decide) (by decide +kernel) ?_
    refine V_aload_n 26 B dX7_appendFour_26 1 rfl ?_
    refine V_get 27 B gf_RX7_9 0 rfl rfl dX7_appendFour_27 ?_
    refine V_aload_n 30 B dX7_appendFour_30 1 rfl ?_
    refine V_get 31 B gf_RX7_19 0 rfl rfl dX7_appendFour_31 ?_
    refine V_iload_n 34 B dX7_appendFour_34 2 rfl ?_
    refine V_iload_n 35 B dX7_appendFour_35 0 rfl ?_
    refine V_ishr 36 B dX7_appendFour_36 rfl ?_
    refine V_i2b 37 B dX7_appendFour_37 rfl ?_
    refine V_bast 38 B 1 rfl (vpin _ _ (by decide +kernel)) dX7_appendFour_38 [(h0, oC 8 [.ref h1, .int 10, .int 0, .int 0, .int 0, .int 0, .long 0, .int 0, .int (-1)]), (h1, aB Y 1600 (upd (upd (upd f0 8 (vp_nar .byte ((p0 >>> (24 &&& 31)).toInt8.toInt32))) 9 (vp_nar .byte ((p0 >>> (16 &&& 31)).toInt8.toInt32))) 10 (vp_nar .byte ((p0 >>> (8 &&& 31)).toInt8.toInt32))))] rfl ?_
    refine V_aload_n 39 B dX7_appendFour_39 1 rfl ?_
    refine V_dup 40 B dX7_appendFour_40 rfl ?_
    refine V_get 41 B gf_RX7_19 0 rfl rfl dX7_appendFour_41 ?_
    refine V_iconst 44 B (v := 1) dX7_appendFour_44 (by decide +kernel) ?_
    refine V_iadd 45 B (v := 11) dX7_appendFour_45 (by decide +kernel) ?_
    refine V_put 46 B gp_RX7_19 0 rfl (Nat.le_of_ble_eq_true rfl) rfl rfl dX7_appendFour_46 [(h0, oC 8 [.ref h1, .int 11, .int 0, .int 0, .int 0, .int 0, .long 0, .int 0, .int (-1)]), (h1, aB Y 1600 (upd (upd (upd f0 8 (vp_nar .byte ((p0 >>> (24 &&& 31)).toInt8.toInt32))) 9 (vp_nar .byte ((p0 >>> (16 &&& 31)).toInt8.toInt32))) 10 (vp_nar .byte ((p0 >>> (8 &&& 31)).toInt8.toInt32))))] rfl ?_
    refine V_iinc 49 B (v := 0) (lv2 := [(2, .int 0), (0, .ref h0), (1, .int p0)]) dX7_appendFour_49 0 rfl (by decide +kernel) (by decide) rfl ?_
    refine V_goto 52 B 3 dX7_appendFour_52 (by decide) ?_
    refine V_iload_n 3 B dX7_appendFour_3 0 rfl ?_
    refine V_if_lt_f 4 B 55 dX7_appendFour_4 (by decide) (by decide +kernel) ?_
    refine V_aload_n 7 B dX7_appendFour_7 1 rfl ?_
    refine V_get 8 B gf_RX7_19 0 rfl rfl dX7_appendFour_8 ?_
    refine V_if_lt_f 11 B 49 dX7_appendFour_11 (by decide) (by decide +kernel) ?_
    refine V_aload_n 14 B dX7_appendFour_14 1 rfl ?_
    refine V_get 15 B gf_RX7_19 0 rfl rfl dX7_appendFour_15 ?_
    refine V_aload_n 18 B dX7_appendFour_18 1 rfl ?_
    refine V_get 19 B gf_RX7_9 0 rfl rfl dX7_appendFour_19 ?_
    refine V_alenB 22 B (v := 1600) 1 rfl (by decide +kernel) dX7_appendFour_22 ?_
    refine V_icmp_ge_f 23 B 49 dX7_appendFour_23 (by decide) (by decide +kernel) ?_
    refine V_aload_n 26 B dX7_appendFour_26 1 rfl ?_
    refine V_get 27 B gf_RX7_9 0 rfl rfl dX7_appendFour_27 ?_
    refine V_aload_n 30 B dX7_appendFour_30 1 rfl ?_
    refine V_get 31 B gf_RX7_19 0 rfl rfl dX7_appendFour_31 ?_
    refine V_iload_n 34 B dX7_appendFour_34 2 rfl ?_
    refine V_iload_n 35 B dX7_appendFour_35 0 rfl ?_
    refine V_ishr 36 B dX7_appendFour_36 rfl ?_
    refine V_i2b 37 B dX7_appendFour_37 rfl ?_
    refine V_bast 38 B 1 rfl (vpin _ _ (by decide +kernel)) dX7_appendFour_38 [(h0, oC 8 [.ref h1, .int 11, .int 0, .int 0, .int 0, .int 0, .long 0, .int 0, .int (-1)]), (h1, aB Y 1600 (upd (upd (upd (upd f0 8 (vp_nar .byte ((p0 >>> (24 &&& 31)).toInt8.toInt32))) 9 (vp_nar .byte ((p0 >>> (16 &&& 31)).toInt8.toInt32))) 10 (vp_nar .byte ((p0 >>> (8 &&& 31)).toInt8.toInt32))) 11 (vp_nar .byte ((p0 >>> (0 &&& 31)).toInt8.toInt32))))] rfl ?_
    refine V_aload_n 39 B dX7_appendFour_39 1 rfl ?_
    refine V_dup 40 B dX7_appendFour_40 rfl ?_
    refine V_get 41 B gf_RX7_19 0 rfl rfl dX7_appendFour_41 ?_
    refine V_iconst 44 B (v := 1) dX7_appendFour_44 (by decide +kernel) ?_
    refine V_iadd 45 B (v := 12) dX7_appendFour_45 (by decide +kernel) ?_
    refine V_put 46 B gp_RX7_19 0 rfl (Nat.le_of_ble_eq_true rfl) rfl rfl dX7_appendFour_46 [(h0, oC 8 [.ref h1, .int 12, .int 0, .int 0, .int 0, .int 0, .long 0, .int 0, .int (-1)]), (h1, aB Y 1600 (upd (upd (upd (upd f0 8 (vp_nar .byte ((p0 >>> (24 &&& 31)).toInt8.toInt32))) 9 (vp_nar .byte ((p0 >>> (16 &&& 31)).toInt8.toInt32))) 10 (vp_nar .byte ((p0 >>> (8 &&& 31)).toInt8.toInt32))) 11 (vp_nar .byte ((p0 >>> (0 &&& 31)).toInt8.toInt32))))] rfl ?_
    refine V_iinc 49 B (v := (-8)) (lv2 := [(2, .int (-8)), (0, .ref h0), (1, .int p0)]) dX7_appendFour_49 0 rfl (by decide +kernel) (by decide) rfl ?_
    refine V_goto 52 B 3 dX7_appendFour_52 (by decide) ?_
    refine V_iload_n 3 B dX7_appendFour_3 0 rfl ?_
    refine V_if_lt_t 4 B 55 dX7_appendFour_4 (by decide) (by decide +kernel) ?_
    exact V_vret 55 B dX7_appendFour_55 () trivial rfl)
set_option maxRecDepth 100000 in
set_option maxHeartbeats 4000000 in
theorem mX7_appendFour_4 (l : Launch) (D : va_G) (Y : Nat → ClassId) (h0 : Nat) (h1 : Nat) (p0 : Int32) (f0 : Nat → Int32) (sz : Nat) : Met l yX7_appendFour (WSm yX7_appendFour cX7_appendFour 3 none) (mkR 0 0 0 0) (PreC D Y [.ref h0, .int p0] [(h0, oC 8 [.ref h1, .int 12, .int 0, .int 0, .int 0, .int 0, .long 0, .int 0, .int (-1)]), (h1, aB Y 1600 f0)] sz) (QV D (fun (u : Unit) => True) (fun (_ : Unit) => [(h0, oC 8 [.ref h1, .int 16, .int 0, .int 0, .int 0, .int 0, .long 0, .int 0, .int (-1)]), (h1, aB Y 1600 (upd (upd (upd (upd f0 12 (vp_nar .byte ((p0 >>> (24 &&& 31)).toInt8.toInt32))) 13 (vp_nar .byte ((p0 >>> (16 &&& 31)).toInt8.toInt32))) 14 (vp_nar .byte ((p0 >>> (8 &&& 31)).toInt8.toInt32))) 15 (vp_nar .byte ((p0 >>> (0 &&& 31)).toInt8.toInt32))))]) (va_A [(h0, oC 8 [.ref h1, .int 12, .int 0, .int 0, .int 0, .int 0, .long 0, .int 0, .int (-1)]), (h1, aB Y 1600 f0)] sz)) 0 0 (va_A [(h0, oC 8 [.ref h1, .int 12, .int 0, .int 0, .int 0, .int 0, .long 0, .int 0, .int (-1)]), (h1, aB Y 1600 f0)] sz) :=
  met_of (by decide +kernel) (Nat.le_of_ble_eq_true rfl) (fun p e s m args below meth c B hin hsz => by
    have B : VB p s m args meth c D Y (va_A [(h0, oC 8 [.ref h1, .int 12, .int 0, .int 0, .int 0, .int 0, .long 0, .int 0, .int (-1)]), (h1, aB Y 1600 f0)] sz) cX7_appendFour 3 RX7 none := B
    refine V_bipush 0 B (v := 24) dX7_appendFour_0 (by decide +kernel) ?_
    refine V_istore_n 2 B (lv2 := [(2, .int 24), (0, .ref h0), (1, .int p0)]) dX7_appendFour_2 (by decide) rfl ?_
    refine V_iload_n 3 B dX7_appendFour_3 0 rfl ?_
    refine V_if_lt_f 4 B 55 dX7_appendFour_4 (by decide) (by decide +kernel) ?_
    refine V_aload_n 7 B dX7_appendFour_7 1 rfl ?_
    refine V_get 8 B gf_RX7_19 0 rfl rfl dX7_appendFour_8 ?_
    refine V_if_lt_f 11 B 49 dX7_appendFour_11 (by decide) (by decide +kernel) ?_
    refine V_aload_n 14 B dX7_appendFour_14 1 rfl ?_
    refine V_get 15 B gf_RX7_19 0 rfl rfl dX7_appendFour_15 ?_
    refine V_aload_n 18 B dX7_appendFour_18 1 rfl ?_
    refine V_get 19 B gf_RX7_9 0 rfl rfl dX7_appendFour_19 ?_
    refine V_alenB 22 B (v := 1600) 1 rfl (by decide +kernel) dX7_appendFour_22 ?_
    refine V_icmp_ge_f 23 B 49 dX7_appendFour_23 (by decide) (by decide +kernel) ?_
    refine V_aload_n 26 B dX7_appendFour_26 1 rfl ?_
    refine V_get 27 B gf_RX7_9 0 rfl rfl dX7_appendFour_27 ?_
    refine V_aload_n 30 B dX7_appendFour_30 1 rfl ?_
    refine V_get 31 B gf_RX7_19 0 rfl rfl dX7_appendFour_31 ?_
    refine V_iload_n 34 B dX7_appendFour_34 2 rfl ?_
    refine V_iload_n 35 B dX7_appendFour_35 0 rfl ?_
    refine V_ishr 36 B dX7_appendFour_36 rfl ?_
    refine V_i2b 37 B dX7_appendFour_37 rfl ?_
    refine V_bast 38 B 1 rfl (vpin _ _ (by decide +kernel)) dX7_appendFour_38 [(h0, oC 8 [.ref h1, .int 12, .int 0, .int 0, .int 0, .int 0, .long 0, .int 0, .int (-1)]), (h1, aB Y 1600 (upd f0 12 (vp_nar .byte ((p0 >>> (24 &&& 31)).toInt8.toInt32))))] rfl ?_
    refine V_aload_n 39 B dX7_appendFour_39 1 rfl ?_
    refine V_dup 40 B dX7_appendFour_40 rfl ?_
    refine V_get 41 B gf_RX7_19 0 rfl rfl dX7_appendFour_41 ?_
    refine V_iconst 44 B (v := 1) dX7_appendFour_44 (by decide +kernel) ?_
    refine V_iadd 45 B (v := 13) dX7_appendFour_45 (by decide +kernel) ?_
    refine V_put 46 B gp_RX7_19 0 rfl (Nat.le_of_ble_eq_true rfl) rfl rfl dX7_appendFour_46 [(h0, oC 8 [.ref h1, .int 13, .int 0, .int 0, .int 0, .int 0, .long 0, .int 0, .int (-1)]), (h1, aB Y 1600 (upd f0 12 (vp_nar .byte ((p0 >>> (24 &&& 31)).toInt8.toInt32))))] rfl ?_
    refine V_iinc 49 B (v := 16) (lv2 := [(2, .int 16), (0, .ref h0), (1, .int p0)]) dX7_appendFour_49 0 rfl (by decide +kernel) (by decide) rfl ?_
    refine V_goto 52 B 3 dX7_appendFour_52 (by decide) ?_
    refine V_iload_n 3 B dX7_appendFour_3 0 rfl ?_
    refine V_if_lt_f 4 B 55 dX7_appendFour_4 (by decide) (by decide +kernel) ?_
    refine V_aload_n 7 B dX7_appendFour_7 1 rfl ?_
    refine V_get 8 B gf_RX7_19 0 rfl rfl dX7_appendFour_8 ?_
    refine V_if_lt_f 11 B 49 dX7_appendFour_11 (by decide) (by decide +kernel) ?_
    refine V_aload_n 14 B dX7_appendFour_14 1 rfl ?_
    refine V_get 15 B gf_RX7_19 0 rfl rfl dX7_appendFour_15 ?_
    refine V_aload_n 18 B dX7_appendFour_18 1 rfl ?_
    refine V_get 19 B gf_RX7_9 0 rfl rfl dX7_appendFour_19 ?_
    refine V_alenB 22 B (v := 1600) 1 rfl (by decide +kernel) dX7_appendFour_22 ?_
    refine V_icmp_ge_f 23 B 49 dX7_appendFour_23 (by decide) (by decide +kernel) ?_
    refine V_aload_n 26 B dX7_appendFour_26 1 rfl ?_
    refine V_get 27 B gf_RX7_9 0 rfl rfl dX7_appendFour_27 ?_
    refine V_aload_n 30 B dX7_appendFour_30 1 rfl ?_
    refine V_get 31 B gf_RX7_19 0 rfl rfl dX7_appendFour_31 ?_
    refine V_iload_n 34 B dX7_appendFour_34 2 rfl ?_
    refine V_iload_n 35 B dX7_appendFour_35 0 rfl ?_
    refine V_ishr 36 B dX7_appendFour_36 rfl ?_
    refine V_i2b 37 B dX7_appendFour_37 rfl ?_
    refine V_bast 38 B 1 rfl (vpin _ _ (by decide +kernel)) dX7_appendFour_38 [(h0, oC 8 [.ref h1, .int 13, .int 0, .int 0, .int 0, .int 0, .long 0, .int 0, .int (-1)]), (h1, aB Y 1600 (upd (upd f0 12 (vp_nar .byte ((p0 >>> (24 &&& 31)).toInt8.toInt32))) 13 (vp_nar .byte ((p0 >>> (16 &&& 31)).toInt8.toInt32))))] rfl ?_
    refine V_aload_n 39 B dX7_appendFour_39 1 rfl ?_
    refine V_dup 40 B dX7_appendFour_40 rfl ?_
    refine V_get 41 B gf_RX7_19 0 rfl rfl dX7_appendFour_41 ?_
    refine V_iconst 44 B (v := 1) dX7_appendFour_44 (by decide +kernel) ?_
    refine V_iadd 45 B (v := 14) dX7_appendFour_45 (by decide +kernel) ?_
    refine V_put 46 B gp_RX7_19 0 rfl (Nat.le_of_ble_eq_true rfl) rfl rfl dX7_appendFour_46 [(h0, oC 8 [.ref h1, .int 14, .int 0, .int 0, .int 0, .int 0, .long 0, .int 0, .int (-1)]), (h1, aB Y 1600 (upd (upd f0 12 (vp_nar .byte ((p0 >>> (24 &&& 31)).toInt8.toInt32))) 13 (vp_nar .byte ((p0 >>> (16 &&& 31)).toInt8.toInt32))))] rfl ?_
    refine V_iinc 49 B (v := 8) (lv2 := [(2, .int 8), (0, .ref h0), (1, .int p0)]) dX7_appendFour_49 0 rfl (by decide +kernel) (by decide) rfl ?_
    refine V_goto 52 B 3 dX7_appendFour_52 (by decide) ?_
    refine V_iload_n 3 B dX7_appendFour_3 0 rfl ?_
    refine V_if_lt_f 4 B 55 dX7_appendFour_4 (by decide) (by decide +kernel) ?_
    refine V_aload_n 7 B dX7_appendFour_7 1 rfl ?_
    refine V_get 8 B gf_RX7_19 0 rfl rfl dX7_appendFour_8 ?_
    refine V_if_lt_f 11 B 49 dX7_appendFour_11 (by decide) (by decide +kernel) ?_
    refine V_aload_n 14 B dX7_appendFour_14 1 rfl ?_
    refine V_get 15 B gf_RX7_19 0 rfl rfl dX7_appendFour_15 ?_
    refine V_aload_n 18 B dX7_appendFour_18 1 rfl ?_
    refine V_get 19 B gf_RX7_9 0 rfl rfl dX7_appendFour_19 ?_
    refine V_alenB 22 B (v := 1600) 1 rfl (by decide +kernel) dX7_appendFour_22 ?_
    refine V_icmp_ge_f 23 B 49 dX7_appendFour_23 (by decide) (by decide +kernel) ?_
    refine V_aload_n 26 B dX7_appendFour_26 1 rfl ?_
    refine V_get 27 B gf_RX7_9 0 rfl rfl dX7_appendFour_27 ?_
    refine V_aload_n 30 B dX7_appendFour_30 1 rfl ?_
    refine V_get 31 B gf_RX7_19 0 rfl rfl dX7_appendFour_31 ?_
    refine V_iload_n 34 B dX7_appendFour_34 2 rfl ?_
    refine V_iload_n 35 B dX7_appendFour_35 0 rfl ?_
    refine V_ishr 36 B dX7_appendFour_36 rfl ?_
    refine V_i2b 37 B dX7_appendFour_37 rfl ?_
    refine V_bast 38 B 1 rfl (vpin _ _ (by decide +kernel)) dX7_appendFour_38 [(h0, oC 8 [.ref h1, .int 14, .int 0, .int 0, .int 0, .int 0, .long 0, .int 0, .int (-1)]), (h1, aB Y 1600 (upd (upd (upd f0 12 (vp_nar .byte ((p0 >>> (24 &&& 31)).toInt8.toInt32))) 13 (vp_nar .byte ((p0 >>> (16 &&& 31)).toInt8.toInt32))) 14 (vp_nar .byte ((p0 >>> (8 &&& 31)).toInt8.toInt32))))] rfl ?_
    refine V_aload_n 39 B dX7_appendFour_39 1 rfl ?_
    refine V_dup 40 B dX7_appendFour_40 rfl ?_
    refine V_get 41 B gf_RX7_19 0 rfl rfl dX7_appendFour_41 ?_
    refine V_iconst 44 B (v := 1) dX7_appendFour_44 (by decide +kernel) ?_
    refine V_iadd 45 B (v := 15) dX7_appendFour_45 (by decide +kernel) ?_
    refine V_put 46 B gp_RX7_19 0 rfl (Nat.le_of_ble_eq_true rfl) rfl rfl dX7_appendFour_46 [(h0, oC 8 [.ref h1, .int 15, .int 0, .int 0, .int 0, .int 0, .long 0, .int 0, .int (-1)]), (h1, aB Y 1600 (upd (upd (upd f0 12 (vp_nar .byte ((p0 >>> (24 &&& 31)).toInt8.toInt32))) 13 (vp_nar .byte ((p0 >>> (16 &&& 31)).toInt8.toInt32))) 14 (vp_nar .byte ((p0 >>> (8 &&& 31)).toInt8.toInt32))))] rfl ?_
    refine V_iinc 49 B (v := 0) (lv2 := [(2, .int 0), (0, .ref h0), (1, .int p0)]) dX7_appendFour_49 0 rfl (by decide +kernel) (by decide) rfl ?_
    refine V_goto 52 B 3 dX7_appendFour_52 (by decide) ?_
    refine V_iload_n 3 B dX7_appendFour_3 0 rfl ?_
    refine V_if_lt_f 4 B 55 dX7_appendFour_4 (by decide) (by decide +kernel) ?_
    refine V_aload_n 7 B dX7_appendFour_7 1 rfl ?_
    refine V_get 8 B gf_RX7_19 0 rfl rfl dX7_appendFour_8 ?_
    refine V_if_lt_f 11 B 49 dX7_appendFour_11 (by decide) (by decide +kernel) ?_
    refine V_aload_n 14 B dX7_appendFour_14 1 rfl ?_
    refine V_get 15 B gf_RX7_19 0 rfl rfl dX7_appendFour_15 ?_
    refine V_aload_n 18 B dX7_appendFour_18 1 rfl ?_
    refine V_get 19 B gf_RX7_9 0 rfl rfl dX7_appendFour_19 ?_
    refine V_alenB 22 B (v := 1600) 1 rfl (by decide +kernel) dX7_appendFour_22 ?_
    refine V_icmp_ge_f 23 B 49 dX7_appendFour_23 (by decide) (by decide +kernel) ?_
    refine V_aload_n 26 B dX7_appendFour_26 1 rfl ?_
    refine V_get 27 B gf_RX7_9 0 rfl rfl dX7_appendFour_27 ?_
    refine V_aload_n 30 B dX7_appendFour_30 1 rfl ?_
    refine V_get 31 B gf_RX7_19 0 rfl rfl dX7_appendFour_31 ?_
    refine V_iload_n 34 B dX7_appendFour_34 2 rfl ?_
    refine V_iload_n 35 B dX7_appendFour_35 0 rfl ?_
    refine V_ishr 36 B dX7_appendFour_36 rfl ?_
    refine V_i2b 37 B dX7_appendFour_37 rfl ?_
    refine V_bast 38 B 1 rfl (vpin _ _ (by decide +kernel)) dX7_appendFour_38 [(h0, oC 8 [.ref h1, .int 15, .int 0, .int 0, .int 0, .int 0, .long 0, .int 0, .int (-1)]), (h1, aB Y 1600 (upd (upd (upd (upd f0 12 (vp_nar .byte ((p0 >>> (24 &&& 31)).toInt8.toInt32))) 13 (vp_nar .byte ((p0 >>> (16 &&& 31)).toInt8.toInt32))) 14 (vp_nar .byte ((p0 >>> (8 &&& 31)).toInt8.toInt32))) 15 (vp_nar .byte ((p0 >>> (0 &&& 31)).toInt8.toInt32))))] rfl ?_
    refine V_aload_n 39 B dX7_appendFour_39 1 rfl ?_
    refine V_dup 40 B dX7_appendFour_40 rfl ?_
    refine V_get 41 B gf_RX7_19 0 rfl rfl dX7_appendFour_41 ?_
    refine V_iconst 44 B (v := 1) dX7_appendFour_44 (by decide +kernel) ?_
    refine V_iadd 45 B (v := 16) dX7_appendFour_45 (by decide +kernel) ?_
    refine V_put 46 B gp_RX7_19 0 rfl (Nat.le_of_ble_eq_true rfl) rfl rfl dX7_appendFour_46 [(h0, oC 8 [.ref h1, .int 16, .int 0, .int 0, .int 0, .int 0, .long 0, .int 0, .int (-1)]), (h1, aB Y 1600 (upd (upd (upd (upd f0 12 (vp_nar .byte ((p0 >>> (24 &&& 31)).toInt8.toInt32))) 13 (vp_nar .byte ((p0 >>> (16 &&& 31)).toInt8.toInt32))) 14 (vp_nar .byte ((p0 >>> (8 &&& 31)).toInt8.toInt32))) 15 (vp_nar .byte ((p0 >>> (0 &&& 31)).toInt8.toInt32))))] rfl ?_
    refine V_iinc 49 B (v := (-8)) (lv2 := [(2, .int (-8)), (0, .ref h0), (1, .int p0)]) dX7_appendFour_49 0 rfl (by decide +kernel) (by decide) rfl ?_
    refine V_goto 52 B 3 dX7_appendFour_52 (by decide) ?_
    refine V_iload_n 3 B dX7_appendFour_3 0 rfl ?_
    refine V_if_lt_t 4 B 55 dX7_appendFour_4 (by decide) (by decide +kernel) ?_
    exact V_vret 55 B dX7_appendFour_55 () trivial rfl)
set_option maxRecDepth 100000 in
set_option maxHeartbeats 4000000 in
theorem mX7_appendFour_5 (l : Launch) (D : va_G) (Y : Nat → ClassId) (h0 : Nat) (h1 : Nat) (p0 : Int32) (f0 : Nat → Int32) (sz : Nat) : Met l yX7_appendFour (WSm yX7_appendFour cX7_appendFour 3 none) (mkR 0 0 0 0) (PreC D Y [.ref h0, .int p0] [(h0, oC 8 [.ref h1, .int 16, .int 0, .int 0, .int 0, .int 0, .long 0, .int 0, .int (-1)]), (h1, aB Y 1600 f0)] sz) (QV D (fun (u : Unit) => True) (fun (_ : Unit) => [(h0, oC 8 [.ref h1, .int 20, .int 0, .int 0, .int 0, .int 0, .long 0, .int 0, .int (-1)]), (h1, aB Y 1600 (upd (upd (upd (upd f0 16 (vp_nar .byte ((p0 >>> (24 &&& 31)).toInt8.toInt32))) 17 (vp_nar .byte ((p0 >>> (16 &&& 31)).toInt8.toInt32))) 18 (vp_nar .byte ((p0 >>> (8 &&& 31)).toInt8.toInt32))) 19 (vp_nar .byte ((p0 >>> (0 &&& 31)).toInt8.toInt32))))]) (va_A [(h0, oC 8 [.ref h1, .int 16, .int 0, .int 0, .int 0, .int 0, .long 0, .int 0, .int (-1)]), (h1, aB Y 1600 f0)] sz)) 0 0 (va_A [(h0, oC 8 [.ref h1, .int 16, .int 0, .int 0, .int 0, .int 0, .long 0, .int 0, .int (-1)]), (h1, aB Y 1600 f0)] sz) :=
  met_of (by decide +kernel) (Nat.le_of_ble_eq_true rfl) (fun p e s m args below meth c B hin hsz => by
    have B : VB p s m args meth c D Y (va_A [(h0, oC 8 [.ref h1, .int 16, .int 0, .int 0, .int 0, .int 0, .long 0, .int 0, .int (-1)]), (h1, aB Y 1600 f0)] sz) cX7_appendFour 3 RX7 none := B
    refine V_bipush 0 B (v := 24) dX7_appendFour_0 (by decide +kernel) ?_
    refine V_istore_n 2 B (lv2 := [(2, .int 24), (0, .ref h0), (1, .int p0)]) dX7_appendFour_2 (by decide) rfl ?_
    refine V_iload_n 3 B dX7_appendFour_3 0 rfl ?_
    refine V_if_lt_f 4 B 55 dX7_appendFour_4 (by decide) (by decide +kernel) ?_
    refine V_aload_n 7 B dX7_appendFour_7 1 rfl ?_
    refine V_get 8 B gf_RX7_19 0 rfl rfl dX7_appendFour_8 ?_
    refine V_if_lt_f 11 B 49 dX7_appendFour_11 (by decide) (by decide +kernel) ?_
    refine V_aload_n 14 B dX7_appendFour_14 1 rfl ?_
    refine V_get 15 B gf_RX7_19 0 rfl rfl dX7_appendFour_15 ?_
    refine V_aload_n 18 B dX7_appendFour_18 1 rfl ?_
    refine V_get 19 B gf_RX7_9 0 rfl rfl dX7_appendFour_19 ?_
    refine V_alenB 22 B (v := 1600) 1 rfl (by decide +kernel) dX7_appendFour_22 ?_
    refine V_icmp_ge_f 23 B 49 dX7_appendFour_23 (by decide) (by decide +kernel) ?_
    refine V_aload_n 26 B dX7_appendFour_26 1 rfl ?_
    refine V_get 27 B gf_RX7_9 0 rfl rfl dX7_appendFour_27 ?_
    refine V_aload_n 30 B dX7_appendFour_30 1 rfl ?_
    refine V_get 31 B gf_RX7_19 0 rfl rfl dX7_appendFour_31 ?_
    refine V_iload_n 34 B dX7_appendFour_34 2 rfl ?_
    refine V_iload_n 35 B dX7_appendFour_35 0 rfl ?_
    refine V_ishr 36 B dX7_appendFour_36 rfl ?_
    refine V_i2b 37 B dX7_appendFour_37 rfl ?_
    refine V_bast 38 B 1 rfl (vpin _ _ (by decide +kernel)) dX7_appendFour_38 [(h0, oC 8 [.ref h1, .int 16, .int 0, .int 0, .int 0, .int 0, .long 0, .int 0, .int (-1)]), (h1, aB Y 1600 (upd f0 16 (vp_nar .byte ((p0 >>> (24 &&& 31)).toInt8.toInt32))))] rfl ?_
    refine V_aload_n 39 B dX7_appendFour_39 1 rfl ?_
    refine V_dup 40 B dX7_appendFour_40 rfl ?_
    refine V_get 41 B gf_RX7_19 0 rfl rfl dX7_appendFour_41 ?_
    refine V_iconst 44 B (v := 1) dX7_appendFour_44 (by decide +kernel) ?_
    refine V_iadd 45 B (v := 17) dX7_appendFour_45 (by decide +kernel) ?_
    refine V_put 46 B gp_RX7_19 0 rfl (Nat.le_of_ble_eq_true rfl) rfl rfl dX7_appendFour_46 [(h0, oC 8 [.ref h1, .int 17, .int 0, .int 0, .int 0, .int 0, .long 0, .int 0, .int (-1)]), (h1, aB Y 1600 (upd f0 16 (vp_nar .byte ((p0 >>> (24 &&& 31)).toInt8.toInt32))))] rfl ?_
    refine V_iinc 49 B (v := 16) (lv2 := [(2, .int 16), (0, .ref h0), (1, .int p0)]) dX7_appendFour_49 0 rfl (by decide +kernel) (by decide) rfl ?_
    refine V_goto 52 B 3 dX7_appendFour_52 (by decide) ?_
    refine V_iload_n 3 B dX7_appendFour_3 0 rfl ?_
    refine V_if_lt_f 4 B 55 dX7_appendFour_4 (by decide) (by decide +kernel) ?_
    refine V_aload_n 7 B dX7_appendFour_7 1 rfl ?_
    refine V_get 8 B gf_RX7_19 0 rfl rfl dX7_appendFour_8 ?_
    refine V_if_lt_f 11 B 49 dX7_appendFour_11 (by decide) (by decide +kernel) ?_
    refine V_aload_n 14 B dX7_appendFour_14 1 rfl ?_
    refine V_get 15 B gf_RX7_19 0 rfl rfl dX7_appendFour_15 ?_
    refine V_aload_n 18 B dX7_appendFour_18 1 rfl ?_
    refine V_get 19 B gf_RX7_9 0 rfl rfl dX7_appendFour_19 ?_
    refine V_alenB 22 B (v := 1600) 1 rfl (by decide +kernel) dX7_appendFour_22 ?_
    refine V_icmp_ge_f 23 B 49 dX7_appendFour_23 (by decide) (by decide +kernel) ?_
    refine V_aload_n 26 B dX7_appendFour_26 1 rfl ?_
    refine V_get 27 B gf_RX7_9 0 rfl rfl dX7_appendFour_27 ?_
    refine V_aload_n 30 B dX7_appendFour_30 1 rfl ?_
    refine V_get 31 B gf_RX7_19 0 rfl rfl dX7_appendFour_31 ?_
    refine V_iload_n 34 B dX7_appendFour_34 2 rfl ?_
    refine V_iload_n 35 B dX7_appendFour_35 0 rfl ?_
    refine V_ishr 36 B dX7_appendFour_36 rfl ?_
    refine V_i2b 37 B dX7_appendFour_37 rfl ?_
    refine V_bast 38 B 1 rfl (vpin _ _ (by decide +kernel)) dX7_appendFour_38 [(h0, oC 8 [.ref h1, .int 17, .int 0, .int 0, .int 0, .int 0, .long 0, .int 0, .int (-1)]), (h1, aB Y 1600 (upd (upd f0 16 (vp_nar .byte ((p0 >>> (24 &&& 31)).toInt8.toInt32))) 17 (vp_nar .byte ((p0 >>> (16 &&& 31)).toInt8.toInt32))))] rfl ?_
    refine V_aload_n 39 B dX7_appendFour_39 1 rfl ?_
    refine V_dup 40 B dX7_appendFour_40 rfl ?_
    refine V_get 41 B gf_RX7_19 0 rfl rfl dX7_appendFour_41 ?_
    refine V_iconst 44 B (v := 1) dX7_appendFour_44 (by decide +kernel) ?_
    refine V_iadd 45 B (v := 18) dX7_appendFour_45 (by decide +kernel) ?_
    refine V_put 46 B gp_RX7_19 0 rfl (Nat.le_of_ble_eq_true rfl) rfl rfl dX7_appendFour_46 [(h0, oC 8 [.ref h1, .int 18, .int 0, .int 0, .int 0, .int 0, .long 0, .int 0, .int (-1)]), (h1, aB Y 1600 (upd (upd f0 16 (vp_nar .byte ((p0 >>> (24 &&& 31)).toInt8.toInt32))) 17 (vp_nar .byte ((p0 >>> (16 &&& 31)).toInt8.toInt32))))] rfl ?_
    refine V_iinc 49 B (v := 8) (lv2 := [(2, .int 8), (0, .ref h0), (1, .int p0)]) dX7_appendFour_49 0 rfl (by decide +kernel) (by decide) rfl ?_
    refine V_goto 52 B 3 dX7_appendFour_52 (by decide) ?_
    refine V_iload_n 3 B dX7_appendFour_3 0 rfl ?_
    refine V_if_lt_f 4 B 55 dX7_appendFour_4 (by decide) (by decide +kernel) ?_
    refine V_aload_n 7 B dX7_appendFour_7 1 rfl ?_
    refine V_get 8 B gf_RX7_19 0 rfl rfl dX7_appendFour_8 ?_
    refine V_if_lt_f 11 B 49 dX7_appendFour_11 (by decide) (by decide +kernel) ?_
    refine V_aload_n 14 B dX7_appendFour_14 1 rfl ?_
    refine V_get 15 B gf_RX7_19 0 rfl rfl dX7_appendFour_15 ?_
    refine V_aload_n 18 B dX7_appendFour_18 1 rfl ?_
    refine V_get 19 B gf_RX7_9 0 rfl rfl dX7_appendFour_19 ?_
    refine V_alenB 22 B (v := 1600) 1 rfl (by decide +kernel) dX7_appendFour_22 ?_
    refine V_icmp_ge_f 23 B 49 dX7_appendFour_23 (by decide) (by decide +kernel) ?_
    refine V_aload_n 26 B dX7_appendFour_26 1 rfl ?_
    refine V_get 27 B gf_RX7_9 0 rfl rfl dX7_appendFour_27 ?_
    refine V_aload_n 30 B dX7_appendFour_30 1 rfl ?_
    refine V_get 31 B gf_RX7_19 0 rfl rfl dX7_appendFour_31 ?_
    refine V_iload_n 34 B dX7_appendFour_34 2 rfl ?_
    refine V_iload_n 35 B dX7_appendFour_35 0 rfl ?_
    refine V_ishr 36 B dX7_appendFour_36 rfl ?_
    refine V_i2b 37 B dX7_appendFour_37 rfl ?_
    refine V_bast 38 B 1 rfl (vpin _ _ (by decide +kernel)) dX7_appendFour_38 [(h0, oC 8 [.ref h1, .int 18, .int 0, .int 0, .int 0, .int 0, .long 0, .int 0, .int (-1)]), (h1, aB Y 1600 (upd (upd (upd f0 16 (vp_nar .byte ((p0 >>> (24 &&& 31)).toInt8.toInt32))) 17 (vp_nar .byte ((p0 >>> (16 &&& 31)).toInt8.toInt32))) 18 (vp_nar .byte ((p0 >>> (8 &&& 31)).toInt8.toInt32))))] rfl ?_
    refine V_aload_n 39 B dX7_appendFour_39 1 rfl ?_
    refine V_dup 40 B dX7_appendFour_40 rfl ?_
    refine V_get 41 B gf_RX7_19 0 rfl rfl dX7_appendFour_41 ?_
    refine V_iconst 44 B (v := 1) dX7_appendFour_44 (by decide +kernel) ?_
    refine V_iadd 45 B (v := 19) dX7_appendFour_45 (by decide +kernel) ?_
    refine V_put 46 B gp_RX7_19 0 rfl (Nat.le_of_ble_eq_true rfl) rfl rfl dX7_appendFour_46 [(h0, oC 8 [.ref h1, .int 19, .int 0, .int 0, .int 0, .int 0, .long 0, .int 0, .int (-1)]), (h1, aB Y 1600 (upd (upd (upd f0 16 (vp_nar .byte ((p0 >>> (24 &&& 31)).toInt8.toInt32))) 17 (vp_nar .byte ((p0 >>> (16 &&& 31)).toInt8.toInt32))) 18 (vp_nar .byte ((p0 >>> (8 &&& 31)).toInt8.toInt32))))] rfl ?_
    refine V_iinc 49 B (v := 0) (lv2 := [(2, .int 0), (0, .ref h0), (1, .int p0)]) dX7_appendFour_49 0 rfl (by decide +kernel) (by decide) rfl ?_
    refine V_goto 52 B 3 dX7_appendFour_52 (by decide) ?_
    refine V_iload_n 3 B dX7_appendFour_3 0 rfl ?_
    refine V_if_lt_f 4 B 55 dX7_appendFour_4 (by decide) (by decide +kernel) ?_
    refine V_aload_n 7 B dX7_appendFour_7 1 rfl ?_
    refine V_get 8 B gf_RX7_19 0 rfl rfl dX7_appendFour_8 ?_
    refine V_if_lt_f 11 B 49 dX7_appendFour_11 (by decide) (by decide +kernel) ?_
    refine V_aload_n 14 B dX7_appendFour_14 1 rfl ?_
    refine V_get 15 B gf_RX7_19 0 rfl rfl dX7_appendFour_15 ?_
    refine V_aload_n 18 B dX7_appendFour_18 1 rfl ?_
    refine V_get 19 B gf_RX7_9 0 rfl rfl dX7_appendFour_19 ?_
    refine V_alenB 22 B (v := 1600) 1 rfl (by decide +kernel) dX7_appendFour_22 ?_
    refine V_icmp_ge_f 23 B 49 dX7_appendFour_23 (by decide) (by decide +kernel) ?_
    refine V_aload_n 26 B dX7_appendFour_26 1 rfl ?_
    refine V_get 27 B gf_RX7_9 0 rfl rfl dX7_appendFour_27 ?_
    refine V_aload_n 30 B dX7_appendFour_30 1 rfl ?_
    refine V_get 31 B gf_RX7_19 0 rfl rfl dX7_appendFour_31 ?_
    refine V_iload_n 34 B dX7_appendFour_34 2 rfl ?_
    refine V_iload_n 35 B dX7_appendFour_35 0 rfl ?_
    refine V_ishr 36 B dX7_appendFour_36 rfl ?_
    refine V_i2b 37 B dX7_appendFour_37 rfl ?_
    refine V_bast 38 B 1 rfl (vpin _ _ (by decide +kernel)) dX7_appendFour_38 [(h0, oC 8 [.ref h1, .int 19, .int 0, .int 0, .int 0, .int 0, .long 0, .int 0, .int (-1)]), (h1, aB Y 1600 (upd (upd (upd (upd f0 16 (vp_nar .byte ((p0 >>> (24 &&& 31)).toInt8.toInt32))) 17 (vp_nar .byte ((p0 >>> (16 &&& 31)).toInt8.toInt32))) 18 (vp_nar .byte ((p0 >>> (8 &&& 31)).toInt8.toInt32))) 19 (vp_nar .byte ((p0 >>> (0 &&& 31)).toInt8.toInt32))))] rfl ?_
    refine V_aload_n 39 B dX7_appendFour_39 1 rfl ?_
    refine V_dup 40 B dX7_appendFour_40 rfl ?_
    refine V_get 41 B gf_RX7_19 0 rfl rfl dX7_appendFour_41 ?_
    refine V_iconst 44 B (v := 1) dX7_appendFour_44 (by decide +kernel) ?_
    refine V_iadd 45 B (v := 20) dX7_appendFour_45 (by decide +kernel) ?_
    refine V_put 46 B gp_RX7_19 0 rfl (Nat.le_of_ble_eq_true rfl) rfl rfl dX7_appendFour_46 [(h0, oC 8 [.ref h1, .int 20, .int 0, .int 0, .int 0, .int 0, .long 0, .int 0, .int (-1)]), (h1, aB Y 1600 (upd (upd (upd (upd f0 16 (vp_nar .byte ((p0 >>> (24 &&& 31)).toInt8.toInt32))) 17 (vp_nar .byte ((p0 >>> (16 &&& 31)).toInt8.toInt32))) 18 (vp_nar .byte ((p0 >>> (8 &&& 31)).toInt8.toInt32))) 19 (vp_nar .byte ((p0 >>> (0 &&& 31)).toInt8.toInt32))))] rfl ?_
    refine V_iinc 49 B (v := (-8)) (lv2 := [(2, .int (-8)), (0, .ref h0), (1, .int p0)]) dX7_appendFour_49 0 rfl (by decide +kernel) (by decide) rfl ?_
    refine V_goto 52 B 3 dX7_appendFour_52 (by decide) ?_
    refine V_iload_n 3 B dX7_appendFour_3 0 rfl ?_
    refine V_if_lt_t 4 B 55 dX7_appendFour_4 (by decide) (by decide +kernel) ?_
    exact V_vret 55 B dX7_appendFour_55 () trivial rfl)
theorem dX11_appendInput_0 : decode cX11_appendInput 0 = .ok (.aload_n 0, 1) := by decide +kernel
theorem dX11_appendInput_1 : decode cX11_appendInput 1 = .ok (.getfield 46, 3) := by decide +kernel
theorem dX11_appendInput_4 : decode cX11_appendInput 4 = .ok (.getfield 72, 3) := by decide +kernel
theorem gf_RX11_72 : GF RX11 72 8 1 := ⟨RX7, TX7, 9, rfl, inw_X7, Nat.le_of_ble_eq_true rfl, (mT2 37 rfl rfl)⟩
theorem dX11_appendInput_7 : decode cX11_appendInput 7 = .ok (.bipush 20, 2) := by decide +kernel
theorem dX11_appendInput_9 : decode cX11_appendInput 9 = .ok (.iadd, 1) := by decide +kernel
theorem dX11_appendInput_10 : decode cX11_appendInput 10 = .ok (.sipush 1600, 3) := by decide +kernel
theorem dX11_appendInput_13 : decode cX11_appendInput 13 = .ok (.if_icmp .le 5, 3) := by decide +kernel
theorem dX11_appendInput_18 : decode cX11_appendInput 18 = .ok (.aload_n 0, 1) := by decide +kernel
theorem dX11_appendInput_19 : decode cX11_appendInput 19 = .ok (.getfield 46, 3) := by decide +kernel
theorem dX11_appendInput_22 : decode cX11_appendInput 22 = .ok (.iload_n 1, 1) := by decide +kernel
theorem dX11_appendInput_23 : decode cX11_appendInput 23 = .ok (.invokevirtual 76, 3) := by decide +kernel
theorem glV_RX11_76 : GLV RX11 76 yX7_appendFour RX7 cX7_appendFour 3 none 1 := ⟨⟨(mT2 163 rfl rfl), (mT2 164 rfl rfl), (mT2 165 rfl rfl), (mT1 10 rfl rfl), (mT2 166 rfl rfl)⟩, by decide +kernel⟩
theorem dX11_appendInput_26 : decode cX11_appendInput 26 = .ok (.aload_n 0, 1) := by decide +kernel
theorem dX11_appendInput_27 : decode cX11_appendInput 27 = .ok (.getfield 46, 3) := by decide +kernel
theorem dX11_appendInput_30 : decode cX11_appendInput 30 = .ok (.iload_n 2, 1) := by decide +kernel
theorem dX11_appendInput_31 : decode cX11_appendInput 31 = .ok (.invokevirtual 76, 3) := by decide +kernel
theorem dX11_appendInput_34 : decode cX11_appendInput 34 = .ok (.aload_n 0, 1) := by decide +kernel
theorem dX11_appendInput_35 : decode cX11_appendInput 35 = .ok (.getfield 46, 3) := by decide +kernel
theorem dX11_appendInput_38 : decode cX11_appendInput 38 = .ok (.iload_n 3, 1) := by decide +kernel
theorem dX11_appendInput_39 : decode cX11_appendInput 39 = .ok (.invokevirtual 76, 3) := by decide +kernel
theorem dX11_appendInput_42 : decode cX11_appendInput 42 = .ok (.aload_n 0, 1) := by decide +kernel
theorem dX11_appendInput_43 : decode cX11_appendInput 43 = .ok (.getfield 46, 3) := by decide +kernel
theorem dX11_appendInput_46 : decode cX11_appendInput 46 = .ok (.iload 4, 2) := by decide +kernel
theorem dX11_appendInput_48 : decode cX11_appendInput 48 = .ok (.invokevirtual 76, 3) := by decide +kernel
theorem dX11_appendInput_51 : decode cX11_appendInput 51 = .ok (.aload_n 0, 1) := by decide +kernel
theorem dX11_appendInput_52 : decode cX11_appendInput 52 = .ok (.getfield 46, 3) := by decide +kernel
theorem dX11_appendInput_55 : decode cX11_appendInput 55 = .ok (.iload 5, 2) := by decide +kernel
theorem dX11_appendInput_57 : decode cX11_appendInput 57 = .ok (.invokevirtual 76, 3) := by decide +kernel
theorem dX11_appendInput_60 : decode cX11_appendInput 60 = .ok (.aload_n 0, 1) := by decide +kernel
theorem dX11_appendInput_61 : decode cX11_appendInput 61 = .ok (.getfield 46, 3) := by decide +kernel
theorem dX11_appendInput_64 : decode cX11_appendInput 64 = .ok (.getfield 72, 3) := by decide +kernel
theorem dX11_appendInput_67 : decode cX11_appendInput 67 = .ok (.ireturn, 1) := by decide +kernel
set_option maxRecDepth 100000 in
set_option maxHeartbeats 4000000 in
theorem mX11_appendInput_1 (l : Launch) (D : va_G) (Y : Nat → ClassId) (h0 : Nat) (g0 : Nat) (g1 : Nat) (g2 : Nat) (g3 : Nat) (g4 : Nat) (g5 : Nat) (h1 : Nat) (g6 : Nat) (g7 : Nat) (h2 : Nat) (p0 : Int32) (p1 : Int32) (p2 : Int32) (p3 : Int32) (p4 : Int32) (sz : Nat) : Met l yX11_appendInput (WSm yX11_appendInput cX11_appendInput 6 (some .int)) (mkR 1 0 0 22) (PreC D Y [.ref h0, .int p0, .int p1, .int p2, .int p3, .int p4] [(h0, oC 12 [.ref g0, .ref g1, .ref g2, .ref g3, .ref g4, .ref g5, .ref h1, .ref g6, .ref g7, .long 0]), (h1, oC 8 [.ref h2, .int 0, .int 0, .int 0, .int 0, .int 0, .long 0, .int 0, .int (-1)]), (h2, aB Y 1600 (fun _ => 0))] sz) (QI D (fun (r : Int32) (u : Unit) => 20 = r) (fun (_ : Unit) => [(h0, oC 12 [.ref g0, .ref g1, .ref g2, .ref g3, .ref g4, .ref g5, .ref h1, .ref g6, .ref g7, .long 0]), (h1, oC 8 [.ref h2, .int 20, .int 0, .int 0, .int 0, .int 0, .long 0, .int 0, .int (-1)]), (h2, aB Y 1600 (upd (upd (upd (upd (upd (upd (upd (upd (upd (upd (upd (upd (upd (upd (upd (upd (upd (upd (upd (upd (fun _ => 0) 0 (vp_nar .byte ((p0 >>> (24 &&& 31)).toInt8.toInt32))) 1 (vp_nar .byte ((p0 >>> (16 &&& 31)).toInt8.toInt32))) 2 (vp_nar .byte ((p0 >>> (8 &&& 31)).toInt8.toInt32))) 3 (vp_nar .byte ((p0 >>> (0 &&& 31)).toInt8.toInt32))) 4 (vp_nar .byte ((p1 >>> (24 &&& 31)).toInt8.toInt32))) 5 (vp_nar .byte ((p1 >>> (16 &&& 31)).toInt8.toInt32))) 6 (vp_nar .byte ((p1 >>> (8 &&& 31)).toInt8.toInt32))) 7 (vp_nar .byte ((p1 >>> (0 &&& 31)).toInt8.toInt32))) 8 (vp_nar .byte ((p2 >>> (24 &&& 31)).toInt8.toInt32))) 9 (vp_nar .byte ((p2 >>> (16 &&& 31)).toInt8.toInt32))) 10 (vp_nar .byte ((p2 >>> (8 &&& 31)).toInt8.toInt32))) 11 (vp_nar .byte ((p2 >>> (0 &&& 31)).toInt8.toInt32))) 12 (vp_nar .byte ((p3 >>> (24 &&& 31)).toInt8.toInt32))) 13 (vp_nar .byte ((p3 >>> (16 &&& 31)).toInt8.toInt32))) 14 (vp_nar .byte ((p3 >>> (8 &&& 31)).toInt8.toInt32))) 15 (vp_nar .byte ((p3 >>> (0 &&& 31)).toInt8.toInt32))) 16 (vp_nar .byte ((p4 >>> (24 &&& 31)).toInt8.toInt32))) 17 (vp_nar .byte ((p4 >>> (16 &&& 31)).toInt8.toInt32))) 18 (vp_nar .byte ((p4 >>> (8 &&& 31)).toInt8.toInt32))) 19 (vp_nar .byte ((p4 >>> (0 &&& 31)).toInt8.toInt32))))]) (va_A [(h0, oC 12 [.ref g0, .ref g1, .ref g2, .ref g3, .ref g4, .ref g5, .ref h1, .ref g6, .ref g7, .long 0]), (h1, oC 8 [.ref h2, .int 0, .int 0, .int 0, .int 0, .int 0, .long 0, .int 0, .int (-1)]), (h2, aB Y 1600 (fun _ => 0))] sz)) 0 0 (va_A [(h0, oC 12 [.ref g0, .ref g1, .ref g2, .ref g3, .ref g4, .ref g5, .ref h1, .ref g6, .ref g7, .long 0]), (h1, oC 8 [.ref h2, .int 0, .int 0, .int 0, .int 0, .int 0, .long 0, .int 0, .int (-1)]), (h2, aB Y 1600 (fun _ => 0))] sz) :=
  met_of (by decide +kernel) (Nat.le_of_ble_eq_true rfl) (fun p e s m args below meth c B hin hsz => by
    have B : VB p s m args meth c D Y (va_A [(h0, oC 12 [.ref g0, .ref g1, .ref g2, .ref g3, .ref g4, .ref g5, .ref h1, .ref g6, .ref g7, .long 0]), (h1, oC 8 [.ref h2, .int 0, .int 0, .int 0, .int 0, .int 0, .long 0, .int 0, .int (-1)]), (h2, aB Y 1600 (fun _ => 0))] sz) cX11_appendInput 6 RX11 (some .int) := B
    refine V_aload_n 0 B dX11_appendInput_0 0 rfl ?_
    refine V_get 1 B gf_RX11_46 0 rfl rfl dX11_appendInput_1 ?_
    refine V_get 4 B gf_RX11_72 1 rfl rfl dX11_appendInput_4 ?_
    refine V_bipush 7 B (v := 20) dX11_appendInput_7 (by decide +kernel) ?_
    refine V_iadd 9 B (v := 20) dX11_appendInput_9 (by decide +kernel) ?_
    refine V_sipush 10 B (v := 1600) dX11_appendInput_10 (by decide +kernel) ?_
    refine V_icmp_le_t 13 B 18 dX11_appendInput_13 (by decide) (by decide +kernel) ?_
    refine V_aload_n 18 B dX11_appendInput_18 0 rfl ?_
    refine V_get 19 B gf_RX11_46 0 rfl rfl dX11_appendInput_19 ?_
    refine V_iload_n 22 B dX11_appendInput_22 1 rfl ?_
    refine V_cvv 23 B (st := []) (As := [.int p0]) (fun sz => mX7_appendFour_1 l D Y (h1) (h2) (p0) sz) glV_RX11_76 ⟨rfl, rfl⟩ ⟨(Nat.le_of_ble_eq_true rfl), (Nat.le_of_ble_eq_true rfl)⟩ ⟨(Nat.le_of_ble_eq_true rfl), (Nat.le_of_ble_eq_true rfl)⟩ [1, 0] rfl 8 0 rfl rfl rfl rfl (Nat.le_of_ble_eq_true rfl) rfl (fun _ _ => rfl) dX11_appendInput_23 (fun u0 w0 => ?_)
    refine V_ws [(h0, oC 12 [.ref g0, .ref g1, .ref g2, .ref g3, .ref g4, .ref g5, .ref h1, .ref g6, .ref g7, .long 0]), (h1, oC 8 [.ref h2, .int 4, .int 0, .int 0, .int 0, .int 0, .long 0, .int 0, .int (-1)]), (h2, aB Y 1600 (upd (upd (upd (upd (fun _ => 0) 0 (vp_nar .byte ((p0 >>> (24 &&& 31)).toInt8.toInt32))) 1 (vp_nar .byte ((p0 >>> (16 &&& 31)).toInt8.toInt32))) 2 (vp_nar .byte ((p0 >>> (8 &&& 31)).toInt8.toInt32))) 3 (vp_nar .byte ((p0 >>> (0 &&& 31)).toInt8.toInt32))))] rfl ?_
    refine V_aload_n 26 B dX11_appendInput_26 0 rfl ?_
    refine V_get 27 B gf_RX11_46 0 rfl rfl dX11_appendInput_27 ?_
    refine V_iload_n 30 B dX11_appendInput_30 2 rfl ?_
    refine V_cvv 31 B (st := []) (As := [.int p1]) (fun sz => mX7_appendFour_2 l D Y (h1) (h2) (p1) ((upd (upd (upd (upd (fun _ => 0) 0 (vp_nar .byte ((p0 >>> (24 &&& 31)).toInt8.toInt32))) 1 (vp_nar .byte ((p0 >>> (16 &&& 31)).toInt8.toInt32))) 2 (vp_nar .byte ((p0 >>> (8 &&& 31)).toInt8.toInt32))) 3 (vp_nar .byte ((p0 >>> (0 &&& 31)).toInt8.toInt32)))) sz) glV_RX11_76 ⟨rfl, rfl⟩ ⟨(Nat.le_of_ble_eq_true rfl), (Nat.le_of_ble_eq_true rfl)⟩ ⟨(Nat.le_of_ble_eq_true rfl), (Nat.le_of_ble_eq_true rfl)⟩ [1, 0] rfl 8 0 rfl rfl rfl rfl (Nat.le_of_ble_eq_true rfl) rfl (fun _ _ => rfl) dX11_appendInput_31 (fun u1 w1 => ?_)
    refine V_ws [(h0, oC 12 [.ref g0, .ref g1, .ref g2, .ref g3, .ref g4, .ref g5, .ref h1, .ref g6, .ref g7, .long 0]), (h1, oC 8 [.ref h2, .int 8, .int 0, .int 0, .int 0, .int 0, .long 0, .int 0, .int (-1)]), (h2, aB Y 1600 (upd (upd (upd (upd (upd (upd (upd (upd (fun _ => 0) 0 (vp_nar .byte ((p0 >>> (24 &&& 31)).toInt8.toInt32))) 1 (vp_nar .byte ((p0 >>> (16 &&& 31)).toInt8.toInt32))) 2 (vp_nar .byte ((p0 >>> (8 &&& 31)).toInt8.toInt32))) 3 (vp_nar .byte ((p0 >>> (0 &&& 31)).toInt8.toInt32))) 4 (vp_nar .byte ((p1 >>> (24 &&& 31)).toInt8.toInt32))) 5 (vp_nar .byte ((p1 >>> (16 &&& 31)).toInt8.toInt32))) 6 (vp_nar .byte ((p1 >>> (8 &&& 31)).toInt8.toInt32))) 7 (vp_nar .byte ((p1 >>> (0 &&& 31)).toInt8.toInt32))))] rfl ?_
    refine V_aload_n 34 B dX11_appendInput_34 0 rfl ?_
    refine V_get 35 B gf_RX11_46 0 rfl rfl dX11_appendInput_35 ?_
    refine V_iload_n 38 B dX11_appendInput_38 3 rfl ?_
    refine V_cvv 39 B (st := []) (As := [.int p2]) (fun sz => mX7_appendFour_3 l D Y (h1) (h2) (p2) ((upd (upd (upd (upd (upd (upd (upd (upd (fun _ => 0) 0 (vp_nar .byte ((p0 >>> (24 &&& 31)).toInt8.toInt32))) 1 (vp_nar .byte ((p0 >>> (16 &&& 31)).toInt8.toInt32))) 2 (vp_nar .byte ((p0 >>> (8 &&& 31)).toInt8.toInt32))) 3 (vp_nar .byte ((p0 >>> (0 &&& 31)).toInt8.toInt32))) 4 (vp_nar .byte ((p1 >>> (24 &&& 31)).toInt8.toInt32))) 5 (vp_nar .byte ((p1 >>> (16 &&& 31)).toInt8.toInt32))) 6 (vp_nar .byte ((p1 >>> (8 &&& 31)).toInt8.toInt32))) 7 (vp_nar .byte ((p1 >>> (0 &&& 31)).toInt8.toInt32)))) sz) glV_RX11_76 ⟨rfl, rfl⟩ ⟨(Nat.le_of_ble_eq_true rfl), (Nat.le_of_ble_eq_true rfl)⟩ ⟨(Nat.le_of_ble_eq_true rfl), (Nat.le_of_ble_eq_true rfl)⟩ [1, 0] rfl 8 0 rfl rfl rfl rfl (Nat.le_of_ble_eq_true rfl) rfl (fun _ _ => rfl) dX11_appendInput_39 (fun u2 w2 => ?_)
    refine V_ws [(h0, oC 12 [.ref g0, .ref g1, .ref g2, .ref g3, .ref g4, .ref g5, .ref h1, .ref g6, .ref g7, .long 0]), (h1, oC 8 [.ref h2, .int 12, .int 0, .int 0, .int 0, .int 0, .long 0, .int 0, .int (-1)]), (h2, aB Y 1600 (upd (upd (upd (upd (upd (upd (upd (upd (upd (upd (upd (upd (fun _ => 0) 0 (vp_nar .byte ((p0 >>> (24 &&& 31)).toInt8.toInt32))) 1 (vp_nar .byte ((p0 >>> (16 &&& 31)).toInt8.toInt32))) 2 (vp_nar .byte ((p0 >>> (8 &&& 31)).toInt8.toInt32))) 3 (vp_nar .byte ((p0 >>> (0 &&& 31)).toInt8.toInt32))) 4 (vp_nar .byte ((p1 >>> (24 &&& 31)).toInt8.toInt32))) 5 (vp_nar .byte ((p1 >>> (16 &&& 31)).toInt8.toInt32))) 6 (vp_nar .byte ((p1 >>> (8 &&& 31)).toInt8.toInt32))) 7 (vp_nar .byte ((p1 >>> (0 &&& 31)).toInt8.toInt32))) 8 (vp_nar .byte ((p2 >>> (24 &&& 31)).toInt8.toInt32))) 9 (vp_nar .byte ((p2 >>> (16 &&& 31)).toInt8.toInt32))) 10 (vp_nar .byte ((p2 >>> (8 &&& 31)).toInt8.toInt32))) 11 (vp_nar .byte ((p2 >>> (0 &&& 31)).toInt8.toInt32))))] rfl ?_
    refine V_aload_n 42 B dX11_appendInput_42 0 rfl ?_
    refine V_get 43 B gf_RX11_46 0 rfl rfl dX11_appendInput_43 ?_
    refine V_iload 46 B dX11_appendInput_46 4 rfl ?_
    refine V_cvv 48 B (st := []) (As := [.int p3]) (fun sz => mX7_appendFour_4 l D Y (h1) (h2) (p3) ((upd (upd (upd (upd (upd (upd (upd (upd (upd (upd (upd (upd (fun _ => 0) 0 (vp_nar .byte ((p0 >>> (24 &&& 31)).toInt8.toInt32))) 1 (vp_nar .byte ((p0 >>> (16 &&& 31)).toInt8.toInt32))) 2 (vp_nar .byte ((p0 >>> (8 &&& 31)).toInt8.toInt32))) 3 (vp_nar .byte ((p0 >>> (0 &&& 31)).toInt8.toInt32))) 4 (vp_nar .byte ((p1 >>> (24 &&& 31)).toInt8.toInt32))) 5 (vp_nar .byte ((p1 >>> (16 &&& 31)).toInt8.toInt32))) 6 (vp_nar .byte ((p1 >>> (8 &&& 31)).toInt8.toInt32))) 7 (vp_nar .byte ((p1 >>> (0 &&& 31)).toInt8.toInt32))) 8 (vp_nar .byte ((p2 >>> (24 &&& 31)).toInt8.toInt32))) 9 (vp_nar .byte ((p2 >>> (16 &&& 31)).toInt8.toInt32))) 10 (vp_nar .byte ((p2 >>> (8 &&& 31)).toInt8.toInt32))) 11 (vp_nar .byte ((p2 >>> (0 &&& 31)).toInt8.toInt32)))) sz) glV_RX11_76 ⟨rfl, rfl⟩ ⟨(Nat.le_of_ble_eq_true rfl), (Nat.le_of_ble_eq_true rfl)⟩ ⟨(Nat.le_of_ble_eq_true rfl), (Nat.le_of_ble_eq_true rfl)⟩ [1, 0] rfl 8 0 rfl rfl rfl rfl (Nat.le_of_ble_eq_true rfl) rfl (fun _ _ => rfl) dX11_appendInput_48 (fun u3 w3 => ?_)
    refine V_ws [(h0, oC 12 [.ref g0, .ref g1, .ref g2, .ref g3, .ref g4, .ref g5, .ref h1, .ref g6, .ref g7, .long 0]), (h1, oC 8 [.ref h2, .int 16, .int 0, .int 0, .int 0, .int 0, .long 0, .int 0, .int (-1)]), (h2, aB Y 1600 (upd (upd (upd (upd (upd (upd (upd (upd (upd (upd (upd (upd (upd (upd (upd (upd (fun _ => 0) 0 (vp_nar .byte ((p0 >>> (24 &&& 31)).toInt8.toInt32))) 1 (vp_nar .byte ((p0 >>> (16 &&& 31)).toInt8.toInt32))) 2 (vp_nar .byte ((p0 >>> (8 &&& 31)).toInt8.toInt32))) 3 (vp_nar .byte ((p0 >>> (0 &&& 31)).toInt8.toInt32))) 4 (vp_nar .byte ((p1 >>> (24 &&& 31)).toInt8.toInt32))) 5 (vp_nar .byte ((p1 >>> (16 &&& 31)).toInt8.toInt32))) 6 (vp_nar .byte ((p1 >>> (8 &&& 31)).toInt8.toInt32))) 7 (vp_nar .byte ((p1 >>> (0 &&& 31)).toInt8.toInt32))) 8 (vp_nar .byte ((p2 >>> (24 &&& 31)).toInt8.toInt32))) 9 (vp_nar .byte ((p2 >>> (16 &&& 31)).toInt8.toInt32))) 10 (vp_nar .byte ((p2 >>> (8 &&& 31)).toInt8.toInt32))) 11 (vp_nar .byte ((p2 >>> (0 &&& 31)).toInt8.toInt32))) 12 (vp_nar .byte ((p3 >>> (24 &&& 31)).toInt8.toInt32))) 13 (vp_nar .byte ((p3 >>> (16 &&& 31)).toInt8.toInt32))) 14 (vp_nar .byte ((p3 >>> (8 &&& 31)).toInt8.toInt32))) 15 (vp_nar .byte ((p3 >>> (0 &&& 31)).toInt8.toInt32))))] rfl ?_
    refine V_aload_n 51 B dX11_appendInput_51 0 rfl ?_
    refine V_get 52 B gf_RX11_46 0 rfl rfl dX11_appendInput_52 ?_
    refine V_iload 55 B dX11_appendInput_55 5 rfl ?_
    refine V_cvv 57 B (st := []) (As := [.int p4]) (fun sz => mX7_appendFour_5 l D Y (h1) (h2) (p4) ((upd (upd (upd (upd (upd (upd (upd (upd (upd (upd (upd (upd (upd (upd (upd (upd (fun _ => 0) 0 (vp_nar .byte ((p0 >>> (24 &&& 31)).toInt8.toInt32))) 1 (vp_nar .byte ((p0 >>> (16 &&& 31)).toInt8.toInt32))) 2 (vp_nar .byte ((p0 >>> (8 &&& 31)).toInt8.toInt32))) 3 (vp_nar .byte ((p0 >>> (0 &&& 31)).toInt8.toInt32))) 4 (vp_nar .byte ((p1 >>> (24 &&& 31)).toInt8.toInt32))) 5 (vp_nar .byte ((p1 >>> (16 &&& 31)).toInt8.toInt32))) 6 (vp_nar .byte ((p1 >>> (8 &&& 31)).toInt8.toInt32))) 7 (vp_nar .byte ((p1 >>> (0 &&& 31)).toInt8.toInt32))) 8 (vp_nar .byte ((p2 >>> (24 &&& 31)).toInt8.toInt32))) 9 (vp_nar .byte ((p2 >>> (16 &&& 31)).toInt8.toInt32))) 10 (vp_nar .byte ((p2 >>> (8 &&& 31)).toInt8.toInt32))) 11 (vp_nar .byte ((p2 >>> (0 &&& 31)).toInt8.toInt32))) 12 (vp_nar .byte ((p3 >>> (24 &&& 31)).toInt8.toInt32))) 13 (vp_nar .byte ((p3 >>> (16 &&& 31)).toInt8.toInt32))) 14 (vp_nar .byte ((p3 >>> (8 &&& 31)).toInt8.toInt32))) 15 (vp_nar .byte ((p3 >>> (0 &&& 31)).toInt8.toInt32)))) sz) glV_RX11_76 ⟨rfl, rfl⟩ ⟨(Nat.le_of_ble_eq_true rfl), (Nat.le_of_ble_eq_true rfl)⟩ ⟨(Nat.le_of_ble_eq_true rfl), (Nat.le_of_ble_eq_true rfl)⟩ [1, 0] rfl 8 0 rfl rfl rfl rfl (Nat.le_of_ble_eq_true rfl) rfl (fun _ _ => rfl) dX11_appendInput_57 (fun u4 w4 => ?_)
    refine V_ws [(h0, oC 12 [.ref g0, .ref g1, .ref g2, .ref g3, .ref g4, .ref g5, .ref h1, .ref g6, .ref g7, .long 0]), (h1, oC 8 [.ref h2, .int 20, .int 0, .int 0, .int 0, .int 0, .long 0, .int 0, .int (-1)]), (h2, aB Y 1600 (upd (upd (upd (upd (upd (upd (upd (upd (upd (upd (upd (upd (upd (upd (upd (upd (upd (upd (upd (upd (fun _ => 0) 0 (vp_nar .byte ((p0 >>> (24 &&& 31)).toInt8.toInt32))) 1 (vp_nar .byte ((p0 >>> (16 &&& 31)).toInt8.toInt32))) 2 (vp_nar .byte ((p0 >>> (8 &&& 31)).toInt8.toInt32))) 3 (vp_nar .byte ((p0 >>> (0 &&& 31)).toInt8.toInt32))) 4 (vp_nar .byte ((p1 >>> (24 &&& 31)).toInt8.toInt32))) 5 (vp_nar .byte ((p1 >>> (16 &&& 31)).toInt8.toInt32))) 6 (vp_nar .byte ((p1 >>> (8 &&& 31)).toInt8.toInt32))) 7 (vp_nar .byte ((p1 >>> (0 &&& 31)).toInt8.toInt32))) 8 (vp_nar .byte ((p2 >>> (24 &&& 31)).toInt8.toInt32))) 9 (vp_nar .byte ((p2 >>> (16 &&& 31)).toInt8.toInt32))) 10 (vp_nar .byte ((p2 >>> (8 &&& 31)).toInt8.toInt32))) 11 (vp_nar .byte ((p2 >>> (0 &&& 31)).toInt8.toInt32))) 12 (vp_nar .byte ((p3 >>> (24 &&& 31)).toInt8.toInt32))) 13 (vp_nar .byte ((p3 >>> (16 &&& 31)).toInt8.toInt32))) 14 (vp_nar .byte ((p3 >>> (8 &&& 31)).toInt8.toInt32))) 15 (vp_nar .byte ((p3 >>> (0 &&& 31)).toInt8.toInt32))) 16 (vp_nar .byte ((p4 >>> (24 &&& 31)).toInt8.toInt32))) 17 (vp_nar .byte ((p4 >>> (16 &&& 31)).toInt8.toInt32))) 18 (vp_nar .byte ((p4 >>> (8 &&& 31)).toInt8.toInt32))) 19 (vp_nar .byte ((p4 >>> (0 &&& 31)).toInt8.toInt32))))] rfl ?_
    refine V_aload_n 60 B dX11_appendInput_60 0 rfl ?_
    refine V_get 61 B gf_RX11_46 0 rfl rfl dX11_appendInput_61 ?_
    refine V_get 64 B gf_RX11_72 1 rfl rfl dX11_appendInput_64 ?_
    exact V_iret 67 B dX11_appendInput_67 () rfl rfl)
theorem dX11_truncateInput_0 : decode cX11_truncateInput 0 = .ok (.iload_n 1, 1) := by decide +kernel
theorem dX11_truncateInput_1 : decode cX11_truncateInput 1 = .ok (.ifCond .lt 14, 3) := by decide +kernel
theorem dX11_truncateInput_15 : decode cX11_truncateInput 15 = .ok (.iconst (-1), 1) := by decide +kernel
theorem dX11_truncateInput_16 : decode cX11_truncateInput 16 = .ok (.ireturn, 1) := by decide +kernel
theorem dX11_truncateInput_4 : decode cX11_truncateInput 4 = .ok (.iload_n 1, 1) := by decide +kernel
theorem dX11_truncateInput_5 : decode cX11_truncateInput 5 = .ok (.aload_n 0, 1) := by decide +kernel
theorem dX11_truncateInput_6 : decode cX11_truncateInput 6 = .ok (.getfield 46, 3) := by decide +kernel
theorem dX11_truncateInput_9 : decode cX11_truncateInput 9 = .ok (.getfield 72, 3) := by decide +kernel
theorem dX11_truncateInput_12 : decode cX11_truncateInput 12 = .ok (.if_icmp .le 5, 3) := by decide +kernel
theorem dX11_truncateInput_17 : decode cX11_truncateInput 17 = .ok (.aload_n 0, 1) := by decide +kernel
theorem dX11_truncateInput_18 : decode cX11_truncateInput 18 = .ok (.getfield 46, 3) := by decide +kernel
theorem dX11_truncateInput_21 : decode cX11_truncateInput 21 = .ok (.iload_n 1, 1) := by decide +kernel
theorem dX11_truncateInput_22 : decode cX11_truncateInput 22 = .ok (.putfield 72, 3) := by decide +kernel
theorem gp_RX11_72 : GP RX11 72 8 1 .int false := ⟨RX7, TX7, 9, ⟨rfl, inw_X7, Nat.le_of_ble_eq_true rfl, (mT2 37 rfl rfl)⟩, ⟨tyX7, tyX7_ok⟩, nmX7, rfl, by decide +kernel, fun h => nomatch h⟩
theorem dX11_truncateInput_25 : decode cX11_truncateInput 25 = .ok (.iload_n 1, 1) := by decide +kernel
theorem dX11_truncateInput_26 : decode cX11_truncateInput 26 = .ok (.ireturn, 1) := by decide +kernel
set_option maxRecDepth 100000 in
set_option maxHeartbeats 4000000 in
theorem mX11_truncateInput_1 (l : Launch) (D : va_G) (Y : Nat → ClassId) (h0 : Nat) (g0 : Nat) (g1 : Nat) (g2 : Nat) (g3 : Nat) (g4 : Nat) (g5 : Nat) (h1 : Nat) (g6 : Nat) (g7 : Nat) (g8 : Nat) (p0 : Int32) (sz : Nat) : Met l yX11_truncateInput (WSm yX11_truncateInput cX11_truncateInput 2 (some .int)) (mkR 0 0 0 0) (PreC D Y [.ref h0, .int p0] [(h0, oC 12 [.ref g0, .ref g1, .ref g2, .ref g3, .ref g4, .ref g5, .ref h1, .ref g6, .ref g7, .long 0]), (h1, oC 8 [.ref g8, .int 0, .int 0, .int 0, .int 0, .int 0, .long 0, .int 0, .int (-1)])] sz) (QI D (fun (r : Int32) (u : Unit) => (p0 < 0 ∧ (-1) = r) ∨ (p0 = 0 ∧ 0 = r) ∨ (¬ p0 < 0 ∧ ¬ p0 ≤ 0 ∧ (-1) = r)) (fun (_ : Unit) => [(h0, oC 12 [.ref g0, .ref g1, .ref g2, .ref g3, .ref g4, .ref g5, .ref h1, .ref g6, .ref g7, .long 0]), (h1, oC 8 [.ref g8, .int 0, .int 0, .int 0, .int 0, .int 0, .long 0, .int 0, .int (-1)])]) (va_A [(h0, oC 12 [.ref g0, .ref g1, .ref g2, .ref g3, .ref g4, .ref g5, .ref h1, .ref g6, .ref g7, .long 0]), (h1, oC 8 [.ref g8, .int 0, .int 0, .int 0, .int 0, .int 0, .long 0, .int 0, .int (-1)])] sz)) 0 0 (va_A [(h0, oC 12 [.ref g0, .ref g1, .ref g2, .ref g3, .ref g4, .ref g5, .ref h1, .ref g6, .ref g7, .long 0]), (h1, oC 8 [.ref g8, .int 0, .int 0, .int 0, .int 0, .int 0, .long 0, .int 0, .int (-1)])] sz) :=
  met_of (by decide +kernel) (Nat.le_of_ble_eq_true rfl) (fun p e s m args below meth c B hin hsz => by
    have B : VB p s m args meth c D Y (va_A [(h0, oC 12 [.ref g0, .ref g1, .ref g2, .ref g3, .ref g4, .ref g5, .ref h1, .ref g6, .ref g7, .long 0]), (h1, oC 8 [.ref g8, .int 0, .int 0, .int 0, .int 0, .int 0, .long 0, .int 0, .int (-1)])] sz) cX11_truncateInput 2 RX11 (some .int) := B
    refine V_iload_n 0 B dX11_truncateInput_0 1 rfl ?_
    refine V_if_lt 1 B 15 dX11_truncateInput_1 (by decide) (fun k0 => ?_) (fun k0 => ?_)
    ·
      refine V_iconst 15 B (v := (-1)) dX11_truncateInput_15 (by decide +kernel) ?_
      exact V_iret 16 B dX11_truncateInput_16 () (Or.inl ⟨k0, rfl⟩) rfl
    ·
      refine V_iload_n 4 B dX11_truncateInput_4 1 rfl ?_
      refine V_aload_n 5 B dX11_truncateInput_5 0 rfl ?_
      refine V_get 6 B gf_RX11_46 0 rfl rfl dX11_truncateInput_6 ?_
      refine V_get 9 B gf_RX11_72 1 rfl rfl dX11_truncateInput_9 ?_
      refine V_icmp_le 12 B 17 dX11_truncateInput_12 (by decide) (fun k1 => ?_) (fun k1 => ?_)
      ·
        obtain rfl : p0 = 0 := q_eq (b_nlt k0 (n := 0) (by decide +kernel)) (b_le k1 (n := 0) (by decide +kernel)) (by decide +kernel)
        refine V_aload_n 17 B dX11_truncateInput_17 0 rfl ?_
        refine V_get 18 B gf_RX11_46 0 rfl rfl dX11_truncateInput_18 ?_
        refine V_iload_n 21 B dX11_truncateInput_21 1 rfl ?_
        refine V_put 22 B gp_RX11_72 1 rfl (Nat.le_of_ble_eq_true rfl) rfl rfl dX11_truncateInput_22 [(h0, oC 12 [.ref g0, .ref g1, .ref g2, .ref g3, .ref g4, .ref g5, .ref h1, .ref g6, .ref g7, .long 0]), (h1, oC 8 [.ref g8, .int 0, .int 0, .int 0, .int 0, .int 0, .long 0, .int 0, .int (-1)])] rfl ?_
        refine V_iload_n 25 B dX11_truncateInput_25 1 rfl ?_
        exact V_iret 26 B dX11_truncateInput_26 () (Or.inr (Or.inl ⟨rfl, rfl⟩)) rfl
      ·
        refine V_iconst 15 B (v := (-1)) dX11_truncateInput_15 (by decide +kernel) ?_
        exact V_iret 16 B dX11_truncateInput_16 () (Or.inr (Or.inr ⟨k0, k1, rfl⟩)) rfl)
theorem dX1_clear_0 : decode cX1_clear 0 = .ok (.aload_n 0, 1) := by decide +kernel
theorem dX1_clear_1 : decode cX1_clear 1 = .ok (.iconst 0, 1) := by decide +kernel
theorem dX1_clear_2 : decode cX1_clear 2 = .ok (.putfield 21, 3) := by decide +kernel
theorem dX1_clear_5 : decode cX1_clear 5 = .ok (.return_, 1) := by decide +kernel
set_option maxRecDepth 100000 in
set_option maxHeartbeats 4000000 in
theorem mX1_clear_1 (l : Launch) (D : va_G) (Y : Nat → ClassId) (h0 : Nat) (g0 : Nat) (sz : Nat) : Met l yX1_clear (WSm yX1_clear cX1_clear 1 none) (mkR 0 0 0 0) (PreC D Y [.ref h0] [(h0, oC 3 [.ref g0, .int 1])] sz) (QV D (fun (u : Unit) => True) (fun (_ : Unit) => [(h0, oC 3 [.ref g0, .int 0])]) (va_A [(h0, oC 3 [.ref g0, .int 1])] sz)) 0 0 (va_A [(h0, oC 3 [.ref g0, .int 1])] sz) :=
  met_of (by decide +kernel) (Nat.le_of_ble_eq_true rfl) (fun p e s m args below meth c B hin hsz => by
    have B : VB p s m args meth c D Y (va_A [(h0, oC 3 [.ref g0, .int 1])] sz) cX1_clear 1 RX1 none := B
    refine V_aload_n 0 B dX1_clear_0 0 rfl ?_
    refine V_iconst 1 B (v := 0) dX1_clear_1 (by decide +kernel) ?_
    refine V_put 2 B gp_RX1_21 0 rfl (Nat.le_of_ble_eq_true rfl) rfl rfl dX1_clear_2 [(h0, oC 3 [.ref g0, .int 0])] rfl ?_
    exact V_vret 5 B dX1_clear_5 () trivial rfl)
set_option maxRecDepth 100000 in
set_option maxHeartbeats 4000000 in
theorem mX1_push_2 (l : Launch) (D : va_G) (Y : Nat → ClassId) (h0 : Nat) (h1 : Nat) (sz : Nat) : Met l yX1_push (WSm yX1_push cX1_push 2 (some .boolean)) (mkR 0 0 0 0) (PreC D Y [.ref h0, .int (-1)] [(h0, oC 3 [.ref h1, .int 0]), (h1, aI Y 6 (upd (fun _ => 0) 0 (-1)))] sz) (QI D (fun (r : Int32) (u : Unit) => 1 = r) (fun (_ : Unit) => [(h0, oC 3 [.ref h1, .int 1]), (h1, aI Y 6 (upd (upd (fun _ => 0) 0 (-1)) 0 (-1)))]) (va_A [(h0, oC 3 [.ref h1, .int 0]), (h1, aI Y 6 (upd (fun _ => 0) 0 (-1)))] sz)) 0 0 (va_A [(h0, oC 3 [.ref h1, .int 0]), (h1, aI Y 6 (upd (fun _ => 0) 0 (-1)))] sz) :=
  met_of (by decide +kernel) (Nat.le_of_ble_eq_true rfl) (fun p e s m args below meth c B hin hsz => by
    have B : VB p s m args meth c D Y (va_A [(h0, oC 3 [.ref h1, .int 0]), (h1, aI Y 6 (upd (fun _ => 0) 0 (-1)))] sz) cX1_push 2 RX1 (some .boolean) := B
    refine V_aload_n 0 B dX1_push_0 0 rfl ?_
    refine V_get 1 B gf_RX1_21 0 rfl rfl dX1_push_1 ?_
    refine V_if_lt_f 4 B 19 dX1_push_4 (by decide) (by decide +kernel) ?_
    refine V_aload_n 7 B dX1_push_7 0 rfl ?_
    refine V_get 8 B gf_RX1_21 0 rfl rfl dX1_push_8 ?_
    refine V_aload_n 11 B dX1_push_11 0 rfl ?_
    refine V_get 12 B gf_RX1_15 0 rfl rfl dX1_push_12 ?_
    refine V_alenI 15 B (v := 6) 1 rfl (by decide +kernel) dX1_push_15 ?_
    refine V_icmp_lt_t 16 B 21 dX1_push_16 (by decide) (by decide +kernel) ?_
    refine V_aload_n 21 B dX1_push_21 0 rfl ?_
    refine V_get 22 B gf_RX1_15 0 rfl rfl dX1_push_22 ?_
    refine V_aload_n 25 B dX1_push_25 0 rfl ?_
    refine V_get 26 B gf_RX1_21 0 rfl rfl dX1_push_26 ?_
    refine V_iload_n 29 B dX1_push_29 1 rfl ?_
    refine V_iast 30 B 1 rfl (vpin _ _ (by decide +kernel)) dX1_push_30 [(h0, oC 3 [.ref h1, .int 0]), (h1, aI Y 6 (upd (upd (fun _ => 0) 0 (-1)) 0 (-1)))] rfl ?_
    refine V_aload_n 31 B dX1_push_31 0 rfl ?_
    refine V_dup 32 B dX1_push_32 rfl ?_
    refine V_get 33 B gf_RX1_21 0 rfl rfl dX1_push_33 ?_
    refine V_iconst 36 B (v := 1) dX1_push_36 (by decide +kernel) ?_
    refine V_iadd 37 B (v := 1) dX1_push_37 (by decide +kernel) ?_
    refine V_put 38 B gp_RX1_21 0 rfl (Nat.le_of_ble_eq_true rfl) rfl rfl dX1_push_38 [(h0, oC 3 [.ref h1, .int 1]), (h1, aI Y 6 (upd (upd (fun _ => 0) 0 (-1)) 0 (-1)))] rfl ?_
    refine V_iconst 41 B (v := 1) dX1_push_41 (by decide +kernel) ?_
    exact V_zret 42 B rfl dX1_push_42 () rfl rfl)
set_option maxRecDepth 100000 in
set_option maxHeartbeats 4000000 in
theorem mX1_clear_2 (l : Launch) (D : va_G) (Y : Nat → ClassId) (h0 : Nat) (g0 : Nat) (sz : Nat) : Met l yX1_clear (WSm yX1_clear cX1_clear 1 none) (mkR 0 0 0 0) (PreC D Y [.ref h0] [(h0, oC 3 [.ref g0, .int 0])] sz) (QV D (fun (u : Unit) => True) (fun (_ : Unit) => [(h0, oC 3 [.ref g0, .int 0])]) (va_A [(h0, oC 3 [.ref g0, .int 0])] sz)) 0 0 (va_A [(h0, oC 3 [.ref g0, .int 0])] sz) :=
  met_of (by decide +kernel) (Nat.le_of_ble_eq_true rfl) (fun p e s m args below meth c B hin hsz => by
    have B : VB p s m args meth c D Y (va_A [(h0, oC 3 [.ref g0, .int 0])] sz) cX1_clear 1 RX1 none := B
    refine V_aload_n 0 B dX1_clear_0 0 rfl ?_
    refine V_iconst 1 B (v := 0) dX1_clear_1 (by decide +kernel) ?_
    refine V_put 2 B gp_RX1_21 0 rfl (Nat.le_of_ble_eq_true rfl) rfl rfl dX1_clear_2 [(h0, oC 3 [.ref g0, .int 0])] rfl ?_
    exact V_vret 5 B dX1_clear_5 () trivial rfl)
theorem dX5_clear_0 : decode cX5_clear 0 = .ok (.aload_n 0, 1) := by decide +kernel
theorem dX5_clear_1 : decode cX5_clear 1 = .ok (.iconst 0, 1) := by decide +kernel
theorem dX5_clear_2 : decode cX5_clear 2 = .ok (.putfield 19, 3) := by decide +kernel
theorem dX5_clear_5 : decode cX5_clear 5 = .ok (.return_, 1) := by decide +kernel
set_option maxRecDepth 100000 in
set_option maxHeartbeats 4000000 in
theorem mX5_clear_1 (l : Launch) (D : va_G) (Y : Nat → ClassId) (h0 : Nat) (g0 : Nat) (sz : Nat) : Met l yX5_clear (WSm yX5_clear cX5_clear 1 none) (mkR 0 0 0 0) (PreC D Y [.ref h0] [(h0, oC 7 [.ref g0, .int 0])] sz) (QV D (fun (u : Unit) => True) (fun (_ : Unit) => [(h0, oC 7 [.ref g0, .int 0])]) (va_A [(h0, oC 7 [.ref g0, .int 0])] sz)) 0 0 (va_A [(h0, oC 7 [.ref g0, .int 0])] sz) :=
  met_of (by decide +kernel) (Nat.le_of_ble_eq_true rfl) (fun p e s m args below meth c B hin hsz => by
    have B : VB p s m args meth c D Y (va_A [(h0, oC 7 [.ref g0, .int 0])] sz) cX5_clear 1 RX5 none := B
    refine V_aload_n 0 B dX5_clear_0 0 rfl ?_
    refine V_iconst 1 B (v := 0) dX5_clear_1 (by decide +kernel) ?_
    refine V_put 2 B gp_RX5_19 0 rfl (Nat.le_of_ble_eq_true rfl) rfl rfl dX5_clear_2 [(h0, oC 7 [.ref g0, .int 0])] rfl ?_
    exact V_vret 5 B dX5_clear_5 () trivial rfl)
theorem dX2_reset_0 : decode cX2_reset 0 = .ok (.aload_n 0, 1) := by decide +kernel
theorem dX2_reset_1 : decode cX2_reset 1 = .ok (.getfield 14, 3) := by decide +kernel
theorem gf_RX2_14 : GF RX2 14 4 0 := ⟨RX2, TX2, 4, rfl, inw_X2, Nat.le_of_ble_eq_true rfl, (mT1 82 rfl rfl)⟩
theorem dX2_reset_4 : decode cX2_reset 4 = .ok (.invokevirtual 30, 3) := by decide +kernel
theorem glV_RX2_30 : GLV RX2 30 yX1_clear RX1 cX1_clear 1 none 0 := ⟨⟨(mT2 195 rfl rfl), (mT2 184 rfl rfl), (mT2 185 rfl rfl), (mT1 3 rfl rfl), (mT2 186 rfl rfl)⟩, by decide +kernel⟩
theorem dX2_reset_7 : decode cX2_reset 7 = .ok (.aload_n 0, 1) := by decide +kernel
theorem dX2_reset_8 : decode cX2_reset 8 = .ok (.getfield 20, 3) := by decide +kernel
theorem gf_RX2_20 : GF RX2 20 4 1 := ⟨RX2, TX2, 4, rfl, inw_X2, Nat.le_of_ble_eq_true rfl, (mT1 86 rfl rfl)⟩
theorem dX2_reset_11 : decode cX2_reset 11 = .ok (.invokevirtual 30, 3) := by decide +kernel
theorem dX2_reset_14 : decode cX2_reset 14 = .ok (.aload_n 0, 1) := by decide +kernel
theorem dX2_reset_15 : decode cX2_reset 15 = .ok (.getfield 23, 3) := by decide +kernel
theorem gf_RX2_23 : GF RX2 23 4 2 := ⟨RX2, TX2, 4, rfl, inw_X2, Nat.le_of_ble_eq_true rfl, (mT1 89 rfl rfl)⟩
theorem dX2_reset_18 : decode cX2_reset 18 = .ok (.invokevirtual 30, 3) := by decide +kernel
theorem dX2_reset_21 : decode cX2_reset 21 = .ok (.aload_n 0, 1) := by decide +kernel
theorem dX2_reset_22 : decode cX2_reset 22 = .ok (.iconst 0, 1) := by decide +kernel
theorem dX2_reset_23 : decode cX2_reset 23 = .ok (.putfield 26, 3) := by decide +kernel
theorem dX2_reset_26 : decode cX2_reset 26 = .ok (.return_, 1) := by decide +kernel
set_option maxRecDepth 100000 in
set_option maxHeartbeats 4000000 in
theorem mX2_reset_1 (l : Launch) (D : va_G) (Y : Nat → ClassId) (h0 : Nat) (h1 : Nat) (h2 : Nat) (h3 : Nat) (g0 : Nat) (g1 : Nat) (g2 : Nat) (sz : Nat) : Met l yX2_reset (WSm yX2_reset cX2_reset 1 none) (mkR 1 0 0 20) (PreC D Y [.ref h0] [(h0, oC 4 [.ref h1, .ref h2, .ref h3, .int 0]), (h1, oC 3 [.ref g0, .int 0]), (h2, oC 3 [.ref g1, .int 0]), (h3, oC 3 [.ref g2, .int 0])] sz) (QV D (fun (u : Unit) => True) (fun (_ : Unit) => [(h0, oC 4 [.ref h1, .ref h2, .ref h3, .int 0]), (h1, oC 3 [.ref g0, .int 0]), (h2, oC 3 [.ref g1, .int 0]), (h3, oC 3 [.ref g2, .int 0])]) (va_A [(h0, oC 4 [.ref h1, .ref h2, .ref h3, .int 0]), (h1, oC 3 [.ref g0, .int 0]), (h2, oC 3 [.ref g1, .int 0]), (h3, oC 3 [.ref g2, .int 0])] sz)) 0 0 (va_A [(h0, oC 4 [.ref h1, .ref h2, .ref h3, .int 0]), (h1, oC 3 [.ref g0, .int 0]), (h2, oC 3 [.ref g1, .int 0]), (h3, oC 3 [.ref g2, .int 0])] sz) :=
  met_of (by decide +kernel) (Nat.le_of_ble_eq_true rfl) (fun p e s m args below meth c B hin hsz => by
    have B : VB p s m args meth c D Y (va_A [(h0, oC 4 [.ref h1, .ref h2, .ref h3, .int 0]), (h1, oC 3 [.ref g0, .int 0]), (h2, oC 3 [.ref g1, .int 0]), (h3, oC 3 [.ref g2, .int 0])] sz) cX2_reset 1 RX2 none := B
    refine V_aload_n 0 B dX2_reset_0 0 rfl ?_
    refine V_get 1 B gf_RX2_14 0 rfl rfl dX2_reset_1 ?_
    refine V_cvv 4 B (st := []) (As := []) (fun sz => mX1_clear_2 l D Y (h1) (g0) sz) glV_RX2_30 ⟨rfl, rfl⟩ ⟨(Nat.le_of_ble_eq_true rfl), (Nat.le_of_ble_eq_true rfl)⟩ ⟨(Nat.le_of_ble_eq_true rfl), (Nat.le_of_ble_eq_true rfl)⟩ [1] rfl 3 0 rfl rfl rfl rfl (Nat.le_of_ble_eq_true rfl) rfl (fun _ _ => rfl) dX2_reset_4 (fun u0 w0 => ?_)
    refine V_ws [(h0, oC 4 [.ref h1, .ref h2, .ref h3, .int 0]), (h1, oC 3 [.ref g0, .int 0]), (h2, oC 3 [.ref g1, .int 0]), (h3, oC 3 [.ref g2, .int 0])] rfl ?_
    refine V_aload_n 7 B dX2_reset_7 0 rfl ?_
    refine V_get 8 B gf_RX2_20 0 rfl rfl dX2_reset_8 ?_
    refine V_cvv 11 B (st := []) (As := []) (fun sz => mX1_clear_2 l D Y (h2) (g1) sz) glV_RX2_30 ⟨rfl, rfl⟩ ⟨(Nat.le_of_ble_eq_true rfl), (Nat.le_of_ble_eq_true rfl)⟩ ⟨(Nat.le_of_ble_eq_true rfl), (Nat.le_of_ble_eq_true rfl)⟩ [2] rfl 3 0 rfl rfl rfl rfl (Nat.le_of_ble_eq_true rfl) rfl (fun _ _ => rfl) dX2_reset_11 (fun u1 w1 => ?_)
    refine V_ws [(h0, oC 4 [.ref h1, .ref h2, .ref h3, .int 0]), (h1, oC 3 [.ref g0, .int 0]), (h2, oC 3 [.ref g1, .int 0]), (h3, oC 3 [.ref g2, .int 0])] rfl ?_
    refine V_aload_n 14 B dX2_reset_14 0 rfl ?_
    refine V_get 15 B gf_RX2_23 0 rfl rfl dX2_reset_15 ?_
    refine V_cvv 18 B (st := []) (As := []) (fun sz => mX1_clear_2 l D Y (h3) (g2) sz) glV_RX2_30 ⟨rfl, rfl⟩ ⟨(Nat.le_of_ble_eq_true rfl), (Nat.le_of_ble_eq_true rfl)⟩ ⟨(Nat.le_of_ble_eq_true rfl), (Nat.le_of_ble_eq_true rfl)⟩ [3] rfl 3 0 rfl rfl rfl rfl (Nat.le_of_ble_eq_true rfl) rfl (fun _ _ => rfl) dX2_reset_18 (fun u2 w2 => ?_)
    refine V_ws [(h0, oC 4 [.ref h1, .ref h2, .ref h3, .int 0]), (h1, oC 3 [.ref g0, .int 0]), (h2, oC 3 [.ref g1, .int 0]), (h3, oC 3 [.ref g2, .int 0])] rfl ?_
    refine V_aload_n 21 B dX2_reset_21 0 rfl ?_
    refine V_iconst 22 B (v := 0) dX2_reset_22 (by decide +kernel) ?_
    refine V_put 23 B gp_RX2_26 0 rfl (Nat.le_of_ble_eq_true rfl) rfl rfl dX2_reset_23 [(h0, oC 4 [.ref h1, .ref h2, .ref h3, .int 0]), (h1, oC 3 [.ref g0, .int 0]), (h2, oC 3 [.ref g1, .int 0]), (h3, oC 3 [.ref g2, .int 0])] rfl ?_
    exact V_vret 26 B dX2_reset_26 () trivial rfl)
theorem dX8_reset_0 : decode cX8_reset 0 = .ok (.aload_n 0, 1) := by decide +kernel
theorem dX8_reset_1 : decode cX8_reset 1 = .ok (.getfield 14, 3) := by decide +kernel
theorem gf_RX8_14 : GF RX8 14 9 0 := ⟨RX8, TX8, 9, rfl, inw_X8, Nat.le_of_ble_eq_true rfl, (mT1 110 rfl rfl)⟩
theorem dX8_reset_4 : decode cX8_reset 4 = .ok (.invokevirtual 24, 3) := by decide +kernel
theorem glV_RX8_24 : GLV RX8 24 yX1_clear RX1 cX1_clear 1 none 0 := ⟨⟨(mT2 200 rfl rfl), (mT2 184 rfl rfl), (mT2 185 rfl rfl), (mT1 3 rfl rfl), (mT2 186 rfl rfl)⟩, by decide +kernel⟩
theorem dX8_reset_7 : decode cX8_reset 7 = .ok (.aload_n 0, 1) := by decide +kernel
theorem dX8_reset_8 : decode cX8_reset 8 = .ok (.iconst 0, 1) := by decide +kernel
theorem dX8_reset_9 : decode cX8_reset 9 = .ok (.putfield 27, 3) := by decide +kernel
theorem gp_RX8_27 : GP RX8 27 9 1 .int false := ⟨RX8, TX8, 9, ⟨rfl, inw_X8, Nat.le_of_ble_eq_true rfl, (mT1 112 rfl rfl)⟩, ⟨tyX8, tyX8_ok⟩, nmX8, rfl, by decide +kernel, fun h => nomatch h⟩
theorem dX8_reset_12 : decode cX8_reset 12 = .ok (.aload_n 0, 1) := by decide +kernel
theorem dX8_reset_13 : decode cX8_reset 13 = .ok (.lconst 0, 1) := by decide +kernel
theorem dX8_reset_14 : decode cX8_reset 14 = .ok (.putfield 30, 3) := by decide +kernel
theorem gp_RX8_30 : GP RX8 30 9 2 .long false := ⟨RX8, TX8, 9, ⟨rfl, inw_X8, Nat.le_of_ble_eq_true rfl, (mT1 115 rfl rfl)⟩, ⟨tyX8, tyX8_ok⟩, nmX8, rfl, by decide +kernel, fun h => nomatch h⟩
theorem dX8_reset_17 : decode cX8_reset 17 = .ok (.aload_n 0, 1) := by decide +kernel
theorem dX8_reset_18 : decode cX8_reset 18 = .ok (.iconst (-1), 1) := by decide +kernel
theorem dX8_reset_19 : decode cX8_reset 19 = .ok (.putfield 20, 3) := by decide +kernel
theorem dX8_reset_22 : decode cX8_reset 22 = .ok (.aload_n 0, 1) := by decide +kernel
theorem dX8_reset_23 : decode cX8_reset 23 = .ok (.iconst 0, 1) := by decide +kernel
theorem dX8_reset_24 : decode cX8_reset 24 = .ok (.putfield 34, 3) := by decide +kernel
theorem gp_RX8_34 : GP RX8 34 9 4 .int false := ⟨RX8, TX8, 9, ⟨rfl, inw_X8, Nat.le_of_ble_eq_true rfl, (mT1 121 rfl rfl)⟩, ⟨tyX8, tyX8_ok⟩, nmX8, rfl, by decide +kernel, fun h => nomatch h⟩
theorem dX8_reset_27 : decode cX8_reset 27 = .ok (.aload_n 0, 1) := by decide +kernel
theorem dX8_reset_28 : decode cX8_reset 28 = .ok (.iconst 0, 1) := by decide +kernel
theorem dX8_reset_29 : decode cX8_reset 29 = .ok (.putfield 37, 3) := by decide +kernel
theorem gp_RX8_37 : GP RX8 37 9 5 .int false := ⟨RX8, TX8, 9, ⟨rfl, inw_X8, Nat.le_of_ble_eq_true rfl, (mT1 124 rfl rfl)⟩, ⟨tyX8, tyX8_ok⟩, nmX8, rfl, by decide +kernel, fun h => nomatch h⟩
theorem dX8_reset_32 : decode cX8_reset 32 = .ok (.aload_n 0, 1) := by decide +kernel
theorem dX8_reset_33 : decode cX8_reset 33 = .ok (.iconst 0, 1) := by decide +kernel
theorem dX8_reset_34 : decode cX8_reset 34 = .ok (.putfield 40, 3) := by decide +kernel
theorem gp_RX8_40 : GP RX8 40 9 6 .int false := ⟨RX8, TX8, 9, ⟨rfl, inw_X8, Nat.le_of_ble_eq_true rfl, (mT1 127 rfl rfl)⟩, ⟨tyX8, tyX8_ok⟩, nmX8, rfl, by decide +kernel, fun h => nomatch h⟩
theorem dX8_reset_37 : decode cX8_reset 37 = .ok (.aload_n 0, 1) := by decide +kernel
theorem dX8_reset_38 : decode cX8_reset 38 = .ok (.iconst 0, 1) := by decide +kernel
theorem dX8_reset_39 : decode cX8_reset 39 = .ok (.putfield 43, 3) := by decide +kernel
theorem gp_RX8_43 : GP RX8 43 9 7 .int false := ⟨RX8, TX8, 9, ⟨rfl, inw_X8, Nat.le_of_ble_eq_true rfl, (mT1 130 rfl rfl)⟩, ⟨tyX8, tyX8_ok⟩, nmX8, rfl, by decide +kernel, fun h => nomatch h⟩
theorem dX8_reset_42 : decode cX8_reset 42 = .ok (.aload_n 0, 1) := by decide +kernel
theorem dX8_reset_43 : decode cX8_reset 43 = .ok (.iconst 0, 1) := by decide +kernel
theorem dX8_reset_44 : decode cX8_reset 44 = .ok (.putfield 46, 3) := by decide +kernel
theorem gp_RX8_46 : GP RX8 46 9 8 .int false := ⟨RX8, TX8, 9, ⟨rfl, inw_X8, Nat.le_of_ble_eq_true rfl, (mT1 133 rfl rfl)⟩, ⟨tyX8, tyX8_ok⟩, nmX8, rfl, by decide +kernel, fun h => nomatch h⟩
theorem dX8_reset_47 : decode cX8_reset 47 = .ok (.return_, 1) := by decide +kernel
set_option maxRecDepth 100000 in
set_option maxHeartbeats 4000000 in
theorem mX8_reset_1 (l : Launch) (D : va_G) (Y : Nat → ClassId) (h0 : Nat) (h1 : Nat) (g0 : Nat) (sz : Nat) : Met l yX8_reset (WSm yX8_reset cX8_reset 1 none) (mkR 1 0 0 20) (PreC D Y [.ref h0] [(h0, oC 9 [.ref h1, .int 0, .long 0, .int (-1), .int 0, .int 0, .int 0, .int 0, .int 0]), (h1, oC 3 [.ref g0, .int 0])] sz) (QV D (fun (u : Unit) => True) (fun (_ : Unit) => [(h0, oC 9 [.ref h1, .int 0, .long 0, .int (-1), .int 0, .int 0, .int 0, .int 0, .int 0]), (h1, oC 3 [.ref g0, .int 0])]) (va_A [(h0, oC 9 [.ref h1, .int 0, .long 0, .int (-1), .int 0, .int 0, .int 0, .int 0, .int 0]), (h1, oC 3 [.ref g0, .int 0])] sz)) 0 0 (va_A [(h0, oC 9 [.ref h1, .int 0, .long 0, .int (-1), .int 0, .int 0, .int 0, .int 0, .int 0]), (h1, oC 3 [.ref g0, .int 0])] sz) :=
  met_of (by decide +kernel) (Nat.le_of_ble_eq_true rfl) (fun p e s m args below meth c B hin hsz => by
    have B : VB p s m args meth c D Y (va_A [(h0, oC 9 [.ref h1, .int 0, .long 0, .int (-1), .int 0, .int 0, .int 0, .int 0, .int 0]), (h1, oC 3 [.ref g0, .int 0])] sz) cX8_reset 1 RX8 none := B
    refine V_aload_n 0 B dX8_reset_0 0 rfl ?_
    refine V_get 1 B gf_RX8_14 0 rfl rfl dX8_reset_1 ?_
    refine V_cvv 4 B (st := []) (As := []) (fun sz => mX1_clear_2 l D Y (h1) (g0) sz) glV_RX8_24 ⟨rfl, rfl⟩ ⟨(Nat.le_of_ble_eq_true rfl), (Nat.le_of_ble_eq_true rfl)⟩ ⟨(Nat.le_of_ble_eq_true rfl), (Nat.le_of_ble_eq_true rfl)⟩ [1] rfl 3 0 rfl rfl rfl rfl (Nat.le_of_ble_eq_true rfl) rfl (fun _ _ => rfl) dX8_reset_4 (fun u0 w0 => ?_)
    refine V_ws [(h0, oC 9 [.ref h1, .int 0, .long 0, .int (-1), .int 0, .int 0, .int 0, .int 0, .int 0]), (h1, oC 3 [.ref g0, .int 0])] rfl ?_
    refine V_aload_n 7 B dX8_reset_7 0 rfl ?_
    refine V_iconst 8 B (v := 0) dX8_reset_8 (by decide +kernel) ?_
    refine V_put 9 B gp_RX8_27 0 rfl (Nat.le_of_ble_eq_true rfl) rfl rfl dX8_reset_9 [(h0, oC 9 [.ref h1, .int 0, .long 0, .int (-1), .int 0, .int 0, .int 0, .int 0, .int 0]), (h1, oC 3 [.ref g0, .int 0])] rfl ?_
    refine V_aload_n 12 B dX8_reset_12 0 rfl ?_
    refine V_lconst 13 B (v := 0) dX8_reset_13 (by decide +kernel) ?_
    refine V_put 14 B gp_RX8_30 0 rfl (Nat.le_of_ble_eq_true rfl) rfl rfl dX8_reset_14 [(h0, oC 9 [.ref h1, .int 0, .long 0, .int (-1), .int 0, .int 0, .int 0, .int 0, .int 0]), (h1, oC 3 [.ref g0, .int 0])] rfl ?_
    refine V_aload_n 17 B dX8_reset_17 0 rfl ?_
    refine V_iconst 18 B (v := (-1)) dX8_reset_18 (by decide +kernel) ?_
    refine V_put 19 B gp_RX8_20 0 rfl (Nat.le_of_ble_eq_true rfl) rfl rfl dX8_reset_19 [(h0, oC 9 [.ref h1, .int 0, .long 0, .int (-1), .int 0, .int 0, .int 0, .int 0, .int 0]), (h1, oC 3 [.ref g0, .int 0])] rfl ?_
    refine V_aload_n 22 B dX8_reset_22 0 rfl ?_
    refine V_iconst 23 B (v := 0) dX8_reset_23 (by decide +kernel) ?_
    refine V_put 24 B gp_RX8_34 0 rfl (Nat.le_of_ble_eq_true rfl) rfl rfl dX8_reset_24 [(h0, oC 9 [.ref h1, .int 0, .long 0, .int (-1), .int 0, .int 0, .int 0, .int 0, .int 0]), (h1, oC 3 [.ref g0, .int 0])] rfl ?_
    refine V_aload_n 27 B dX8_reset_27 0 rfl ?_
    refine V_iconst 28 B (v := 0) dX8_reset_28 (by decide +kernel) ?_
    refine V_put 29 B gp_RX8_37 0 rfl (Nat.le_of_ble_eq_true rfl) rfl rfl dX8_reset_29 [(h0, oC 9 [.ref h1, .int 0, .long 0, .int (-1), .int 0, .int 0, .int 0, .int 0, .int 0]), (h1, oC 3 [.ref g0, .int 0])] rfl ?_
    refine V_aload_n 32 B dX8_reset_32 0 rfl ?_
    refine V_iconst 33 B (v := 0) dX8_reset_33 (by decide +kernel) ?_
    refine V_put 34 B gp_RX8_40 0 rfl (Nat.le_of_ble_eq_true rfl) rfl rfl dX8_reset_34 [(h0, oC 9 [.ref h1, .int 0, .long 0, .int (-1), .int 0, .int 0, .int 0, .int 0, .int 0]), (h1, oC 3 [.ref g0, .int 0])] rfl ?_
    refine V_aload_n 37 B dX8_reset_37 0 rfl ?_
    refine V_iconst 38 B (v := 0) dX8_reset_38 (by decide +kernel) ?_
    refine V_put 39 B gp_RX8_43 0 rfl (Nat.le_of_ble_eq_true rfl) rfl rfl dX8_reset_39 [(h0, oC 9 [.ref h1, .int 0, .long 0, .int (-1), .int 0, .int 0, .int 0, .int 0, .int 0]), (h1, oC 3 [.ref g0, .int 0])] rfl ?_
    refine V_aload_n 42 B dX8_reset_42 0 rfl ?_
    refine V_iconst 43 B (v := 0) dX8_reset_43 (by decide +kernel) ?_
    refine V_put 44 B gp_RX8_46 0 rfl (Nat.le_of_ble_eq_true rfl) rfl rfl dX8_reset_44 [(h0, oC 9 [.ref h1, .int 0, .long 0, .int (-1), .int 0, .int 0, .int 0, .int 0, .int 0]), (h1, oC 3 [.ref g0, .int 0])] rfl ?_
    exact V_vret 47 B dX8_reset_47 () trivial rfl)
theorem dX0_reset_0 : decode cX0_reset 0 = .ok (.aload_n 0, 1) := by decide +kernel
theorem dX0_reset_1 : decode cX0_reset 1 = .ok (.getfield 14, 3) := by decide +kernel
theorem dX0_reset_4 : decode cX0_reset 4 = .ok (.invokevirtual 70, 3) := by decide +kernel
theorem glV_RX0_70 : GLV RX0 70 yX1_clear RX1 cX1_clear 1 none 0 := ⟨⟨(mT2 183 rfl rfl), (mT2 184 rfl rfl), (mT2 185 rfl rfl), (mT1 3 rfl rfl), (mT2 186 rfl rfl)⟩, by decide +kernel⟩
theorem dX0_reset_7 : decode cX0_reset 7 = .ok (.aload_n 0, 1) := by decide +kernel
theorem dX0_reset_8 : decode cX0_reset 8 = .ok (.getfield 14, 3) := by decide +kernel
theorem dX0_reset_11 : decode cX0_reset 11 = .ok (.iconst (-1), 1) := by decide +kernel
theorem dX0_reset_12 : decode cX0_reset 12 = .ok (.invokevirtual 66, 3) := by decide +kernel
theorem dX0_reset_15 : decode cX0_reset 15 = .ok (.pop, 1) := by decide +kernel
theorem dX0_reset_16 : decode cX0_reset 16 = .ok (.aload_n 0, 1) := by decide +kernel
theorem dX0_reset_17 : decode cX0_reset 17 = .ok (.getfield 20, 3) := by decide +kernel
theorem gf_RX0_20 : GF RX0 20 2 1 := ⟨RX0, TX0, 12, rfl, inw_X0, Nat.le_of_ble_eq_true rfl, (mT1 163 rfl rfl)⟩
theorem dX0_reset_20 : decode cX0_reset 20 = .ok (.invokevirtual 70, 3) := by decide +kernel
theorem dX0_reset_23 : decode cX0_reset 23 = .ok (.aload_n 0, 1) := by decide +kernel
theorem dX0_reset_24 : decode cX0_reset 24 = .ok (.getfield 23, 3) := by decide +kernel
theorem gf_RX0_23 : GF RX0 23 2 2 := ⟨RX0, TX0, 12, rfl, inw_X0, Nat.le_of_ble_eq_true rfl, (mT1 167 rfl rfl)⟩
theorem dX0_reset_27 : decode cX0_reset 27 = .ok (.invokevirtual 70, 3) := by decide +kernel
theorem dX0_reset_30 : decode cX0_reset 30 = .ok (.aload_n 0, 1) := by decide +kernel
theorem dX0_reset_31 : decode cX0_reset 31 = .ok (.getfield 26, 3) := by decide +kernel
theorem gf_RX0_26 : GF RX0 26 2 3 := ⟨RX0, TX0, 12, rfl, inw_X0, Nat.le_of_ble_eq_true rfl, (mT1 171 rfl rfl)⟩
theorem dX0_reset_34 : decode cX0_reset 34 = .ok (.invokevirtual 70, 3) := by decide +kernel
theorem dX0_reset_37 : decode cX0_reset 37 = .ok (.aload_n 0, 1) := by decide +kernel
theorem dX0_reset_38 : decode cX0_reset 38 = .ok (.getfield 32, 3) := by decide +kernel
theorem gf_RX0_32 : GF RX0 32 2 4 := ⟨RX0, TX0, 12, rfl, inw_X0, Nat.le_of_ble_eq_true rfl, (mT1 174 rfl rfl)⟩
theorem dX0_reset_41 : decode cX0_reset 41 = .ok (.invokevirtual 73, 3) := by decide +kernel
theorem glV_RX0_73 : GLV RX0 73 yX5_clear RX5 cX5_clear 1 none 0 := ⟨⟨(mT2 187 rfl rfl), (mT2 188 rfl rfl), (mT2 189 rfl rfl), (mT1 5 rfl rfl), (mT2 190 rfl rfl)⟩, by decide +kernel⟩
theorem dX0_reset_44 : decode cX0_reset 44 = .ok (.aload_n 0, 1) := by decide +kernel
theorem dX0_reset_45 : decode cX0_reset 45 = .ok (.getfield 36, 3) := by decide +kernel
theorem gf_RX0_36 : GF RX0 36 2 5 := ⟨RX0, TX0, 12, rfl, inw_X0, Nat.le_of_ble_eq_true rfl, (mT1 178 rfl rfl)⟩
theorem dX0_reset_48 : decode cX0_reset 48 = .ok (.invokevirtual 70, 3) := by decide +kernel
theorem dX0_reset_51 : decode cX0_reset 51 = .ok (.aload_n 0, 1) := by decide +kernel
theorem dX0_reset_52 : decode cX0_reset 52 = .ok (.getfield 39, 3) := by decide +kernel
theorem gf_RX0_39 : GF RX0 39 2 6 := ⟨RX0, TX0, 12, rfl, inw_X0, Nat.le_of_ble_eq_true rfl, (mT1 182 rfl rfl)⟩
theorem dX0_reset_55 : decode cX0_reset 55 = .ok (.invokevirtual 70, 3) := by decide +kernel
theorem dX0_reset_58 : decode cX0_reset 58 = .ok (.aload_n 0, 1) := by decide +kernel
theorem dX0_reset_59 : decode cX0_reset 59 = .ok (.getfield 42, 3) := by decide +kernel
theorem gf_RX0_42 : GF RX0 42 2 7 := ⟨RX0, TX0, 12, rfl, inw_X0, Nat.le_of_ble_eq_true rfl, (mT1 186 rfl rfl)⟩
theorem dX0_reset_62 : decode cX0_reset 62 = .ok (.invokevirtual 73, 3) := by decide +kernel
theorem dX0_reset_65 : decode cX0_reset 65 = .ok (.aload_n 0, 1) := by decide +kernel
theorem dX0_reset_66 : decode cX0_reset 66 = .ok (.getfield 45, 3) := by decide +kernel
theorem gf_RX0_45 : GF RX0 45 2 8 := ⟨RX0, TX0, 12, rfl, inw_X0, Nat.le_of_ble_eq_true rfl, (mT1 190 rfl rfl)⟩
theorem dX0_reset_69 : decode cX0_reset 69 = .ok (.invokevirtual 73, 3) := by decide +kernel
theorem dX0_reset_72 : decode cX0_reset 72 = .ok (.aload_n 0, 1) := by decide +kernel
theorem dX0_reset_73 : decode cX0_reset 73 = .ok (.getfield 51, 3) := by decide +kernel
theorem gf_RX0_51 : GF RX0 51 2 9 := ⟨RX0, TX0, 12, rfl, inw_X0, Nat.le_of_ble_eq_true rfl, (mT1 193 rfl rfl)⟩
theorem dX0_reset_76 : decode cX0_reset 76 = .ok (.invokevirtual 74, 3) := by decide +kernel
theorem glV_RX0_74 : GLV RX0 74 yX2_reset RX2 cX2_reset 1 none 0 := ⟨⟨(mT2 191 rfl rfl), (mT2 192 rfl rfl), (mT2 193 rfl rfl), (mT1 6 rfl rfl), (mT2 194 rfl rfl)⟩, by decide +kernel⟩
theorem dX0_reset_79 : decode cX0_reset 79 = .ok (.aload_n 0, 1) := by decide +kernel
theorem dX0_reset_80 : decode cX0_reset 80 = .ok (.getfield 58, 3) := by decide +kernel
theorem gf_RX0_58 : GF RX0 58 2 10 := ⟨RX0, TX0, 12, rfl, inw_X0, Nat.le_of_ble_eq_true rfl, (mT1 198 rfl rfl)⟩
theorem dX0_reset_83 : decode cX0_reset 83 = .ok (.invokevirtual 77, 3) := by decide +kernel
theorem glV_RX0_77 : GLV RX0 77 yX8_reset RX8 cX8_reset 1 none 0 := ⟨⟨(mT2 196 rfl rfl), (mT2 197 rfl rfl), (mT2 198 rfl rfl), (mT1 7 rfl rfl), (mT2 199 rfl rfl)⟩, by decide +kernel⟩
theorem dX0_reset_86 : decode cX0_reset 86 = .ok (.return_, 1) := by decide +kernel
set_option maxRecDepth 100000 in
set_option maxHeartbeats 4000000 in
theorem mX0_reset_1 (l : Launch) (D : va_G) (Y : Nat → ClassId) (h0 : Nat) (h1 : Nat) (h3 : Nat) (h4 : Nat) (h5 : Nat) (h6 : Nat) (h7 : Nat) (h8 : Nat) (h9 : Nat) (h10 : Nat) (h11 : Nat) (h15 : Nat) (h2 : Nat) (g0 : Nat) (g1 : Nat) (g2 : Nat) (g3 : Nat) (g4 : Nat) (g5 : Nat) (g6 : Nat) (g7 : Nat) (h12 : Nat) (h13 : Nat) (h14 : Nat) (g8 : Nat) (g9 : Nat) (g10 : Nat) (h16 : Nat) (g11 : Nat) (sz : Nat) : Met l yX0_reset (WSm yX0_reset cX0_reset 1 none) (mkR 2 0 0 40) (PreC D Y [.ref h0] [(h0, oC 2 [.ref h1, .ref h3, .ref h4, .ref h5, .ref h6, .ref h7, .ref h8, .ref h9, .ref h10, .ref h11, .ref h15, .int 0]), (h1, oC 3 [.ref h2, .int 1]), (h2, aI Y 6 (upd (fun _ => 0) 0 (-1))), (h3, oC 3 [.ref g0, .int 0]), (h4, oC 3 [.ref g1, .int 0]), (h5, oC 3 [.ref g2, .int 0]), (h6, oC 7 [.ref g3, .int 0]), (h7, oC 3 [.ref g4, .int 0]), (h8, oC 3 [.ref g5, .int 0]), (h9, oC 7 [.ref g6, .int 0]), (h10, oC 7 [.ref g7, .int 0]), (h11, oC 4 [.ref h12, .ref h13, .ref h14, .int 0]), (h12, oC 3 [.ref g8, .int 0]), (h13, oC 3 [.ref g9, .int 0]), (h14, oC 3 [.ref g10, .int 0]), (h15, oC 9 [.ref h16, .int 0, .long 0, .int (-1), .int 0, .int 0, .int 0, .int 0, .int 0]), (h16, oC 3 [.ref g11, .int 0])] sz) (QV D (fun (u : Unit) => True) (fun (_ : Unit) => [(h0, oC 2 [.ref h1, .ref h3, .ref h4, .ref h5, .ref h6, .ref h7, .ref h8, .ref h9, .ref h10, .ref h11, .ref h15, .int 0]), (h1, oC 3 [.ref h2, .int 1]), (h2, aI Y 6 (upd (upd (fun _ => 0) 0 (-1)) 0 (-1))), (h3, oC 3 [.ref g0, .int 0]), (h4, oC 3 [.ref g1, .int 0]), (h5, oC 3 [.ref g2, .int 0]), (h6, oC 7 [.ref g3, .int 0]), (h7, oC 3 [.ref g4, .int 0]), (h8, oC 3 [.ref g5, .int 0]), (h9, oC 7 [.ref g6, .int 0]), (h10, oC 7 [.ref g7, .int 0]), (h11, oC 4 [.ref h12, .ref h13, .ref h14, .int 0]), (h12, oC 3 [.ref g8, .int 0]), (h13, oC 3 [.ref g9, .int 0]), (h14, oC 3 [.ref g10, .int 0]), (h15, oC 9 [.ref h16, .int 0, .long 0, .int (-1), .int 0, .int 0, .int 0, .int 0, .int 0]), (h16, oC 3 [.ref g11, .int 0])]) (va_A [(h0, oC 2 [.ref h1, .ref h3, .ref h4, .ref h5, .ref h6, .ref h7, .ref h8, .ref h9, .ref h10, .ref h11, .ref h15, .int 0]), (h1, oC 3 [.ref h2, .int 1]), (h2, aI Y 6 (upd (fun _ => 0) 0 (-1))), (h3, oC 3 [.ref g0, .int 0]), (h4, oC 3 [.ref g1, .int 0]), (h5, oC 3 [.ref g2, .int 0]), (h6, oC 7 [.ref g3, .int 0]), (h7, oC 3 [.ref g4, .int 0]), (h8, oC 3 [.ref g5, .int 0]), (h9, oC 7 [.ref g6, .int 0]), (h10, oC 7 [.ref g7, .int 0]), (h11, oC 4 [.ref h12, .ref h13, .ref h14, .int 0]), (h12, oC 3 [.ref g8, .int 0]), (h13, oC 3 [.ref g9, .int 0]), (h14, oC 3 [.ref g10, .int 0]), (h15, oC 9 [.ref h16, .int 0, .long 0, .int (-1), .int 0, .int 0, .int 0, .int 0, .int 0]), (h16, oC 3 [.ref g11, .int 0])] sz)) 0 0 (va_A [(h0, oC 2 [.ref h1, .ref h3, .ref h4, .ref h5, .ref h6, .ref h7, .ref h8, .ref h9, .ref h10, .ref h11, .ref h15, .int 0]), (h1, oC 3 [.ref h2, .int 1]), (h2, aI Y 6 (upd (fun _ => 0) 0 (-1))), (h3, oC 3 [.ref g0, .int 0]), (h4, oC 3 [.ref g1, .int 0]), (h5, oC 3 [.ref g2, .int 0]), (h6, oC 7 [.ref g3, .int 0]), (h7, oC 3 [.ref g4, .int 0]), (h8, oC 3 [.ref g5, .int 0]), (h9, oC 7 [.ref g6, .int 0]), (h10, oC 7 [.ref g7, .int 0]), (h11, oC 4 [.ref h12, .ref h13, .ref h14, .int 0]), (h12, oC 3 [.ref g8, .int 0]), (h13, oC 3 [.ref g9, .int 0]), (h14, oC 3 [.ref g10, .int 0]), (h15, oC 9 [.ref h16, .int 0, .long 0, .int (-1), .int 0, .int 0, .int 0, .int 0, .int 0]), (h16, oC 3 [.ref g11, .int 0])] sz) :=
  met_of (by decide +kernel) (Nat.le_of_ble_eq_true rfl) (fun p e s m args below meth c B hin hsz => by
    have B : VB p s m args meth c D Y (va_A [(h0, oC 2 [.ref h1, .ref h3, .ref h4, .ref h5, .ref h6, .ref h7, .ref h8, .ref h9, .ref h10, .ref h11, .ref h15, .int 0]), (h1, oC 3 [.ref h2, .int 1]), (h2, aI Y 6 (upd (fun _ => 0) 0 (-1))), (h3, oC 3 [.ref g0, .int 0]), (h4, oC 3 [.ref g1, .int 0]), (h5, oC 3 [.ref g2, .int 0]), (h6, oC 7 [.ref g3, .int 0]), (h7, oC 3 [.ref g4, .int 0]), (h8, oC 3 [.ref g5, .int 0]), (h9, oC 7 [.ref g6, .int 0]), (h10, oC 7 [.ref g7, .int 0]), (h11, oC 4 [.ref h12, .ref h13, .ref h14, .int 0]), (h12, oC 3 [.ref g8, .int 0]), (h13, oC 3 [.ref g9, .int 0]), (h14, oC 3 [.ref g10, .int 0]), (h15, oC 9 [.ref h16, .int 0, .long 0, .int (-1), .int 0, .int 0, .int 0, .int 0, .int 0]), (h16, oC 3 [.ref g11, .int 0])] sz) cX0_reset 1 RX0 none := B
    refine V_aload_n 0 B dX0_reset_0 0 rfl ?_
    refine V_get 1 B gf_RX0_14 0 rfl rfl dX0_reset_1 ?_
    refine V_cvv 4 B (st := []) (As := []) (fun sz => mX1_clear_1 l D Y (h1) (h2) sz) glV_RX0_70 ⟨rfl, rfl⟩ ⟨(Nat.le_of_ble_eq_true rfl), (Nat.le_of_ble_eq_true rfl)⟩ ⟨(Nat.le_of_ble_eq_true rfl), (Nat.le_of_ble_eq_true rfl)⟩ [1] rfl 3 0 rfl rfl rfl rfl (Nat.le_of_ble_eq_true rfl) rfl (fun _ _ => rfl) dX0_reset_4 (fun u0 w0 => ?_)
    refine V_ws [(h0, oC 2 [.ref h1, .ref h3, .ref h4, .ref h5, .ref h6, .ref h7, .ref h8, .ref h9, .ref h10, .ref h11, .ref h15, .int 0]), (h1, oC 3 [.ref h2, .int 0]), (h2, aI Y 6 (upd (fun _ => 0) 0 (-1))), (h3, oC 3 [.ref g0, .int 0]), (h4, oC 3 [.ref g1, .int 0]), (h5, oC 3 [.ref g2, .int 0]), (h6, oC 7 [.ref g3, .int 0]), (h7, oC 3 [.ref g4, .int 0]), (h8, oC 3 [.ref g5, .int 0]), (h9, oC 7 [.ref g6, .int 0]), (h10, oC 7 [.ref g7, .int 0]), (h11, oC 4 [.ref h12, .ref h13, .ref h14, .int 0]), (h12, oC 3 [.ref g8, .int 0]), (h13, oC 3 [.ref g9, .int 0]), (h14, oC 3 [.ref g10, .int 0]), (h15, oC 9 [.ref h16, .int 0, .long 0, .int (-1), .int 0, .int 0, .int 0, .int 0, .int 0]), (h16, oC 3 [.ref g11, .int 0])] rfl ?_
    refine V_aload_n 7 B dX0_reset_7 0 rfl ?_
    refine V_get 8 B gf_RX0_14 0 rfl rfl dX0_reset_8 ?_
    refine V_iconst 11 B (v := (-1)) dX0_reset_11 (by decide +kernel) ?_
    refine V_cvi 12 B (st := []) (As := [.int (-1)]) (fun sz => mX1_push_2 l D Y (h1) (h2) sz) glV_RX0_66 ⟨rfl, rfl⟩ ⟨(Nat.le_of_ble_eq_true rfl), (Nat.le_of_ble_eq_true rfl)⟩ ⟨(Nat.le_of_ble_eq_true rfl), (Nat.le_of_ble_eq_true rfl)⟩ [1, 0] rfl 3 0 rfl rfl rfl rfl (Nat.le_of_ble_eq_true rfl) rfl (fun _ _ _ => rfl) dX0_reset_12 (fun r1 u1 w1 => ?_)
    obtain rfl := w1
    refine V_ws [(h0, oC 2 [.ref h1, .ref h3, .ref h4, .ref h5, .ref h6, .ref h7, .ref h8, .ref h9, .ref h10, .ref h11, .ref h15, .int 0]), (h1, oC 3 [.ref h2, .int 1]), (h2, aI Y 6 (upd (upd (fun _ => 0) 0 (-1)) 0 (-1))), (h3, oC 3 [.ref g0, .int 0]), (h4, oC 3 [.ref g1, .int 0]), (h5, oC 3 [.ref g2, .int 0]), (h6, oC 7 [.ref g3, .int 0]), (h7, oC 3 [.ref g4, .int 0]), (h8, oC 3 [.ref g5, .int 0]), (h9, oC 7 [.ref g6, .int 0]), (h10, oC 7 [.ref g7, .int 0]), (h11, oC 4 [.ref h12, .ref h13, .ref h14, .int 0]), (h12, oC 3 [.ref g8, .int 0]), (h13, oC 3 [.ref g9, .int 0]), (h14, oC 3 [.ref g10, .int 0]), (h15, oC 9 [.ref h16, .int 0, .long 0, .int (-1), .int 0, .int 0, .int 0, .int 0, .int 0]), (h16, oC 3 [.ref g11, .int 0])] rfl ?_
    refine V_pop 15 B dX0_reset_15 rfl ?_
    refine V_aload_n 16 B dX0_reset_16 0 rfl ?_
    refine V_get 17 B gf_RX0_20 0 rfl rfl dX0_reset_17 ?_
    refine V_cvv 20 B (st := []) (As := []) (fun sz => mX1_clear_2 l D Y (h3) (g0) sz) glV_RX0_70 ⟨rfl, rfl⟩ ⟨(Nat.le_of_ble_eq_true rfl), (Nat.le_of_ble_eq_true rfl)⟩ ⟨(Nat.le_of_ble_eq_true rfl), (Nat.le_of_ble_eq_true rfl)⟩ [3] rfl 3 0 rfl rfl rfl rfl (Nat.le_of_ble_eq_true rfl) rfl (fun _ _ => rfl) dX0_reset_20 (fun u2 w2 => ?_)
    refine V_ws [(h0, oC 2 [.ref h1, .ref h3, .ref h4, .ref h5, .ref h6, .ref h7, .ref h8, .ref h9, .ref h10, .ref h11, .ref h15, .int 0]), (h1, oC 3 [.ref h2, .int 1]), (h2, aI Y 6 (upd (upd (fun _ => 0) 0 (-1)) 0 (-1))), (h3, oC 3 [.ref g0, .int 0]), (h4, oC 3 [.ref g1, .int 0]), (h5, oC 3 [.ref g2, .int 0]), (h6, oC 7 [.ref g3, .int 0]), (h7, oC 3 [.ref g4, .int 0]), (h8, oC 3 [.ref g5, .int 0]), (h9, oC 7 [.ref g6, .int 0]), (h10, oC 7 [.ref g7, .int 0]), (h11, oC 4 [.ref h12, .ref h13, .ref h14, .int 0]), (h12, oC 3 [.ref g8, .int 0]), (h13, oC 3 [.ref g9, .int 0]), (h14, oC 3 [.ref g10, .int 0]), (h15, oC 9 [.ref h16, .int 0, .long 0, .int (-1), .int 0, .int 0, .int 0, .int 0, .int 0]), (h16, oC 3 [.ref g11, .int 0])] rfl ?_
    refine V_aload_n 23 B dX0_reset_23 0 rfl ?_
    refine V_get 24 B gf_RX0_23 0 rfl rfl dX0_reset_24 ?_
    refine V_cvv 27 B (st := []) (As := []) (fun sz => mX1_clear_2 l D Y (h4) (g1) sz) glV_RX0_70 ⟨rfl, rfl⟩ ⟨(Nat.le_of_ble_eq_true rfl), (Nat.le_of_ble_eq_true rfl)⟩ ⟨(Nat.le_of_ble_eq_true rfl), (Nat.le_of_ble_eq_true rfl)⟩ [4] rfl 3 0 rfl rfl rfl rfl (Nat.le_of_ble_eq_true rfl) rfl (fun _ _ => rfl) dX0_reset_27 (fun u3 w3 => ?_)
    refine V_ws [(h0, oC 2 [.ref h1, .ref h3, .ref h4, .ref h5, .ref h6, .ref h7, .ref h8, .ref h9, .ref h10, .ref h11, .ref h15, .int 0]), (h1, oC 3 [.ref h2, .int 1]), (h2, aI Y 6 (upd (upd (fun _ => 0) 0 (-1)) 0 (-1))), (h3, oC 3 [.ref g0, .int 0]), (h4, oC 3 [.ref g1, .int 0]), (h5, oC 3 [.ref g2, .int 0]), (h6, oC 7 [.ref g3, .int 0]), (h7, oC 3 [.ref g4, .int 0]), (h8, oC 3 [.ref g5, .int 0]), (h9, oC 7 [.ref g6, .int 0]), (h10, oC 7 [.ref g7, .int 0]), (h11, oC 4 [.ref h12, .ref h13, .ref h14, .int 0]), (h12, oC 3 [.ref g8, .int 0]), (h13, oC 3 [.ref g9, .int 0]), (h14, oC 3 [.ref g10, .int 0]), (h15, oC 9 [.ref h16, .int 0, .long 0, .int (-1), .int 0, .int 0, .int 0, .int 0, .int 0]), (h16, oC 3 [.ref g11, .int 0])] rfl ?_
    refine V_aload_n 30 B dX0_reset_30 0 rfl ?_
    refine V_get 31 B gf_RX0_26 0 rfl rfl dX0_reset_31 ?_
    refine V_cvv 34 B (st := []) (As := []) (fun sz => mX1_clear_2 l D Y (h5) (g2) sz) glV_RX0_70 ⟨rfl, rfl⟩ ⟨(Nat.le_of_ble_eq_true rfl), (Nat.le_of_ble_eq_true rfl)⟩ ⟨(Nat.le_of_ble_eq_true rfl), (Nat.le_of_ble_eq_true rfl)⟩ [5] rfl 3 0 rfl rfl rfl rfl (Nat.le_of_ble_eq_true rfl) rfl (fun _ _ => rfl) dX0_reset_34 (fun u4 w4 => ?_)
    refine V_ws [(h0, oC 2 [.ref h1, .ref h3, .ref h4, .ref h5, .ref h6, .ref h7, .ref h8, .ref h9, .ref h10, .ref h11, .ref h15, .int 0]), (h1, oC 3 [.ref h2, .int 1]), (h2, aI Y 6 (upd (upd (fun _ => 0) 0 (-1)) 0 (-1))), (h3, oC 3 [.ref g0, .int 0]), (h4, oC 3 [.ref g1, .int 0]), (h5, oC 3 [.ref g2, .int 0]), (h6, oC 7 [.ref g3, .int 0]), (h7, oC 3 [.ref g4, .int 0]), (h8, oC 3 [.ref g5, .int 0]), (h9, oC 7 [.ref g6, .int 0]), (h10, oC 7 [.ref g7, .int 0]), (h11, oC 4 [.ref h12, .ref h13, .ref h14, .int 0]), (h12, oC 3 [.ref g8, .int 0]), (h13, oC 3 [.ref g9, .int 0]), (h14, oC 3 [.ref g10, .int 0]), (h15, oC 9 [.ref h16, .int 0, .long 0, .int (-1), .int 0, .int 0, .int 0, .int 0, .int 0]), (h16, oC 3 [.ref g11, .int 0])] rfl ?_
    refine V_aload_n 37 B dX0_reset_37 0 rfl ?_
    refine V_get 38 B gf_RX0_32 0 rfl rfl dX0_reset_38 ?_
    refine V_cvv 41 B (st := []) (As := []) (fun sz => mX5_clear_1 l D Y (h6) (g3) sz) glV_RX0_73 ⟨rfl, rfl⟩ ⟨(Nat.le_of_ble_eq_true rfl), (Nat.le_of_ble_eq_true rfl)⟩ ⟨(Nat.le_of_ble_eq_true rfl), (Nat.le_of_ble_eq_true rfl)⟩ [6] rfl 7 0 rfl rfl rfl rfl (Nat.le_of_ble_eq_true rfl) rfl (fun _ _ => rfl) dX0_reset_41 (fun u5 w5 => ?_)
    refine V_ws [(h0, oC 2 [.ref h1, .ref h3, .ref h4, .ref h5, .ref h6, .ref h7, .ref h8, .ref h9, .ref h10, .ref h11, .ref h15, .int 0]), (h1, oC 3 [.ref h2, .int 1]), (h2, aI Y 6 (upd (upd (fun _ => 0) 0 (-1)) 0 (-1))), (h3, oC 3 [.ref g0, .int 0]), (h4, oC 3 [.ref g1, .int 0]), (h5, oC 3 [.ref g2, .int 0]), (h6, oC 7 [.ref g3, .int 0]), (h7, oC 3 [.ref g4, .int 0]), (h8, oC 3 [.ref g5, .int 0]), (h9, oC 7 [.ref g6, .int 0]), (h10, oC 7 [.ref g7, .int 0]), (h11, oC 4 [.ref h12, .ref h13, .ref h14, .int 0]), (h12, oC 3 [.ref g8, .int 0]), (h13, oC 3 [.ref g9, .int 0]), (h14, oC 3 [.ref g10, .int 0]), (h15, oC 9 [.ref h16, .int 0, .long 0, .int (-1), .int 0, .int 0, .int 0, .int 0, .int 0]), (h16, oC 3 [.ref g11, .int 0])] rfl ?_
    refine V_aload_n 44 B dX0_reset_44 0 rfl ?_
    refine V_get 45 B gf_RX0_36 0 rfl rfl dX0_reset_45 ?_
    refine V_cvv 48 B (st := []) (As := []) (fun sz => mX1_clear_2 l D Y (h7) (g4) sz) glV_RX0_70 ⟨rfl, rfl⟩ ⟨(Nat.le_of_ble_eq_true rfl), (Nat.le_of_ble_eq_true rfl)⟩ ⟨(Nat.le_of_ble_eq_true rfl), (Nat.le_of_ble_eq_true rfl)⟩ [7] rfl 3 0 rfl rfl rfl rfl (Nat.le_of_ble_eq_true rfl) rfl (fun _ _ => rfl) dX0_reset_48 (fun u6 w6 => ?_)
    refine V_ws [(h0, oC 2 [.ref h1, .ref h3, .ref h4, .ref h5, .ref h6, .ref h7, .ref h8, .ref h9, .ref h10, .ref h11, .ref h15, .int 0]), (h1, oC 3 [.ref h2, .int 1]), (h2, aI Y 6 (upd (upd (fun _ => 0) 0 (-1)) 0 (-1))), (h3, oC 3 [.ref g0, .int 0]), (h4, oC 3 [.ref g1, .int 0]), (h5, oC 3 [.ref g2, .int 0]), (h6, oC 7 [.ref g3, .int 0]), (h7, oC 3 [.ref g4, .int 0]), (h8, oC 3 [.ref g5, .int 0]), (h9, oC 7 [.ref g6, .int 0]), (h10, oC 7 [.ref g7, .int 0]), (h11, oC 4 [.ref h12, .ref h13, .ref h14, .int 0]), (h12, oC 3 [.ref g8, .int 0]), (h13, oC 3 [.ref g9, .int 0]), (h14, oC 3 [.ref g10, .int 0]), (h15, oC 9 [.ref h16, .int 0, .long 0, .int (-1), .int 0, .int 0, .int 0, .int 0, .int 0]), (h16, oC 3 [.ref g11, .int 0])] rfl ?_
    refine V_aload_n 51 B dX0_reset_51 0 rfl ?_
    refine V_get 52 B gf_RX0_39 0 rfl rfl dX0_reset_52 ?_
    refine V_cvv 55 B (st := []) (As := []) (fun sz => mX1_clear_2 l D Y (h8) (g5) sz) glV_RX0_70 ⟨rfl, rfl⟩ ⟨(Nat.le_of_ble_eq_true rfl), (Nat.le_of_ble_eq_true rfl)⟩ ⟨(Nat.le_of_ble_eq_true rfl), (Nat.le_of_ble_eq_true rfl)⟩ [8] rfl 3 0 rfl rfl rfl rfl (Nat.le_of_ble_eq_true rfl) rfl (fun _ _ => rfl) dX0_reset_55 (fun u7 w7 => ?_)
    refine V_ws [(h0, oC 2 [.ref h1, .ref h3, .ref h4, .ref h5, .ref h6, .ref h7, .ref h8, .ref h9, .ref h10, .ref h11, .ref h15, .int 0]), (h1, oC 3 [.ref h2, .int 1]), (h2, aI Y 6 (upd (upd (fun _ => 0) 0 (-1)) 0 (-1))), (h3, oC 3 [.ref g0, .int 0]), (h4, oC 3 [.ref g1, .int 0]), (h5, oC 3 [.ref g2, .int 0]), (h6, oC 7 [.ref g3, .int 0]), (h7, oC 3 [.ref g4, .int 0]), (h8, oC 3 [.ref g5, .int 0]), (h9, oC 7 [.ref g6, .int 0]), (h10, oC 7 [.ref g7, .int 0]), (h11, oC 4 [.ref h12, .ref h13, .ref h14, .int 0]), (h12, oC 3 [.ref g8, .int 0]), (h13, oC 3 [.ref g9, .int 0]), (h14, oC 3 [.ref g10, .int 0]), (h15, oC 9 [.ref h16, .int 0, .long 0, .int (-1), .int 0, .int 0, .int 0, .int 0, .int 0]), (h16, oC 3 [.ref g11, .int 0])] rfl ?_
    refine V_aload_n 58 B dX0_reset_58 0 rfl ?_
    refine V_get 59 B gf_RX0_42 0 rfl rfl dX0_reset_59 ?_
    refine V_cvv 62 B (st := []) (As := []) (fun sz => mX5_clear_1 l D Y (h9) (g6) sz) glV_RX0_73 ⟨rfl, rfl⟩ ⟨(Nat.le_of_ble_eq_true rfl), (Nat.le_of_ble_eq_true rfl)⟩ ⟨(Nat.le_of_ble_eq_true rfl), (Nat.le_of_ble_eq_true rfl)⟩ [9] rfl 7 0 rfl rfl rfl rfl (Nat.le_of_ble_eq_true rfl) rfl (fun _ _ => rfl) dX0_reset_62 (fun u8 w8 => ?_)
    refine V_ws [(h0, oC 2 [.ref h1, .ref h3, .ref h4, .ref h5, .ref h6, .ref h7, .ref h8, .ref h9, .ref h10, .ref h11, .ref h15, .int 0]), (h1, oC 3 [.ref h2, .int 1]), (h2, aI Y 6 (upd (upd (fun _ => 0) 0 (-1)) 0 (-1))), (h3, oC 3 [.ref g0, .int 0]), (h4, oC 3 [.ref g1, .int 0]), (h5, oC 3 [.ref g2, .int 0]), (h6, oC 7 [.ref g3, .int 0]), (h7, oC 3 [.ref g4, .int 0]), (h8, oC 3 [.ref g5, .int 0]), (h9, oC 7 [.ref g6, .int 0]), (h10, oC 7 [.ref g7, .int 0]), (h11, oC 4 [.ref h12, .ref h13, .ref h14, .int 0]), (h12, oC 3 [.ref g8, .int 0]), (h13, oC 3 [.ref g9, .int 0]), (h14, oC 3 [.ref g10, .int 0]), (h15, oC 9 [.ref h16, .int 0, .long 0, .int (-1), .int 0, .int 0, .int 0, .int 0, .int 0]), (h16, oC 3 [.ref g11, .int 0])] rfl ?_
    refine V_aload_n 65 B dX0_reset_65 0 rfl ?_
    refine V_get 66 B gf_RX0_45 0 rfl rfl dX0_reset_66 ?_
    refine V_cvv 69 B (st := []) (As := []) (fun sz => mX5_clear_1 l D Y (h10) (g7) sz) glV_RX0_73 ⟨rfl, rfl⟩ ⟨(Nat.le_of_ble_eq_true rfl), (Nat.le_of_ble_eq_true rfl)⟩ ⟨(Nat.le_of_ble_eq_true rfl), (Nat.le_of_ble_eq_true rfl)⟩ [10] rfl 7 0 rfl rfl rfl rfl (Nat.le_of_ble_eq_true rfl) rfl (fun _ _ => rfl) dX0_reset_69 (fun u9 w9 => ?_)
    refine V_ws [(h0, oC 2 [.ref h1, .ref h3, .ref h4, .ref h5, .ref h6, .ref h7, .ref h8, .ref h9, .ref h10, .ref h11, .ref h15, .int 0]), (h1, oC 3 [.ref h2, .int 1]), (h2, aI Y 6 (upd (upd (fun _ => 0) 0 (-1)) 0 (-1))), (h3, oC 3 [.ref g0, .int 0]), (h4, oC 3 [.ref g1, .int 0]), (h5, oC 3 [.ref g2, .int 0]), (h6, oC 7 [.ref g3, .int 0]), (h7, oC 3 [.ref g4, .int 0]), (h8, oC 3 [.ref g5, .int 0]), (h9, oC 7 [.ref g6, .int 0]), (h10, oC 7 [.ref g7, .int 0]), (h11, oC 4 [.ref h12, .ref h13, .ref h14, .int 0]), (h12, oC 3 [.ref g8, .int 0]), (h13, oC 3 [.ref g9, .int 0]), (h14, oC 3 [.ref g10, .int 0]), (h15, oC 9 [.ref h16, .int 0, .long 0, .int (-1), .int 0, .int 0, .int 0, .int 0, .int 0]), (h16, oC 3 [.ref g11, .int 0])] rfl ?_
    refine V_aload_n 72 B dX0_reset_72 0 rfl ?_
    refine V_get 73 B gf_RX0_51 0 rfl rfl dX0_reset_73 ?_
    refine V_cvv 76 B (st := []) (As := []) (fun sz => mX2_reset_1 l D Y (h11) (h12) (h13) (h14) (g8) (g9) (g10) sz) glV_RX0_74 ⟨rfl, rfl⟩ ⟨(Nat.le_of_ble_eq_true rfl), (Nat.le_of_ble_eq_true rfl)⟩ ⟨(Nat.le_of_ble_eq_true rfl), (Nat.le_of_ble_eq_true rfl)⟩ [11, 0, 0, 0] rfl 4 0 rfl rfl rfl rfl (Nat.le_of_ble_eq_true rfl) rfl (fun _ _ => rfl) dX0_reset_76 (fun u10 w10 => ?_)
    refine V_ws [(h0, oC 2 [.ref h1, .ref h3, .ref h4, .ref h5, .ref h6, .ref h7, .ref h8, .ref h9, .ref h10, .ref h11, .ref h15, .int 0]), (h1, oC 3 [.ref h2, .int 1]), (h2, aI Y 6 (upd (upd (fun _ => 0) 0 (-1)) 0 (-1))), (h3, oC 3 [.ref g0, .int 0]), (h4, oC 3 [.ref g1, .int 0]), (h5, oC 3 [.ref g2, .int 0]), (h6, oC 7 [.ref g3, .int 0]), (h7, oC 3 [.ref g4, .int 0]), (h8, oC 3 [.ref g5, .int 0]), (h9, oC 7 [.ref g6, .int 0]), (h10, oC 7 [.ref g7, .int 0]), (h11, oC 4 [.ref h12, .ref h13, .ref h14, .int 0]), (h12, oC 3 [.ref g8, .int 0]), (h13, oC 3 [.ref g9, .int 0]), (h14, oC 3 [.ref g10, .int 0]), (h15, oC 9 [.ref h16, .int 0, .long 0, .int (-1), .int 0, .int 0, .int 0, .int 0, .int 0]), (h16, oC 3 [.ref g11, .int 0])] rfl ?_
    refine V_aload_n 79 B dX0_reset_79 0 rfl ?_
    refine V_get 80 B gf_RX0_58 0 rfl rfl dX0_reset_80 ?_
    refine V_cvv 83 B (st := []) (As := []) (fun sz => mX8_reset_1 l D Y (h15) (h16) (g11) sz) glV_RX0_77 ⟨rfl, rfl⟩ ⟨(Nat.le_of_ble_eq_true rfl), (Nat.le_of_ble_eq_true rfl)⟩ ⟨(Nat.le_of_ble_eq_true rfl), (Nat.le_of_ble_eq_true rfl)⟩ [15, 0] rfl 9 0 rfl rfl rfl rfl (Nat.le_of_ble_eq_true rfl) rfl (fun _ _ => rfl) dX0_reset_83 (fun u11 w11 => ?_)
    refine V_ws [(h0, oC 2 [.ref h1, .ref h3, .ref h4, .ref h5, .ref h6, .ref h7, .ref h8, .ref h9, .ref h10, .ref h11, .ref h15, .int 0]), (h1, oC 3 [.ref h2, .int 1]), (h2, aI Y 6 (upd (upd (fun _ => 0) 0 (-1)) 0 (-1))), (h3, oC 3 [.ref g0, .int 0]), (h4, oC 3 [.ref g1, .int 0]), (h5, oC 3 [.ref g2, .int 0]), (h6, oC 7 [.ref g3, .int 0]), (h7, oC 3 [.ref g4, .int 0]), (h8, oC 3 [.ref g5, .int 0]), (h9, oC 7 [.ref g6, .int 0]), (h10, oC 7 [.ref g7, .int 0]), (h11, oC 4 [.ref h12, .ref h13, .ref h14, .int 0]), (h12, oC 3 [.ref g8, .int 0]), (h13, oC 3 [.ref g9, .int 0]), (h14, oC 3 [.ref g10, .int 0]), (h15, oC 9 [.ref h16, .int 0, .long 0, .int (-1), .int 0, .int 0, .int 0, .int 0, .int 0]), (h16, oC 3 [.ref g11, .int 0])] rfl ?_
    exact V_vret 86 B dX0_reset_86 () trivial rfl)
theorem dX7_advance_0 : decode cX7_advance 0 = .ok (.aload_n 0, 1) := by decide +kernel
theorem dX7_advance_1 : decode cX7_advance 1 = .ok (.aload_n 0, 1) := by decide +kernel
theorem dX7_advance_2 : decode cX7_advance 2 = .ok (.getfield 25, 3) := by decide +kernel
theorem gf_RX7_25 : GF RX7 25 8 4 := ⟨RX7, TX7, 9, rfl, inw_X7, Nat.le_of_ble_eq_true rfl, (mT2 46 rfl rfl)⟩
theorem dX7_advance_5 : decode cX7_advance 5 = .ok (.putfield 31, 3) := by decide +kernel
theorem gp_RX7_31 : GP RX7 31 8 3 .int false := ⟨RX7, TX7, 9, ⟨rfl, inw_X7, Nat.le_of_ble_eq_true rfl, (mT2 45 rfl rfl)⟩, ⟨tyX7, tyX7_ok⟩, nmX7, rfl, by decide +kernel, fun h => nomatch h⟩
theorem dX7_advance_8 : decode cX7_advance 8 = .ok (.aload_n 0, 1) := by decide +kernel
theorem dX7_advance_9 : decode cX7_advance 9 = .ok (.getfield 31, 3) := by decide +kernel
theorem gf_RX7_31 : GF RX7 31 8 3 := ⟨RX7, TX7, 9, rfl, inw_X7, Nat.le_of_ble_eq_true rfl, (mT2 45 rfl rfl)⟩
theorem dX7_advance_12 : decode cX7_advance 12 = .ok (.aload_n 0, 1) := by decide +kernel
theorem dX7_advance_13 : decode cX7_advance 13 = .ok (.getfield 19, 3) := by decide +kernel
theorem dX7_advance_16 : decode cX7_advance 16 = .ok (.if_icmp .ge 42, 3) := by decide +kernel
theorem dX7_advance_58 : decode cX7_advance 58 = .ok (.aload_n 0, 1) := by decide +kernel
theorem dX7_advance_59 : decode cX7_advance 59 = .ok (.aload_n 0, 1) := by decide +kernel
theorem dX7_advance_60 : decode cX7_advance 60 = .ok (.getfield 31, 3) := by decide +kernel
theorem dX7_advance_63 : decode cX7_advance 63 = .ok (.putfield 25, 3) := by decide +kernel
theorem gp_RX7_25 : GP RX7 25 8 4 .int false := ⟨RX7, TX7, 9, ⟨rfl, inw_X7, Nat.le_of_ble_eq_true rfl, (mT2 46 rfl rfl)⟩, ⟨tyX7, tyX7_ok⟩, nmX7, rfl, by decide +kernel, fun h => nomatch h⟩
theorem dX7_advance_66 : decode cX7_advance 66 = .ok (.aload_n 0, 1) := by decide +kernel
theorem dX7_advance_67 : decode cX7_advance 67 = .ok (.getfield 31, 3) := by decide +kernel
theorem dX7_advance_70 : decode cX7_advance 70 = .ok (.aload_n 0, 1) := by decide +kernel
theorem dX7_advance_71 : decode cX7_advance 71 = .ok (.getfield 19, 3) := by decide +kernel
theorem dX7_advance_74 : decode cX7_advance 74 = .ok (.if_icmp .lt 9, 3) := by decide +kernel
theorem dX7_advance_77 : decode cX7_advance 77 = .ok (.aload_n 0, 1) := by decide +kernel
theorem dX7_advance_78 : decode cX7_advance 78 = .ok (.iconst 0, 1) := by decide +kernel
theorem dX7_advance_79 : decode cX7_advance 79 = .ok (.putfield 38, 3) := by decide +kernel
theorem gp_RX7_38 : GP RX7 38 8 2 .int false := ⟨RX7, TX7, 9, ⟨rfl, inw_X7, Nat.le_of_ble_eq_true rfl, (mT2 42 rfl rfl)⟩, ⟨tyX7, tyX7_ok⟩, nmX7, rfl, by decide +kernel, fun h => nomatch h⟩
theorem dX7_advance_82 : decode cX7_advance 82 = .ok (.return_, 1) := by decide +kernel
set_option maxRecDepth 100000 in
set_option maxHeartbeats 4000000 in
theorem mX7_advance_1 (l : Launch) (D : va_G) (Y : Nat → ClassId) (h0 : Nat) (g0 : Nat) (sz : Nat) : Met l yX7_advance (WSm yX7_advance cX7_advance 1 none) (mkR 0 0 0 0) (PreC D Y [.ref h0] [(h0, oC 8 [.ref g0, .int 0, .int 0, .int 0, .int 0, .int 0, .long 0, .int 0, .int (-1)])] sz) (QV D (fun (u : Unit) => True) (fun (_ : Unit) => [(h0, oC 8 [.ref g0, .int 0, .int 0, .int 0, .int 0, .int 0, .long 0, .int 0, .int (-1)])]) (va_A [(h0, oC 8 [.ref g0, .int 0, .int 0, .int 0, .int 0, .int 0, .long 0, .int 0, .int (-1)])] sz)) 0 0 (va_A [(h0, oC 8 [.ref g0, .int 0, .int 0, .int 0, .int 0, .int 0, .long 0, .int 0, .int (-1)])] sz) :=
  met_of (by decide +kernel) (Nat.le_of_ble_eq_true rfl) (fun p e s m args below meth c B hin hsz => by
    have B : VB p s m args meth c D Y (va_A [(h0, oC 8 [.ref g0, .int 0, .int 0, .int 0, .int 0, .int 0, .long 0, .int 0, .int (-1)])] sz) cX7_advance 1 RX7 none := B
    refine V_aload_n 0 B dX7_advance_0 0 rfl ?_
    refine V_aload_n 1 B dX7_advance_1 0 rfl ?_
    refine V_get 2 B gf_RX7_25 0 rfl rfl dX7_advance_2 ?_
    refine V_put 5 B gp_RX7_31 0 rfl (Nat.le_of_ble_eq_true rfl) rfl rfl dX7_advance_5 [(h0, oC 8 [.ref g0, .int 0, .int 0, .int 0, .int 0, .int 0, .long 0, .int 0, .int (-1)])] rfl ?_
    refine V_aload_n 8 B dX7_advance_8 0 rfl ?_
    refine V_get 9 B gf_RX7_31 0 rfl rfl dX7_advance_9 ?_
    refine V_aload_n 12 B dX7_advance_12 0 rfl ?_
    refine V_get 13 B gf_RX7_19 0 rfl rfl dX7_advance_13 ?_
    refine V_icmp_ge_t 16 B 58 dX7_advance_16 (by decide) (by decide +kernel) ?_
    refine V_aload_n 58 B dX7_advance_58 0 rfl ?_
    refine V_aload_n 59 B dX7_advance_59 0 rfl ?_
    refine V_get 60 B gf_RX7_31 0 rfl rfl dX7_advance_60 ?_
    refine V_put 63 B gp_RX7_25 0 rfl (Nat.le_of_ble_eq_true rfl) rfl rfl dX7_advance_63 [(h0, oC 8 [.ref g0, .int 0, .int 0, .int 0, .int 0, .int 0, .long 0, .int 0, .int (-1)])] rfl ?_
    refine V_aload_n 66 B dX7_advance_66 0 rfl ?_
    refine V_get 67 B gf_RX7_31 0 rfl rfl dX7_advance_67 ?_
    refine V_aload_n 70 B dX7_advance_70 0 rfl ?_
    refine V_get 71 B gf_RX7_19 0 rfl rfl dX7_advance_71 ?_
    refine V_icmp_lt_f 74 B 83 dX7_advance_74 (by decide) (by decide +kernel) ?_
    refine V_aload_n 77 B dX7_advance_77 0 rfl ?_
    refine V_iconst 78 B (v := 0) dX7_advance_78 (by decide +kernel) ?_
    refine V_put 79 B gp_RX7_38 0 rfl (Nat.le_of_ble_eq_true rfl) rfl rfl dX7_advance_79 [(h0, oC 8 [.ref g0, .int 0, .int 0, .int 0, .int 0, .int 0, .long 0, .int 0, .int (-1)])] rfl ?_
    exact V_vret 82 B dX7_advance_82 () trivial rfl)
