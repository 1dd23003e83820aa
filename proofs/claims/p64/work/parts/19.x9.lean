theorem glS_RX6_39 : GLS RX6 39 yJ6_bitCount_0f7a4 cJ6_bitCount_0f7a4 1 (some .int) 1 := ⟨⟨(mT4 5 rfl rfl), (mT4 6 rfl rfl), (mT1 25 rfl rfl), (mT4 7 rfl rfl)⟩, by decide +kernel⟩
theorem dX6_strokeCost_31 : decode cX6_strokeCost 31 = .ok (.imul, 1) := by decide +kernel
theorem dX6_strokeCost_32 : decode cX6_strokeCost 32 = .ok (.iadd, 1) := by decide +kernel
theorem dX6_strokeCost_33 : decode cX6_strokeCost 33 = .ok (.ireturn, 1) := by decide +kernel
theorem dX6_strokeCost_13 : decode cX6_strokeCost 13 = .ok (.getstatic 35, 3) := by decide +kernel
theorem dX6_strokeCost_16 : decode cX6_strokeCost 16 = .ok (.iload_n 1, 1) := by decide +kernel
theorem dX6_strokeCost_17 : decode cX6_strokeCost 17 = .ok (.iaload, 1) := by decide +kernel
theorem dX6_strokeCost_18 : decode cX6_strokeCost 18 = .ok (.goto 4, 3) := by decide +kernel
set_option maxRecDepth 100000 in
set_option maxHeartbeats 4000000 in
theorem sX6_strokeCost_1 (l : Launch) (D : va_G) (Y : Nat → ClassId) (p0 : Int32) (sz : Nat) : Met l yX6_strokeCost (WSm yX6_strokeCost cX6_strokeCost 3 (some .int)) (mkR 1 0 0 20) (PreG EX D Y [.int p0] [] sz) (QI D (fun (_ : Int32) (_ : UU) => True) (fun (u : UU) => []) (va_A [] sz)) 0 0 (va_A [] sz) :=
  gmet_of (by decide +kernel) (Nat.le_of_ble_eq_true rfl) (fun p e s m args below meth c B EB hsz => by
    have B : VB p s m args meth c D Y (va_A [] sz) cX6_strokeCost 3 RX6 (some .int) := B
    refine V_iload_n 0 B dX6_strokeCost_0 0 rfl ?_
    refine V_bipush 1 B (v := 31) dX6_strokeCost_1 (by decide +kernel) ?_
    refine V_iand 3 B dX6_strokeCost_3 rfl ?_
    refine V_istore_n 4 B (lv2 := [(1, .int (p0 &&& 31)), (0, .int p0)]) dX6_strokeCost_4 (by decide) rfl ?_
    refine V_iload_n 5 B dX6_strokeCost_5 0 rfl ?_
    refine V_kget 6 B EB (mT4 3 rfl rfl) dX6_strokeCost_6 (fun tk0 htk0 => ?_)
    refine V_klen 9 B htk0 dX6_strokeCost_9 ?_
    refine V_icmp_ge 10 B 21 dX6_strokeCost_10 (by decide) (fun k1 => ?_) (fun k1 => ?_)
    ·
      refine V_iconst 21 B (v := 0) dX6_strokeCost_21 (by decide +kernel) ?_
      refine V_istore_n 22 B (lv2 := [(2, .int 0), (1, .int (p0 &&& 31)), (0, .int p0)]) dX6_strokeCost_22 (by decide) rfl ?_
      refine V_iload_n 23 B dX6_strokeCost_23 0 rfl ?_
      refine V_iconst 24 B (v := 2) dX6_strokeCost_24 (by decide +kernel) ?_
      refine V_iload_n 25 B dX6_strokeCost_25 2 rfl ?_
      refine V_iconst 26 B (v := 5) dX6_strokeCost_26 (by decide +kernel) ?_
      refine V_ishr 27 B dX6_strokeCost_27 rfl ?_
      refine V_nmi (fun j2 _ => ?_)
      refine V_gsi 28 B envX EB (st := [.int 2, .int 0]) (As := [.int j2]) (fun sz => sJ6_bitCount_0f7a4_1 l D Y  j2 sz) glS_RX6_39 ⟨rfl, rfl⟩ ⟨(Nat.le_of_ble_eq_true rfl), (Nat.le_of_ble_eq_true rfl)⟩ ⟨(Nat.le_of_ble_eq_true rfl), (Nat.le_of_ble_eq_true rfl)⟩ [] rfl rfl (Nat.le_of_ble_eq_true rfl) rfl (fun _ _ _ => rfl) dX6_strokeCost_28 (fun j3 u4 w5 => ?_)
      refine V_ws [] rfl ?_
      refine V_imul 31 B dX6_strokeCost_31 rfl ?_
      refine V_nmi (fun j6 _ => ?_)
      refine V_iadd 32 B dX6_strokeCost_32 rfl ?_
      refine V_nmi (fun j7 _ => ?_)
      exact V_iret 33 B dX6_strokeCost_33 (mkU [] [] [] [] []) trivial rfl
    ·
      refine V_kget 13 B EB (mT4 3 rfl rfl) dX6_strokeCost_13 (fun tk8 htk8 => ?_)
      refine V_iload_n 16 B dX6_strokeCost_16 0 rfl ?_
      refine V_kld 17 B htk8 (vpin_b (and31_lo p0) (b_nge k1 (n := 25) (by decide +kernel)) (by decide)) rfl dX6_strokeCost_17 ?_
      refine V_nmi (fun j9 _ => ?_)
      refine V_goto 18 B 22 dX6_strokeCost_18 (by decide) ?_
      refine V_istore_n 22 B (lv2 := [(2, .int j9), (1, .int (p0 &&& 31)), (0, .int p0)]) dX6_strokeCost_22 (by decide) rfl ?_
      refine V_iload_n 23 B dX6_strokeCost_23 0 rfl ?_
      refine V_iconst 24 B (v := 2) dX6_strokeCost_24 (by decide +kernel) ?_
      refine V_iload_n 25 B dX6_strokeCost_25 2 rfl ?_
      refine V_iconst 26 B (v := 5) dX6_strokeCost_26 (by decide +kernel) ?_
      refine V_ishr 27 B dX6_strokeCost_27 rfl ?_
      refine V_nmi (fun j10 _ => ?_)
      refine V_gsi 28 B envX EB (st := [.int 2, .int j9]) (As := [.int j10]) (fun sz => sJ6_bitCount_0f7a4_1 l D Y  j10 sz) glS_RX6_39 ⟨rfl, rfl⟩ ⟨(Nat.le_of_ble_eq_true rfl), (Nat.le_of_ble_eq_true rfl)⟩ ⟨(Nat.le_of_ble_eq_true rfl), (Nat.le_of_ble_eq_true rfl)⟩ [] rfl rfl (Nat.le_of_ble_eq_true rfl) rfl (fun _ _ _ => rfl) dX6_strokeCost_28 (fun j11 u12 w13 => ?_)
      refine V_ws [] rfl ?_
      refine V_imul 31 B dX6_strokeCost_31 rfl ?_
      refine V_nmi (fun j14 _ => ?_)
      refine V_iadd 32 B dX6_strokeCost_32 rfl ?_
      refine V_nmi (fun j15 _ => ?_)
      exact V_iret 33 B dX6_strokeCost_33 (mkU [] [] [] [] []) trivial rfl)
theorem glS_RX6_31 : GLS RX6 31 yX6_strokeCost cX6_strokeCost 3 (some .int) 1 := ⟨⟨(mT4 0 rfl rfl), (mT4 1 rfl rfl), (mT1 18 rfl rfl), (mT4 2 rfl rfl)⟩, by decide +kernel⟩
theorem dX6_costOf_26 : decode cX6_costOf 26 = .ok (.iadd, 1) := by decide +kernel
theorem dX6_costOf_27 : decode cX6_costOf 27 = .ok (.istore_n 2, 1) := by decide +kernel
theorem dX6_costOf_28 : decode cX6_costOf 28 = .ok (.iinc 4 1, 3) := by decide +kernel
theorem dX6_costOf_31 : decode cX6_costOf 31 = .ok (.goto (-21), 3) := by decide +kernel
set_option maxRecDepth 100000 in
set_option maxHeartbeats 4000000 in
theorem sX6_costOf_1 (l : Launch) (D : va_G) (Y : Nat → ClassId) (p0 : Int64) (sz : Nat) : Met l yX6_costOf (WSm yX6_costOf cX6_costOf 5 (some .int)) (mkR 2 0 0 42) (PreG EX D Y [.long p0] [] sz) (QI D (fun (_ : Int32) (_ : UU) => True) (fun (u : UU) => []) (va_A [] sz)) 0 0 (va_A [] sz) :=
  gmet_of (by decide +kernel) (Nat.le_of_ble_eq_true rfl) (fun p e s m args below meth c B EB hsz => by
    have B : VB p s m args meth c D Y (va_A [] sz) cX6_costOf 5 RX6 (some .int) := B
    refine V_iconst 0 B (v := 0) dX6_costOf_0 (by decide +kernel) ?_
    refine V_istore_n 1 B (lv2 := [(2, .int 0), (0, .long p0)]) dX6_costOf_1 (by decide) rfl ?_
    refine V_lload_n 2 B dX6_costOf_2 1 rfl ?_
    refine V_gsi 3 B envX EB (st := []) (As := [.long p0]) (fun sz => sX6_lengthOf_1 l D Y  p0 sz) glS_RX6_13 ⟨rfl, rfl⟩ ⟨(Nat.le_of_ble_eq_true rfl), (Nat.le_of_ble_eq_true rfl)⟩ ⟨(Nat.le_of_ble_eq_true rfl), (Nat.le_of_ble_eq_true rfl)⟩ [] rfl rfl (Nat.le_of_ble_eq_true rfl) rfl (fun _ _ _ => rfl) dX6_costOf_3 (fun j0 u1 w2 => ?_)
    refine V_ws [] rfl ?_
    refine V_istore_n 6 B (lv2 := [(3, .int j0), (2, .int 0), (0, .long p0)]) dX6_costOf_6 (by decide) rfl ?_
    refine V_iconst 7 B (v := 0) dX6_costOf_7 (by decide +kernel) ?_
    refine V_istore 8 B (lv2 := [(4, .int 0), (3, .int j0), (2, .int 0), (0, .long p0)]) dX6_costOf_8 (by decide) rfl ?_
    refine V_wloop (α := UU) (fun a => (2147483647 - ((a.1 0)).toInt).toNat) (fun a => 0 ≤ ((a.1 0)).toInt) (fun a => [(4, .int (a.1 0)), (3, .int j0), (2, .int (a.1 1)), (0, .long p0)]) (fun a => []) (mkU [0, 0] [] [] [] []) (show (0 : Int) ≤ (0 : Int32).toInt by decide +kernel) rfl rfl (fun a3 hI5 IH4 => ?_)
    refine V_lv [(4, .int (a3.1 0)), (3, .int j0), (2, .int (a3.1 1)), (0, .long p0)] [0, 1, 2, 3] rfl ?_
    refine V_ws [] rfl ?_
    refine V_iload 10 B dX6_costOf_10 0 rfl ?_
    refine V_iload_n 12 B dX6_costOf_12 1 rfl ?_
    refine V_icmp_ge 13 B 34 dX6_costOf_13 (by decide) (fun k6 => ?_) (fun k6 => ?_)
    ·
      refine V_iload_n 34 B dX6_costOf_34 2 rfl ?_
      exact V_iret 35 B dX6_costOf_35 (mkU [] [] [] [] []) trivial rfl
    ·
      refine V_iload_n 16 B dX6_costOf_16 2 rfl ?_
      refine V_lload_n 17 B dX6_costOf_17 3 rfl ?_
      refine V_iload 18 B dX6_costOf_18 0 rfl ?_
      refine V_gsi 20 B envX EB (st := [.int (a3.1 1)]) (As := [.long p0, .int (a3.1 0)]) (fun sz => sX6_strokeAt_1 l D Y  p0 (a3.1 0) sz) glS_RX6_27 ⟨rfl, rfl⟩ ⟨(Nat.le_of_ble_eq_true rfl), (Nat.le_of_ble_eq_true rfl)⟩ ⟨(Nat.le_of_ble_eq_true rfl), (Nat.le_of_ble_eq_true rfl)⟩ [] rfl rfl (Nat.le_of_ble_eq_true rfl) rfl (fun _ _ _ => rfl) dX6_costOf_20 (fun j7 u8 w9 => ?_)
      refine V_ws [] rfl ?_
      refine V_gsi 23 B envX EB (st := [.int (a3.1 1)]) (As := [.int j7]) (fun sz => sX6_strokeCost_1 l D Y  j7 sz) glS_RX6_31 ⟨rfl, rfl⟩ ⟨(Nat.le_of_ble_eq_true rfl), (Nat.le_of_ble_eq_true rfl)⟩ ⟨(Nat.le_of_ble_eq_true rfl), (Nat.le_of_ble_eq_true rfl)⟩ [] rfl rfl (Nat.le_of_ble_eq_true rfl) rfl (fun _ _ _ => rfl) dX6_costOf_23 (fun j10 u11 w12 => ?_)
      refine V_ws [] rfl ?_
      refine V_iadd 26 B dX6_costOf_26 rfl ?_
      refine V_nmi (fun j13 _ => ?_)
      refine V_istore_n 27 B (lv2 := [(2, .int j13), (4, .int (a3.1 0)), (3, .int j0), (0, .long p0)]) dX6_costOf_27 (by decide) rfl ?_
      refine V_iinc 28 B (v := ((a3.1 0) + Int32.ofInt 1)) (lv2 := [(4, .int ((a3.1 0) + Int32.ofInt 1)), (2, .int j13), (3, .int j0), (0, .long p0)]) dX6_costOf_28 1 rfl rfl (by decide) rfl ?_
      refine V_goto 31 B 10 dX6_costOf_31 (by decide) ?_
      refine V_lv [(4, .int ((a3.1 0) + Int32.ofInt 1)), (3, .int j0), (2, .int j13), (0, .long p0)] [0, 2, 1, 3] rfl ?_
      exact IH4 (mkU [((a3.1 0) + Int32.ofInt 1), j13] [] [] [] []) (Int.le_trans (by decide) (o_add_lo (c := Int32.ofInt 1) hI5 (o_lt_hi (o_nle k6) (i_hi j0) (k := 2147483646) (by decide +kernel)) (by decide +kernel) (by decide +kernel) (k := 1) (by decide +kernel))) (up_dec (x := (a3.1 0)) (c := Int32.ofInt 1) (by decide +kernel) hI5 (o_lt_hi (o_nle k6) (i_hi j0) (k := 2147483646) (by decide +kernel)) (by decide)))
theorem glS_RX11_177 : GLS RX11 177 yX6_costOf cX6_costOf 5 (some .int) 1 := ⟨⟨(mT3 236 rfl rfl), (mT3 237 rfl rfl), (mT1 18 rfl rfl), (mT3 238 rfl rfl)⟩, by decide +kernel⟩
theorem dX11_draftCost_7 : decode cX11_draftCost 7 = .ok (.ireturn, 1) := by decide +kernel
set_option maxRecDepth 100000 in
set_option maxHeartbeats 4000000 in
theorem sX11_draftCost_1 (l : Launch) (D : va_G) (Y : Nat → ClassId) (h0 : Nat) (g0 : Nat) (g1 : Nat) (g2 : Nat) (g3 : Nat) (g4 : Nat) (g5 : Nat) (g6 : Nat) (g7 : Nat) (g8 : Nat) (p0 : Int64) (sz : Nat) : Met l yX11_draftCost (WSm yX11_draftCost cX11_draftCost 1 (some .int)) (mkR 3 0 0 66) (PreG EX D Y [.ref h0] [(h0, oC 12 [.ref g0, .ref g1, .ref g2, .ref g3, .ref g4, .ref g5, .ref g6, .ref g7, .ref g8, .long p0])] sz) (QI D (fun (_ : Int32) (_ : UU) => True) (fun (u : UU) => [(h0, oC 12 [.ref g0, .ref g1, .ref g2, .ref g3, .ref g4, .ref g5, .ref g6, .ref g7, .ref g8, .long p0])]) (va_A [(h0, oC 12 [.ref g0, .ref g1, .ref g2, .ref g3, .ref g4, .ref g5, .ref g6, .ref g7, .ref g8, .long p0])] sz)) 0 0 (va_A [(h0, oC 12 [.ref g0, .ref g1, .ref g2, .ref g3, .ref g4, .ref g5, .ref g6, .ref g7, .ref g8, .long p0])] sz) :=
  gmet_of (by decide +kernel) (Nat.le_of_ble_eq_true rfl) (fun p e s m args below meth c B EB hsz => by
    have B : VB p s m args meth c D Y (va_A [(h0, oC 12 [.ref g0, .ref g1, .ref g2, .ref g3, .ref g4, .ref g5, .ref g6, .ref g7, .ref g8, .long p0])] sz) cX11_draftCost 1 RX11 (some .int) := B
    refine V_aload_n 0 B dX11_draftCost_0 0 rfl ?_
    refine V_get 1 B gf_RX11_68 0 rfl rfl dX11_draftCost_1 ?_
    refine V_gsi 4 B envX EB (st := []) (As := [.long p0]) (fun sz => sX6_costOf_1 l D Y  p0 sz) glS_RX11_177 ⟨rfl, rfl⟩ ⟨(Nat.le_of_ble_eq_true rfl), (Nat.le_of_ble_eq_true rfl)⟩ ⟨(Nat.le_of_ble_eq_true rfl), (Nat.le_of_ble_eq_true rfl)⟩ [] rfl rfl (Nat.le_of_ble_eq_true rfl) rfl (fun _ _ _ => rfl) dX11_draftCost_4 (fun j0 u1 w2 => ?_)
    refine V_ws [(h0, oC 12 [.ref g0, .ref g1, .ref g2, .ref g3, .ref g4, .ref g5, .ref g6, .ref g7, .ref g8, .long p0])] rfl ?_
    exact V_iret 7 B dX11_draftCost_7 (mkU [] [] [] [] []) trivial rfl)
theorem dX11_addMode_0 : decode cX11_addMode 0 = .ok (.aload_n 0, 1) := by decide +kernel
theorem dX11_addMode_1 : decode cX11_addMode 1 = .ok (.iload_n 1, 1) := by decide +kernel
theorem dX11_addMode_2 : decode cX11_addMode 2 = .ok (.invokevirtual 180, 3) := by decide +kernel
theorem dX11_needMode_0 : decode cX11_needMode 0 = .ok (.aload_n 0, 1) := by decide +kernel
theorem dX11_needMode_1 : decode cX11_needMode 1 = .ok (.getfield 10, 3) := by decide +kernel
theorem dX11_needMode_4 : decode cX11_needMode 4 = .ok (.iload_n 1, 1) := by decide +kernel
theorem dX11_needMode_5 : decode cX11_needMode 5 = .ok (.invokevirtual 395, 3) := by decide +kernel
theorem dX0_hasMode_0 : decode cX0_hasMode 0 = .ok (.iload_n 1, 1) := by decide +kernel
theorem dX0_hasMode_1 : decode cX0_hasMode 1 = .ok (.ifCond .lt 18, 3) := by decide +kernel
theorem dX0_hasMode_19 : decode cX0_hasMode 19 = .ok (.iconst 0, 1) := by decide +kernel
theorem dX0_hasMode_20 : decode cX0_hasMode 20 = .ok (.ireturn, 1) := by decide +kernel
theorem dX0_hasMode_4 : decode cX0_hasMode 4 = .ok (.iload_n 1, 1) := by decide +kernel
theorem dX0_hasMode_5 : decode cX0_hasMode 5 = .ok (.aload_n 0, 1) := by decide +kernel
theorem dX0_hasMode_6 : decode cX0_hasMode 6 = .ok (.getfield 14, 3) := by decide +kernel
theorem dX0_hasMode_9 : decode cX0_hasMode 9 = .ok (.invokevirtual 91, 3) := by decide +kernel
theorem dX0_hasMode_12 : decode cX0_hasMode 12 = .ok (.if_icmp .ge 7, 3) := by decide +kernel
theorem dX0_hasMode_15 : decode cX0_hasMode 15 = .ok (.iconst 1, 1) := by decide +kernel
theorem dX0_hasMode_16 : decode cX0_hasMode 16 = .ok (.goto 4, 3) := by decide +kernel
set_option maxRecDepth 100000 in
set_option maxHeartbeats 4000000 in
theorem sX0_hasMode_1 (l : Launch) (D : va_G) (Y : Nat → ClassId) (h0 : Nat) (h1 : Nat) (g0 : Nat) (g1 : Nat) (g2 : Nat) (g3 : Nat) (g4 : Nat) (g5 : Nat) (g6 : Nat) (g7 : Nat) (g8 : Nat) (g9 : Nat) (g10 : Nat) (p0 : Int32) (p1 : Int32) (p2 : Int32) (sz : Nat) : Met l yX0_hasMode (WSm yX0_hasMode cX0_hasMode 2 (some .boolean)) (mkR 1 0 0 20) (PreG EX D Y [.ref h0, .int p2] [(h0, oC 2 [.ref h1, .ref g0, .ref g1, .ref g2, .ref g3, .ref g4, .ref g5, .ref g6, .ref g7, .ref g8, .ref g9, .int p0]), (h1, oC 3 [.ref g10, .int p1])] sz) (QI D (fun (r : Int32) (_ : UU) => r = 0 ∨ r = 1) (fun (u : UU) => [(h0, oC 2 [.ref h1, .ref g0, .ref g1, .ref g2, .ref g3, .ref g4, .ref g5, .ref g6, .ref g7, .ref g8, .ref g9, .int p0]), (h1, oC 3 [.ref g10, .int p1])]) (va_A [(h0, oC 2 [.ref h1, .ref g0, .ref g1, .ref g2, .ref g3, .ref g4, .ref g5, .ref g6, .ref g7, .ref g8, .ref g9, .int p0]), (h1, oC 3 [.ref g10, .int p1])] sz)) 0 0 (va_A [(h0, oC 2 [.ref h1, .ref g0, .ref g1, .ref g2, .ref g3, .ref g4, .ref g5, .ref g6, .ref g7, .ref g8, .ref g9, .int p0]), (h1, oC 3 [.ref g10, .int p1])] sz) :=
  gmet_of (by decide +kernel) (Nat.le_of_ble_eq_true rfl) (fun p e s m args below meth c B EB hsz => by
    have B : VB p s m args meth c D Y (va_A [(h0, oC 2 [.ref h1, .ref g0, .ref g1, .ref g2, .ref g3, .ref g4, .ref g5, .ref g6, .ref g7, .ref g8, .ref g9, .int p0]), (h1, oC 3 [.ref g10, .int p1])] sz) cX0_hasMode 2 RX0 (some .boolean) := B
    refine V_iload_n 0 B dX0_hasMode_0 1 rfl ?_
    refine V_if_lt 1 B 19 dX0_hasMode_1 (by decide) (fun k0 => ?_) (fun k0 => ?_)
    ·
      refine V_iconst 19 B (v := 0) dX0_hasMode_19 (by decide +kernel) ?_
      exact V_zret 20 B rfl dX0_hasMode_20 (mkU [] [] [] [] []) (Or.inl rfl) rfl
    ·
      refine V_iload_n 4 B dX0_hasMode_4 1 rfl ?_
      refine V_aload_n 5 B dX0_hasMode_5 0 rfl ?_
      refine V_get 6 B gf_RX0_14 0 rfl rfl dX0_hasMode_6 ?_
      refine V_gvi 9 B envX EB (st := [.int p2]) (As := []) (fun sz => sX1_size_1 l D Y h1 g10 p1 sz) glV_RX0_91 ⟨rfl, rfl⟩ ⟨(Nat.le_of_ble_eq_true rfl), (Nat.le_of_ble_eq_true rfl)⟩ ⟨(Nat.le_of_ble_eq_true rfl), (Nat.le_of_ble_eq_true rfl)⟩ [1] rfl 3 0 rfl rfl rfl rfl (Nat.le_of_ble_eq_true rfl) rfl (fun _ _ _ => rfl) dX0_hasMode_9 (fun j1 u2 w3 => ?_)
      refine V_ws [(h0, oC 2 [.ref h1, .ref g0, .ref g1, .ref g2, .ref g3, .ref g4, .ref g5, .ref g6, .ref g7, .ref g8, .ref g9, .int p0]), (h1, oC 3 [.ref g10, .int p1])] rfl ?_
      refine V_icmp_ge 12 B 19 dX0_hasMode_12 (by decide) (fun k4 => ?_) (fun k4 => ?_)
      ·
        refine V_iconst 19 B (v := 0) dX0_hasMode_19 (by decide +kernel) ?_
        exact V_zret 20 B rfl dX0_hasMode_20 (mkU [] [] [] [] []) (Or.inl rfl) rfl
      ·
        refine V_iconst 15 B (v := 1) dX0_hasMode_15 (by decide +kernel) ?_
        refine V_goto 16 B 20 dX0_hasMode_16 (by decide) ?_
        exact V_zret 20 B rfl dX0_hasMode_20 (mkU [] [] [] [] []) (Or.inr rfl) rfl)
theorem glV_RX11_395 : GLV RX11 395 yX0_hasMode RX0 cX0_hasMode 2 (some .boolean) 1 := ⟨⟨(mT5 160 rfl rfl), (mT4 205 rfl rfl), (mT4 206 rfl rfl), (mT1 2 rfl rfl), (mT4 207 rfl rfl)⟩, by decide +kernel⟩
theorem dX11_needMode_8 : decode cX11_needMode 8 = .ok (.ifCond .ne 14, 3) := by decide +kernel
theorem dX11_needMode_11 : decode cX11_needMode 11 = .ok (.new 225, 3) := by decide +kernel
theorem gt_RX11_225_398_229 : GT RX11 225 398 229 "java/lang/IndexOutOfBoundsException" "no such mode" ["java/lang/RuntimeException", "java/lang/Exception"] := ⟨rfl, (mT5 136 rfl rfl), (mT1 23 rfl rfl), List.mem_of_getElem? (i := 9) rfl, by decide +kernel, by decide +kernel, List.mem_of_getElem? (i := 1) rfl, gta_229⟩
theorem dX11_needMode_14 : decode cX11_needMode 14 = .ok (.dup, 1) := by decide +kernel
theorem dX11_needMode_15 : decode cX11_needMode 15 = .ok (.ldc_w 398, 3) := by decide +kernel
theorem dX11_needMode_18 : decode cX11_needMode 18 = .ok (.invokespecial 229, 3) := by decide +kernel
theorem dX11_needMode_21 : decode cX11_needMode 21 = .ok (.athrow, 1) := by decide +kernel
theorem dX11_needMode_22 : decode cX11_needMode 22 = .ok (.return_, 1) := by decide +kernel
set_option maxRecDepth 100000 in
set_option maxHeartbeats 4000000 in
theorem sX11_needMode_1 (l : Launch) (hl9 : l.stackTraces = false) (D : va_G) (Y : Nat → ClassId) (h0 : Nat) (h1 : Nat) (h2 : Nat) (g0 : Nat) (g1 : Nat) (g2 : Nat) (g3 : Nat) (g4 : Nat) (g5 : Nat) (g6 : Nat) (g7 : Nat) (g8 : Nat) (g9 : Nat) (g10 : Nat) (g11 : Nat) (g12 : Nat) (g13 : Nat) (g14 : Nat) (g15 : Nat) (g16 : Nat) (g17 : Nat) (g18 : Nat) (p0 : Int64) (p1 : Int32) (p2 : Int32) (p3 : Int32) (sz : Nat) : vx_Met l yX11_needMode (WSm yX11_needMode cX11_needMode 2 none) (mkR 6 1 6 82) (PreX D Y [.ref h0, .int p3] [(h0, oC 12 [.ref h1, .ref g0, .ref g1, .ref g2, .ref g3, .ref g4, .ref g5, .ref g6, .ref g7, .long p0]), (h1, oC 2 [.ref h2, .ref g8, .ref g9, .ref g10, .ref g11, .ref g12, .ref g13, .ref g14, .ref g15, .ref g16, .ref g17, .int p1]), (h2, oC 3 [.ref g18, .int p2])] sz) (QV D (fun (_ : UU) => True) (fun (u : UU) => [(h0, oC 12 [.ref h1, .ref g0, .ref g1, .ref g2, .ref g3, .ref g4, .ref g5, .ref g6, .ref g7, .long p0]), (h1, oC 2 [.ref h2, .ref g8, .ref g9, .ref g10, .ref g11, .ref g12, .ref g13, .ref g14, .ref g15, .ref g16, .ref g17, .int p1]), (h2, oC 3 [.ref g18, .int p2])]) (va_A [(h0, oC 12 [.ref h1, .ref g0, .ref g1, .ref g2, .ref g3, .ref g4, .ref g5, .ref g6, .ref g7, .long p0]), (h1, oC 2 [.ref h2, .ref g8, .ref g9, .ref g10, .ref g11, .ref g12, .ref g13, .ref g14, .ref g15, .ref g16, .ref g17, .int p1]), (h2, oC 3 [.ref g18, .int p2])] sz)) (XW D (fun (E : String) (_ : UU) => E = "java/lang/IndexOutOfBoundsException") (fun (u : UU) => [(h0, oC 12 [.ref h1, .ref g0, .ref g1, .ref g2, .ref g3, .ref g4, .ref g5, .ref g6, .ref g7, .long p0]), (h1, oC 2 [.ref h2, .ref g8, .ref g9, .ref g10, .ref g11, .ref g12, .ref g13, .ref g14, .ref g15, .ref g16, .ref g17, .int p1]), (h2, oC 3 [.ref g18, .int p2])]) (va_A [(h0, oC 12 [.ref h1, .ref g0, .ref g1, .ref g2, .ref g3, .ref g4, .ref g5, .ref g6, .ref g7, .long p0]), (h1, oC 2 [.ref h2, .ref g8, .ref g9, .ref g10, .ref g11, .ref g12, .ref g13, .ref g14, .ref g15, .ref g16, .ref g17, .int p1]), (h2, oC 3 [.ref g18, .int p2])] sz)) 1 6 (va_A [(h0, oC 12 [.ref h1, .ref g0, .ref g1, .ref g2, .ref g3, .ref g4, .ref g5, .ref g6, .ref g7, .long p0]), (h1, oC 2 [.ref h2, .ref g8, .ref g9, .ref g10, .ref g11, .ref g12, .ref g13, .ref g14, .ref g15, .ref g16, .ref g17, .int p1]), (h2, oC 3 [.ref g18, .int p2])] sz) :=
  xmet_of (by decide +kernel) (Nat.le_of_ble_eq_true rfl) (fun p e s m args below meth c B EB hout hsz => by
    have B : VB p s m args meth c D Y (va_A [(h0, oC 12 [.ref h1, .ref g0, .ref g1, .ref g2, .ref g3, .ref g4, .ref g5, .ref g6, .ref g7, .long p0]), (h1, oC 2 [.ref h2, .ref g8, .ref g9, .ref g10, .ref g11, .ref g12, .ref g13, .ref g14, .ref g15, .ref g16, .ref g17, .int p1]), (h2, oC 3 [.ref g18, .int p2])] sz) cX11_needMode 2 RX11 none := B
    refine V_aload_n 0 B dX11_needMode_0 0 rfl ?_
    refine V_get 1 B gf_RX11_10 0 rfl rfl dX11_needMode_1 ?_
    refine V_iload_n 4 B dX11_needMode_4 1 rfl ?_
    refine V_gvi 5 B envX EB (st := []) (As := [.int p3]) (fun sz => sX0_hasMode_1 l D Y h1 h2 g8 g9 g10 g11 g12 g13 g14 g15 g16 g17 g18 p1 p2 p3 sz) glV_RX11_395 ⟨rfl, rfl⟩ ⟨(Nat.le_of_ble_eq_true rfl), (Nat.le_of_ble_eq_true rfl)⟩ ⟨(Nat.le_of_ble_eq_true rfl), (Nat.le_of_ble_eq_true rfl)⟩ [1, 0] rfl 2 0 rfl rfl rfl rfl (Nat.le_of_ble_eq_true rfl) rfl (fun _ _ _ => rfl) dX11_needMode_5 (fun j0 u1 w2 => ?_)
    refine V_ws [(h0, oC 12 [.ref h1, .ref g0, .ref g1, .ref g2, .ref g3, .ref g4, .ref g5, .ref g6, .ref g7, .long p0]), (h1, oC 2 [.ref h2, .ref g8, .ref g9, .ref g10, .ref g11, .ref g12, .ref g13, .ref g14, .ref g15, .ref g16, .ref g17, .int p1]), (h2, oC 3 [.ref g18, .int p2])] rfl ?_
    rcases w2 with rfl | rfl
    ·
      refine V_if_ne_f 8 B 22 dX11_needMode_8 (by decide) (by decide +kernel) ?_
      exact V_throwSW 11 B EB hl9 gt_RX11_225_398_229 hout dX11_needMode_11 dX11_needMode_14 dX11_needMode_15 dX11_needMode_18 dX11_needMode_21 (Nat.le_of_ble_eq_true rfl) (Nat.le_of_ble_eq_true rfl) (Nat.le_of_ble_eq_true rfl) (Nat.le_of_ble_eq_true rfl) (Nat.le_of_ble_eq_true rfl) (Nat.le_of_ble_eq_true rfl) (mkU [] [] [] [] []) rfl rfl
    ·
      refine V_if_ne_t 8 B 22 dX11_needMode_8 (by decide) (by decide +kernel) ?_
      refine V_xret ?_
      refine V_widen (k := 1) (n := 6) (Nat.le_of_ble_eq_true rfl) (Nat.le_of_ble_eq_true rfl) ?_
      exact V_vret 22 B dX11_needMode_22 (mkU [] [] [] [] []) trivial rfl)
theorem glV_RX11_180 : GLV RX11 180 yX11_needMode RX11 cX11_needMode 2 none 1 := ⟨⟨(mT5 156 rfl rfl), (mT5 158 rfl rfl), (mTs 21 rfl rfl), (mT1 1 rfl rfl), (mT5 159 rfl rfl)⟩, by decide +kernel⟩
theorem dX11_addMode_5 : decode cX11_addMode 5 = .ok (.aload_n 0, 1) := by decide +kernel
theorem dX11_addMode_6 : decode cX11_addMode 6 = .ok (.getfield 10, 3) := by decide +kernel
theorem dX11_addMode_9 : decode cX11_addMode 9 = .ok (.getfield 107, 3) := by decide +kernel
theorem dX11_addMode_12 : decode cX11_addMode 12 = .ok (.iload_n 1, 1) := by decide +kernel
theorem dX11_addMode_13 : decode cX11_addMode 13 = .ok (.invokevirtual 183, 3) := by decide +kernel
theorem glV_RX11_183 : GLV RX11 183 yX1_push RX1 cX1_push 2 (some .boolean) 1 := ⟨⟨(mT5 162 rfl rfl), (mT1 156 rfl rfl), (mT1 157 rfl rfl), (mT1 3 rfl rfl), (mT1 158 rfl rfl)⟩, by decide +kernel⟩
theorem dX11_addMode_16 : decode cX11_addMode 16 = .ok (.ifCond .eq 18, 3) := by decide +kernel
theorem dX11_addMode_34 : decode cX11_addMode 34 = .ok (.bipush (-2), 2) := by decide +kernel
theorem dX11_addMode_36 : decode cX11_addMode 36 = .ok (.ireturn, 1) := by decide +kernel
theorem dX11_addMode_19 : decode cX11_addMode 19 = .ok (.aload_n 0, 1) := by decide +kernel
theorem dX11_addMode_20 : decode cX11_addMode 20 = .ok (.getfield 10, 3) := by decide +kernel
theorem dX11_addMode_23 : decode cX11_addMode 23 = .ok (.getfield 107, 3) := by decide +kernel
theorem dX11_addMode_26 : decode cX11_addMode 26 = .ok (.invokevirtual 95, 3) := by decide +kernel
theorem dX11_addMode_29 : decode cX11_addMode 29 = .ok (.iconst 1, 1) := by decide +kernel
theorem dX11_addMode_30 : decode cX11_addMode 30 = .ok (.isub, 1) := by decide +kernel
theorem dX11_addMode_31 : decode cX11_addMode 31 = .ok (.goto 5, 3) := by decide +kernel
set_option maxRecDepth 100000 in
set_option maxHeartbeats 4000000 in
theorem sX11_addMode_1 (l : Launch) (hl9 : l.stackTraces = false) (D : va_G) (Y : Nat → ClassId) (h0 : Nat) (h1 : Nat) (h2 : Nat) (h3 : Nat) (g0 : Nat) (g1 : Nat) (g2 : Nat) (g3 : Nat) (g4 : Nat) (g5 : Nat) (g6 : Nat) (g7 : Nat) (g8 : Nat) (g9 : Nat) (g10 : Nat) (g11 : Nat) (g12 : Nat) (g13 : Nat) (g14 : Nat) (g15 : Nat) (g16 : Nat) (g17 : Nat) (p0 : Int64) (p1 : Int32) (p2 : Int32) (f0 : Nat → Int32) (p3 : Int32) (sz : Nat) : vx_Met l yX11_addMode (WSm yX11_addMode cX11_addMode 2 (some .int)) (mkR 7 1 6 103) (PreX D Y [.ref h0, .int p3] [(h0, oC 12 [.ref h1, .ref g0, .ref g1, .ref g2, .ref g3, .ref g4, .ref g5, .ref g6, .ref g7, .long p0]), (h1, oC 2 [.ref h2, .ref g8, .ref g9, .ref g10, .ref g11, .ref g12, .ref g13, .ref g14, .ref g15, .ref g16, .ref g17, .int p1]), (h2, oC 3 [.ref h3, .int p2]), (h3, aI Y 6 f0)] sz) (QI D (fun (_ : Int32) (_ : UU) => True) (fun (u : UU) => [(h0, oC 12 [.ref h1, .ref g0, .ref g1, .ref g2, .ref g3, .ref g4, .ref g5, .ref g6, .ref g7, .long p0]), (h1, oC 2 [.ref h2, .ref g8, .ref g9, .ref g10, .ref g11, .ref g12, .ref g13, .ref g14, .ref g15, .ref g16, .ref g17, .int p1]), (h2, oC 3 [.ref h3, .int (u.1 0)]), (h3, aI Y 6 (u.2.2.1 0))]) (va_A [(h0, oC 12 [.ref h1, .ref g0, .ref g1, .ref g2, .ref g3, .ref g4, .ref g5, .ref g6, .ref g7, .long p0]), (h1, oC 2 [.ref h2, .ref g8, .ref g9, .ref g10, .ref g11, .ref g12, .ref g13, .ref g14, .ref g15, .ref g16, .ref g17, .int p1]), (h2, oC 3 [.ref h3, .int p2]), (h3, aI Y 6 f0)] sz)) (XW D (fun (E : String) (_ : UU) => E = "java/lang/IndexOutOfBoundsException") (fun (u : UU) => [(h0, oC 12 [.ref h1, .ref g0, .ref g1, .ref g2, .ref g3, .ref g4, .ref g5, .ref g6, .ref g7, .long p0]), (h1, oC 2 [.ref h2, .ref g8, .ref g9, .ref g10, .ref g11, .ref g12, .ref g13, .ref g14, .ref g15, .ref g16, .ref g17, .int p1]), (h2, oC 3 [.ref h3, .int (u.1 0)]), (h3, aI Y 6 (u.2.2.1 0))]) (va_A [(h0, oC 12 [.ref h1, .ref g0, .ref g1, .ref g2, .ref g3, .ref g4, .ref g5, .ref g6, .ref g7, .long p0]), (h1, oC 2 [.ref h2, .ref g8, .ref g9, .ref g10, .ref g11, .ref g12, .ref g13, .ref g14, .ref g15, .ref g16, .ref g17, .int p1]), (h2, oC 3 [.ref h3, .int p2]), (h3, aI Y 6 f0)] sz)) 1 6 (va_A [(h0, oC 12 [.ref h1, .ref g0, .ref g1, .ref g2, .ref g3, .ref g4, .ref g5, .ref g6, .ref g7, .long p0]), (h1, oC 2 [.ref h2, .ref g8, .ref g9, .ref g10, .ref g11, .ref g12, .ref g13, .ref g14, .ref g15, .ref g16, .ref g17, .int p1]), (h2, oC 3 [.ref h3, .int p2]), (h3, aI Y 6 f0)] sz) :=
  xmet_of (by decide +kernel) (Nat.le_of_ble_eq_true rfl) (fun p e s m args below meth c B EB hout hsz => by
    have B : VB p s m args meth c D Y (va_A [(h0, oC 12 [.ref h1, .ref g0, .ref g1, .ref g2, .ref g3, .ref g4, .ref g5, .ref g6, .ref g7, .long p0]), (h1, oC 2 [.ref h2, .ref g8, .ref g9, .ref g10, .ref g11, .ref g12, .ref g13, .ref g14, .ref g15, .ref g16, .ref g17, .int p1]), (h2, oC 3 [.ref h3, .int p2]), (h3, aI Y 6 f0)] sz) cX11_addMode 2 RX11 (some .int) := B
    refine V_aload_n 0 B dX11_addMode_0 0 rfl ?_
    refine V_iload_n 1 B dX11_addMode_1 1 rfl ?_
    refine V_xvv 2 B EB (st := []) (As := [.int p3]) (fun sz => sX11_needMode_1 l hl9 D Y h0 h1 h2 g0 g1 g2 g3 g4 g5 g6 g7 g8 g9 g10 g11 g12 g13 g14 g15 g16 g17 h3 p0 p1 p2 p3 sz) glV_RX11_180 ⟨rfl, rfl⟩ ⟨(Nat.le_of_ble_eq_true rfl), (Nat.le_of_ble_eq_true rfl)⟩ ⟨(Nat.le_of_ble_eq_true rfl), (Nat.le_of_ble_eq_true rfl)⟩ [0, 0, 0] rfl 12 0 rfl rfl rfl rfl (Nat.le_of_ble_eq_true rfl) rfl (fun _ _ => rfl) (fun _ _ _ => rfl) dX11_addMode_2 (fun E u1 w2 => ?_) (fun u1 w2 => ?_)
    ·
      obtain rfl := w2
      exact VX_out 2 B hout (mkU [p2] [] [f0] [] []) rfl rfl (Nat.le_of_ble_eq_true rfl) (Nat.le_of_ble_eq_true rfl)
    ·
      refine V_ws [(h0, oC 12 [.ref h1, .ref g0, .ref g1, .ref g2, .ref g3, .ref g4, .ref g5, .ref g6, .ref g7, .long p0]), (h1, oC 2 [.ref h2, .ref g8, .ref g9, .ref g10, .ref g11, .ref g12, .ref g13, .ref g14, .ref g15, .ref g16, .ref g17, .int p1]), (h2, oC 3 [.ref h3, .int p2]), (h3, aI Y 6 f0)] rfl ?_
      refine V_aload_n 5 B dX11_addMode_5 0 rfl ?_
      refine V_get 6 B gf_RX11_10 0 rfl rfl dX11_addMode_6 ?_
      refine V_get 9 B gf_RX11_107 1 rfl rfl dX11_addMode_9 ?_
      refine V_iload_n 12 B dX11_addMode_12 1 rfl ?_
      refine V_gvi 13 B envX EB (st := []) (As := [.int p3]) (fun sz => sX1_push_1 l D Y h2 h3 p2 f0 p3 sz) glV_RX11_183 ⟨rfl, rfl⟩ ⟨(Nat.le_of_ble_eq_true rfl), (Nat.le_of_ble_eq_true rfl)⟩ ⟨(Nat.le_of_ble_eq_true rfl), (Nat.le_of_ble_eq_true rfl)⟩ [2, 0] rfl 3 0 rfl rfl rfl rfl (Nat.le_of_ble_eq_true rfl) rfl (fun _ _ _ => rfl) dX11_addMode_13 (fun j3 u4 w5 => ?_)
      refine V_ws [(h0, oC 12 [.ref h1, .ref g0, .ref g1, .ref g2, .ref g3, .ref g4, .ref g5, .ref g6, .ref g7, .long p0]), (h1, oC 2 [.ref h2, .ref g8, .ref g9, .ref g10, .ref g11, .ref g12, .ref g13, .ref g14, .ref g15, .ref g16, .ref g17, .int p1]), (h2, oC 3 [.ref h3, .int (u4.1 0)]), (h3, aI Y 6 (u4.2.2.1 0))] rfl ?_
      rcases w5 with rfl | rfl
      ·
        refine V_if_eq_t 16 B 34 dX11_addMode_16 (by decide) (by decide +kernel) ?_
        refine V_bipush 34 B (v := (-2)) dX11_addMode_34 (by decide +kernel) ?_
        refine V_xret ?_
        refine V_widen (k := 1) (n := 6) (Nat.le_of_ble_eq_true rfl) (Nat.le_of_ble_eq_true rfl) ?_
        exact V_iret 36 B dX11_addMode_36 (mkU [(u4.1 0)] [] [(u4.2.2.1 0)] [] []) trivial rfl
      ·
        refine V_if_eq_f 16 B 34 dX11_addMode_16 (by decide) (by decide +kernel) ?_
        refine V_aload_n 19 B dX11_addMode_19 0 rfl ?_
        refine V_get 20 B gf_RX11_10 0 rfl rfl dX11_addMode_20 ?_
        refine V_get 23 B gf_RX11_107 1 rfl rfl dX11_addMode_23 ?_
        refine V_gvi 26 B envX EB (st := []) (As := []) (fun sz => sX1_size_1 l D Y h2 h3 (u4.1 0) sz) glV_RX11_95 ⟨rfl, rfl⟩ ⟨(Nat.le_of_ble_eq_true rfl), (Nat.le_of_ble_eq_true rfl)⟩ ⟨(Nat.le_of_ble_eq_true rfl), (Nat.le_of_ble_eq_true rfl)⟩ [2] rfl 3 0 rfl rfl rfl rfl (Nat.le_of_ble_eq_true rfl) rfl (fun _ _ _ => rfl) dX11_addMode_26 (fun j6 u7 w8 => ?_)
        refine V_ws [(h0, oC 12 [.ref h1, .ref g0, .ref g1, .ref g2, .ref g3, .ref g4, .ref g5, .ref g6, .ref g7, .long p0]), (h1, oC 2 [.ref h2, .ref g8, .ref g9, .ref g10, .ref g11, .ref g12, .ref g13, .ref g14, .ref g15, .ref g16, .ref g17, .int p1]), (h2, oC 3 [.ref h3, .int (u4.1 0)]), (h3, aI Y 6 (u4.2.2.1 0))] rfl ?_
        refine V_iconst 29 B (v := 1) dX11_addMode_29 (by decide +kernel) ?_
        refine V_isub 30 B dX11_addMode_30 rfl ?_
        refine V_nmi (fun j9 _ => ?_)
        refine V_goto 31 B 36 dX11_addMode_31 (by decide) ?_
        refine V_xret ?_
        refine V_widen (k := 1) (n := 6) (Nat.le_of_ble_eq_true rfl) (Nat.le_of_ble_eq_true rfl) ?_
        exact V_iret 36 B dX11_addMode_36 (mkU [(u4.1 0)] [] [(u4.2.2.1 0)] [] []) trivial rfl)
theorem dX11_parentOf_0 : decode cX11_parentOf 0 = .ok (.aload_n 0, 1) := by decide +kernel
theorem dX11_parentOf_1 : decode cX11_parentOf 1 = .ok (.iload_n 1, 1) := by decide +kernel
theorem dX11_parentOf_2 : decode cX11_parentOf 2 = .ok (.invokevirtual 180, 3) := by decide +kernel
theorem dX11_parentOf_5 : decode cX11_parentOf 5 = .ok (.aload_n 0, 1) := by decide +kernel
theorem dX11_parentOf_6 : decode cX11_parentOf 6 = .ok (.getfield 10, 3) := by decide +kernel
theorem dX11_parentOf_9 : decode cX11_parentOf 9 = .ok (.getfield 107, 3) := by decide +kernel
theorem dX11_parentOf_12 : decode cX11_parentOf 12 = .ok (.iload_n 1, 1) := by decide +kernel
theorem dX11_parentOf_13 : decode cX11_parentOf 13 = .ok (.invokevirtual 187, 3) := by decide +kernel
set_option maxRecDepth 100000 in
set_option maxHeartbeats 4000000 in
theorem sX1_at_4 (l : Launch) (D : va_G) (Y : Nat → ClassId) (h0 : Nat) (h1 : Nat) (p0 : Int32) (f0 : Nat → Int32) (p1 : Int32) (sz : Nat) : Met l yX1_at (WSm yX1_at cX1_at 2 (some .int)) (mkR 0 0 0 0) (PreG EX D Y [.ref h0, .int p1] [(h0, oC 3 [.ref h1, .int p0]), (h1, aI Y 6 f0)] sz) (QI D (fun (_ : Int32) (_ : UU) => True) (fun (u : UU) => [(h0, oC 3 [.ref h1, .int p0]), (h1, aI Y 6 f0)]) (va_A [(h0, oC 3 [.ref h1, .int p0]), (h1, aI Y 6 f0)] sz)) 0 0 (va_A [(h0, oC 3 [.ref h1, .int p0]), (h1, aI Y 6 f0)] sz) :=
  gmet_of (by decide +kernel) (Nat.le_of_ble_eq_true rfl) (fun p e s m args below meth c B EB hsz => by
    have B : VB p s m args meth c D Y (va_A [(h0, oC 3 [.ref h1, .int p0]), (h1, aI Y 6 f0)] sz) cX1_at 2 RX1 (some .int) := B
    refine V_iload_n 0 B dX1_at_0 1 rfl ?_
    refine V_if_lt 1 B 30 dX1_at_1 (by decide) (fun k0 => ?_) (fun k0 => ?_)
    ·
      refine V_iconst 30 B (v := (-1)) dX1_at_30 (by decide +kernel) ?_
      exact V_iret 31 B dX1_at_31 (mkU [] [] [] [] []) trivial rfl
    ·
      refine V_iload_n 4 B dX1_at_4 1 rfl ?_
      refine V_aload_n 5 B dX1_at_5 0 rfl ?_
      refine V_get 6 B gf_RX1_21 0 rfl rfl dX1_at_6 ?_
      refine V_icmp_ge 9 B 30 dX1_at_9 (by decide) (fun k1 => ?_) (fun k1 => ?_)
      ·
        refine V_iconst 30 B (v := (-1)) dX1_at_30 (by decide +kernel) ?_
        exact V_iret 31 B dX1_at_31 (mkU [] [] [] [] []) trivial rfl
      ·
        refine V_iload_n 12 B dX1_at_12 1 rfl ?_
        refine V_aload_n 13 B dX1_at_13 0 rfl ?_
        refine V_get 14 B gf_RX1_15 0 rfl rfl dX1_at_14 ?_
        refine V_alenI 17 B (v := 6) 1 rfl (by decide +kernel) dX1_at_17 ?_
        refine V_icmp_ge 18 B 30 dX1_at_18 (by decide) (fun k2 => ?_) (fun k2 => ?_)
        ·
          refine V_iconst 30 B (v := (-1)) dX1_at_30 (by decide +kernel) ?_
          exact V_iret 31 B dX1_at_31 (mkU [] [] [] [] []) trivial rfl
        ·
          refine V_aload_n 21 B dX1_at_21 0 rfl ?_
          refine V_get 22 B gf_RX1_15 0 rfl rfl dX1_at_22 ?_
          refine V_iload_n 25 B dX1_at_25 1 rfl ?_
          refine V_iald 26 B 1 rfl (vpin_b (b_nlt k0 (n := 0) (by decide +kernel)) (b_nge k2 (n := 5) (by decide +kernel)) (by decide)) dX1_at_26 rfl ?_
          refine V_nmi (fun j3 _ => ?_)
          refine V_goto 27 B 31 dX1_at_27 (by decide) ?_
          exact V_iret 31 B dX1_at_31 (mkU [] [] [] [] []) trivial rfl)
theorem glV_RX11_187 : GLV RX11 187 yX1_at RX1 cX1_at 2 (some .int) 1 := ⟨⟨(mT4 21 rfl rfl), (mT3 134 rfl rfl), (mT3 135 rfl rfl), (mT1 3 rfl rfl), (mT3 136 rfl rfl)⟩, by decide +kernel⟩
theorem dX11_parentOf_16 : decode cX11_parentOf 16 = .ok (.ireturn, 1) := by decide +kernel
set_option maxRecDepth 100000 in
set_option maxHeartbeats 4000000 in
theorem sX11_parentOf_1 (l : Launch) (hl9 : l.stackTraces = false) (D : va_G) (Y : Nat → ClassId) (h0 : Nat) (h1 : Nat) (h2 : Nat) (h3 : Nat) (g0 : Nat) (g1 : Nat) (g2 : Nat) (g3 : Nat) (g4 : Nat) (g5 : Nat) (g6 : Nat) (g7 : Nat) (g8 : Nat) (g9 : Nat) (g10 : Nat) (g11 : Nat) (g12 : Nat) (g13 : Nat) (g14 : Nat) (g15 : Nat) (g16 : Nat) (g17 : Nat) (p0 : Int64) (p1 : Int32) (p2 : Int32) (f0 : Nat → Int32) (p3 : Int32) (sz : Nat) : vx_Met l yX11_parentOf (WSm yX11_parentOf cX11_parentOf 2 (some .int)) (mkR 7 1 6 103) (PreX D Y [.ref h0, .int p3] [(h0, oC 12 [.ref h1, .ref g0, .ref g1, .ref g2, .ref g3, .ref g4, .ref g5, .ref g6, .ref g7, .long p0]), (h1, oC 2 [.ref h2, .ref g8, .ref g9, .ref g10, .ref g11, .ref g12, .ref g13, .ref g14, .ref g15, .ref g16, .ref g17, .int p1]), (h2, oC 3 [.ref h3, .int p2]), (h3, aI Y 6 f0)] sz) (QI D (fun (_ : Int32) (_ : UU) => True) (fun (u : UU) => [(h0, oC 12 [.ref h1, .ref g0, .ref g1, .ref g2, .ref g3, .ref g4, .ref g5, .ref g6, .ref g7, .long p0]), (h1, oC 2 [.ref h2, .ref g8, .ref g9, .ref g10, .ref g11, .ref g12, .ref g13, .ref g14, .ref g15, .ref g16, .ref g17, .int p1]), (h2, oC 3 [.ref h3, .int p2]), (h3, aI Y 6 f0)]) (va_A [(h0, oC 12 [.ref h1, .ref g0, .ref g1, .ref g2, .ref g3, .ref g4, .ref g5, .ref g6, .ref g7, .long p0]), (h1, oC 2 [.ref h2, .ref g8, .ref g9, .ref g10, .ref g11, .ref g12, .ref g13, .ref g14, .ref g15, .ref g16, .ref g17, .int p1]), (h2, oC 3 [.ref h3, .int p2]), (h3, aI Y 6 f0)] sz)) (XW D (fun (E : String) (_ : UU) => E = "java/lang/IndexOutOfBoundsException") (fun (u : UU) => [(h0, oC 12 [.ref h1, .ref g0, .ref g1, .ref g2, .ref g3, .ref g4, .ref g5, .ref g6, .ref g7, .long p0]), (h1, oC 2 [.ref h2, .ref g8, .ref g9, .ref g10, .ref g11, .ref g12, .ref g13, .ref g14, .ref g15, .ref g16, .ref g17, .int p1]), (h2, oC 3 [.ref h3, .int p2]), (h3, aI Y 6 f0)]) (va_A [(h0, oC 12 [.ref h1, .ref g0, .ref g1, .ref g2, .ref g3, .ref g4, .ref g5, .ref g6, .ref g7, .long p0]), (h1, oC 2 [.ref h2, .ref g8, .ref g9, .ref g10, .ref g11, .ref g12, .ref g13, .ref g14, .ref g15, .ref g16, .ref g17, .int p1]), (h2, oC 3 [.ref h3, .int p2]), (h3, aI Y 6 f0)] sz)) 1 6 (va_A [(h0, oC 12 [.ref h1, .ref g0, .ref g1, .ref g2, .ref g3, .ref g4, .ref g5, .ref g6, .ref g7, .long p0]), (h1, oC 2 [.ref h2, .ref g8, .ref g9, .ref g10, .ref g11, .ref g12, .ref g13, .ref g14, .ref g15, .ref g16, .ref g17, .int p1]), (h2, oC 3 [.ref h3, .int p2]), (h3, aI Y 6 f0)] sz) :=
  xmet_of (by decide +kernel) (Nat.le_of_ble_eq_true rfl) (fun p e s m args below meth c B EB hout hsz => by
    have B : VB p s m args meth c D Y (va_A [(h0, oC 12 [.ref h1, .ref g0, .ref g1, .ref g2, .ref g3, .ref g4, .ref g5, .ref g6, .ref g7, .long p0]), (h1, oC 2 [.ref h2, .ref g8, .ref g9, .ref g10, .ref g11, .ref g12, .ref g13, .ref g14, .ref g15, .ref g16, .ref g17, .int p1]), (h2, oC 3 [.ref h3, .int p2]), (h3, aI Y 6 f0)] sz) cX11_parentOf 2 RX11 (some .int) := B
    refine V_aload_n 0 B dX11_parentOf_0 0 rfl ?_
    refine V_iload_n 1 B dX11_parentOf_1 1 rfl ?_
    refine V_xvv 2 B EB (st := []) (As := [.int p3]) (fun sz => sX11_needMode_1 l hl9 D Y h0 h1 h2 g0 g1 g2 g3 g4 g5 g6 g7 g8 g9 g10 g11 g12 g13 g14 g15 g16 g17 h3 p0 p1 p2 p3 sz) glV_RX11_180 ⟨rfl, rfl⟩ ⟨(Nat.le_of_ble_eq_true rfl), (Nat.le_of_ble_eq_true rfl)⟩ ⟨(Nat.le_of_ble_eq_true rfl), (Nat.le_of_ble_eq_true rfl)⟩ [0, 0, 0] rfl 12 0 rfl rfl rfl rfl (Nat.le_of_ble_eq_true rfl) rfl (fun _ _ => rfl) (fun _ _ _ => rfl) dX11_parentOf_2 (fun E u1 w2 => ?_) (fun u1 w2 => ?_)
    ·
      obtain rfl := w2
      exact VX_out 2 B hout (mkU [] [] [] [] []) rfl rfl (Nat.le_of_ble_eq_true rfl) (Nat.le_of_ble_eq_true rfl)
    ·
      refine V_ws [(h0, oC 12 [.ref h1, .ref g0, .ref g1, .ref g2, .ref g3, .ref g4, .ref g5, .ref g6, .ref g7, .long p0]), (h1, oC 2 [.ref h2, .ref g8, .ref g9, .ref g10, .ref g11, .ref g12, .ref g13, .ref g14, .ref g15, .ref g16, .ref g17, .int p1]), (h2, oC 3 [.ref h3, .int p2]), (h3, aI Y 6 f0)] rfl ?_
      refine V_aload_n 5 B dX11_parentOf_5 0 rfl ?_
      refine V_get 6 B gf_RX11_10 0 rfl rfl dX11_parentOf_6 ?_
      refine V_get 9 B gf_RX11_107 1 rfl rfl dX11_parentOf_9 ?_
      refine V_iload_n 12 B dX11_parentOf_12 1 rfl ?_
      refine V_gvi 13 B envX EB (st := []) (As := [.int p3]) (fun sz => sX1_at_4 l D Y h2 h3 p2 f0 p3 sz) glV_RX11_187 ⟨rfl, rfl⟩ ⟨(Nat.le_of_ble_eq_true rfl), (Nat.le_of_ble_eq_true rfl)⟩ ⟨(Nat.le_of_ble_eq_true rfl), (Nat.le_of_ble_eq_true rfl)⟩ [2, 0] rfl 3 0 rfl rfl rfl rfl (Nat.le_of_ble_eq_true rfl) rfl (fun _ _ _ => rfl) dX11_parentOf_13 (fun j3 u4 w5 => ?_)
      refine V_ws [(h0, oC 12 [.ref h1, .ref g0, .ref g1, .ref g2, .ref g3, .ref g4, .ref g5, .ref g6, .ref g7, .long p0]), (h1, oC 2 [.ref h2, .ref g8, .ref g9, .ref g10, .ref g11, .ref g12, .ref g13, .ref g14, .ref g15, .ref g16, .ref g17, .int p1]), (h2, oC 3 [.ref h3, .int p2]), (h3, aI Y 6 f0)] rfl ?_
      refine V_xret ?_
      refine V_widen (k := 1) (n := 6) (Nat.le_of_ble_eq_true rfl) (Nat.le_of_ble_eq_true rfl) ?_
      exact V_iret 16 B dX11_parentOf_16 (mkU [] [] [] [] []) trivial rfl)
theorem dX11_addCommand_0 : decode cX11_addCommand 0 = .ok (.iload_n 1, 1) := by decide +kernel
theorem dX11_addCommand_1 : decode cX11_addCommand 1 = .ok (.ifCond .lt 8, 3) := by decide +kernel
theorem dX11_addCommand_9 : decode cX11_addCommand 9 = .ok (.new 190, 3) := by decide +kernel
theorem gt_RX11_190_192_194 : GT RX11 190 192 194 "java/lang/IllegalArgumentException" "no such kind" ["java/lang/RuntimeException", "java/lang/Exception"] := ⟨rfl, (mT5 31 rfl rfl), (mT1 22 rfl rfl), List.mem_of_getElem? (i := 0) rfl, by decide +kernel, by decide +kernel, List.mem_of_getElem? (i := 0) rfl, gta_194⟩
theorem dX11_addCommand_12 : decode cX11_addCommand 12 = .ok (.dup, 1) := by decide +kernel
theorem dX11_addCommand_13 : decode cX11_addCommand 13 = .ok (.ldc 192, 2) := by decide +kernel
theorem dX11_addCommand_15 : decode cX11_addCommand 15 = .ok (.invokespecial 194, 3) := by decide +kernel
theorem dX11_addCommand_18 : decode cX11_addCommand 18 = .ok (.athrow, 1) := by decide +kernel
theorem dX11_addCommand_4 : decode cX11_addCommand 4 = .ok (.iload_n 1, 1) := by decide +kernel
theorem dX11_addCommand_5 : decode cX11_addCommand 5 = .ok (.iconst 3, 1) := by decide +kernel
theorem dX11_addCommand_6 : decode cX11_addCommand 6 = .ok (.if_icmp .lt 13, 3) := by decide +kernel
theorem dX11_addCommand_19 : decode cX11_addCommand 19 = .ok (.iload_n 1, 1) := by decide +kernel
theorem dX11_addCommand_20 : decode cX11_addCommand 20 = .ok (.iconst 1, 1) := by decide +kernel
theorem dX11_addCommand_21 : decode cX11_addCommand 21 = .ok (.if_icmp .ne 8, 3) := by decide +kernel
theorem dX11_addCommand_29 : decode cX11_addCommand 29 = .ok (.aload_n 0, 1) := by decide +kernel
theorem dX11_addCommand_30 : decode cX11_addCommand 30 = .ok (.getfield 10, 3) := by decide +kernel
theorem dX11_addCommand_33 : decode cX11_addCommand 33 = .ok (.getfield 119, 3) := by decide +kernel
theorem dX11_addCommand_36 : decode cX11_addCommand 36 = .ok (.invokevirtual 197, 3) := by decide +kernel
theorem glV_RX11_197 : GLV RX11 197 yX1_isFull RX1 cX1_isFull 1 (some .boolean) 0 := ⟨⟨(mT5 178 rfl rfl), (mT3 38 rfl rfl), (mT3 39 rfl rfl), (mT1 3 rfl rfl), (mT3 40 rfl rfl)⟩, by decide +kernel⟩
theorem dX11_addCommand_39 : decode cX11_addCommand 39 = .ok (.ifCond .eq 6, 3) := by decide +kernel
theorem dX11_addCommand_45 : decode cX11_addCommand 45 = .ok (.aload_n 0, 1) := by decide +kernel
theorem dX11_addCommand_46 : decode cX11_addCommand 46 = .ok (.getfield 10, 3) := by decide +kernel
theorem dX11_addCommand_49 : decode cX11_addCommand 49 = .ok (.iload_n 1, 1) := by decide +kernel
theorem dX11_addCommand_50 : decode cX11_addCommand 50 = .ok (.iload_n 2, 1) := by decide +kernel
theorem dX11_addCommand_51 : decode cX11_addCommand 51 = .ok (.invokevirtual 200, 3) := by decide +kernel
theorem glV_RX11_200 : GLV RX11 200 yX0_appendCommand RX0 cX0_appendCommand 3 none 2 := ⟨⟨(mT5 179 rfl rfl), (mT3 66 rfl rfl), (mT3 67 rfl rfl), (mT1 2 rfl rfl), (mT3 68 rfl rfl)⟩, by decide +kernel⟩
theorem dX11_addCommand_54 : decode cX11_addCommand 54 = .ok (.aload_n 0, 1) := by decide +kernel
theorem dX11_addCommand_55 : decode cX11_addCommand 55 = .ok (.getfield 10, 3) := by decide +kernel
theorem dX11_addCommand_58 : decode cX11_addCommand 58 = .ok (.getfield 119, 3) := by decide +kernel
theorem dX11_addCommand_61 : decode cX11_addCommand 61 = .ok (.invokevirtual 95, 3) := by decide +kernel
theorem dX11_addCommand_64 : decode cX11_addCommand 64 = .ok (.iconst 1, 1) := by decide +kernel
theorem dX11_addCommand_65 : decode cX11_addCommand 65 = .ok (.isub, 1) := by decide +kernel
theorem dX11_addCommand_66 : decode cX11_addCommand 66 = .ok (.ireturn, 1) := by decide +kernel
theorem dX11_addCommand_42 : decode cX11_addCommand 42 = .ok (.bipush (-2), 2) := by decide +kernel
theorem dX11_addCommand_44 : decode cX11_addCommand 44 = .ok (.ireturn, 1) := by decide +kernel
theorem dX11_addCommand_24 : decode cX11_addCommand 24 = .ok (.aload_n 0, 1) := by decide +kernel
theorem dX11_addCommand_25 : decode cX11_addCommand 25 = .ok (.iload_n 2, 1) := by decide +kernel
theorem dX11_addCommand_26 : decode cX11_addCommand 26 = .ok (.invokevirtual 180, 3) := by decide +kernel
set_option maxRecDepth 100000 in
set_option maxHeartbeats 4000000 in
theorem sX11_addCommand_1 (l : Launch) (hl9 : l.stackTraces = false) (D : va_G) (Y : Nat → ClassId) (h0 : Nat) (h1 : Nat) (h2 : Nat) (h3 : Nat) (h4 : Nat) (h5 : Nat) (h6 : Nat) (h7 : Nat) (h8 : Nat) (g0 : Nat) (g1 : Nat) (g2 : Nat) (g3 : Nat) (g4 : Nat) (g5 : Nat) (g6 : Nat) (g7 : Nat) (g8 : Nat) (g9 : Nat) (g10 : Nat) (g11 : Nat) (g12 : Nat) (g13 : Nat) (g14 : Nat) (g15 : Nat) (p0 : Int64) (p1 : Int32) (p2 : Int32) (p3 : Int32) (f0 : Nat → Int32) (p4 : Int32) (f1 : Nat → Int32) (p5 : Int32) (f2 : Nat → Int32) (p6 : Int32) (p7 : Int32) (sz : Nat) : vx_Met l yX11_addCommand (WSm yX11_addCommand cX11_addCommand 3 (some .int)) (mkR 7 1 6 103) (PreX D Y [.ref h0, .int p6, .int p7] [(h0, oC 12 [.ref h1, .ref g0, .ref g1, .ref g2, .ref g3, .ref g4, .ref g5, .ref g6, .ref g7, .long p0]), (h1, oC 2 [.ref h2, .ref h3, .ref h5, .ref h7, .ref g8, .ref g9, .ref g10, .ref g11, .ref g12, .ref g13, .ref g14, .int p1]), (h2, oC 3 [.ref g15, .int p2]), (h3, oC 3 [.ref h4, .int p3]), (h4, aI Y 40 f0), (h5, oC 3 [.ref h6, .int p4]), (h6, aI Y 40 f1), (h7, oC 3 [.ref h8, .int p5]), (h8, aI Y 40 f2)] sz) (QI D (fun (_ : Int32) (_ : UU) => True) (fun (u : UU) => [(h0, oC 12 [.ref h1, .ref g0, .ref g1, .ref g2, .ref g3, .ref g4, .ref g5, .ref g6, .ref g7, .long p0]), (h1, oC 2 [.ref h2, .ref h3, .ref h5, .ref h7, .ref g8, .ref g9, .ref g10, .ref g11, .ref g12, .ref g13, .ref g14, .int p1]), (h2, oC 3 [.ref g15, .int p2]), (h3, oC 3 [.ref h4, .int (u.1 0)]), (h4, aI Y 40 (u.2.2.1 0)), (h5, oC 3 [.ref h6, .int (u.1 1)]), (h6, aI Y 40 (u.2.2.1 1)), (h7, oC 3 [.ref h8, .int (u.1 2)]), (h8, aI Y 40 (u.2.2.1 2))]) (va_A [(h0, oC 12 [.ref h1, .ref g0, .ref g1, .ref g2, .ref g3, .ref g4, .ref g5, .ref g6, .ref g7, .long p0]), (h1, oC 2 [.ref h2, .ref h3, .ref h5, .ref h7, .ref g8, .ref g9, .ref g10, .ref g11, .ref g12, .ref g13, .ref g14, .int p1]), (h2, oC 3 [.ref g15, .int p2]), (h3, oC 3 [.ref h4, .int p3]), (h4, aI Y 40 f0), (h5, oC 3 [.ref h6, .int p4]), (h6, aI Y 40 f1), (h7, oC 3 [.ref h8, .int p5]), (h8, aI Y 40 f2)] sz)) (XW D (fun (E : String) (_ : UU) => E = "java/lang/IllegalArgumentException" ∨ E = "java/lang/IndexOutOfBoundsException") (fun (u : UU) => [(h0, oC 12 [.ref h1, .ref g0, .ref g1, .ref g2, .ref g3, .ref g4, .ref g5, .ref g6, .ref g7, .long p0]), (h1, oC 2 [.ref h2, .ref h3, .ref h5, .ref h7, .ref g8, .ref g9, .ref g10, .ref g11, .ref g12, .ref g13, .ref g14, .int p1]), (h2, oC 3 [.ref g15, .int p2]), (h3, oC 3 [.ref h4, .int (u.1 0)]), (h4, aI Y 40 (u.2.2.1 0)), (h5, oC 3 [.ref h6, .int (u.1 1)]), (h6, aI Y 40 (u.2.2.1 1)), (h7, oC 3 [.ref h8, .int (u.1 2)]), (h8, aI Y 40 (u.2.2.1 2))]) (va_A [(h0, oC 12 [.ref h1, .ref g0, .ref g1, .ref g2, .ref g3, .ref g4, .ref g5, .ref g6, .ref g7, .long p0]), (h1, oC 2 [.ref h2, .ref h3, .ref h5, .ref h7, .ref g8, .ref g9, .ref g10, .ref g11, .ref g12, .ref g13, .ref g14, .int p1]), (h2, oC 3 [.ref g15, .int p2]), (h3, oC 3 [.ref h4, .int p3]), (h4, aI Y 40 f0), (h5, oC 3 [.ref h6, .int p4]), (h6, aI Y 40 f1), (h7, oC 3 [.ref h8, .int p5]), (h8, aI Y 40 f2)] sz)) 1 6 (va_A [(h0, oC 12 [.ref h1, .ref g0, .ref g1, .ref g2, .ref g3, .ref g4, .ref g5, .ref g6, .ref g7, .long p0]), (h1, oC 2 [.ref h2, .ref h3, .ref h5, .ref h7, .ref g8, .ref g9, .ref g10, .ref g11, .ref g12, .ref g13, .ref g14, .int p1]), (h2, oC 3 [.ref g15, .int p2]), (h3, oC 3 [.ref h4, .int p3]), (h4, aI Y 40 f0), (h5, oC 3 [.ref h6, .int p4]), (h6, aI Y 40 f1), (h7, oC 3 [.ref h8, .int p5]), (h8, aI Y 40 f2)] sz) :=
  xmet_of (by decide +kernel) (Nat.le_of_ble_eq_true rfl) (fun p e s m args below meth c B EB hout hsz => by
    have B : VB p s m args meth c D Y (va_A [(h0, oC 12 [.ref h1, .ref g0, .ref g1, .ref g2, .ref g3, .ref g4, .ref g5, .ref g6, .ref g7, .long p0]), (h1, oC 2 [.ref h2, .ref h3, .ref h5, .ref h7, .ref g8, .ref g9, .ref g10, .ref g11, .ref g12, .ref g13, .ref g14, .int p1]), (h2, oC 3 [.ref g15, .int p2]), (h3, oC 3 [.ref h4, .int p3]), (h4, aI Y 40 f0), (h5, oC 3 [.ref h6, .int p4]), (h6, aI Y 40 f1), (h7, oC 3 [.ref h8, .int p5]), (h8, aI Y 40 f2)] sz) cX11_addCommand 3 RX11 (some .int) := B
    refine V_iload_n 0 B dX11_addCommand_0 1 rfl ?_
    refine V_if_lt 1 B 9 dX11_addCommand_1 (by decide) (fun k0 => ?_) (fun k0 => ?_)
    ·
      exact V_throwS 9 B EB hl9 gt_RX11_190_192_194 hout dX11_addCommand_9 dX11_addCommand_12 dX11_addCommand_13 dX11_addCommand_15 dX11_addCommand_18 (Nat.le_of_ble_eq_true rfl) (Nat.le_of_ble_eq_true rfl) (Nat.le_of_ble_eq_true rfl) (Nat.le_of_ble_eq_true rfl) (Nat.le_of_ble_eq_true rfl) (Nat.le_of_ble_eq_true rfl) (mkU [p3, p4, p5] [] [f0, f1, f2] [] []) (Or.inl rfl) rfl
    ·
      refine V_iload_n 4 B dX11_addCommand_4 1 rfl ?_
      refine V_iconst 5 B (v := 3) dX11_addCommand_5 (by decide +kernel) ?_
      refine V_icmp_lt 6 B 19 dX11_addCommand_6 (by decide) (fun k1 => ?_) (fun k1 => ?_)
      ·
        refine V_iload_n 19 B dX11_addCommand_19 1 rfl ?_
        refine V_iconst 20 B (v := 1) dX11_addCommand_20 (by decide +kernel) ?_
        refine V_icmp_ne 21 B 29 dX11_addCommand_21 (by decide) (fun k2 => ?_) (fun k2 => ?_)
        ·
          refine V_aload_n 29 B dX11_addCommand_29 0 rfl ?_
          refine V_get 30 B gf_RX11_10 0 rfl rfl dX11_addCommand_30 ?_
          refine V_get 33 B gf_RX11_119 1 rfl rfl dX11_addCommand_33 ?_
          refine V_gvi 36 B envX EB (st := []) (As := []) (fun sz => sX1_isFull_3 l D Y h3 h4 p3 f0 sz) glV_RX11_197 ⟨rfl, rfl⟩ ⟨(Nat.le_of_ble_eq_true rfl), (Nat.le_of_ble_eq_true rfl)⟩ ⟨(Nat.le_of_ble_eq_true rfl), (Nat.le_of_ble_eq_true rfl)⟩ [3, 0] rfl 3 0 rfl rfl rfl rfl (Nat.le_of_ble_eq_true rfl) rfl (fun _ _ _ => rfl) dX11_addCommand_36 (fun j3 u4 w5 => ?_)
          refine V_ws [(h0, oC 12 [.ref h1, .ref g0, .ref g1, .ref g2, .ref g3, .ref g4, .ref g5, .ref g6, .ref g7, .long p0]), (h1, oC 2 [.ref h2, .ref h3, .ref h5, .ref h7, .ref g8, .ref g9, .ref g10, .ref g11, .ref g12, .ref g13, .ref g14, .int p1]), (h2, oC 3 [.ref g15, .int p2]), (h3, oC 3 [.ref h4, .int p3]), (h4, aI Y 40 f0), (h5, oC 3 [.ref h6, .int p4]), (h6, aI Y 40 f1), (h7, oC 3 [.ref h8, .int p5]), (h8, aI Y 40 f2)] rfl ?_
          rcases w5 with rfl | rfl
          ·
            refine V_if_eq_t 39 B 45 dX11_addCommand_39 (by decide) (by decide +kernel) ?_
            refine V_aload_n 45 B dX11_addCommand_45 0 rfl ?_
            refine V_get 46 B gf_RX11_10 0 rfl rfl dX11_addCommand_46 ?_
            refine V_iload_n 49 B dX11_addCommand_49 1 rfl ?_
            refine V_iload_n 50 B dX11_addCommand_50 2 rfl ?_
            refine V_gvv 51 B envX EB (st := []) (As := [.int p6, .int p7]) (fun sz => sX0_appendCommand_1 l D Y h1 h3 h4 h5 h6 h7 h8 h2 g8 g9 g10 g11 g12 g13 g14 p1 p3 f0 p4 f1 p5 f2 p6 p7 sz) glV_RX11_200 ⟨rfl, rfl⟩ ⟨(Nat.le_of_ble_eq_true rfl), (Nat.le_of_ble_eq_true rfl)⟩ ⟨(Nat.le_of_ble_eq_true rfl), (Nat.le_of_ble_eq_true rfl)⟩ [1, 1, 0, 0, 0, 0, 0] rfl 2 0 rfl rfl rfl rfl (Nat.le_of_ble_eq_true rfl) rfl (fun _ _ => rfl) dX11_addCommand_51 (fun u7 w8 => ?_)
            refine V_ws [(h0, oC 12 [.ref h1, .ref g0, .ref g1, .ref g2, .ref g3, .ref g4, .ref g5, .ref g6, .ref g7, .long p0]), (h1, oC 2 [.ref h2, .ref h3, .ref h5, .ref h7, .ref g8, .ref g9, .ref g10, .ref g11, .ref g12, .ref g13, .ref g14, .int p1]), (h2, oC 3 [.ref g15, .int p2]), (h3, oC 3 [.ref h4, .int (u7.1 0)]), (h4, aI Y 40 (u7.2.2.1 0)), (h5, oC 3 [.ref h6, .int (u7.1 1)]), (h6, aI Y 40 (u7.2.2.1 1)), (h7, oC 3 [.ref h8, .int (u7.1 2)]), (h8, aI Y 40 (u7.2.2.1 2))] rfl ?_
            refine V_aload_n 54 B dX11_addCommand_54 0 rfl ?_
            refine V_get 55 B gf_RX11_10 0 rfl rfl dX11_addCommand_55 ?_
            refine V_get 58 B gf_RX11_119 1 rfl rfl dX11_addCommand_58 ?_
            refine V_gvi 61 B envX EB (st := []) (As := []) (fun sz => sX1_size_1 l D Y h3 h4 (u7.1 0) sz) glV_RX11_95 ⟨rfl, rfl⟩ ⟨(Nat.le_of_ble_eq_true rfl), (Nat.le_of_ble_eq_true rfl)⟩ ⟨(Nat.le_of_ble_eq_true rfl), (Nat.le_of_ble_eq_true rfl)⟩ [3] rfl 3 0 rfl rfl rfl rfl (Nat.le_of_ble_eq_true rfl) rfl (fun _ _ _ => rfl) dX11_addCommand_61 (fun j9 u10 w11 => ?_)
            refine V_ws [(h0, oC 12 [.ref h1, .ref g0, .ref g1, .ref g2, .ref g3, .ref g4, .ref g5, .ref g6, .ref g7, .long p0]), (h1, oC 2 [.ref h2, .ref h3, .ref h5, .ref h7, .ref g8, .ref g9, .ref g10, .ref g11, .ref g12, .ref g13, .ref g14, .int p1]), (h2, oC 3 [.ref g15, .int p2]), (h3, oC 3 [.ref h4, .int (u7.1 0)]), (h4, aI Y 40 (u7.2.2.1 0)), (h5, oC 3 [.ref h6, .int (u7.1 1)]), (h6, aI Y 40 (u7.2.2.1 1)), (h7, oC 3 [.ref h8, .int (u7.1 2)]), (h8, aI Y 40 (u7.2.2.1 2))] rfl ?_
            refine V_iconst 64 B (v := 1) dX11_addCommand_64 (by decide +kernel) ?_
            refine V_isub 65 B dX11_addCommand_65 rfl ?_
            refine V_nmi (fun j12 _ => ?_)
            refine V_xret ?_
            refine V_widen (k := 1) (n := 6) (Nat.le_of_ble_eq_true rfl) (Nat.le_of_ble_eq_true rfl) ?_
            exact V_iret 66 B dX11_addCommand_66 (mkU [(u7.1 0), (u7.1 1), (u7.1 2)] [] [(u7.2.2.1 0), (u7.2.2.1 1), (u7.2.2.1 2)] [] []) trivial rfl
          ·
            refine V_if_eq_f 39 B 45 dX11_addCommand_39 (by decide) (by decide +kernel) ?_
            refine V_bipush 42 B (v := (-2)) dX11_addCommand_42 (by decide +kernel) ?_
            refine V_xret ?_
            refine V_widen (k := 1) (n := 6) (Nat.le_of_ble_eq_true rfl) (Nat.le_of_ble_eq_true rfl) ?_
            exact V_iret 44 B dX11_addCommand_44 (mkU [p3, p4, p5] [] [f0, f1, f2] [] []) trivial rfl
        ·
          obtain rfl : p6 = 1 := k2
          refine V_aload_n 24 B dX11_addCommand_24 0 rfl ?_
          refine V_iload_n 25 B dX11_addCommand_25 2 rfl ?_
          refine V_xvv 26 B EB (st := []) (As := [.int p7]) (fun sz => sX11_needMode_1 l hl9 D Y h0 h1 h2 g0 g1 g2 g3 g4 g5 g6 g7 h3 h5 h7 g8 g9 g10 g11 g12 g13 g14 g15 p0 p1 p2 p7 sz) glV_RX11_180 ⟨rfl, rfl⟩ ⟨(Nat.le_of_ble_eq_true rfl), (Nat.le_of_ble_eq_true rfl)⟩ ⟨(Nat.le_of_ble_eq_true rfl), (Nat.le_of_ble_eq_true rfl)⟩ [0, 0, 0] rfl 12 0 rfl rfl rfl rfl (Nat.le_of_ble_eq_true rfl) rfl (fun _ _ => rfl) (fun _ _ _ => rfl) dX11_addCommand_26 (fun E u14 w15 => ?_) (fun u14 w15 => ?_)
          ·
            obtain rfl := w15
            exact VX_out 26 B hout (mkU [p3, p4, p5] [] [f0, f1, f2] [] []) (Or.inr rfl) rfl (Nat.le_of_ble_eq_true rfl) (Nat.le_of_ble_eq_true rfl)
          ·
            refine V_ws [(h0, oC 12 [.ref h1, .ref g0, .ref g1, .ref g2, .ref g3, .ref g4, .ref g5, .ref g6, .ref g7, .long p0]), (h1, oC 2 [.ref h2, .ref h3, .ref h5, .ref h7, .ref g8, .ref g9, .ref g10, .ref g11, .ref g12, .ref g13, .ref g14, .int p1]), (h2, oC 3 [.ref g15, .int p2]), (h3, oC 3 [.ref h4, .int p3]), (h4, aI Y 40 f0), (h5, oC 3 [.ref h6, .int p4]), (h6, aI Y 40 f1), (h7, oC 3 [.ref h8, .int p5]), (h8, aI Y 40 f2)] rfl ?_
            refine V_aload_n 29 B dX11_addCommand_29 0 rfl ?_
            refine V_get 30 B gf_RX11_10 0 rfl rfl dX11_addCommand_30 ?_
            refine V_get 33 B gf_RX11_119 1 rfl rfl dX11_addCommand_33 ?_
            refine V_gvi 36 B envX EB (st := []) (As := []) (fun sz => sX1_isFull_3 l D Y h3 h4 p3 f0 sz) glV_RX11_197 ⟨rfl, rfl⟩ ⟨(Nat.le_of_ble_eq_true rfl), (Nat.le_of_ble_eq_true rfl)⟩ ⟨(Nat.le_of_ble_eq_true rfl), (Nat.le_of_ble_eq_true rfl)⟩ [3, 0] rfl 3 0 rfl rfl rfl rfl (Nat.le_of_ble_eq_true rfl) rfl (fun _ _ _ => rfl) dX11_addCommand_36 (fun j16 u17 w18 => ?_)
            refine V_ws [(h0, oC 12 [.ref h1, .ref g0, .ref g1, .ref g2, .ref g3, .ref g4, .ref g5, .ref g6, .ref g7, .long p0]), (h1, oC 2 [.ref h2, .ref h3, .ref h5, .ref h7, .ref g8, .ref g9, .ref g10, .ref g11, .ref g12, .ref g13, .ref g14, .int p1]), (h2, oC 3 [.ref g15, .int p2]), (h3, oC 3 [.ref h4, .int p3]), (h4, aI Y 40 f0), (h5, oC 3 [.ref h6, .int p4]), (h6, aI Y 40 f1), (h7, oC 3 [.ref h8, .int p5]), (h8, aI Y 40 f2)] rfl ?_
            rcases w18 with rfl | rfl
            ·
              refine V_if_eq_t 39 B 45 dX11_addCommand_39 (by decide) (by decide +kernel) ?_
              refine V_aload_n 45 B dX11_addCommand_45 0 rfl ?_
              refine V_get 46 B gf_RX11_10 0 rfl rfl dX11_addCommand_46 ?_
              refine V_iload_n 49 B dX11_addCommand_49 1 rfl ?_
              refine V_iload_n 50 B dX11_addCommand_50 2 rfl ?_
              refine V_gvv 51 B envX EB (st := []) (As := [.int 1, .int p7]) (fun sz => sX0_appendCommand_1 l D Y h1 h3 h4 h5 h6 h7 h8 h2 g8 g9 g10 g11 g12 g13 g14 p1 p3 f0 p4 f1 p5 f2 1 p7 sz) glV_RX11_200 ⟨rfl, rfl⟩ ⟨(Nat.le_of_ble_eq_true rfl), (Nat.le_of_ble_eq_true rfl)⟩ ⟨(Nat.le_of_ble_eq_true rfl), (Nat.le_of_ble_eq_true rfl)⟩ [1, 1, 0, 0, 0, 0, 0] rfl 2 0 rfl rfl rfl rfl (Nat.le_of_ble_eq_true rfl) rfl (fun _ _ => rfl) dX11_addCommand_51 (fun u20 w21 => ?_)
              refine V_ws [(h0, oC 12 [.ref h1, .ref g0, .ref g1, .ref g2, .ref g3, .ref g4, .ref g5, .ref g6, .ref g7, .long p0]), (h1, oC 2 [.ref h2, .ref h3, .ref h5, .ref h7, .ref g8, .ref g9, .ref g10, .ref g11, .ref g12, .ref g13, .ref g14, .int p1]), (h2, oC 3 [.ref g15, .int p2]), (h3, oC 3 [.ref h4, .int (u20.1 0)]), (h4, aI Y 40 (u20.2.2.1 0)), (h5, oC 3 [.ref h6, .int (u20.1 1)]), (h6, aI Y 40 (u20.2.2.1 1)), (h7, oC 3 [.ref h8, .int (u20.1 2)]), (h8, aI Y 40 (u20.2.2.1 2))] rfl ?_
              refine V_aload_n 54 B dX11_addCommand_54 0 rfl ?_
              refine V_get 55 B gf_RX11_10 0 rfl rfl dX11_addCommand_55 ?_
              refine V_get 58 B gf_RX11_119 1 rfl rfl dX11_addCommand_58 ?_
              refine V_gvi 61 B envX EB (st := []) (As := []) (fun sz => sX1_size_1 l D Y h3 h4 (u20.1 0) sz) glV_RX11_95 ⟨rfl, rfl⟩ ⟨(Nat.le_of_ble_eq_true rfl), (Nat.le_of_ble_eq_true rfl)⟩ ⟨(Nat.le_of_ble_eq_true rfl), (Nat.le_of_ble_eq_true rfl)⟩ [3] rfl 3 0 rfl rfl rfl rfl (Nat.le_of_ble_eq_true rfl) rfl (fun _ _ _ => rfl) dX11_addCommand_61 (fun j22 u23 w24 => ?_)
              refine V_ws [(h0, oC 12 [.ref h1, .ref g0, .ref g1, .ref g2, .ref g3, .ref g4, .ref g5, .ref g6, .ref g7, .long p0]), (h1, oC 2 [.ref h2, .ref h3, .ref h5, .ref h7, .ref g8, .ref g9, .ref g10, .ref g11, .ref g12, .ref g13, .ref g14, .int p1]), (h2, oC 3 [.ref g15, .int p2]), (h3, oC 3 [.ref h4, .int (u20.1 0)]), (h4, aI Y 40 (u20.2.2.1 0)), (h5, oC 3 [.ref h6, .int (u20.1 1)]), (h6, aI Y 40 (u20.2.2.1 1)), (h7, oC 3 [.ref h8, .int (u20.1 2)]), (h8, aI Y 40 (u20.2.2.1 2))] rfl ?_
              refine V_iconst 64 B (v := 1) dX11_addCommand_64 (by decide +kernel) ?_
              refine V_isub 65 B dX11_addCommand_65 rfl ?_
              refine V_nmi (fun j25 _ => ?_)
              refine V_xret ?_
              refine V_widen (k := 1) (n := 6) (Nat.le_of_ble_eq_true rfl) (Nat.le_of_ble_eq_true rfl) ?_
              exact V_iret 66 B dX11_addCommand_66 (mkU [(u20.1 0), (u20.1 1), (u20.1 2)] [] [(u20.2.2.1 0), (u20.2.2.1 1), (u20.2.2.1 2)] [] []) trivial rfl
            ·
              refine V_if_eq_f 39 B 45 dX11_addCommand_39 (by decide) (by decide +kernel) ?_
              refine V_bipush 42 B (v := (-2)) dX11_addCommand_42 (by decide +kernel) ?_
              refine V_xret ?_
              refine V_widen (k := 1) (n := 6) (Nat.le_of_ble_eq_true rfl) (Nat.le_of_ble_eq_true rfl) ?_
              exact V_iret 44 B dX11_addCommand_44 (mkU [p3, p4, p5] [] [f0, f1, f2] [] []) trivial rfl
      ·
        exact V_throwS 9 B EB hl9 gt_RX11_190_192_194 hout dX11_addCommand_9 dX11_addCommand_12 dX11_addCommand_13 dX11_addCommand_15 dX11_addCommand_18 (Nat.le_of_ble_eq_true rfl) (Nat.le_of_ble_eq_true rfl) (Nat.le_of_ble_eq_true rfl) (Nat.le_of_ble_eq_true rfl) (Nat.le_of_ble_eq_true rfl) (Nat.le_of_ble_eq_true rfl) (mkU [p3, p4, p5] [] [f0, f1, f2] [] []) (Or.inl rfl) rfl)
theorem dX11_command_0 : decode cX11_command 0 = .ok (.aload_n 0, 1) := by decide +kernel
theorem dX11_command_1 : decode cX11_command 1 = .ok (.iload_n 1, 1) := by decide +kernel
theorem dX11_command_2 : decode cX11_command 2 = .ok (.invokevirtual 204, 3) := by decide +kernel
theorem dX11_needCommand_0 : decode cX11_needCommand 0 = .ok (.aload_n 0, 1) := by decide +kernel
theorem dX11_needCommand_1 : decode cX11_needCommand 1 = .ok (.getfield 10, 3) := by decide +kernel
theorem dX11_needCommand_4 : decode cX11_needCommand 4 = .ok (.iload_n 1, 1) := by decide +kernel
theorem dX11_needCommand_5 : decode cX11_needCommand 5 = .ok (.invokevirtual 400, 3) := by decide +kernel
theorem dX0_hasCommand_0 : decode cX0_hasCommand 0 = .ok (.iload_n 1, 1) := by decide +kernel
theorem dX0_hasCommand_1 : decode cX0_hasCommand 1 = .ok (.ifCond .lt 18, 3) := by decide +kernel
theorem dX0_hasCommand_19 : decode cX0_hasCommand 19 = .ok (.iconst 0, 1) := by decide +kernel
theorem dX0_hasCommand_20 : decode cX0_hasCommand 20 = .ok (.ireturn, 1) := by decide +kernel
theorem dX0_hasCommand_4 : decode cX0_hasCommand 4 = .ok (.iload_n 1, 1) := by decide +kernel
theorem dX0_hasCommand_5 : decode cX0_hasCommand 5 = .ok (.aload_n 0, 1) := by decide +kernel
theorem dX0_hasCommand_6 : decode cX0_hasCommand 6 = .ok (.getfield 20, 3) := by decide +kernel
theorem dX0_hasCommand_9 : decode cX0_hasCommand 9 = .ok (.invokevirtual 91, 3) := by decide +kernel
theorem dX0_hasCommand_12 : decode cX0_hasCommand 12 = .ok (.if_icmp .ge 7, 3) := by decide +kernel
theorem dX0_hasCommand_15 : decode cX0_hasCommand 15 = .ok (.iconst 1, 1) := by decide +kernel
theorem dX0_hasCommand_16 : decode cX0_hasCommand 16 = .ok (.goto 4, 3) := by decide +kernel
set_option maxRecDepth 100000 in
set_option maxHeartbeats 4000000 in
theorem sX0_hasCommand_1 (l : Launch) (D : va_G) (Y : Nat → ClassId) (h0 : Nat) (h1 : Nat) (g0 : Nat) (g1 : Nat) (g2 : Nat) (g3 : Nat) (g4 : Nat) (g5 : Nat) (g6 : Nat) (g7 : Nat) (g8 : Nat) (g9 : Nat) (g10 : Nat) (p0 : Int32) (p1 : Int32) (p2 : Int32) (sz : Nat) : Met l yX0_hasCommand (WSm yX0_hasCommand cX0_hasCommand 2 (some .boolean)) (mkR 1 0 0 20) (PreG EX D Y [.ref h0, .int p2] [(h0, oC 2 [.ref g0, .ref h1, .ref g1, .ref g2, .ref g3, .ref g4, .ref g5, .ref g6, .ref g7, .ref g8, .ref g9, .int p0]), (h1, oC 3 [.ref g10, .int p1])] sz) (QI D (fun (r : Int32) (_ : UU) => r = 0 ∨ r = 1) (fun (u : UU) => [(h0, oC 2 [.ref g0, .ref h1, .ref g1, .ref g2, .ref g3, .ref g4, .ref g5, .ref g6, .ref g7, .ref g8, .ref g9, .int p0]), (h1, oC 3 [.ref g10, .int p1])]) (va_A [(h0, oC 2 [.ref g0, .ref h1, .ref g1, .ref g2, .ref g3, .ref g4, .ref g5, .ref g6, .ref g7, .ref g8, .ref g9, .int p0]), (h1, oC 3 [.ref g10, .int p1])] sz)) 0 0 (va_A [(h0, oC 2 [.ref g0, .ref h1, .ref g1, .ref g2, .ref g3, .ref g4, .ref g5, .ref g6, .ref g7, .ref g8, .ref g9, .int p0]), (h1, oC 3 [.ref g10, .int p1])] sz) :=
  gmet_of (by decide +kernel) (Nat.le_of_ble_eq_true rfl) (fun p e s m args below meth c B EB hsz => by
    have B : VB p s m args meth c D Y (va_A [(h0, oC 2 [.ref g0, .ref h1, .ref g1, .ref g2, .ref g3, .ref g4, .ref g5, .ref g6, .ref g7, .ref g8, .ref g9, .int p0]), (h1, oC 3 [.ref g10, .int p1])] sz) cX0_hasCommand 2 RX0 (some .boolean) := B
    refine V_iload_n 0 B dX0_hasCommand_0 1 rfl ?_
    refine V_if_lt 1 B 19 dX0_hasCommand_1 (by decide) (fun k0 => ?_) (fun k0 => ?_)
    ·
      refine V_iconst 19 B (v := 0) dX0_hasCommand_19 (by decide +kernel) ?_
      exact V_zret 20 B rfl dX0_hasCommand_20 (mkU [] [] [] [] []) (Or.inl rfl) rfl
    ·
      refine V_iload_n 4 B dX0_hasCommand_4 1 rfl ?_
      refine V_aload_n 5 B dX0_hasCommand_5 0 rfl ?_
      refine V_get 6 B gf_RX0_20 0 rfl rfl dX0_hasCommand_6 ?_
      refine V_gvi 9 B envX EB (st := [.int p2]) (As := []) (fun sz => sX1_size_1 l D Y h1 g10 p1 sz) glV_RX0_91 ⟨rfl, rfl⟩ ⟨(Nat.le_of_ble_eq_true rfl), (Nat.le_of_ble_eq_true rfl)⟩ ⟨(Nat.le_of_ble_eq_true rfl), (Nat.le_of_ble_eq_true rfl)⟩ [1] rfl 3 0 rfl rfl rfl rfl (Nat.le_of_ble_eq_true rfl) rfl (fun _ _ _ => rfl) dX0_hasCommand_9 (fun j1 u2 w3 => ?_)
      refine V_ws [(h0, oC 2 [.ref g0, .ref h1, .ref g1, .ref g2, .ref g3, .ref g4, .ref g5, .ref g6, .ref g7, .ref g8, .ref g9, .int p0]), (h1, oC 3 [.ref g10, .int p1])] rfl ?_
      refine V_icmp_ge 12 B 19 dX0_hasCommand_12 (by decide) (fun k4 => ?_) (fun k4 => ?_)
      ·
        refine V_iconst 19 B (v := 0) dX0_hasCommand_19 (by decide +kernel) ?_
        exact V_zret 20 B rfl dX0_hasCommand_20 (mkU [] [] [] [] []) (Or.inl rfl) rfl
      ·
        refine V_iconst 15 B (v := 1) dX0_hasCommand_15 (by decide +kernel) ?_
        refine V_goto 16 B 20 dX0_hasCommand_16 (by decide) ?_
        exact V_zret 20 B rfl dX0_hasCommand_20 (mkU [] [] [] [] []) (Or.inr rfl) rfl)
theorem glV_RX11_400 : GLV RX11 400 yX0_hasCommand RX0 cX0_hasCommand 2 (some .boolean) 1 := ⟨⟨(mT5 191 rfl rfl), (mT4 209 rfl rfl), (mT4 210 rfl rfl), (mT1 2 rfl rfl), (mT4 211 rfl rfl)⟩, by decide +kernel⟩
theorem dX11_needCommand_8 : decode cX11_needCommand 8 = .ok (.ifCond .ne 14, 3) := by decide +kernel
theorem dX11_needCommand_11 : decode cX11_needCommand 11 = .ok (.new 225, 3) := by decide +kernel
theorem gt_RX11_225_403_229 : GT RX11 225 403 229 "java/lang/IndexOutOfBoundsException" "no such command" ["java/lang/RuntimeException", "java/lang/Exception"] := ⟨rfl, (mT5 136 rfl rfl), (mT1 23 rfl rfl), List.mem_of_getElem? (i := 10) rfl, by decide +kernel, by decide +kernel, List.mem_of_getElem? (i := 1) rfl, gta_229⟩
theorem dX11_needCommand_14 : decode cX11_needCommand 14 = .ok (.dup, 1) := by decide +kernel
theorem dX11_needCommand_15 : decode cX11_needCommand 15 = .ok (.ldc_w 403, 3) := by decide +kernel
theorem dX11_needCommand_18 : decode cX11_needCommand 18 = .ok (.invokespecial 229, 3) := by decide +kernel
theorem dX11_needCommand_21 : decode cX11_needCommand 21 = .ok (.athrow, 1) := by decide +kernel
theorem dX11_needCommand_22 : decode cX11_needCommand 22 = .ok (.return_, 1) := by decide +kernel
set_option maxRecDepth 100000 in
set_option maxHeartbeats 4000000 in
theorem sX11_needCommand_1 (l : Launch) (hl9 : l.stackTraces = false) (D : va_G) (Y : Nat → ClassId) (h0 : Nat) (h1 : Nat) (h2 : Nat) (g0 : Nat) (g1 : Nat) (g2 : Nat) (g3 : Nat) (g4 : Nat) (g5 : Nat) (g6 : Nat) (g7 : Nat) (g8 : Nat) (g9 : Nat) (g10 : Nat) (g11 : Nat) (g12 : Nat) (g13 : Nat) (g14 : Nat) (g15 : Nat) (g16 : Nat) (g17 : Nat) (g18 : Nat) (p0 : Int64) (p1 : Int32) (p2 : Int32) (p3 : Int32) (sz : Nat) : vx_Met l yX11_needCommand (WSm yX11_needCommand cX11_needCommand 2 none) (mkR 6 1 6 82) (PreX D Y [.ref h0, .int p3] [(h0, oC 12 [.ref h1, .ref g0, .ref g1, .ref g2, .ref g3, .ref g4, .ref g5, .ref g6, .ref g7, .long p0]), (h1, oC 2 [.ref g8, .ref h2, .ref g9, .ref g10, .ref g11, .ref g12, .ref g13, .ref g14, .ref g15, .ref g16, .ref g17, .int p1]), (h2, oC 3 [.ref g18, .int p2])] sz) (QV D (fun (_ : UU) => True) (fun (u : UU) => [(h0, oC 12 [.ref h1, .ref g0, .ref g1, .ref g2, .ref g3, .ref g4, .ref g5, .ref g6, .ref g7, .long p0]), (h1, oC 2 [.ref g8, .ref h2, .ref g9, .ref g10, .ref g11, .ref g12, .ref g13, .ref g14, .ref g15, .ref g16, .ref g17, .int p1]), (h2, oC 3 [.ref g18, .int p2])]) (va_A [(h0, oC 12 [.ref h1, .ref g0, .ref g1, .ref g2, .ref g3, .ref g4, .ref g5, .ref g6, .ref g7, .long p0]), (h1, oC 2 [.ref g8, .ref h2, .ref g9, .ref g10, .ref g11, .ref g12, .ref g13, .ref g14, .ref g15, .ref g16, .ref g17, .int p1]), (h2, oC 3 [.ref g18, .int p2])] sz)) (XW D (fun (E : String) (_ : UU) => E = "java/lang/IndexOutOfBoundsException") (fun (u : UU) => [(h0, oC 12 [.ref h1, .ref g0, .ref g1, .ref g2, .ref g3, .ref g4, .ref g5, .ref g6, .ref g7, .long p0]), (h1, oC 2 [.ref g8, .ref h2, .ref g9, .ref g10, .ref g11, .ref g12, .ref g13, .ref g14, .ref g15, .ref g16, .ref g17, .int p1]), (h2, oC 3 [.ref g18, .int p2])]) (va_A [(h0, oC 12 [.ref h1, .ref g0, .ref g1, .ref g2, .ref g3, .ref g4, .ref g5, .ref g6, .ref g7, .long p0]), (h1, oC 2 [.ref g8, .ref h2, .ref g9, .ref g10, .ref g11, .ref g12, .ref g13, .ref g14, .ref g15, .ref g16, .ref g17, .int p1]), (h2, oC 3 [.ref g18, .int p2])] sz)) 1 6 (va_A [(h0, oC 12 [.ref h1, .ref g0, .ref g1, .ref g2, .ref g3, .ref g4, .ref g5, .ref g6, .ref g7, .long p0]), (h1, oC 2 [.ref g8, .ref h2, .ref g9, .ref g10, .ref g11, .ref g12, .ref g13, .ref g14, .ref g15, .ref g16, .ref g17, .int p1]), (h2, oC 3 [.ref g18, .int p2])] sz) :=
  xmet_of (by decide +kernel) (Nat.le_of_ble_eq_true rfl) (fun p e s m args below meth c B EB hout hsz => by
    have B : VB p s m args meth c D Y (va_A [(h0, oC 12 [.ref h1, .ref g0, .ref g1, .ref g2, .ref g3, .ref g4, .ref g5, .ref g6, .ref g7, .long p0]), (h1, oC 2 [.ref g8, .ref h2, .ref g9, .ref g10, .ref g11, .ref g12, .ref g13, .ref g14, .ref g15, .ref g16, .ref g17, .int p1]), (h2, oC 3 [.ref g18, .int p2])] sz) cX11_needCommand 2 RX11 none := B
    refine V_aload_n 0 B dX11_needCommand_0 0 rfl ?_
    refine V_get 1 B gf_RX11_10 0 rfl rfl dX11_needCommand_1 ?_
    refine V_iload_n 4 B dX11_needCommand_4 1 rfl ?_
    refine V_gvi 5 B envX EB (st := []) (As := [.int p3]) (fun sz => sX0_hasCommand_1 l D Y h1 h2 g8 g9 g10 g11 g12 g13 g14 g15 g16 g17 g18 p1 p2 p3 sz) glV_RX11_400 ⟨rfl, rfl⟩ ⟨(Nat.le_of_ble_eq_true rfl), (Nat.le_of_ble_eq_true rfl)⟩ ⟨(Nat.le_of_ble_eq_true rfl), (Nat.le_of_ble_eq_true rfl)⟩ [1, 0] rfl 2 0 rfl rfl rfl rfl (Nat.le_of_ble_eq_true rfl) rfl (fun _ _ _ => rfl) dX11_needCommand_5 (fun j0 u1 w2 => ?_)
    refine V_ws [(h0, oC 12 [.ref h1, .ref g0, .ref g1, .ref g2, .ref g3, .ref g4, .ref g5, .ref g6, .ref g7, .long p0]), (h1, oC 2 [.ref g8, .ref h2, .ref g9, .ref g10, .ref g11, .ref g12, .ref g13, .ref g14, .ref g15, .ref g16, .ref g17, .int p1]), (h2, oC 3 [.ref g18, .int p2])] rfl ?_
    rcases w2 with rfl | rfl
    ·
      refine V_if_ne_f 8 B 22 dX11_needCommand_8 (by decide) (by decide +kernel) ?_
      exact V_throwSW 11 B EB hl9 gt_RX11_225_403_229 hout dX11_needCommand_11 dX11_needCommand_14 dX11_needCommand_15 dX11_needCommand_18 dX11_needCommand_21 (Nat.le_of_ble_eq_true rfl) (Nat.le_of_ble_eq_true rfl) (Nat.le_of_ble_eq_true rfl) (Nat.le_of_ble_eq_true rfl) (Nat.le_of_ble_eq_true rfl) (Nat.le_of_ble_eq_true rfl) (mkU [] [] [] [] []) rfl rfl
    ·
      refine V_if_ne_t 8 B 22 dX11_needCommand_8 (by decide) (by decide +kernel) ?_
      refine V_xret ?_
      refine V_widen (k := 1) (n := 6) (Nat.le_of_ble_eq_true rfl) (Nat.le_of_ble_eq_true rfl) ?_
      exact V_vret 22 B dX11_needCommand_22 (mkU [] [] [] [] []) trivial rfl)
theorem glV_RX11_204 : GLV RX11 204 yX11_needCommand RX11 cX11_needCommand 2 none 1 := ⟨⟨(mT5 187 rfl rfl), (mT5 189 rfl rfl), (mTs 22 rfl rfl), (mT1 1 rfl rfl), (mT5 190 rfl rfl)⟩, by decide +kernel⟩
theorem dX11_command_5 : decode cX11_command 5 = .ok (.iload_n 2, 1) := by decide +kernel
theorem dX11_command_6 : decode cX11_command 6 = .ok (.tableswitch 78 0 3 #[30, 42, 54, 66], 30) := by decide +kernel
theorem dX11_command_36 : decode cX11_command 36 = .ok (.aload_n 0, 1) := by decide +kernel
theorem dX11_command_37 : decode cX11_command 37 = .ok (.getfield 10, 3) := by decide +kernel
theorem dX11_command_40 : decode cX11_command 40 = .ok (.getfield 119, 3) := by decide +kernel
theorem dX11_command_43 : decode cX11_command 43 = .ok (.iload_n 1, 1) := by decide +kernel
theorem dX11_command_44 : decode cX11_command 44 = .ok (.invokevirtual 187, 3) := by decide +kernel
theorem dX11_command_47 : decode cX11_command 47 = .ok (.ireturn, 1) := by decide +kernel
theorem dX11_command_48 : decode cX11_command 48 = .ok (.aload_n 0, 1) := by decide +kernel
theorem dX11_command_49 : decode cX11_command 49 = .ok (.getfield 10, 3) := by decide +kernel
theorem dX11_command_52 : decode cX11_command 52 = .ok (.getfield 207, 3) := by decide +kernel
theorem gf_RX11_207 : GF RX11 207 2 2 := ⟨RX0, TX0, 12, rfl, inw_X0, Nat.le_of_ble_eq_true rfl, (mT1 170 rfl rfl)⟩
theorem dX11_command_55 : decode cX11_command 55 = .ok (.iload_n 1, 1) := by decide +kernel
theorem dX11_command_56 : decode cX11_command 56 = .ok (.invokevirtual 187, 3) := by decide +kernel
theorem dX11_command_59 : decode cX11_command 59 = .ok (.ireturn, 1) := by decide +kernel
theorem dX11_command_60 : decode cX11_command 60 = .ok (.aload_n 0, 1) := by decide +kernel
theorem dX11_command_61 : decode cX11_command 61 = .ok (.getfield 10, 3) := by decide +kernel
theorem dX11_command_64 : decode cX11_command 64 = .ok (.getfield 210, 3) := by decide +kernel
theorem gf_RX11_210 : GF RX11 210 2 3 := ⟨RX0, TX0, 12, rfl, inw_X0, Nat.le_of_ble_eq_true rfl, (mT1 173 rfl rfl)⟩
theorem dX11_command_67 : decode cX11_command 67 = .ok (.iload_n 1, 1) := by decide +kernel
theorem dX11_command_68 : decode cX11_command 68 = .ok (.invokevirtual 187, 3) := by decide +kernel
theorem dX11_command_71 : decode cX11_command 71 = .ok (.ireturn, 1) := by decide +kernel
theorem dX11_command_72 : decode cX11_command 72 = .ok (.aload_n 0, 1) := by decide +kernel
theorem dX11_command_73 : decode cX11_command 73 = .ok (.getfield 10, 3) := by decide +kernel
theorem dX11_command_76 : decode cX11_command 76 = .ok (.getfield 213, 3) := by decide +kernel
theorem gf_RX11_213 : GF RX11 213 2 6 := ⟨RX0, TX0, 12, rfl, inw_X0, Nat.le_of_ble_eq_true rfl, (mT1 185 rfl rfl)⟩
theorem dX11_command_79 : decode cX11_command 79 = .ok (.iload_n 1, 1) := by decide +kernel
theorem dX11_command_80 : decode cX11_command 80 = .ok (.invokevirtual 216, 3) := by decide +kernel
theorem dX1_occurrences_0 : decode cX1_occurrences 0 = .ok (.iconst 0, 1) := by decide +kernel
theorem dX1_occurrences_1 : decode cX1_occurrences 1 = .ok (.istore_n 2, 1) := by decide +kernel
theorem dX1_occurrences_2 : decode cX1_occurrences 2 = .ok (.iconst 0, 1) := by decide +kernel
theorem dX1_occurrences_3 : decode cX1_occurrences 3 = .ok (.istore_n 3, 1) := by decide +kernel
theorem dX1_occurrences_4 : decode cX1_occurrences 4 = .ok (.iload_n 3, 1) := by decide +kernel
theorem dX1_occurrences_5 : decode cX1_occurrences 5 = .ok (.aload_n 0, 1) := by decide +kernel
theorem dX1_occurrences_6 : decode cX1_occurrences 6 = .ok (.getfield 21, 3) := by decide +kernel
theorem dX1_occurrences_9 : decode cX1_occurrences 9 = .ok (.if_icmp .ge 31, 3) := by decide +kernel
theorem dX1_occurrences_40 : decode cX1_occurrences 40 = .ok (.iload_n 2, 1) := by decide +kernel
theorem dX1_occurrences_41 : decode cX1_occurrences 41 = .ok (.ireturn, 1) := by decide +kernel
theorem dX1_occurrences_12 : decode cX1_occurrences 12 = .ok (.iload_n 3, 1) := by decide +kernel
theorem dX1_occurrences_13 : decode cX1_occurrences 13 = .ok (.aload_n 0, 1) := by decide +kernel
theorem dX1_occurrences_14 : decode cX1_occurrences 14 = .ok (.getfield 15, 3) := by decide +kernel
theorem dX1_occurrences_17 : decode cX1_occurrences 17 = .ok (.arraylength, 1) := by decide +kernel
theorem dX1_occurrences_18 : decode cX1_occurrences 18 = .ok (.if_icmp .ge 22, 3) := by decide +kernel
theorem dX1_occurrences_21 : decode cX1_occurrences 21 = .ok (.aload_n 0, 1) := by decide +kernel
theorem dX1_occurrences_22 : decode cX1_occurrences 22 = .ok (.getfield 15, 3) := by decide +kernel
theorem dX1_occurrences_25 : decode cX1_occurrences 25 = .ok (.iload_n 3, 1) := by decide +kernel
theorem dX1_occurrences_26 : decode cX1_occurrences 26 = .ok (.iaload, 1) := by decide +kernel
theorem dX1_occurrences_27 : decode cX1_occurrences 27 = .ok (.iload_n 1, 1) := by decide +kernel
theorem dX1_occurrences_28 : decode cX1_occurrences 28 = .ok (.if_icmp .ne 6, 3) := by decide +kernel
theorem dX1_occurrences_34 : decode cX1_occurrences 34 = .ok (.iinc 3 1, 3) := by decide +kernel
theorem dX1_occurrences_37 : decode cX1_occurrences 37 = .ok (.goto (-33), 3) := by decide +kernel
theorem dX1_occurrences_31 : decode cX1_occurrences 31 = .ok (.iinc 2 1, 3) := by decide +kernel
set_option maxRecDepth 100000 in
set_option maxHeartbeats 4000000 in
theorem sX1_occurrences_1 (l : Launch) (D : va_G) (Y : Nat → ClassId) (h0 : Nat) (h1 : Nat) (p0 : Int32) (f0 : Nat → Int32) (p1 : Int32) (sz : Nat) : Met l yX1_occurrences (WSm yX1_occurrences cX1_occurrences 4 (some .int)) (mkR 0 0 0 0) (PreG EX D Y [.ref h0, .int p1] [(h0, oC 3 [.ref h1, .int p0]), (h1, aI Y 80 f0)] sz) (QI D (fun (_ : Int32) (_ : UU) => True) (fun (u : UU) => [(h0, oC 3 [.ref h1, .int p0]), (h1, aI Y 80 f0)]) (va_A [(h0, oC 3 [.ref h1, .int p0]), (h1, aI Y 80 f0)] sz)) 0 0 (va_A [(h0, oC 3 [.ref h1, .int p0]), (h1, aI Y 80 f0)] sz) :=
  gmet_of (by decide +kernel) (Nat.le_of_ble_eq_true rfl) (fun p e s m args below meth c B EB hsz => by
    have B : VB p s m args meth c D Y (va_A [(h0, oC 3 [.ref h1, .int p0]), (h1, aI Y 80 f0)] sz) cX1_occurrences 4 RX1 (some .int) := B
    refine V_iconst 0 B (v := 0) dX1_occurrences_0 (by decide +kernel) ?_
    refine V_istore_n 1 B (lv2 := [(2, .int 0), (0, .ref h0), (1, .int p1)]) dX1_occurrences_1 (by decide) rfl ?_
    refine V_iconst 2 B (v := 0) dX1_occurrences_2 (by decide +kernel) ?_
    refine V_istore_n 3 B (lv2 := [(3, .int 0), (2, .int 0), (0, .ref h0), (1, .int p1)]) dX1_occurrences_3 (by decide) rfl ?_
    refine V_wloop (α := UU) (fun a => (2147483647 - ((a.1 0)).toInt).toNat) (fun a => 0 ≤ ((a.1 0)).toInt) (fun a => [(3, .int (a.1 0)), (2, .int (a.1 1)), (0, .ref h0), (1, .int p1)]) (fun a => [(h0, oC 3 [.ref h1, .int p0]), (h1, aI Y 80 f0)]) (mkU [0, 0] [] [] [] []) (show (0 : Int) ≤ (0 : Int32).toInt by decide +kernel) rfl rfl (fun a0 hI2 IH1 => ?_)
    refine V_lv [(3, .int (a0.1 0)), (2, .int (a0.1 1)), (0, .ref h0), (1, .int p1)] [0, 1, 2, 3] rfl ?_
    refine V_ws [(h0, oC 3 [.ref h1, .int p0]), (h1, aI Y 80 f0)] rfl ?_
    refine V_iload_n 4 B dX1_occurrences_4 0 rfl ?_
    refine V_aload_n 5 B dX1_occurrences_5 2 rfl ?_
    refine V_get 6 B gf_RX1_21 0 rfl rfl dX1_occurrences_6 ?_
    refine V_icmp_ge 9 B 40 dX1_occurrences_9 (by decide) (fun k3 => ?_) (fun k3 => ?_)
    ·
      refine V_iload_n 40 B dX1_occurrences_40 1 rfl ?_
      exact V_iret 41 B dX1_occurrences_41 (mkU [] [] [] [] []) trivial rfl
    ·
      refine V_iload_n 12 B dX1_occurrences_12 0 rfl ?_
      refine V_aload_n 13 B dX1_occurrences_13 2 rfl ?_
      refine V_get 14 B gf_RX1_15 0 rfl rfl dX1_occurrences_14 ?_
      refine V_alenI 17 B (v := 80) 1 rfl (by decide +kernel) dX1_occurrences_17 ?_
      refine V_icmp_ge 18 B 40 dX1_occurrences_18 (by decide) (fun k4 => ?_) (fun k4 => ?_)
      ·
        refine V_iload_n 40 B dX1_occurrences_40 1 rfl ?_
        exact V_iret 41 B dX1_occurrences_41 (mkU [] [] [] [] []) trivial rfl
      ·
        refine V_aload_n 21 B dX1_occurrences_21 2 rfl ?_
        refine V_get 22 B gf_RX1_15 0 rfl rfl dX1_occurrences_22 ?_
        refine V_iload_n 25 B dX1_occurrences_25 0 rfl ?_
        refine V_iald 26 B 1 rfl (vpin_b hI2 (b_nge k4 (n := 79) (by decide +kernel)) (by decide)) dX1_occurrences_26 rfl ?_
        refine V_nmi (fun j5 _ => ?_)
        refine V_iload_n 27 B dX1_occurrences_27 3 rfl ?_
        refine V_icmp_ne 28 B 34 dX1_occurrences_28 (by decide) (fun k6 => ?_) (fun k6 => ?_)
        ·
          refine V_iinc 34 B (v := ((a0.1 0) + Int32.ofInt 1)) (lv2 := [(3, .int ((a0.1 0) + Int32.ofInt 1)), (2, .int (a0.1 1)), (0, .ref h0), (1, .int p1)]) dX1_occurrences_34 0 rfl rfl (by decide) rfl ?_
          refine V_goto 37 B 4 dX1_occurrences_37 (by decide) ?_
          refine V_lv [(3, .int ((a0.1 0) + Int32.ofInt 1)), (2, .int (a0.1 1)), (0, .ref h0), (1, .int p1)] [0, 1, 2, 3] rfl ?_
          exact IH1 (mkU [((a0.1 0) + Int32.ofInt 1), (a0.1 1)] [] [] [] []) (Int.le_trans (by decide) (o_add_lo (c := Int32.ofInt 1) hI2 (b_nge k4 (n := 79) (by decide +kernel)) (by decide +kernel) (by decide +kernel) (k := 1) (by decide +kernel))) (up_dec (x := (a0.1 0)) (c := Int32.ofInt 1) (by decide +kernel) hI2 (Int.le_trans (b_nge k4 (n := 79) (by decide +kernel)) (by decide)) (by decide))
        ·
          refine V_iinc 31 B (v := ((a0.1 1) + Int32.ofInt 1)) (lv2 := [(2, .int ((a0.1 1) + Int32.ofInt 1)), (3, .int (a0.1 0)), (0, .ref h0), (1, .int p1)]) dX1_occurrences_31 1 rfl rfl (by decide) rfl ?_
          refine V_iinc 34 B (v := ((a0.1 0) + Int32.ofInt 1)) (lv2 := [(3, .int ((a0.1 0) + Int32.ofInt 1)), (2, .int ((a0.1 1) + Int32.ofInt 1)), (0, .ref h0), (1, .int p1)]) dX1_occurrences_34 1 rfl rfl (by decide) rfl ?_
          refine V_goto 37 B 4 dX1_occurrences_37 (by decide) ?_
          refine V_lv [(3, .int ((a0.1 0) + Int32.ofInt 1)), (2, .int ((a0.1 1) + Int32.ofInt 1)), (0, .ref h0), (1, .int p1)] [0, 1, 2, 3] rfl ?_
          exact IH1 (mkU [((a0.1 0) + Int32.ofInt 1), ((a0.1 1) + Int32.ofInt 1)] [] [] [] []) (Int.le_trans (by decide) (o_add_lo (c := Int32.ofInt 1) hI2 (b_nge k4 (n := 79) (by decide +kernel)) (by decide +kernel) (by decide +kernel) (k := 1) (by decide +kernel))) (up_dec (x := (a0.1 0)) (c := Int32.ofInt 1) (by decide +kernel) hI2 (Int.le_trans (b_nge k4 (n := 79) (by decide +kernel)) (by decide)) (by decide)))
theorem glV_RX11_216 : GLV RX11 216 yX1_occurrences RX1 cX1_occurrences 4 (some .int) 1 := ⟨⟨(mT4 31 rfl rfl), (mT4 32 rfl rfl), (mT4 33 rfl rfl), (mT1 3 rfl rfl), (mT4 34 rfl rfl)⟩, by decide +kernel⟩
theorem dX11_command_83 : decode cX11_command 83 = .ok (.ireturn, 1) := by decide +kernel
theorem sw_out_0_3 {x : Int32} (h0 : ¬ x = 0) (h1 : ¬ x = 1) (h2 : ¬ x = 2) (h3 : ¬ x = 3) : x.toInt < 0 ∨ 3 < x.toInt := by
  have e0 := neT (n := 0) h0 (by decide +kernel)
  have e1 := neT (n := 1) h1 (by decide +kernel)
  have e2 := neT (n := 2) h2 (by decide +kernel)
  have e3 := neT (n := 3) h3 (by decide +kernel)
  omega
theorem dX11_command_84 : decode cX11_command 84 = .ok (.iconst (-1), 1) := by decide +kernel
theorem dX11_command_85 : decode cX11_command 85 = .ok (.ireturn, 1) := by decide +kernel
set_option maxRecDepth 100000 in
set_option maxHeartbeats 4000000 in
theorem sX11_command_1 (l : Launch) (hl9 : l.stackTraces = false) (D : va_G) (Y : Nat → ClassId) (h0 : Nat) (h1 : Nat) (h2 : Nat) (h3 : Nat) (h4 : Nat) (h5 : Nat) (h6 : Nat) (h7 : Nat) (h8 : Nat) (h9 : Nat) (g0 : Nat) (g1 : Nat) (g2 : Nat) (g3 : Nat) (g4 : Nat) (g5 : Nat) (g6 : Nat) (g7 : Nat) (g8 : Nat) (g9 : Nat) (g10 : Nat) (g11 : Nat) (g12 : Nat) (g13 : Nat) (g14 : Nat) (p0 : Int64) (p1 : Int32) (p2 : Int32) (f0 : Nat → Int32) (p3 : Int32) (f1 : Nat → Int32) (p4 : Int32) (f2 : Nat → Int32) (p5 : Int32) (f3 : Nat → Int32) (p6 : Int32) (p7 : Int32) (sz : Nat) : vx_Met l yX11_command (WSm yX11_command cX11_command 3 (some .int)) (mkR 7 1 6 103) (PreX D Y [.ref h0, .int p6, .int p7] [(h0, oC 12 [.ref h1, .ref g0, .ref g1, .ref g2, .ref g3, .ref g4, .ref g5, .ref g6, .ref g7, .long p0]), (h1, oC 2 [.ref g8, .ref h2, .ref h4, .ref h6, .ref g9, .ref g10, .ref h8, .ref g11, .ref g12, .ref g13, .ref g14, .int p1]), (h2, oC 3 [.ref h3, .int p2]), (h3, aI Y 40 f0), (h4, oC 3 [.ref h5, .int p3]), (h5, aI Y 40 f1), (h6, oC 3 [.ref h7, .int p4]), (h7, aI Y 40 f2), (h8, oC 3 [.ref h9, .int p5]), (h9, aI Y 80 f3)] sz) (QI D (fun (_ : Int32) (_ : UU) => True) (fun (u : UU) => [(h0, oC 12 [.ref h1, .ref g0, .ref g1, .ref g2, .ref g3, .ref g4, .ref g5, .ref g6, .ref g7, .long p0]), (h1, oC 2 [.ref g8, .ref h2, .ref h4, .ref h6, .ref g9, .ref g10, .ref h8, .ref g11, .ref g12, .ref g13, .ref g14, .int p1]), (h2, oC 3 [.ref h3, .int p2]), (h3, aI Y 40 f0), (h4, oC 3 [.ref h5, .int p3]), (h5, aI Y 40 f1), (h6, oC 3 [.ref h7, .int p4]), (h7, aI Y 40 f2), (h8, oC 3 [.ref h9, .int p5]), (h9, aI Y 80 f3)]) (va_A [(h0, oC 12 [.ref h1, .ref g0, .ref g1, .ref g2, .ref g3, .ref g4, .ref g5, .ref g6, .ref g7, .long p0]), (h1, oC 2 [.ref g8, .ref h2, .ref h4, .ref h6, .ref g9, .ref g10, .ref h8, .ref g11, .ref g12, .ref g13, .ref g14, .int p1]), (h2, oC 3 [.ref h3, .int p2]), (h3, aI Y 40 f0), (h4, oC 3 [.ref h5, .int p3]), (h5, aI Y 40 f1), (h6, oC 3 [.ref h7, .int p4]), (h7, aI Y 40 f2), (h8, oC 3 [.ref h9, .int p5]), (h9, aI Y 80 f3)] sz)) (XW D (fun (E : String) (_ : UU) => E = "java/lang/IndexOutOfBoundsException") (fun (u : UU) => [(h0, oC 12 [.ref h1, .ref g0, .ref g1, .ref g2, .ref g3, .ref g4, .ref g5, .ref g6, .ref g7, .long p0]), (h1, oC 2 [.ref g8, .ref h2, .ref h4, .ref h6, .ref g9, .ref g10, .ref h8, .ref g11, .ref g12, .ref g13, .ref g14, .int p1]), (h2, oC 3 [.ref h3, .int p2]), (h3, aI Y 40 f0), (h4, oC 3 [.ref h5, .int p3]), (h5, aI Y 40 f1), (h6, oC 3 [.ref h7, .int p4]), (h7, aI Y 40 f2), (h8, oC 3 [.ref h9, .int p5]), (h9, aI Y 80 f3)]) (va_A [(h0, oC 12 [.ref h1, .ref g0, .ref g1, .ref g2, .ref g3, .ref g4, .ref g5, .ref g6, .ref g7, .long p0]), (h1, oC 2 [.ref g8, .ref h2, .ref h4, .ref h6, .ref g9, .ref g10, .ref h8, .ref g11, .ref g12, .ref g13, .ref g14, .int p1]), (h2, oC 3 [.ref h3, .int p2]), (h3, aI Y 40 f0), (h4, oC 3 [.ref h5, .int p3]), (h5, aI Y 40 f1), (h6, oC 3 [.ref h7, .int p4]), (h7, aI Y 40 f2), (h8, oC 3 [.ref h9, .int p5]), (h9, aI Y 80 f3)] sz)) 1 6 (va_A [(h0, oC 12 [.ref h1, .ref g0, .ref g1, .ref g2, .ref g3, .ref g4, .ref g5, .ref g6, .ref g7, .long p0]), (h1, oC 2 [.ref g8, .ref h2, .ref h4, .ref h6, .ref g9, .ref g10, .ref h8, .ref g11, .ref g12, .ref g13, .ref g14, .int p1]), (h2, oC 3 [.ref h3, .int p2]), (h3, aI Y 40 f0), (h4, oC 3 [.ref h5, .int p3]), (h5, aI Y 40 f1), (h6, oC 3 [.ref h7, .int p4]), (h7, aI Y 40 f2), (h8, oC 3 [.ref h9, .int p5]), (h9, aI Y 80 f3)] sz) :=
  xmet_of (by decide +kernel) (Nat.le_of_ble_eq_true rfl) (fun p e s m args below meth c B EB hout hsz => by
    have B : VB p s m args meth c D Y (va_A [(h0, oC 12 [.ref h1, .ref g0, .ref g1, .ref g2, .ref g3, .ref g4, .ref g5, .ref g6, .ref g7, .long p0]), (h1, oC 2 [.ref g8, .ref h2, .ref h4, .ref h6, .ref g9, .ref g10, .ref h8, .ref g11, .ref g12, .ref g13, .ref g14, .int p1]), (h2, oC 3 [.ref h3, .int p2]), (h3, aI Y 40 f0), (h4, oC 3 [.ref h5, .int p3]), (h5, aI Y 40 f1), (h6, oC 3 [.ref h7, .int p4]), (h7, aI Y 40 f2), (h8, oC 3 [.ref h9, .int p5]), (h9, aI Y 80 f3)] sz) cX11_command 3 RX11 (some .int) := B
    refine V_aload_n 0 B dX11_command_0 0 rfl ?_
    refine V_iload_n 1 B dX11_command_1 1 rfl ?_
    refine V_xvv 2 B EB (st := []) (As := [.int p6]) (fun sz => sX11_needCommand_1 l hl9 D Y h0 h1 h2 g0 g1 g2 g3 g4 g5 g6 g7 g8 h4 h6 g9 g10 h8 g11 g12 g13 g14 h3 p0 p1 p2 p6 sz) glV_RX11_204 ⟨rfl, rfl⟩ ⟨(Nat.le_of_ble_eq_true rfl), (Nat.le_of_ble_eq_true rfl)⟩ ⟨(Nat.le_of_ble_eq_true rfl), (Nat.le_of_ble_eq_true rfl)⟩ [0, 0, 0] rfl 12 0 rfl rfl rfl rfl (Nat.le_of_ble_eq_true rfl) rfl (fun _ _ => rfl) (fun _ _ _ => rfl) dX11_command_2 (fun E u1 w2 => ?_) (fun u1 w2 => ?_)
    ·
      obtain rfl := w2
      exact VX_out 2 B hout (mkU [] [] [] [] []) rfl rfl (Nat.le_of_ble_eq_true rfl) (Nat.le_of_ble_eq_true rfl)
    ·
      refine V_ws [(h0, oC 12 [.ref h1, .ref g0, .ref g1, .ref g2, .ref g3, .ref g4, .ref g5, .ref g6, .ref g7, .long p0]), (h1, oC 2 [.ref g8, .ref h2, .ref h4, .ref h6, .ref g9, .ref g10, .ref h8, .ref g11, .ref g12, .ref g13, .ref g14, .int p1]), (h2, oC 3 [.ref h3, .int p2]), (h3, aI Y 40 f0), (h4, oC 3 [.ref h5, .int p3]), (h5, aI Y 40 f1), (h6, oC 3 [.ref h7, .int p4]), (h7, aI Y 40 f2), (h8, oC 3 [.ref h9, .int p5]), (h9, aI Y 80 f3)] rfl ?_
      refine V_iload_n 5 B dX11_command_5 2 rfl ?_
      by_cases k3 : p7 = 0
      ·
        refine V_eqi _ 0 k3 ?_
        refine V_tableIn 6 B 36 dX11_command_6 (by decide +kernel) (by decide +kernel) (off := 30) (by decide +kernel) (by decide) ?_
        refine V_aload_n 36 B dX11_command_36 0 rfl ?_
        refine V_get 37 B gf_RX11_10 0 rfl rfl dX11_command_37 ?_
        refine V_get 40 B gf_RX11_119 1 rfl rfl dX11_command_40 ?_
        refine V_iload_n 43 B dX11_command_43 1 rfl ?_
        refine V_gvi 44 B envX EB (st := []) (As := [.int p6]) (fun sz => sX1_at_1 l D Y h2 h3 p2 f0 p6 sz) glV_RX11_187 ⟨rfl, rfl⟩ ⟨(Nat.le_of_ble_eq_true rfl), (Nat.le_of_ble_eq_true rfl)⟩ ⟨(Nat.le_of_ble_eq_true rfl), (Nat.le_of_ble_eq_true rfl)⟩ [2, 0] rfl 3 0 rfl rfl rfl rfl (Nat.le_of_ble_eq_true rfl) rfl (fun _ _ _ => rfl) dX11_command_44 (fun j4 u5 w6 => ?_)
        refine V_ws [(h0, oC 12 [.ref h1, .ref g0, .ref g1, .ref g2, .ref g3, .ref g4, .ref g5, .ref g6, .ref g7, .long p0]), (h1, oC 2 [.ref g8, .ref h2, .ref h4, .ref h6, .ref g9, .ref g10, .ref h8, .ref g11, .ref g12, .ref g13, .ref g14, .int p1]), (h2, oC 3 [.ref h3, .int p2]), (h3, aI Y 40 f0), (h4, oC 3 [.ref h5, .int p3]), (h5, aI Y 40 f1), (h6, oC 3 [.ref h7, .int p4]), (h7, aI Y 40 f2), (h8, oC 3 [.ref h9, .int p5]), (h9, aI Y 80 f3)] rfl ?_
        refine V_xret ?_
        refine V_widen (k := 1) (n := 6) (Nat.le_of_ble_eq_true rfl) (Nat.le_of_ble_eq_true rfl) ?_
        exact V_iret 47 B dX11_command_47 (mkU [] [] [] [] []) trivial rfl
      ·
        by_cases k7 : p7 = 1
        ·
          refine V_eqi _ 1 k7 ?_
          refine V_tableIn 6 B 48 dX11_command_6 (by decide +kernel) (by decide +kernel) (off := 42) (by decide +kernel) (by decide) ?_
          refine V_aload_n 48 B dX11_command_48 0 rfl ?_
          refine V_get 49 B gf_RX11_10 0 rfl rfl dX11_command_49 ?_
          refine V_get 52 B gf_RX11_207 1 rfl rfl dX11_command_52 ?_
          refine V_iload_n 55 B dX11_command_55 1 rfl ?_
          refine V_gvi 56 B envX EB (st := []) (As := [.int p6]) (fun sz => sX1_at_1 l D Y h4 h5 p3 f1 p6 sz) glV_RX11_187 ⟨rfl, rfl⟩ ⟨(Nat.le_of_ble_eq_true rfl), (Nat.le_of_ble_eq_true rfl)⟩ ⟨(Nat.le_of_ble_eq_true rfl), (Nat.le_of_ble_eq_true rfl)⟩ [4, 0] rfl 3 0 rfl rfl rfl rfl (Nat.le_of_ble_eq_true rfl) rfl (fun _ _ _ => rfl) dX11_command_56 (fun j8 u9 w10 => ?_)
          refine V_ws [(h0, oC 12 [.ref h1, .ref g0, .ref g1, .ref g2, .ref g3, .ref g4, .ref g5, .ref g6, .ref g7, .long p0]), (h1, oC 2 [.ref g8, .ref h2, .ref h4, .ref h6, .ref g9, .ref g10, .ref h8, .ref g11, .ref g12, .ref g13, .ref g14, .int p1]), (h2, oC 3 [.ref h3, .int p2]), (h3, aI Y 40 f0), (h4, oC 3 [.ref h5, .int p3]), (h5, aI Y 40 f1), (h6, oC 3 [.ref h7, .int p4]), (h7, aI Y 40 f2), (h8, oC 3 [.ref h9, .int p5]), (h9, aI Y 80 f3)] rfl ?_
          refine V_xret ?_
          refine V_widen (k := 1) (n := 6) (Nat.le_of_ble_eq_true rfl) (Nat.le_of_ble_eq_true rfl) ?_
          exact V_iret 59 B dX11_command_59 (mkU [] [] [] [] []) trivial rfl
        ·
          by_cases k11 : p7 = 2
          ·
            refine V_eqi _ 2 k11 ?_
            refine V_tableIn 6 B 60 dX11_command_6 (by decide +kernel) (by decide +kernel) (off := 54) (by decide +kernel) (by decide) ?_
            refine V_aload_n 60 B dX11_command_60 0 rfl ?_
            refine V_get 61 B gf_RX11_10 0 rfl rfl dX11_command_61 ?_
            refine V_get 64 B gf_RX11_210 1 rfl rfl dX11_command_64 ?_
            refine V_iload_n 67 B dX11_command_67 1 rfl ?_
            refine V_gvi 68 B envX EB (st := []) (As := [.int p6]) (fun sz => sX1_at_1 l D Y h6 h7 p4 f2 p6 sz) glV_RX11_187 ⟨rfl, rfl⟩ ⟨(Nat.le_of_ble_eq_true rfl), (Nat.le_of_ble_eq_true rfl)⟩ ⟨(Nat.le_of_ble_eq_true rfl), (Nat.le_of_ble_eq_true rfl)⟩ [6, 0] rfl 3 0 rfl rfl rfl rfl (Nat.le_of_ble_eq_true rfl) rfl (fun _ _ _ => rfl) dX11_command_68 (fun j12 u13 w14 => ?_)
            refine V_ws [(h0, oC 12 [.ref h1, .ref g0, .ref g1, .ref g2, .ref g3, .ref g4, .ref g5, .ref g6, .ref g7, .long p0]), (h1, oC 2 [.ref g8, .ref h2, .ref h4, .ref h6, .ref g9, .ref g10, .ref h8, .ref g11, .ref g12, .ref g13, .ref g14, .int p1]), (h2, oC 3 [.ref h3, .int p2]), (h3, aI Y 40 f0), (h4, oC 3 [.ref h5, .int p3]), (h5, aI Y 40 f1), (h6, oC 3 [.ref h7, .int p4]), (h7, aI Y 40 f2), (h8, oC 3 [.ref h9, .int p5]), (h9, aI Y 80 f3)] rfl ?_
            refine V_xret ?_
            refine V_widen (k := 1) (n := 6) (Nat.le_of_ble_eq_true rfl) (Nat.le_of_ble_eq_true rfl) ?_
            exact V_iret 71 B dX11_command_71 (mkU [] [] [] [] []) trivial rfl
          ·
            by_cases k15 : p7 = 3
            ·
              refine V_eqi _ 3 k15 ?_
              refine V_tableIn 6 B 72 dX11_command_6 (by decide +kernel) (by decide +kernel) (off := 66) (by decide +kernel) (by decide) ?_
              refine V_aload_n 72 B dX11_command_72 0 rfl ?_
              refine V_get 73 B gf_RX11_10 0 rfl rfl dX11_command_73 ?_
              refine V_get 76 B gf_RX11_213 1 rfl rfl dX11_command_76 ?_
              refine V_iload_n 79 B dX11_command_79 1 rfl ?_
              refine V_gvi 80 B envX EB (st := []) (As := [.int p6]) (fun sz => sX1_occurrences_1 l D Y h8 h9 p5 f3 p6 sz) glV_RX11_216 ⟨rfl, rfl⟩ ⟨(Nat.le_of_ble_eq_true rfl), (Nat.le_of_ble_eq_true rfl)⟩ ⟨(Nat.le_of_ble_eq_true rfl), (Nat.le_of_ble_eq_true rfl)⟩ [8, 0] rfl 3 0 rfl rfl rfl rfl (Nat.le_of_ble_eq_true rfl) rfl (fun _ _ _ => rfl) dX11_command_80 (fun j16 u17 w18 => ?_)
              refine V_ws [(h0, oC 12 [.ref h1, .ref g0, .ref g1, .ref g2, .ref g3, .ref g4, .ref g5, .ref g6, .ref g7, .long p0]), (h1, oC 2 [.ref g8, .ref h2, .ref h4, .ref h6, .ref g9, .ref g10, .ref h8, .ref g11, .ref g12, .ref g13, .ref g14, .int p1]), (h2, oC 3 [.ref h3, .int p2]), (h3, aI Y 40 f0), (h4, oC 3 [.ref h5, .int p3]), (h5, aI Y 40 f1), (h6, oC 3 [.ref h7, .int p4]), (h7, aI Y 40 f2), (h8, oC 3 [.ref h9, .int p5]), (h9, aI Y 80 f3)] rfl ?_
              refine V_xret ?_
              refine V_widen (k := 1) (n := 6) (Nat.le_of_ble_eq_true rfl) (Nat.le_of_ble_eq_true rfl) ?_
              exact V_iret 83 B dX11_command_83 (mkU [] [] [] [] []) trivial rfl
            ·
              refine V_tableOut 6 B 84 dX11_command_6 (sw_out_0_3 k3 k7 k11 k15) (by decide) ?_
              refine V_iconst 84 B (v := (-1)) dX11_command_84 (by decide +kernel) ?_
              refine V_xret ?_
              refine V_widen (k := 1) (n := 6) (Nat.le_of_ble_eq_true rfl) (Nat.le_of_ble_eq_true rfl) ?_
              exact V_iret 85 B dX11_command_85 (mkU [] [] [] [] []) trivial rfl)
theorem dX11_reserve_0 : decode cX11_reserve 0 = .ok (.aload_n 0, 1) := by decide +kernel
theorem dX11_reserve_1 : decode cX11_reserve 1 = .ok (.getfield 68, 3) := by decide +kernel
theorem dX11_reserve_4 : decode cX11_reserve 4 = .ok (.lconst 0, 1) := by decide +kernel
theorem dX11_reserve_5 : decode cX11_reserve 5 = .ok (.lcmp, 1) := by decide +kernel
theorem dX11_reserve_6 : decode cX11_reserve 6 = .ok (.ifCond .ne 6, 3) := by decide +kernel
theorem dX11_reserve_12 : decode cX11_reserve 12 = .ok (.aload_n 0, 1) := by decide +kernel
theorem dX11_reserve_13 : decode cX11_reserve 13 = .ok (.getfield 10, 3) := by decide +kernel
theorem dX11_reserve_16 : decode cX11_reserve 16 = .ok (.getfield 170, 3) := by decide +kernel
theorem dX11_reserve_19 : decode cX11_reserve 19 = .ok (.aload_n 0, 1) := by decide +kernel
theorem dX11_reserve_20 : decode cX11_reserve 20 = .ok (.getfield 68, 3) := by decide +kernel
theorem dX11_reserve_23 : decode cX11_reserve 23 = .ok (.invokevirtual 219, 3) := by decide +kernel
theorem glV_RX11_219 : GLV RX11 219 yX5_hasClash RX5 cX5_hasClash 4 (some .boolean) 1 := ⟨⟨(mT4 15 rfl rfl), (mT3 104 rfl rfl), (mT3 105 rfl rfl), (mT1 5 rfl rfl), (mT3 106 rfl rfl)⟩, by decide +kernel⟩
theorem dX11_reserve_26 : decode cX11_reserve 26 = .ok (.ifCond .eq 7, 3) := by decide +kernel
theorem dX11_reserve_33 : decode cX11_reserve 33 = .ok (.aload_n 0, 1) := by decide +kernel
theorem dX11_reserve_34 : decode cX11_reserve 34 = .ok (.getfield 10, 3) := by decide +kernel
theorem dX11_reserve_37 : decode cX11_reserve 37 = .ok (.getfield 122, 3) := by decide +kernel
theorem dX11_reserve_40 : decode cX11_reserve 40 = .ok (.aload_n 0, 1) := by decide +kernel
theorem dX11_reserve_41 : decode cX11_reserve 41 = .ok (.getfield 68, 3) := by decide +kernel
theorem dX11_reserve_44 : decode cX11_reserve 44 = .ok (.invokevirtual 223, 3) := by decide +kernel
theorem glV_RX11_223 : GLV RX11 223 yX5_push RX5 cX5_push 3 (some .boolean) 1 := ⟨⟨(mT4 16 rfl rfl), (mT3 111 rfl rfl), (mT3 112 rfl rfl), (mT1 5 rfl rfl), (mT3 113 rfl rfl)⟩, by decide +kernel⟩
theorem dX11_reserve_47 : decode cX11_reserve 47 = .ok (.ifCond .eq 18, 3) := by decide +kernel
theorem dX11_reserve_65 : decode cX11_reserve 65 = .ok (.bipush (-2), 2) := by decide +kernel
theorem dX11_reserve_67 : decode cX11_reserve 67 = .ok (.ireturn, 1) := by decide +kernel
theorem dX11_reserve_50 : decode cX11_reserve 50 = .ok (.aload_n 0, 1) := by decide +kernel
theorem dX11_reserve_51 : decode cX11_reserve 51 = .ok (.getfield 10, 3) := by decide +kernel
theorem dX11_reserve_54 : decode cX11_reserve 54 = .ok (.getfield 122, 3) := by decide +kernel
theorem dX11_reserve_57 : decode cX11_reserve 57 = .ok (.invokevirtual 126, 3) := by decide +kernel
theorem dX11_reserve_60 : decode cX11_reserve 60 = .ok (.iconst 1, 1) := by decide +kernel
theorem dX11_reserve_61 : decode cX11_reserve 61 = .ok (.isub, 1) := by decide +kernel
theorem dX11_reserve_62 : decode cX11_reserve 62 = .ok (.goto 5, 3) := by decide +kernel
theorem dX11_reserve_29 : decode cX11_reserve 29 = .ok (.sipush (-1000), 3) := by decide +kernel
theorem dX11_reserve_32 : decode cX11_reserve 32 = .ok (.ireturn, 1) := by decide +kernel
theorem dX11_reserve_9 : decode cX11_reserve 9 = .ok (.bipush (-4), 2) := by decide +kernel
theorem dX11_reserve_11 : decode cX11_reserve 11 = .ok (.ireturn, 1) := by decide +kernel
set_option maxRecDepth 100000 in
set_option maxHeartbeats 4000000 in
theorem sX11_reserve_1 (l : Launch) (D : va_G) (Y : Nat → ClassId) (h0 : Nat) (h1 : Nat) (h2 : Nat) (h3 : Nat) (h4 : Nat) (h5 : Nat) (g0 : Nat) (g1 : Nat) (g2 : Nat) (g3 : Nat) (g4 : Nat) (g5 : Nat) (g6 : Nat) (g7 : Nat) (g8 : Nat) (g9 : Nat) (g10 : Nat) (g11 : Nat) (g12 : Nat) (g13 : Nat) (g14 : Nat) (g15 : Nat) (g16 : Nat) (p0 : Int64) (p1 : Int32) (p2 : Int32) (f0 : Nat → Int64) (p3 : Int32) (f1 : Nat → Int64) (sz : Nat) : Met l yX11_reserve (WSm yX11_reserve cX11_reserve 1 (some .int)) (mkR 2 0 0 51) (PreG EX D Y [.ref h0] [(h0, oC 12 [.ref h1, .ref g0, .ref g1, .ref g2, .ref g3, .ref g4, .ref g5, .ref g6, .ref g7, .long p0]), (h1, oC 2 [.ref g8, .ref g9, .ref g10, .ref g11, .ref h2, .ref g12, .ref g13, .ref h4, .ref g14, .ref g15, .ref g16, .int p1]), (h2, oC 7 [.ref h3, .int p2]), (h3, aJ Y 6 f0), (h4, oC 7 [.ref h5, .int p3]), (h5, aJ Y 80 f1)] sz) (QI D (fun (_ : Int32) (_ : UU) => True) (fun (u : UU) => [(h0, oC 12 [.ref h1, .ref g0, .ref g1, .ref g2, .ref g3, .ref g4, .ref g5, .ref g6, .ref g7, .long p0]), (h1, oC 2 [.ref g8, .ref g9, .ref g10, .ref g11, .ref h2, .ref g12, .ref g13, .ref h4, .ref g14, .ref g15, .ref g16, .int p1]), (h2, oC 7 [.ref h3, .int (u.1 0)]), (h3, aJ Y 6 (u.2.2.2.1 0)), (h4, oC 7 [.ref h5, .int p3]), (h5, aJ Y 80 f1)]) (va_A [(h0, oC 12 [.ref h1, .ref g0, .ref g1, .ref g2, .ref g3, .ref g4, .ref g5, .ref g6, .ref g7, .long p0]), (h1, oC 2 [.ref g8, .ref g9, .ref g10, .ref g11, .ref h2, .ref g12, .ref g13, .ref h4, .ref g14, .ref g15, .ref g16, .int p1]), (h2, oC 7 [.ref h3, .int p2]), (h3, aJ Y 6 f0), (h4, oC 7 [.ref h5, .int p3]), (h5, aJ Y 80 f1)] sz)) 0 0 (va_A [(h0, oC 12 [.ref h1, .ref g0, .ref g1, .ref g2, .ref g3, .ref g4, .ref g5, .ref g6, .ref g7, .long p0]), (h1, oC 2 [.ref g8, .ref g9, .ref g10, .ref g11, .ref h2, .ref g12, .ref g13, .ref h4, .ref g14, .ref g15, .ref g16, .int p1]), (h2, oC 7 [.ref h3, .int p2]), (h3, aJ Y 6 f0), (h4, oC 7 [.ref h5, .int p3]), (h5, aJ Y 80 f1)] sz) :=
  gmet_of (by decide +kernel) (Nat.le_of_ble_eq_true rfl) (fun p e s m args below meth c B EB hsz => by
    have B : VB p s m args meth c D Y (va_A [(h0, oC 12 [.ref h1, .ref g0, .ref g1, .ref g2, .ref g3, .ref g4, .ref g5, .ref g6, .ref g7, .long p0]), (h1, oC 2 [.ref g8, .ref g9, .ref g10, .ref g11, .ref h2, .ref g12, .ref g13, .ref h4, .ref g14, .ref g15, .ref g16, .int p1]), (h2, oC 7 [.ref h3, .int p2]), (h3, aJ Y 6 f0), (h4, oC 7 [.ref h5, .int p3]), (h5, aJ Y 80 f1)] sz) cX11_reserve 1 RX11 (some .int) := B
    refine V_aload_n 0 B dX11_reserve_0 0 rfl ?_
    refine V_get 1 B gf_RX11_68 0 rfl rfl dX11_reserve_1 ?_
    refine V_lconst 4 B (v := 0) dX11_reserve_4 (by decide +kernel) ?_
    refine V_lcmp 5 B dX11_reserve_5 rfl ?_
    refine V_nmi (fun j0 _ => ?_)
    refine V_if_ne 6 B 12 dX11_reserve_6 (by decide) (fun k1 => ?_) (fun k1 => ?_)
    ·
      refine V_aload_n 12 B dX11_reserve_12 0 rfl ?_
      refine V_get 13 B gf_RX11_10 0 rfl rfl dX11_reserve_13 ?_
      refine V_get 16 B gf_RX11_170 1 rfl rfl dX11_reserve_16 ?_
      refine V_aload_n 19 B dX11_reserve_19 0 rfl ?_
      refine V_get 20 B gf_RX11_68 0 rfl rfl dX11_reserve_20 ?_
      refine V_gvi 23 B envX EB (st := []) (As := [.long p0]) (fun sz => sX5_hasClash_2 l D Y h4 h5 p3 f1 p0 sz) glV_RX11_219 ⟨rfl, rfl⟩ ⟨(Nat.le_of_ble_eq_true rfl), (Nat.le_of_ble_eq_true rfl)⟩ ⟨(Nat.le_of_ble_eq_true rfl), (Nat.le_of_ble_eq_true rfl)⟩ [4, 0] rfl 7 0 rfl rfl rfl rfl (Nat.le_of_ble_eq_true rfl) rfl (fun _ _ _ => rfl) dX11_reserve_23 (fun j2 u3 w4 => ?_)
      refine V_ws [(h0, oC 12 [.ref h1, .ref g0, .ref g1, .ref g2, .ref g3, .ref g4, .ref g5, .ref g6, .ref g7, .long p0]), (h1, oC 2 [.ref g8, .ref g9, .ref g10, .ref g11, .ref h2, .ref g12, .ref g13, .ref h4, .ref g14, .ref g15, .ref g16, .int p1]), (h2, oC 7 [.ref h3, .int p2]), (h3, aJ Y 6 f0), (h4, oC 7 [.ref h5, .int p3]), (h5, aJ Y 80 f1)] rfl ?_
      rcases w4 with rfl | rfl
      ·
        refine V_if_eq_t 26 B 33 dX11_reserve_26 (by decide) (by decide +kernel) ?_
        refine V_aload_n 33 B dX11_reserve_33 0 rfl ?_
        refine V_get 34 B gf_RX11_10 0 rfl rfl dX11_reserve_34 ?_
        refine V_get 37 B gf_RX11_122 1 rfl rfl dX11_reserve_37 ?_
        refine V_aload_n 40 B dX11_reserve_40 0 rfl ?_
        refine V_get 41 B gf_RX11_68 0 rfl rfl dX11_reserve_41 ?_
        refine V_gvi 44 B envX EB (st := []) (As := [.long p0]) (fun sz => sX5_push_2 l D Y h2 h3 p2 f0 p0 sz) glV_RX11_223 ⟨rfl, rfl⟩ ⟨(Nat.le_of_ble_eq_true rfl), (Nat.le_of_ble_eq_true rfl)⟩ ⟨(Nat.le_of_ble_eq_true rfl), (Nat.le_of_ble_eq_true rfl)⟩ [2, 0] rfl 7 0 rfl rfl rfl rfl (Nat.le_of_ble_eq_true rfl) rfl (fun _ _ _ => rfl) dX11_reserve_44 (fun j5 u6 w7 => ?_)
        refine V_ws [(h0, oC 12 [.ref h1, .ref g0, .ref g1, .ref g2, .ref g3, .ref g4, .ref g5, .ref g6, .ref g7, .long p0]), (h1, oC 2 [.ref g8, .ref g9, .ref g10, .ref g11, .ref h2, .ref g12, .ref g13, .ref h4, .ref g14, .ref g15, .ref g16, .int p1]), (h2, oC 7 [.ref h3, .int (u6.1 0)]), (h3, aJ Y 6 (u6.2.2.2.1 0)), (h4, oC 7 [.ref h5, .int p3]), (h5, aJ Y 80 f1)] rfl ?_
        rcases w7 with rfl | rfl
        ·
          refine V_if_eq_t 47 B 65 dX11_reserve_47 (by decide) (by decide +kernel) ?_
          refine V_bipush 65 B (v := (-2)) dX11_reserve_65 (by decide +kernel) ?_
          exact V_iret 67 B dX11_reserve_67 (mkU [(u6.1 0)] [] [] [(u6.2.2.2.1 0)] []) trivial rfl
        ·
          refine V_if_eq_f 47 B 65 dX11_reserve_47 (by decide) (by decide +kernel) ?_
          refine V_aload_n 50 B dX11_reserve_50 0 rfl ?_
          refine V_get 51 B gf_RX11_10 0 rfl rfl dX11_reserve_51 ?_
          refine V_get 54 B gf_RX11_122 1 rfl rfl dX11_reserve_54 ?_
          refine V_gvi 57 B envX EB (st := []) (As := []) (fun sz => sX5_size_1 l D Y h2 h3 (u6.1 0) sz) glV_RX11_126 ⟨rfl, rfl⟩ ⟨(Nat.le_of_ble_eq_true rfl), (Nat.le_of_ble_eq_true rfl)⟩ ⟨(Nat.le_of_ble_eq_true rfl), (Nat.le_of_ble_eq_true rfl)⟩ [2] rfl 7 0 rfl rfl rfl rfl (Nat.le_of_ble_eq_true rfl) rfl (fun _ _ _ => rfl) dX11_reserve_57 (fun j8 u9 w10 => ?_)
          refine V_ws [(h0, oC 12 [.ref h1, .ref g0, .ref g1, .ref g2, .ref g3, .ref g4, .ref g5, .ref g6, .ref g7, .long p0]), (h1, oC 2 [.ref g8, .ref g9, .ref g10, .ref g11, .ref h2, .ref g12, .ref g13, .ref h4, .ref g14, .ref g15, .ref g16, .int p1]), (h2, oC 7 [.ref h3, .int (u6.1 0)]), (h3, aJ Y 6 (u6.2.2.2.1 0)), (h4, oC 7 [.ref h5, .int p3]), (h5, aJ Y 80 f1)] rfl ?_
          refine V_iconst 60 B (v := 1) dX11_reserve_60 (by decide +kernel) ?_
          refine V_isub 61 B dX11_reserve_61 rfl ?_
          refine V_nmi (fun j11 _ => ?_)
          refine V_goto 62 B 67 dX11_reserve_62 (by decide) ?_
          exact V_iret 67 B dX11_reserve_67 (mkU [(u6.1 0)] [] [] [(u6.2.2.2.1 0)] []) trivial rfl
      ·
        refine V_if_eq_f 26 B 33 dX11_reserve_26 (by decide) (by decide +kernel) ?_
        refine V_sipush 29 B (v := (-1000)) dX11_reserve_29 (by decide +kernel) ?_
        exact V_iret 32 B dX11_reserve_32 (mkU [p2] [] [] [f0] []) trivial rfl
    ·
      obtain rfl : j0 = 0 := k1
      refine V_bipush 9 B (v := (-4)) dX11_reserve_9 (by decide +kernel) ?_
      exact V_iret 11 B dX11_reserve_11 (mkU [p2] [] [] [f0] []) trivial rfl)
theorem dX11_reservedStroke_0 : decode cX11_reservedStroke 0 = .ok (.iload_n 1, 1) := by decide +kernel
theorem dX11_reservedStroke_1 : decode cX11_reservedStroke 1 = .ok (.ifCond .lt 17, 3) := by decide +kernel
theorem dX11_reservedStroke_18 : decode cX11_reservedStroke 18 = .ok (.new 225, 3) := by decide +kernel
theorem gt_RX11_225_227_229 : GT RX11 225 227 229 "java/lang/IndexOutOfBoundsException" "no such reserved sequence" ["java/lang/RuntimeException", "java/lang/Exception"] := ⟨rfl, (mT5 136 rfl rfl), (mT1 23 rfl rfl), List.mem_of_getElem? (i := 1) rfl, by decide +kernel, by decide +kernel, List.mem_of_getElem? (i := 1) rfl, gta_229⟩
theorem dX11_reservedStroke_21 : decode cX11_reservedStroke 21 = .ok (.dup, 1) := by decide +kernel
theorem dX11_reservedStroke_22 : decode cX11_reservedStroke 22 = .ok (.ldc 227, 2) := by decide +kernel
theorem dX11_reservedStroke_24 : decode cX11_reservedStroke 24 = .ok (.invokespecial 229, 3) := by decide +kernel
theorem dX11_reservedStroke_27 : decode cX11_reservedStroke 27 = .ok (.athrow, 1) := by decide +kernel
theorem dX11_reservedStroke_4 : decode cX11_reservedStroke 4 = .ok (.iload_n 1, 1) := by decide +kernel
theorem dX11_reservedStroke_5 : decode cX11_reservedStroke 5 = .ok (.aload_n 0, 1) := by decide +kernel
theorem dX11_reservedStroke_6 : decode cX11_reservedStroke 6 = .ok (.getfield 10, 3) := by decide +kernel
theorem dX11_reservedStroke_9 : decode cX11_reservedStroke 9 = .ok (.getfield 122, 3) := by decide +kernel
theorem dX11_reservedStroke_12 : decode cX11_reservedStroke 12 = .ok (.invokevirtual 126, 3) := by decide +kernel
theorem dX11_reservedStroke_15 : decode cX11_reservedStroke 15 = .ok (.if_icmp .lt 13, 3) := by decide +kernel
theorem dX11_reservedStroke_28 : decode cX11_reservedStroke 28 = .ok (.aload_n 0, 1) := by decide +kernel
theorem dX11_reservedStroke_29 : decode cX11_reservedStroke 29 = .ok (.getfield 10, 3) := by decide +kernel
theorem dX11_reservedStroke_32 : decode cX11_reservedStroke 32 = .ok (.getfield 122, 3) := by decide +kernel
theorem dX11_reservedStroke_35 : decode cX11_reservedStroke 35 = .ok (.iload_n 1, 1) := by decide +kernel
theorem dX11_reservedStroke_36 : decode cX11_reservedStroke 36 = .ok (.invokevirtual 173, 3) := by decide +kernel
set_option maxRecDepth 100000 in
set_option maxHeartbeats 4000000 in
theorem sX5_at_2 (l : Launch) (D : va_G) (Y : Nat → ClassId) (h0 : Nat) (h1 : Nat) (p0 : Int32) (f0 : Nat → Int64) (p1 : Int32) (sz : Nat) : Met l yX5_at (WSm yX5_at cX5_at 2 (some .long)) (mkR 0 0 0 0) (PreG EX D Y [.ref h0, .int p1] [(h0, oC 7 [.ref h1, .int p0]), (h1, aJ Y 6 f0)] sz) (QJ D (fun (_ : Int64) (_ : UU) => True) (fun (u : UU) => [(h0, oC 7 [.ref h1, .int p0]), (h1, aJ Y 6 f0)]) (va_A [(h0, oC 7 [.ref h1, .int p0]), (h1, aJ Y 6 f0)] sz)) 0 0 (va_A [(h0, oC 7 [.ref h1, .int p0]), (h1, aJ Y 6 f0)] sz) :=
  gmet_of (by decide +kernel) (Nat.le_of_ble_eq_true rfl) (fun p e s m args below meth c B EB hsz => by
    have B : VB p s m args meth c D Y (va_A [(h0, oC 7 [.ref h1, .int p0]), (h1, aJ Y 6 f0)] sz) cX5_at 2 RX5 (some .long) := B
    refine V_iload_n 0 B dX5_at_0 1 rfl ?_
    refine V_if_lt 1 B 30 dX5_at_1 (by decide) (fun k0 => ?_) (fun k0 => ?_)
    ·
      refine V_lconst 30 B (v := 0) dX5_at_30 (by decide +kernel) ?_
      exact V_lret 31 B dX5_at_31 (mkU [] [] [] [] []) trivial rfl
    ·
      refine V_iload_n 4 B dX5_at_4 1 rfl ?_
      refine V_aload_n 5 B dX5_at_5 0 rfl ?_
      refine V_get 6 B gf_RX5_19 0 rfl rfl dX5_at_6 ?_
      refine V_icmp_ge 9 B 30 dX5_at_9 (by decide) (fun k1 => ?_) (fun k1 => ?_)
      ·
        refine V_lconst 30 B (v := 0) dX5_at_30 (by decide +kernel) ?_
        exact V_lret 31 B dX5_at_31 (mkU [] [] [] [] []) trivial rfl
      ·
        refine V_iload_n 12 B dX5_at_12 1 rfl ?_
        refine V_aload_n 13 B dX5_at_13 0 rfl ?_
        refine V_get 14 B gf_RX5_13 0 rfl rfl dX5_at_14 ?_
        refine V_alenJ 17 B (v := 6) 1 rfl (by decide +kernel) dX5_at_17 ?_
        refine V_icmp_ge 18 B 30 dX5_at_18 (by decide) (fun k2 => ?_) (fun k2 => ?_)
        ·
          refine V_lconst 30 B (v := 0) dX5_at_30 (by decide +kernel) ?_
          exact V_lret 31 B dX5_at_31 (mkU [] [] [] [] []) trivial rfl
        ·
          refine V_aload_n 21 B dX5_at_21 0 rfl ?_
          refine V_get 22 B gf_RX5_13 0 rfl rfl dX5_at_22 ?_
          refine V_iload_n 25 B dX5_at_25 1 rfl ?_
          refine V_lald 26 B 1 rfl (vpin_b (b_nlt k0 (n := 0) (by decide +kernel)) (b_nge k2 (n := 5) (by decide +kernel)) (by decide)) dX5_at_26 rfl ?_
          refine V_nml (fun o3 _ => ?_)
          refine V_goto 27 B 31 dX5_at_27 (by decide) ?_
          exact V_lret 31 B dX5_at_31 (mkU [] [] [] [] []) trivial rfl)
theorem dX11_reservedStroke_39 : decode cX11_reservedStroke 39 = .ok (.iload_n 2, 1) := by decide +kernel
theorem dX11_reservedStroke_40 : decode cX11_reservedStroke 40 = .ok (.invokestatic 163, 3) := by decide +kernel
theorem dX11_reservedStroke_43 : decode cX11_reservedStroke 43 = .ok (.ireturn, 1) := by decide +kernel
set_option maxRecDepth 100000 in
set_option maxHeartbeats 4000000 in
theorem sX11_reservedStroke_1 (l : Launch) (hl9 : l.stackTraces = false) (D : va_G) (Y : Nat → ClassId) (h0 : Nat) (h1 : Nat) (h2 : Nat) (h3 : Nat) (g0 : Nat) (g1 : Nat) (g2 : Nat) (g3 : Nat) (g4 : Nat) (g5 : Nat) (g6 : Nat) (g7 : Nat) (g8 : Nat) (g9 : Nat) (g10 : Nat) (g11 : Nat) (g12 : Nat) (g13 : Nat) (g14 : Nat) (g15 : Nat) (g16 : Nat) (g17 : Nat) (p0 : Int64) (p1 : Int32) (p2 : Int32) (f0 : Nat → Int64) (p3 : Int32) (p4 : Int32) (sz : Nat) : vx_Met l yX11_reservedStroke (WSm yX11_reservedStroke cX11_reservedStroke 3 (some .int)) (mkR 6 1 6 82) (PreX D Y [.ref h0, .int p3, .int p4] [(h0, oC 12 [.ref h1, .ref g0, .ref g1, .ref g2, .ref g3, .ref g4, .ref g5, .ref g6, .ref g7, .long p0]), (h1, oC 2 [.ref g8, .ref g9, .ref g10, .ref g11, .ref h2, .ref g12, .ref g13, .ref g14, .ref g15, .ref g16, .ref g17, .int p1]), (h2, oC 7 [.ref h3, .int p2]), (h3, aJ Y 6 f0)] sz) (QI D (fun (_ : Int32) (_ : UU) => True) (fun (u : UU) => [(h0, oC 12 [.ref h1, .ref g0, .ref g1, .ref g2, .ref g3, .ref g4, .ref g5, .ref g6, .ref g7, .long p0]), (h1, oC 2 [.ref g8, .ref g9, .ref g10, .ref g11, .ref h2, .ref g12, .ref g13, .ref g14, .ref g15, .ref g16, .ref g17, .int p1]), (h2, oC 7 [.ref h3, .int p2]), (h3, aJ Y 6 f0)]) (va_A [(h0, oC 12 [.ref h1, .ref g0, .ref g1, .ref g2, .ref g3, .ref g4, .ref g5, .ref g6, .ref g7, .long p0]), (h1, oC 2 [.ref g8, .ref g9, .ref g10, .ref g11, .ref h2, .ref g12, .ref g13, .ref g14, .ref g15, .ref g16, .ref g17, .int p1]), (h2, oC 7 [.ref h3, .int p2]), (h3, aJ Y 6 f0)] sz)) (XW D (fun (E : String) (_ : UU) => E = "java/lang/IndexOutOfBoundsException") (fun (u : UU) => [(h0, oC 12 [.ref h1, .ref g0, .ref g1, .ref g2, .ref g3, .ref g4, .ref g5, .ref g6, .ref g7, .long p0]), (h1, oC 2 [.ref g8, .ref g9, .ref g10, .ref g11, .ref h2, .ref g12, .ref g13, .ref g14, .ref g15, .ref g16, .ref g17, .int p1]), (h2, oC 7 [.ref h3, .int p2]), (h3, aJ Y 6 f0)]) (va_A [(h0, oC 12 [.ref h1, .ref g0, .ref g1, .ref g2, .ref g3, .ref g4, .ref g5, .ref g6, .ref g7, .long p0]), (h1, oC 2 [.ref g8, .ref g9, .ref g10, .ref g11, .ref h2, .ref g12, .ref g13, .ref g14, .ref g15, .ref g16, .ref g17, .int p1]), (h2, oC 7 [.ref h3, .int p2]), (h3, aJ Y 6 f0)] sz)) 1 6 (va_A [(h0, oC 12 [.ref h1, .ref g0, .ref g1, .ref g2, .ref g3, .ref g4, .ref g5, .ref g6, .ref g7, .long p0]), (h1, oC 2 [.ref g8, .ref g9, .ref g10, .ref g11, .ref h2, .ref g12, .ref g13, .ref g14, .ref g15, .ref g16, .ref g17, .int p1]), (h2, oC 7 [.ref h3, .int p2]), (h3, aJ Y 6 f0)] sz) :=
  xmet_of (by decide +kernel) (Nat.le_of_ble_eq_true rfl) (fun p e s m args below meth c B EB hout hsz => by
    have B : VB p s m args meth c D Y (va_A [(h0, oC 12 [.ref h1, .ref g0, .ref g1, .ref g2, .ref g3, .ref g4, .ref g5, .ref g6, .ref g7, .long p0]), (h1, oC 2 [.ref g8, .ref g9, .ref g10, .ref g11, .ref h2, .ref g12, .ref g13, .ref g14, .ref g15, .ref g16, .ref g17, .int p1]), (h2, oC 7 [.ref h3, .int p2]), (h3, aJ Y 6 f0)] sz) cX11_reservedStroke 3 RX11 (some .int) := B
    refine V_iload_n 0 B dX11_reservedStroke_0 1 rfl ?_
    refine V_if_lt 1 B 18 dX11_reservedStroke_1 (by decide) (fun k0 => ?_) (fun k0 => ?_)
    ·
      exact V_throwS 18 B EB hl9 gt_RX11_225_227_229 hout dX11_reservedStroke_18 dX11_reservedStroke_21 dX11_reservedStroke_22 dX11_reservedStroke_24 dX11_reservedStroke_27 (Nat.le_of_ble_eq_true rfl) (Nat.le_of_ble_eq_true rfl) (Nat.le_of_ble_eq_true rfl) (Nat.le_of_ble_eq_true rfl) (Nat.le_of_ble_eq_true rfl) (Nat.le_of_ble_eq_true rfl) (mkU [] [] [] [] []) rfl rfl
    ·
      refine V_iload_n 4 B dX11_reservedStroke_4 1 rfl ?_
      refine V_aload_n 5 B dX11_reservedStroke_5 0 rfl ?_
      refine V_get 6 B gf_RX11_10 0 rfl rfl dX11_reservedStroke_6 ?_
      refine V_get 9 B gf_RX11_122 1 rfl rfl dX11_reservedStroke_9 ?_
      refine V_gvi 12 B envX EB (st := [.int p3]) (As := []) (fun sz => sX5_size_1 l D Y h2 h3 p2 sz) glV_RX11_126 ⟨rfl, rfl⟩ ⟨(Nat.le_of_ble_eq_true rfl), (Nat.le_of_ble_eq_true rfl)⟩ ⟨(Nat.le_of_ble_eq_true rfl), (Nat.le_of_ble_eq_true rfl)⟩ [2] rfl 7 0 rfl rfl rfl rfl (Nat.le_of_ble_eq_true rfl) rfl (fun _ _ _ => rfl) dX11_reservedStroke_12 (fun j1 u2 w3 => ?_)
      refine V_ws [(h0, oC 12 [.ref h1, .ref g0, .ref g1, .ref g2, .ref g3, .ref g4, .ref g5, .ref g6, .ref g7, .long p0]), (h1, oC 2 [.ref g8, .ref g9, .ref g10, .ref g11, .ref h2, .ref g12, .ref g13, .ref g14, .ref g15, .ref g16, .ref g17, .int p1]), (h2, oC 7 [.ref h3, .int p2]), (h3, aJ Y 6 f0)] rfl ?_
      refine V_icmp_lt 15 B 28 dX11_reservedStroke_15 (by decide) (fun k4 => ?_) (fun k4 => ?_)
      ·
        refine V_aload_n 28 B dX11_reservedStroke_28 0 rfl ?_
        refine V_get 29 B gf_RX11_10 0 rfl rfl dX11_reservedStroke_29 ?_
        refine V_get 32 B gf_RX11_122 1 rfl rfl dX11_reservedStroke_32 ?_
        refine V_iload_n 35 B dX11_reservedStroke_35 1 rfl ?_
        refine V_gvl 36 B envX EB (st := []) (As := [.int p3]) (fun sz => sX5_at_2 l D Y h2 h3 p2 f0 p3 sz) glV_RX11_173 ⟨rfl, rfl⟩ ⟨(Nat.le_of_ble_eq_true rfl), (Nat.le_of_ble_eq_true rfl)⟩ ⟨(Nat.le_of_ble_eq_true rfl), (Nat.le_of_ble_eq_true rfl)⟩ [2, 0] rfl 7 0 rfl rfl rfl rfl (Nat.le_of_ble_eq_true rfl) rfl (fun _ _ _ => rfl) dX11_reservedStroke_36 (fun o5 u6 w7 => ?_)
        refine V_ws [(h0, oC 12 [.ref h1, .ref g0, .ref g1, .ref g2, .ref g3, .ref g4, .ref g5, .ref g6, .ref g7, .long p0]), (h1, oC 2 [.ref g8, .ref g9, .ref g10, .ref g11, .ref h2, .ref g12, .ref g13, .ref g14, .ref g15, .ref g16, .ref g17, .int p1]), (h2, oC 7 [.ref h3, .int p2]), (h3, aJ Y 6 f0)] rfl ?_
        refine V_iload_n 39 B dX11_reservedStroke_39 2 rfl ?_
        refine V_gsi 40 B envX EB (st := []) (As := [.long o5, .int p4]) (fun sz => sX6_strokeAt_1 l D Y  o5 p4 sz) glS_RX11_163 ⟨rfl, rfl⟩ ⟨(Nat.le_of_ble_eq_true rfl), (Nat.le_of_ble_eq_true rfl)⟩ ⟨(Nat.le_of_ble_eq_true rfl), (Nat.le_of_ble_eq_true rfl)⟩ [] rfl rfl (Nat.le_of_ble_eq_true rfl) rfl (fun _ _ _ => rfl) dX11_reservedStroke_40 (fun j8 u9 w10 => ?_)
        refine V_ws [(h0, oC 12 [.ref h1, .ref g0, .ref g1, .ref g2, .ref g3, .ref g4, .ref g5, .ref g6, .ref g7, .long p0]), (h1, oC 2 [.ref g8, .ref g9, .ref g10, .ref g11, .ref h2, .ref g12, .ref g13, .ref g14, .ref g15, .ref g16, .ref g17, .int p1]), (h2, oC 7 [.ref h3, .int p2]), (h3, aJ Y 6 f0)] rfl ?_
        refine V_xret ?_
        refine V_widen (k := 1) (n := 6) (Nat.le_of_ble_eq_true rfl) (Nat.le_of_ble_eq_true rfl) ?_
        exact V_iret 43 B dX11_reservedStroke_43 (mkU [] [] [] [] []) trivial rfl
      ·
        exact V_throwS 18 B EB hl9 gt_RX11_225_227_229 hout dX11_reservedStroke_18 dX11_reservedStroke_21 dX11_reservedStroke_22 dX11_reservedStroke_24 dX11_reservedStroke_27 (Nat.le_of_ble_eq_true rfl) (Nat.le_of_ble_eq_true rfl) (Nat.le_of_ble_eq_true rfl) (Nat.le_of_ble_eq_true rfl) (Nat.le_of_ble_eq_true rfl) (Nat.le_of_ble_eq_true rfl) (mkU [] [] [] [] []) rfl rfl)
theorem dX11_bind_0 : decode cX11_bind 0 = .ok (.aload_n 0, 1) := by decide +kernel
theorem dX11_bind_1 : decode cX11_bind 1 = .ok (.iload_n 1, 1) := by decide +kernel
theorem dX11_bind_2 : decode cX11_bind 2 = .ok (.invokevirtual 180, 3) := by decide +kernel
theorem dX11_bind_5 : decode cX11_bind 5 = .ok (.aload_n 0, 1) := by decide +kernel
theorem dX11_bind_6 : decode cX11_bind 6 = .ok (.iload_n 2, 1) := by decide +kernel
theorem dX11_bind_7 : decode cX11_bind 7 = .ok (.invokevirtual 204, 3) := by decide +kernel
theorem dX11_bind_10 : decode cX11_bind 10 = .ok (.aload_n 0, 1) := by decide +kernel
theorem dX11_bind_11 : decode cX11_bind 11 = .ok (.getfield 68, 3) := by decide +kernel
theorem dX11_bind_14 : decode cX11_bind 14 = .ok (.lconst 0, 1) := by decide +kernel
theorem dX11_bind_15 : decode cX11_bind 15 = .ok (.lcmp, 1) := by decide +kernel
theorem dX11_bind_16 : decode cX11_bind 16 = .ok (.ifCond .ne 8, 3) := by decide +kernel
theorem dX11_bind_24 : decode cX11_bind 24 = .ok (.aload_n 0, 1) := by decide +kernel
theorem dX11_bind_25 : decode cX11_bind 25 = .ok (.getfield 10, 3) := by decide +kernel
theorem dX11_bind_28 : decode cX11_bind 28 = .ok (.iload_n 1, 1) := by decide +kernel
theorem dX11_bind_29 : decode cX11_bind 29 = .ok (.iload_n 2, 1) := by decide +kernel
theorem dX11_bind_30 : decode cX11_bind 30 = .ok (.aload_n 0, 1) := by decide +kernel
theorem dX11_bind_31 : decode cX11_bind 31 = .ok (.getfield 68, 3) := by decide +kernel
theorem dX11_bind_34 : decode cX11_bind 34 = .ok (.invokevirtual 230, 3) := by decide +kernel
theorem dX0_placeBinding_0 : decode cX0_placeBinding 0 = .ok (.aload_n 0, 1) := by decide +kernel
theorem dX0_placeBinding_1 : decode cX0_placeBinding 1 = .ok (.iload_n 1, 1) := by decide +kernel
theorem dX0_placeBinding_2 : decode cX0_placeBinding 2 = .ok (.lload_n 3, 1) := by decide +kernel
theorem dX0_placeBinding_3 : decode cX0_placeBinding 3 = .ok (.invokevirtual 126, 3) := by decide +kernel
theorem glV_RX0_126 : GLV RX0 126 yX0_isBarred RX0 cX0_isBarred 4 (some .boolean) 2 := ⟨⟨(mT4 216 rfl rfl), (mT3 120 rfl rfl), (mT3 121 rfl rfl), (mT1 2 rfl rfl), (mT3 122 rfl rfl)⟩, by decide +kernel⟩
theorem dX0_placeBinding_6 : decode cX0_placeBinding 6 = .ok (.ifCond .eq 7, 3) := by decide +kernel
theorem dX0_placeBinding_13 : decode cX0_placeBinding 13 = .ok (.aload_n 0, 1) := by decide +kernel
theorem dX0_placeBinding_14 : decode cX0_placeBinding 14 = .ok (.getfield 36, 3) := by decide +kernel
theorem dX0_placeBinding_17 : decode cX0_placeBinding 17 = .ok (.invokevirtual 130, 3) := by decide +kernel
theorem glV_RX0_130 : GLV RX0 130 yX1_isFull RX1 cX1_isFull 1 (some .boolean) 0 := ⟨⟨(mT4 217 rfl rfl), (mT3 38 rfl rfl), (mT3 39 rfl rfl), (mT1 3 rfl rfl), (mT3 40 rfl rfl)⟩, by decide +kernel⟩
theorem dX0_placeBinding_20 : decode cX0_placeBinding 20 = .ok (.ifCond .eq 6, 3) := by decide +kernel
theorem dX0_placeBinding_26 : decode cX0_placeBinding 26 = .ok (.aload_n 0, 1) := by decide +kernel
theorem dX0_placeBinding_27 : decode cX0_placeBinding 27 = .ok (.iload_n 1, 1) := by decide +kernel
theorem dX0_placeBinding_28 : decode cX0_placeBinding 28 = .ok (.iload_n 2, 1) := by decide +kernel
theorem dX0_placeBinding_29 : decode cX0_placeBinding 29 = .ok (.lload_n 3, 1) := by decide +kernel
theorem dX0_placeBinding_30 : decode cX0_placeBinding 30 = .ok (.invokevirtual 134, 3) := by decide +kernel
theorem glV_RX0_134 : GLV RX0 134 yX0_appendBinding RX0 cX0_appendBinding 5 none 3 := ⟨⟨(mT4 218 rfl rfl), (mT3 143 rfl rfl), (mT3 144 rfl rfl), (mT1 2 rfl rfl), (mT3 145 rfl rfl)⟩, by decide +kernel⟩
theorem dX0_placeBinding_33 : decode cX0_placeBinding 33 = .ok (.aload_n 0, 1) := by decide +kernel
theorem dX0_placeBinding_34 : decode cX0_placeBinding 34 = .ok (.getfield 36, 3) := by decide +kernel
theorem dX0_placeBinding_37 : decode cX0_placeBinding 37 = .ok (.invokevirtual 91, 3) := by decide +kernel
theorem dX0_placeBinding_40 : decode cX0_placeBinding 40 = .ok (.iconst 1, 1) := by decide +kernel
theorem dX0_placeBinding_41 : decode cX0_placeBinding 41 = .ok (.isub, 1) := by decide +kernel
theorem dX0_placeBinding_42 : decode cX0_placeBinding 42 = .ok (.ireturn, 1) := by decide +kernel
theorem dX0_placeBinding_23 : decode cX0_placeBinding 23 = .ok (.bipush (-2), 2) := by decide +kernel
theorem dX0_placeBinding_25 : decode cX0_placeBinding 25 = .ok (.ireturn, 1) := by decide +kernel
theorem dX0_placeBinding_9 : decode cX0_placeBinding 9 = .ok (.sipush (-1000), 3) := by decide +kernel
theorem dX0_placeBinding_12 : decode cX0_placeBinding 12 = .ok (.ireturn, 1) := by decide +kernel
set_option maxRecDepth 100000 in
set_option maxHeartbeats 4000000 in
theorem sX0_placeBinding_1 (l : Launch) (D : va_G) (Y : Nat → ClassId) (h0 : Nat) (h1 : Nat) (h2 : Nat) (h3 : Nat) (h4 : Nat) (h5 : Nat) (h6 : Nat) (h7 : Nat) (h8 : Nat) (g0 : Nat) (g1 : Nat) (g2 : Nat) (g3 : Nat) (g4 : Nat) (g5 : Nat) (g6 : Nat) (p0 : Int32) (p1 : Int32) (f0 : Nat → Int64) (p2 : Int32) (f1 : Nat → Int32) (p3 : Int32) (f2 : Nat → Int32) (p4 : Int32) (f3 : Nat → Int64) (p5 : Int32) (p6 : Int32) (p7 : Int64) (sz : Nat) : Met l yX0_placeBinding (WSm yX0_placeBinding cX0_placeBinding 5 (some .int)) (mkR 4 0 0 100) (PreG EX D Y [.ref h0, .int p5, .int p6, .long p7] [(h0, oC 2 [.ref g0, .ref g1, .ref g2, .ref g3, .ref h1, .ref h3, .ref h5, .ref h7, .ref g4, .ref g5, .ref g6, .int p0]), (h1, oC 7 [.ref h2, .int p1]), (h2, aJ Y 6 f0), (h3, oC 3 [.ref h4, .int p2]), (h4, aI Y 80 f1), (h5, oC 3 [.ref h6, .int p3]), (h6, aI Y 80 f2), (h7, oC 7 [.ref h8, .int p4]), (h8, aJ Y 80 f3)] sz) (QI D (fun (_ : Int32) (_ : UU) => True) (fun (u : UU) => [(h0, oC 2 [.ref g0, .ref g1, .ref g2, .ref g3, .ref h1, .ref h3, .ref h5, .ref h7, .ref g4, .ref g5, .ref g6, .int p0]), (h1, oC 7 [.ref h2, .int p1]), (h2, aJ Y 6 f0), (h3, oC 3 [.ref h4, .int (u.1 0)]), (h4, aI Y 80 (u.2.2.1 0)), (h5, oC 3 [.ref h6, .int (u.1 1)]), (h6, aI Y 80 (u.2.2.1 1)), (h7, oC 7 [.ref h8, .int (u.1 2)]), (h8, aJ Y 80 (u.2.2.2.1 0))]) (va_A [(h0, oC 2 [.ref g0, .ref g1, .ref g2, .ref g3, .ref h1, .ref h3, .ref h5, .ref h7, .ref g4, .ref g5, .ref g6, .int p0]), (h1, oC 7 [.ref h2, .int p1]), (h2, aJ Y 6 f0), (h3, oC 3 [.ref h4, .int p2]), (h4, aI Y 80 f1), (h5, oC 3 [.ref h6, .int p3]), (h6, aI Y 80 f2), (h7, oC 7 [.ref h8, .int p4]), (h8, aJ Y 80 f3)] sz)) 0 0 (va_A [(h0, oC 2 [.ref g0, .ref g1, .ref g2, .ref g3, .ref h1, .ref h3, .ref h5, .ref h7, .ref g4, .ref g5, .ref g6, .int p0]), (h1, oC 7 [.ref h2, .int p1]), (h2, aJ Y 6 f0), (h3, oC 3 [.ref h4, .int p2]), (h4, aI Y 80 f1), (h5, oC 3 [.ref h6, .int p3]), (h6, aI Y 80 f2), (h7, oC 7 [.ref h8, .int p4]), (h8, aJ Y 80 f3)] sz) :=
  gmet_of (by decide +kernel) (Nat.le_of_ble_eq_true rfl) (fun p e s m args below meth c B EB hsz => by
    have B : VB p s m args meth c D Y (va_A [(h0, oC 2 [.ref g0, .ref g1, .ref g2, .ref g3, .ref h1, .ref h3, .ref h5, .ref h7, .ref g4, .ref g5, .ref g6, .int p0]), (h1, oC 7 [.ref h2, .int p1]), (h2, aJ Y 6 f0), (h3, oC 3 [.ref h4, .int p2]), (h4, aI Y 80 f1), (h5, oC 3 [.ref h6, .int p3]), (h6, aI Y 80 f2), (h7, oC 7 [.ref h8, .int p4]), (h8, aJ Y 80 f3)] sz) cX0_placeBinding 5 RX0 (some .int) := B
    refine V_aload_n 0 B dX0_placeBinding_0 0 rfl ?_
    refine V_iload_n 1 B dX0_placeBinding_1 1 rfl ?_
    refine V_lload_n 2 B dX0_placeBinding_2 3 rfl ?_
    refine V_gvi 3 B envX EB (st := []) (As := [.int p5, .long p7]) (fun sz => sX0_isBarred_1 l D Y h0 h1 h2 h3 h4 h7 h8 g0 g1 g2 g3 h5 g4 g5 g6 p0 p1 f0 p2 f1 p4 f3 p5 p7 sz) glV_RX0_126 ⟨rfl, rfl⟩ ⟨(Nat.le_of_ble_eq_true rfl), (Nat.le_of_ble_eq_true rfl)⟩ ⟨(Nat.le_of_ble_eq_true rfl), (Nat.le_of_ble_eq_true rfl)⟩ [0, 0, 0, 0, 0, 2, 0] rfl 2 0 rfl rfl rfl rfl (Nat.le_of_ble_eq_true rfl) rfl (fun _ _ _ => rfl) dX0_placeBinding_3 (fun j0 u1 w2 => ?_)
    refine V_ws [(h0, oC 2 [.ref g0, .ref g1, .ref g2, .ref g3, .ref h1, .ref h3, .ref h5, .ref h7, .ref g4, .ref g5, .ref g6, .int p0]), (h1, oC 7 [.ref h2, .int p1]), (h2, aJ Y 6 f0), (h3, oC 3 [.ref h4, .int p2]), (h4, aI Y 80 f1), (h5, oC 3 [.ref h6, .int p3]), (h6, aI Y 80 f2), (h7, oC 7 [.ref h8, .int p4]), (h8, aJ Y 80 f3)] rfl ?_
    rcases w2 with rfl | rfl
    ·
      refine V_if_eq_t 6 B 13 dX0_placeBinding_6 (by decide) (by decide +kernel) ?_
      refine V_aload_n 13 B dX0_placeBinding_13 0 rfl ?_
      refine V_get 14 B gf_RX0_36 0 rfl rfl dX0_placeBinding_14 ?_
      refine V_gvi 17 B envX EB (st := []) (As := []) (fun sz => sX1_isFull_2 l D Y h3 h4 p2 f1 sz) glV_RX0_130 ⟨rfl, rfl⟩ ⟨(Nat.le_of_ble_eq_true rfl), (Nat.le_of_ble_eq_true rfl)⟩ ⟨(Nat.le_of_ble_eq_true rfl), (Nat.le_of_ble_eq_true rfl)⟩ [3, 0] rfl 3 0 rfl rfl rfl rfl (Nat.le_of_ble_eq_true rfl) rfl (fun _ _ _ => rfl) dX0_placeBinding_17 (fun j3 u4 w5 => ?_)
      refine V_ws [(h0, oC 2 [.ref g0, .ref g1, .ref g2, .ref g3, .ref h1, .ref h3, .ref h5, .ref h7, .ref g4, .ref g5, .ref g6, .int p0]), (h1, oC 7 [.ref h2, .int p1]), (h2, aJ Y 6 f0), (h3, oC 3 [.ref h4, .int p2]), (h4, aI Y 80 f1), (h5, oC 3 [.ref h6, .int p3]), (h6, aI Y 80 f2), (h7, oC 7 [.ref h8, .int p4]), (h8, aJ Y 80 f3)] rfl ?_
      rcases w5 with rfl | rfl
      ·
        refine V_if_eq_t 20 B 26 dX0_placeBinding_20 (by decide) (by decide +kernel) ?_
        refine V_aload_n 26 B dX0_placeBinding_26 0 rfl ?_
        refine V_iload_n 27 B dX0_placeBinding_27 1 rfl ?_
        refine V_iload_n 28 B dX0_placeBinding_28 2 rfl ?_
        refine V_lload_n 29 B dX0_placeBinding_29 3 rfl ?_
        refine V_gvv 30 B envX EB (st := []) (As := [.int p5, .int p6, .long p7]) (fun sz => sX0_appendBinding_1 l D Y h0 h3 h4 h5 h6 h7 h8 g0 g1 g2 g3 h1 g4 g5 g6 p0 p2 f1 p3 f2 p4 f3 p5 p6 p7 sz) glV_RX0_134 ⟨rfl, rfl⟩ ⟨(Nat.le_of_ble_eq_true rfl), (Nat.le_of_ble_eq_true rfl)⟩ ⟨(Nat.le_of_ble_eq_true rfl), (Nat.le_of_ble_eq_true rfl)⟩ [0, 2, 0, 0, 0, 0, 0] rfl 2 0 rfl rfl rfl rfl (Nat.le_of_ble_eq_true rfl) rfl (fun _ _ => rfl) dX0_placeBinding_30 (fun u7 w8 => ?_)
        refine V_ws [(h0, oC 2 [.ref g0, .ref g1, .ref g2, .ref g3, .ref h1, .ref h3, .ref h5, .ref h7, .ref g4, .ref g5, .ref g6, .int p0]), (h1, oC 7 [.ref h2, .int p1]), (h2, aJ Y 6 f0), (h3, oC 3 [.ref h4, .int (u7.1 0)]), (h4, aI Y 80 (u7.2.2.1 0)), (h5, oC 3 [.ref h6, .int (u7.1 1)]), (h6, aI Y 80 (u7.2.2.1 1)), (h7, oC 7 [.ref h8, .int (u7.1 2)]), (h8, aJ Y 80 (u7.2.2.2.1 0))] rfl ?_
        refine V_aload_n 33 B dX0_placeBinding_33 0 rfl ?_
        refine V_get 34 B gf_RX0_36 0 rfl rfl dX0_placeBinding_34 ?_
        refine V_gvi 37 B envX EB (st := []) (As := []) (fun sz => sX1_size_1 l D Y h3 h4 (u7.1 0) sz) glV_RX0_91 ⟨rfl, rfl⟩ ⟨(Nat.le_of_ble_eq_true rfl), (Nat.le_of_ble_eq_true rfl)⟩ ⟨(Nat.le_of_ble_eq_true rfl), (Nat.le_of_ble_eq_true rfl)⟩ [3] rfl 3 0 rfl rfl rfl rfl (Nat.le_of_ble_eq_true rfl) rfl (fun _ _ _ => rfl) dX0_placeBinding_37 (fun j9 u10 w11 => ?_)
        refine V_ws [(h0, oC 2 [.ref g0, .ref g1, .ref g2, .ref g3, .ref h1, .ref h3, .ref h5, .ref h7, .ref g4, .ref g5, .ref g6, .int p0]), (h1, oC 7 [.ref h2, .int p1]), (h2, aJ Y 6 f0), (h3, oC 3 [.ref h4, .int (u7.1 0)]), (h4, aI Y 80 (u7.2.2.1 0)), (h5, oC 3 [.ref h6, .int (u7.1 1)]), (h6, aI Y 80 (u7.2.2.1 1)), (h7, oC 7 [.ref h8, .int (u7.1 2)]), (h8, aJ Y 80 (u7.2.2.2.1 0))] rfl ?_
        refine V_iconst 40 B (v := 1) dX0_placeBinding_40 (by decide +kernel) ?_
        refine V_isub 41 B dX0_placeBinding_41 rfl ?_
        refine V_nmi (fun j12 _ => ?_)
        exact V_iret 42 B dX0_placeBinding_42 (mkU [(u7.1 0), (u7.1 1), (u7.1 2)] [] [(u7.2.2.1 0), (u7.2.2.1 1)] [(u7.2.2.2.1 0)] []) trivial rfl
      ·
        refine V_if_eq_f 20 B 26 dX0_placeBinding_20 (by decide) (by decide +kernel) ?_
        refine V_bipush 23 B (v := (-2)) dX0_placeBinding_23 (by decide +kernel) ?_
        exact V_iret 25 B dX0_placeBinding_25 (mkU [p2, p3, p4] [] [f1, f2] [f3] []) trivial rfl
    ·
      refine V_if_eq_f 6 B 13 dX0_placeBinding_6 (by decide) (by decide +kernel) ?_
      refine V_sipush 9 B (v := (-1000)) dX0_placeBinding_9 (by decide +kernel) ?_
      exact V_iret 12 B dX0_placeBinding_12 (mkU [p2, p3, p4] [] [f1, f2] [f3] []) trivial rfl)
theorem glV_RX11_230 : GLV RX11 230 yX0_placeBinding RX0 cX0_placeBinding 5 (some .int) 3 := ⟨⟨(mT5 208 rfl rfl), (mT4 213 rfl rfl), (mT4 214 rfl rfl), (mT1 2 rfl rfl), (mT4 215 rfl rfl)⟩, by decide +kernel⟩
theorem dX11_bind_37 : decode cX11_bind 37 = .ok (.ireturn, 1) := by decide +kernel
theorem dX11_bind_19 : decode cX11_bind 19 = .ok (.bipush (-4), 2) := by decide +kernel
theorem dX11_bind_21 : decode cX11_bind 21 = .ok (.goto 16, 3) := by decide +kernel
set_option maxRecDepth 100000 in
set_option maxHeartbeats 4000000 in
theorem sX11_bind_1 (l : Launch) (hl9 : l.stackTraces = false) (D : va_G) (Y : Nat → ClassId) (h0 : Nat) (h1 : Nat) (h2 : Nat) (h3 : Nat) (h4 : Nat) (h5 : Nat) (h6 : Nat) (h7 : Nat) (h8 : Nat) (h9 : Nat) (h10 : Nat) (h11 : Nat) (g0 : Nat) (g1 : Nat) (g2 : Nat) (g3 : Nat) (g4 : Nat) (g5 : Nat) (g6 : Nat) (g7 : Nat) (g8 : Nat) (g9 : Nat) (g10 : Nat) (g11 : Nat) (g12 : Nat) (g13 : Nat) (g14 : Nat) (p0 : Int64) (p1 : Int32) (p2 : Int32) (p3 : Int32) (p4 : Int32) (f0 : Nat → Int64) (p5 : Int32) (f1 : Nat → Int32) (p6 : Int32) (f2 : Nat → Int32) (p7 : Int32) (f3 : Nat → Int64) (p8 : Int32) (p9 : Int32) (sz : Nat) : vx_Met l yX11_bind (WSm yX11_bind cX11_bind 3 (some .int)) (mkR 7 2 12 124) (PreX D Y [.ref h0, .int p8, .int p9] [(h0, oC 12 [.ref h1, .ref g0, .ref g1, .ref g2, .ref g3, .ref g4, .ref g5, .ref g6, .ref g7, .long p0]), (h1, oC 2 [.ref h2, .ref h3, .ref g8, .ref g9, .ref h4, .ref h6, .ref h8, .ref h10, .ref g10, .ref g11, .ref g12, .int p1]), (h2, oC 3 [.ref g13, .int p2]), (h3, oC 3 [.ref g14, .int p3]), (h4, oC 7 [.ref h5, .int p4]), (h5, aJ Y 6 f0), (h6, oC 3 [.ref h7, .int p5]), (h7, aI Y 80 f1), (h8, oC 3 [.ref h9, .int p6]), (h9, aI Y 80 f2), (h10, oC 7 [.ref h11, .int p7]), (h11, aJ Y 80 f3)] sz) (QI D (fun (_ : Int32) (_ : UU) => True) (fun (u : UU) => [(h0, oC 12 [.ref h1, .ref g0, .ref g1, .ref g2, .ref g3, .ref g4, .ref g5, .ref g6, .ref g7, .long p0]), (h1, oC 2 [.ref h2, .ref h3, .ref g8, .ref g9, .ref h4, .ref h6, .ref h8, .ref h10, .ref g10, .ref g11, .ref g12, .int p1]), (h2, oC 3 [.ref g13, .int p2]), (h3, oC 3 [.ref g14, .int p3]), (h4, oC 7 [.ref h5, .int p4]), (h5, aJ Y 6 f0), (h6, oC 3 [.ref h7, .int (u.1 0)]), (h7, aI Y 80 (u.2.2.1 0)), (h8, oC 3 [.ref h9, .int (u.1 1)]), (h9, aI Y 80 (u.2.2.1 1)), (h10, oC 7 [.ref h11, .int (u.1 2)]), (h11, aJ Y 80 (u.2.2.2.1 0))]) (va_A [(h0, oC 12 [.ref h1, .ref g0, .ref g1, .ref g2, .ref g3, .ref g4, .ref g5, .ref g6, .ref g7, .long p0]), (h1, oC 2 [.ref h2, .ref h3, .ref g8, .ref g9, .ref h4, .ref h6, .ref h8, .ref h10, .ref g10, .ref g11, .ref g12, .int p1]), (h2, oC 3 [.ref g13, .int p2]), (h3, oC 3 [.ref g14, .int p3]), (h4, oC 7 [.ref h5, .int p4]), (h5, aJ Y 6 f0), (h6, oC 3 [.ref h7, .int p5]), (h7, aI Y 80 f1), (h8, oC 3 [.ref h9, .int p6]), (h9, aI Y 80 f2), (h10, oC 7 [.ref h11, .int p7]), (h11, aJ Y 80 f3)] sz)) (XW D (fun (E : String) (_ : UU) => E = "java/lang/IndexOutOfBoundsException") (fun (u : UU) => [(h0, oC 12 [.ref h1, .ref g0, .ref g1, .ref g2, .ref g3, .ref g4, .ref g5, .ref g6, .ref g7, .long p0]), (h1, oC 2 [.ref h2, .ref h3, .ref g8, .ref g9, .ref h4, .ref h6, .ref h8, .ref h10, .ref g10, .ref g11, .ref g12, .int p1]), (h2, oC 3 [.ref g13, .int p2]), (h3, oC 3 [.ref g14, .int p3]), (h4, oC 7 [.ref h5, .int p4]), (h5, aJ Y 6 f0), (h6, oC 3 [.ref h7, .int (u.1 0)]), (h7, aI Y 80 (u.2.2.1 0)), (h8, oC 3 [.ref h9, .int (u.1 1)]), (h9, aI Y 80 (u.2.2.1 1)), (h10, oC 7 [.ref h11, .int (u.1 2)]), (h11, aJ Y 80 (u.2.2.2.1 0))]) (va_A [(h0, oC 12 [.ref h1, .ref g0, .ref g1, .ref g2, .ref g3, .ref g4, .ref g5, .ref g6, .ref g7, .long p0]), (h1, oC 2 [.ref h2, .ref h3, .ref g8, .ref g9, .ref h4, .ref h6, .ref h8, .ref h10, .ref g10, .ref g11, .ref g12, .int p1]), (h2, oC 3 [.ref g13, .int p2]), (h3, oC 3 [.ref g14, .int p3]), (h4, oC 7 [.ref h5, .int p4]), (h5, aJ Y 6 f0), (h6, oC 3 [.ref h7, .int p5]), (h7, aI Y 80 f1), (h8, oC 3 [.ref h9, .int p6]), (h9, aI Y 80 f2), (h10, oC 7 [.ref h11, .int p7]), (h11, aJ Y 80 f3)] sz)) 2 12 (va_A [(h0, oC 12 [.ref h1, .ref g0, .ref g1, .ref g2, .ref g3, .ref g4, .ref g5, .ref g6, .ref g7, .long p0]), (h1, oC 2 [.ref h2, .ref h3, .ref g8, .ref g9, .ref h4, .ref h6, .ref h8, .ref h10, .ref g10, .ref g11, .ref g12, .int p1]), (h2, oC 3 [.ref g13, .int p2]), (h3, oC 3 [.ref g14, .int p3]), (h4, oC 7 [.ref h5, .int p4]), (h5, aJ Y 6 f0), (h6, oC 3 [.ref h7, .int p5]), (h7, aI Y 80 f1), (h8, oC 3 [.ref h9, .int p6]), (h9, aI Y 80 f2), (h10, oC 7 [.ref h11, .int p7]), (h11, aJ Y 80 f3)] sz) :=
  xmet_of (by decide +kernel) (Nat.le_of_ble_eq_true rfl) (fun p e s m args below meth c B EB hout hsz => by
    have B : VB p s m args meth c D Y (va_A [(h0, oC 12 [.ref h1, .ref g0, .ref g1, .ref g2, .ref g3, .ref g4, .ref g5, .ref g6, .ref g7, .long p0]), (h1, oC 2 [.ref h2, .ref h3, .ref g8, .ref g9, .ref h4, .ref h6, .ref h8, .ref h10, .ref g10, .ref g11, .ref g12, .int p1]), (h2, oC 3 [.ref g13, .int p2]), (h3, oC 3 [.ref g14, .int p3]), (h4, oC 7 [.ref h5, .int p4]), (h5, aJ Y 6 f0), (h6, oC 3 [.ref h7, .int p5]), (h7, aI Y 80 f1), (h8, oC 3 [.ref h9, .int p6]), (h9, aI Y 80 f2), (h10, oC 7 [.ref h11, .int p7]), (h11, aJ Y 80 f3)] sz) cX11_bind 3 RX11 (some .int) := B
    refine V_aload_n 0 B dX11_bind_0 0 rfl ?_
    refine V_iload_n 1 B dX11_bind_1 1 rfl ?_
    refine V_xvv 2 B EB (st := []) (As := [.int p8]) (fun sz => sX11_needMode_1 l hl9 D Y h0 h1 h2 g0 g1 g2 g3 g4 g5 g6 g7 h3 g8 g9 h4 h6 h8 h10 g10 g11 g12 g13 p0 p1 p2 p8 sz) glV_RX11_180 ⟨rfl, rfl⟩ ⟨(Nat.le_of_ble_eq_true rfl), (Nat.le_of_ble_eq_true rfl)⟩ ⟨(Nat.le_of_ble_eq_true rfl), (Nat.le_of_ble_eq_true rfl)⟩ [0, 0, 0] rfl 12 0 rfl rfl rfl rfl (Nat.le_of_ble_eq_true rfl) rfl (fun _ _ => rfl) (fun _ _ _ => rfl) dX11_bind_2 (fun E u1 w2 => ?_) (fun u1 w2 => ?_)
    ·
      obtain rfl := w2
      exact VX_out 2 B hout (mkU [p5, p6, p7] [] [f1, f2] [f3] []) rfl rfl (Nat.le_of_ble_eq_true rfl) (Nat.le_of_ble_eq_true rfl)
    ·
      refine V_ws [(h0, oC 12 [.ref h1, .ref g0, .ref g1, .ref g2, .ref g3, .ref g4, .ref g5, .ref g6, .ref g7, .long p0]), (h1, oC 2 [.ref h2, .ref h3, .ref g8, .ref g9, .ref h4, .ref h6, .ref h8, .ref h10, .ref g10, .ref g11, .ref g12, .int p1]), (h2, oC 3 [.ref g13, .int p2]), (h3, oC 3 [.ref g14, .int p3]), (h4, oC 7 [.ref h5, .int p4]), (h5, aJ Y 6 f0), (h6, oC 3 [.ref h7, .int p5]), (h7, aI Y 80 f1), (h8, oC 3 [.ref h9, .int p6]), (h9, aI Y 80 f2), (h10, oC 7 [.ref h11, .int p7]), (h11, aJ Y 80 f3)] rfl ?_
      refine V_aload_n 5 B dX11_bind_5 0 rfl ?_
      refine V_iload_n 6 B dX11_bind_6 2 rfl ?_
      refine V_xvv 7 B EB (st := []) (As := [.int p9]) (fun sz => sX11_needCommand_1 l hl9 D Y h0 h1 h3 g0 g1 g2 g3 g4 g5 g6 g7 h2 g8 g9 h4 h6 h8 h10 g10 g11 g12 g14 p0 p1 p3 p9 sz) glV_RX11_204 ⟨rfl, rfl⟩ ⟨(Nat.le_of_ble_eq_true rfl), (Nat.le_of_ble_eq_true rfl)⟩ ⟨(Nat.le_of_ble_eq_true rfl), (Nat.le_of_ble_eq_true rfl)⟩ [0, 0, 1] rfl 12 0 rfl rfl rfl rfl (Nat.le_of_ble_eq_true rfl) rfl (fun _ _ => rfl) (fun _ _ _ => rfl) dX11_bind_7 (fun E u4 w5 => ?_) (fun u4 w5 => ?_)
      ·
        obtain rfl := w5
        exact VX_out 7 B hout (mkU [p5, p6, p7] [] [f1, f2] [f3] []) rfl rfl (Nat.le_of_ble_eq_true rfl) (Nat.le_of_ble_eq_true rfl)
      ·
        refine V_ws [(h0, oC 12 [.ref h1, .ref g0, .ref g1, .ref g2, .ref g3, .ref g4, .ref g5, .ref g6, .ref g7, .long p0]), (h1, oC 2 [.ref h2, .ref h3, .ref g8, .ref g9, .ref h4, .ref h6, .ref h8, .ref h10, .ref g10, .ref g11, .ref g12, .int p1]), (h2, oC 3 [.ref g13, .int p2]), (h3, oC 3 [.ref g14, .int p3]), (h4, oC 7 [.ref h5, .int p4]), (h5, aJ Y 6 f0), (h6, oC 3 [.ref h7, .int p5]), (h7, aI Y 80 f1), (h8, oC 3 [.ref h9, .int p6]), (h9, aI Y 80 f2), (h10, oC 7 [.ref h11, .int p7]), (h11, aJ Y 80 f3)] rfl ?_
        refine V_aload_n 10 B dX11_bind_10 0 rfl ?_
        refine V_get 11 B gf_RX11_68 0 rfl rfl dX11_bind_11 ?_
        refine V_lconst 14 B (v := 0) dX11_bind_14 (by decide +kernel) ?_
        refine V_lcmp 15 B dX11_bind_15 rfl ?_
        refine V_nmi (fun j6 _ => ?_)
        refine V_if_ne 16 B 24 dX11_bind_16 (by decide) (fun k7 => ?_) (fun k7 => ?_)
        ·
          refine V_aload_n 24 B dX11_bind_24 0 rfl ?_
          refine V_get 25 B gf_RX11_10 0 rfl rfl dX11_bind_25 ?_
          refine V_iload_n 28 B dX11_bind_28 1 rfl ?_
          refine V_iload_n 29 B dX11_bind_29 2 rfl ?_
          refine V_aload_n 30 B dX11_bind_30 0 rfl ?_
          refine V_get 31 B gf_RX11_68 0 rfl rfl dX11_bind_31 ?_
          refine V_gvi 34 B envX EB (st := []) (As := [.int p8, .int p9, .long p0]) (fun sz => sX0_placeBinding_1 l D Y h1 h4 h5 h6 h7 h8 h9 h10 h11 h2 h3 g8 g9 g10 g11 g12 p1 p4 f0 p5 f1 p6 f2 p7 f3 p8 p9 p0 sz) glV_RX11_230 ⟨rfl, rfl⟩ ⟨(Nat.le_of_ble_eq_true rfl), (Nat.le_of_ble_eq_true rfl)⟩ ⟨(Nat.le_of_ble_eq_true rfl), (Nat.le_of_ble_eq_true rfl)⟩ [1, 2, 0, 0, 0, 0, 0, 0, 0] rfl 2 0 rfl rfl rfl rfl (Nat.le_of_ble_eq_true rfl) rfl (fun _ _ _ => rfl) dX11_bind_34 (fun j8 u9 w10 => ?_)
          refine V_ws [(h0, oC 12 [.ref h1, .ref g0, .ref g1, .ref g2, .ref g3, .ref g4, .ref g5, .ref g6, .ref g7, .long p0]), (h1, oC 2 [.ref h2, .ref h3, .ref g8, .ref g9, .ref h4, .ref h6, .ref h8, .ref h10, .ref g10, .ref g11, .ref g12, .int p1]), (h2, oC 3 [.ref g13, .int p2]), (h3, oC 3 [.ref g14, .int p3]), (h4, oC 7 [.ref h5, .int p4]), (h5, aJ Y 6 f0), (h6, oC 3 [.ref h7, .int (u9.1 0)]), (h7, aI Y 80 (u9.2.2.1 0)), (h8, oC 3 [.ref h9, .int (u9.1 1)]), (h9, aI Y 80 (u9.2.2.1 1)), (h10, oC 7 [.ref h11, .int (u9.1 2)]), (h11, aJ Y 80 (u9.2.2.2.1 0))] rfl ?_
          refine V_xret ?_
          refine V_widen (k := 2) (n := 12) (Nat.le_of_ble_eq_true rfl) (Nat.le_of_ble_eq_true rfl) ?_
          exact V_iret 37 B dX11_bind_37 (mkU [(u9.1 0), (u9.1 1), (u9.1 2)] [] [(u9.2.2.1 0), (u9.2.2.1 1)] [(u9.2.2.2.1 0)] []) trivial rfl
        ·
          obtain rfl : j6 = 0 := k7
          refine V_bipush 19 B (v := (-4)) dX11_bind_19 (by decide +kernel) ?_
          refine V_goto 21 B 37 dX11_bind_21 (by decide) ?_
          refine V_xret ?_
          refine V_widen (k := 2) (n := 12) (Nat.le_of_ble_eq_true rfl) (Nat.le_of_ble_eq_true rfl) ?_
          exact V_iret 37 B dX11_bind_37 (mkU [p5, p6, p7] [] [f1, f2] [f3] []) trivial rfl)
