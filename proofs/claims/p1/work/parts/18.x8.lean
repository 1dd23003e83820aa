theorem dX4_readText_0 : decode cX4_readText 0 = .ok (.aload_n 0, 1) := by decide +kernel
theorem dX4_readText_1 : decode cX4_readText 1 = .ok (.getfield 28, 3) := by decide +kernel
theorem gf_RX4_28 : GF RX4 28 6 3 := ⟨RX4, TX4, 7, rfl, inw_X4, Nat.le_of_ble_eq_true rfl, (mT2 108 rfl rfl)⟩
theorem dX4_readText_4 : decode cX4_readText 4 = .ok (.invokevirtual 45, 3) := by decide +kernel
theorem glV_RX4_45 : GLV RX4 45 yX1_clear RX1 cX1_clear 1 none 0 := ⟨⟨(mT4 106 rfl rfl), (mT2 184 rfl rfl), (mT2 185 rfl rfl), (mT1 3 rfl rfl), (mT2 186 rfl rfl)⟩, by decide +kernel⟩
theorem dX4_readText_7 : decode cX4_readText 7 = .ok (.aload_n 0, 1) := by decide +kernel
theorem dX4_readText_8 : decode cX4_readText 8 = .ok (.getfield 32, 3) := by decide +kernel
theorem gf_RX4_32 : GF RX4 32 6 4 := ⟨RX4, TX4, 7, rfl, inw_X4, Nat.le_of_ble_eq_true rfl, (mT2 110 rfl rfl)⟩
theorem dX4_readText_11 : decode cX4_readText 11 = .ok (.invokevirtual 45, 3) := by decide +kernel
theorem dX4_readText_14 : decode cX4_readText 14 = .ok (.aload_n 0, 1) := by decide +kernel
theorem dX4_readText_15 : decode cX4_readText 15 = .ok (.getfield 35, 3) := by decide +kernel
theorem gf_RX4_35 : GF RX4 35 6 5 := ⟨RX4, TX4, 7, rfl, inw_X4, Nat.le_of_ble_eq_true rfl, (mT2 111 rfl rfl)⟩
theorem dX4_readText_18 : decode cX4_readText 18 = .ok (.invokevirtual 45, 3) := by decide +kernel
theorem dX4_readText_21 : decode cX4_readText 21 = .ok (.aload_n 0, 1) := by decide +kernel
theorem dX4_readText_22 : decode cX4_readText 22 = .ok (.getfield 41, 3) := by decide +kernel
theorem gf_RX4_41 : GF RX4 41 6 6 := ⟨RX4, TX4, 7, rfl, inw_X4, Nat.le_of_ble_eq_true rfl, (mT2 112 rfl rfl)⟩
theorem dX4_readText_25 : decode cX4_readText 25 = .ok (.invokevirtual 48, 3) := by decide +kernel
theorem glV_RX4_48 : GLV RX4 48 yX5_clear RX5 cX5_clear 1 none 0 := ⟨⟨(mT4 107 rfl rfl), (mT2 188 rfl rfl), (mT2 189 rfl rfl), (mT1 5 rfl rfl), (mT2 190 rfl rfl)⟩, by decide +kernel⟩
theorem dX4_readText_28 : decode cX4_readText 28 = .ok (.aload_n 0, 1) := by decide +kernel
theorem dX4_readText_29 : decode cX4_readText 29 = .ok (.getfield 9, 3) := by decide +kernel
theorem gf_RX4_9 : GF RX4 9 6 0 := ⟨RX4, TX4, 7, rfl, inw_X4, Nat.le_of_ble_eq_true rfl, (mT2 105 rfl rfl)⟩
theorem dX4_readText_32 : decode cX4_readText 32 = .ok (.invokevirtual 49, 3) := by decide +kernel
theorem glV_RX4_49 : GLV RX4 49 yX7_begin RX7 cX7_begin 1 none 0 := ⟨⟨(mT4 108 rfl rfl), (mT2 202 rfl rfl), (mT2 203 rfl rfl), (mT1 10 rfl rfl), (mT2 204 rfl rfl)⟩, by decide +kernel⟩
theorem dX4_readText_35 : decode cX4_readText 35 = .ok (.iconst 0, 1) := by decide +kernel
theorem dX4_readText_36 : decode cX4_readText 36 = .ok (.istore_n 1, 1) := by decide +kernel
theorem dX4_readText_37 : decode cX4_readText 37 = .ok (.iload_n 1, 1) := by decide +kernel
theorem dX4_readText_38 : decode cX4_readText 38 = .ok (.bipush 40, 2) := by decide +kernel
theorem dX4_readText_40 : decode cX4_readText 40 = .ok (.if_icmp .gt 28, 3) := by decide +kernel
theorem dX4_readText_43 : decode cX4_readText 43 = .ok (.aload_n 0, 1) := by decide +kernel
theorem dX4_readText_44 : decode cX4_readText 44 = .ok (.getfield 9, 3) := by decide +kernel
theorem dX4_readText_47 : decode cX4_readText 47 = .ok (.getfield 54, 3) := by decide +kernel
theorem gf_RX4_54 : GF RX4 54 8 2 := ⟨RX7, TX7, 9, rfl, inw_X7, Nat.le_of_ble_eq_true rfl, (mT2 41 rfl rfl)⟩
theorem dX4_readText_50 : decode cX4_readText 50 = .ok (.ifCond .eq 18, 3) := by decide +kernel
theorem dX4_readText_68 : decode cX4_readText 68 = .ok (.iconst 1, 1) := by decide +kernel
theorem dX4_readText_69 : decode cX4_readText 69 = .ok (.ireturn, 1) := by decide +kernel
set_option maxRecDepth 100000 in
set_option maxHeartbeats 4000000 in
theorem mX4_readText_1 (l : Launch) (D : va_G) (Y : Nat → ClassId) (h1 : Nat) (h0 : Nat) (g0 : Nat) (g1 : Nat) (g2 : Nat) (h2 : Nat) (h3 : Nat) (h4 : Nat) (h5 : Nat) (g3 : Nat) (g4 : Nat) (g5 : Nat) (g6 : Nat) (sz : Nat) : Met l yX4_readText (WSm yX4_readText cX4_readText 2 (some .boolean)) (mkR 2 0 0 40) (PreC D Y [.ref h1] [(h0, oC 8 [.ref g0, .int 0, .int 0, .int 0, .int 0, .int 0, .long 0, .int 0, .int (-1)]), (h1, oC 6 [.ref h0, .ref g1, .ref g2, .ref h2, .ref h3, .ref h4, .ref h5]), (h2, oC 3 [.ref g3, .int 0]), (h3, oC 3 [.ref g4, .int 0]), (h4, oC 3 [.ref g5, .int 0]), (h5, oC 7 [.ref g6, .int 0])] sz) (QI D (fun (r : Int32) (u : Unit) => 1 = r) (fun (_ : Unit) => [(h0, oC 8 [.ref g0, .int 0, .int 0, .int 0, .int 0, .int 0, .long 0, .int 0, .int (-1)]), (h1, oC 6 [.ref h0, .ref g1, .ref g2, .ref h2, .ref h3, .ref h4, .ref h5]), (h2, oC 3 [.ref g3, .int 0]), (h3, oC 3 [.ref g4, .int 0]), (h4, oC 3 [.ref g5, .int 0]), (h5, oC 7 [.ref g6, .int 0])]) (va_A [(h0, oC 8 [.ref g0, .int 0, .int 0, .int 0, .int 0, .int 0, .long 0, .int 0, .int (-1)]), (h1, oC 6 [.ref h0, .ref g1, .ref g2, .ref h2, .ref h3, .ref h4, .ref h5]), (h2, oC 3 [.ref g3, .int 0]), (h3, oC 3 [.ref g4, .int 0]), (h4, oC 3 [.ref g5, .int 0]), (h5, oC 7 [.ref g6, .int 0])] sz)) 0 0 (va_A [(h0, oC 8 [.ref g0, .int 0, .int 0, .int 0, .int 0, .int 0, .long 0, .int 0, .int (-1)]), (h1, oC 6 [.ref h0, .ref g1, .ref g2, .ref h2, .ref h3, .ref h4, .ref h5]), (h2, oC 3 [.ref g3, .int 0]), (h3, oC 3 [.ref g4, .int 0]), (h4, oC 3 [.ref g5, .int 0]), (h5, oC 7 [.ref g6, .int 0])] sz) :=
  met_of (by decide +kernel) (Nat.le_of_ble_eq_true rfl) (fun p e s m args below meth c B hin hsz => by
    have B : VB p s m args meth c D Y (va_A [(h0, oC 8 [.ref g0, .int 0, .int 0, .int 0, .int 0, .int 0, .long 0, .int 0, .int (-1)]), (h1, oC 6 [.ref h0, .ref g1, .ref g2, .ref h2, .ref h3, .ref h4, .ref h5]), (h2, oC 3 [.ref g3, .int 0]), (h3, oC 3 [.ref g4, .int 0]), (h4, oC 3 [.ref g5, .int 0]), (h5, oC 7 [.ref g6, .int 0])] sz) cX4_readText 2 RX4 (some .boolean) := B
    refine V_aload_n 0 B dX4_readText_0 0 rfl ?_
    refine V_get 1 B gf_RX4_28 1 rfl rfl dX4_readText_1 ?_
    refine V_cvv 4 B (st := []) (As := []) (fun sz => mX1_clear_2 l D Y (h2) (g3) sz) glV_RX4_45 ⟨rfl, rfl⟩ ⟨(Nat.le_of_ble_eq_true rfl), (Nat.le_of_ble_eq_true rfl)⟩ ⟨(Nat.le_of_ble_eq_true rfl), (Nat.le_of_ble_eq_true rfl)⟩ [2] rfl 3 0 rfl rfl rfl rfl (Nat.le_of_ble_eq_true rfl) rfl (fun _ _ => rfl) dX4_readText_4 (fun u0 w0 => ?_)
    refine V_ws [(h0, oC 8 [.ref g0, .int 0, .int 0, .int 0, .int 0, .int 0, .long 0, .int 0, .int (-1)]), (h1, oC 6 [.ref h0, .ref g1, .ref g2, .ref h2, .ref h3, .ref h4, .ref h5]), (h2, oC 3 [.ref g3, .int 0]), (h3, oC 3 [.ref g4, .int 0]), (h4, oC 3 [.ref g5, .int 0]), (h5, oC 7 [.ref g6, .int 0])] rfl ?_
    refine V_aload_n 7 B dX4_readText_7 0 rfl ?_
    refine V_get 8 B gf_RX4_32 1 rfl rfl dX4_readText_8 ?_
    refine V_cvv 11 B (st := []) (As := []) (fun sz => mX1_clear_2 l D Y (h3) (g4) sz) glV_RX4_45 ⟨rfl, rfl⟩ ⟨(Nat.le_of_ble_eq_true rfl), (Nat.le_of_ble_eq_true rfl)⟩ ⟨(Nat.le_of_ble_eq_true rfl), (Nat.le_of_ble_eq_true rfl)⟩ [3] rfl 3 0 rfl rfl rfl rfl (Nat.le_of_ble_eq_true rfl) rfl (fun _ _ => rfl) dX4_readText_11 (fun u1 w1 => ?_)
    refine V_ws [(h0, oC 8 [.ref g0, .int 0, .int 0, .int 0, .int 0, .int 0, .long 0, .int 0, .int (-1)]), (h1, oC 6 [.ref h0, .ref g1, .ref g2, .ref h2, .ref h3, .ref h4, .ref h5]), (h2, oC 3 [.ref g3, .int 0]), (h3, oC 3 [.ref g4, .int 0]), (h4, oC 3 [.ref g5, .int 0]), (h5, oC 7 [.ref g6, .int 0])] rfl ?_
    refine V_aload_n 14 B dX4_readText_14 0 rfl ?_
    refine V_get 15 B gf_RX4_35 1 rfl rfl dX4_readText_15 ?_
    refine V_cvv 18 B (st := []) (As := []) (fun sz => mX1_clear_2 l D Y (h4) (g5) sz) glV_RX4_45 ⟨rfl, rfl⟩ ⟨(Nat.le_of_ble_eq_true rfl), (Nat.le_of_ble_eq_true rfl)⟩ ⟨(Nat.le_of_ble_eq_true rfl), (Nat.le_of_ble_eq_true rfl)⟩ [4] rfl 3 0 rfl rfl rfl rfl (Nat.le_of_ble_eq_true rfl) rfl (fun _ _ => rfl) dX4_readText_18 (fun u2 w2 => ?_)
    refine V_ws [(h0, oC 8 [.ref g0, .int 0, .int 0, .int 0, .int 0, .int 0, .long 0, .int 0, .int (-1)]), (h1, oC 6 [.ref h0, .ref g1, .ref g2, .ref h2, .ref h3, .ref h4, .ref h5]), (h2, oC 3 [.ref g3, .int 0]), (h3, oC 3 [.ref g4, .int 0]), (h4, oC 3 [.ref g5, .int 0]), (h5, oC 7 [.ref g6, .int 0])] rfl ?_
    refine V_aload_n 21 B dX4_readText_21 0 rfl ?_
    refine V_get 22 B gf_RX4_41 1 rfl rfl dX4_readText_22 ?_
    refine V_cvv 25 B (st := []) (As := []) (fun sz => mX5_clear_1 l D Y (h5) (g6) sz) glV_RX4_48 ⟨rfl, rfl⟩ ⟨(Nat.le_of_ble_eq_true rfl), (Nat.le_of_ble_eq_true rfl)⟩ ⟨(Nat.le_of_ble_eq_true rfl), (Nat.le_of_ble_eq_true rfl)⟩ [5] rfl 7 0 rfl rfl rfl rfl (Nat.le_of_ble_eq_true rfl) rfl (fun _ _ => rfl) dX4_readText_25 (fun u3 w3 => ?_)
    refine V_ws [(h0, oC 8 [.ref g0, .int 0, .int 0, .int 0, .int 0, .int 0, .long 0, .int 0, .int (-1)]), (h1, oC 6 [.ref h0, .ref g1, .ref g2, .ref h2, .ref h3, .ref h4, .ref h5]), (h2, oC 3 [.ref g3, .int 0]), (h3, oC 3 [.ref g4, .int 0]), (h4, oC 3 [.ref g5, .int 0]), (h5, oC 7 [.ref g6, .int 0])] rfl ?_
    refine V_aload_n 28 B dX4_readText_28 0 rfl ?_
    refine V_get 29 B gf_RX4_9 1 rfl rfl dX4_readText_29 ?_
    refine V_cvv 32 B (st := []) (As := []) (fun sz => mX7_begin_1 l D Y (h0) (g0) sz) glV_RX4_49 ⟨rfl, rfl⟩ ⟨(Nat.le_of_ble_eq_true rfl), (Nat.le_of_ble_eq_true rfl)⟩ ⟨(Nat.le_of_ble_eq_true rfl), (Nat.le_of_ble_eq_true rfl)⟩ [0] rfl 8 0 rfl rfl rfl rfl (Nat.le_of_ble_eq_true rfl) rfl (fun _ _ => rfl) dX4_readText_32 (fun u4 w4 => ?_)
    refine V_ws [(h0, oC 8 [.ref g0, .int 0, .int 0, .int 0, .int 0, .int 0, .long 0, .int 0, .int (-1)]), (h1, oC 6 [.ref h0, .ref g1, .ref g2, .ref h2, .ref h3, .ref h4, .ref h5]), (h2, oC 3 [.ref g3, .int 0]), (h3, oC 3 [.ref g4, .int 0]), (h4, oC 3 [.ref g5, .int 0]), (h5, oC 7 [.ref g6, .int 0])] rfl ?_
    refine V_iconst 35 B (v := 0) dX4_readText_35 (by decide +kernel) ?_
    refine V_istore_n 36 B (lv2 := [(1, .int 0), (0, .ref h1)]) dX4_readText_36 (by decide) rfl ?_
    refine V_iload_n 37 B dX4_readText_37 0 rfl ?_
    refine V_bipush 38 B (v := 40) dX4_readText_38 (by decide +kernel) ?_
    refine V_icmp_gt_f 40 B 68 dX4_readText_40 (by decide) (by decide +kernel) ?_
    refine V_aload_n 43 B dX4_readText_43 1 rfl ?_
    refine V_get 44 B gf_RX4_9 1 rfl rfl dX4_readText_44 ?_
    refine V_get 47 B gf_RX4_54 0 rfl rfl dX4_readText_47 ?_
    refine V_if_eq_t 50 B 68 dX4_readText_50 (by decide) (by decide +kernel) ?_
    refine V_iconst 68 B (v := 1) dX4_readText_68 (by decide +kernel) ?_
    exact V_zret 69 B rfl dX4_readText_69 () rfl rfl)
theorem dX11_play_0 : decode cX11_play 0 = .ok (.aload_n 0, 1) := by decide +kernel
theorem dX11_play_1 : decode cX11_play 1 = .ok (.getfield 64, 3) := by decide +kernel
theorem gf_RX11_64 : GF RX11 64 12 8 := ⟨RX11, TX11, 10, rfl, inw_X11, Nat.le_of_ble_eq_true rfl, (mT2 136 rfl rfl)⟩
theorem dX11_play_4 : decode cX11_play 4 = .ok (.invokevirtual 355, 3) := by decide +kernel
theorem glV_RX11_355 : GLV RX11 355 yX4_readText RX4 cX4_readText 2 (some .boolean) 0 := ⟨⟨(mT4 102 rfl rfl), (mT4 103 rfl rfl), (mT4 104 rfl rfl), (mT1 12 rfl rfl), (mT4 105 rfl rfl)⟩, by decide +kernel⟩
theorem dX11_play_7 : decode cX11_play 7 = .ok (.ifCond .ne 6, 3) := by decide +kernel
theorem dX11_play_13 : decode cX11_play 13 = .ok (.iconst 0, 1) := by decide +kernel
theorem dX11_play_14 : decode cX11_play 14 = .ok (.istore_n 1, 1) := by decide +kernel
theorem dX11_play_15 : decode cX11_play 15 = .ok (.iload_n 1, 1) := by decide +kernel
theorem dX11_play_16 : decode cX11_play 16 = .ok (.aload_n 0, 1) := by decide +kernel
theorem dX11_play_17 : decode cX11_play 17 = .ok (.getfield 64, 3) := by decide +kernel
theorem dX11_play_20 : decode cX11_play 20 = .ok (.getfield 356, 3) := by decide +kernel
theorem gf_RX11_356 : GF RX11 356 6 3 := ⟨RX4, TX4, 7, rfl, inw_X4, Nat.le_of_ble_eq_true rfl, (mT2 109 rfl rfl)⟩
theorem dX11_play_23 : decode cX11_play 23 = .ok (.invokevirtual 95, 3) := by decide +kernel
theorem dX11_play_26 : decode cX11_play 26 = .ok (.if_icmp .ge 20, 3) := by decide +kernel
theorem dX11_play_46 : decode cX11_play 46 = .ok (.iload_n 1, 1) := by decide +kernel
theorem dX11_play_47 : decode cX11_play 47 = .ok (.ireturn, 1) := by decide +kernel
set_option maxRecDepth 100000 in
set_option maxHeartbeats 4000000 in
theorem mX11_play_1 (l : Launch) (D : va_G) (Y : Nat → ClassId) (h0 : Nat) (g0 : Nat) (g1 : Nat) (g2 : Nat) (g3 : Nat) (g4 : Nat) (g5 : Nat) (h1 : Nat) (g6 : Nat) (h2 : Nat) (g7 : Nat) (h3 : Nat) (h4 : Nat) (h5 : Nat) (h6 : Nat) (g8 : Nat) (g9 : Nat) (g10 : Nat) (g11 : Nat) (sz : Nat) : Met l yX11_play (WSm yX11_play cX11_play 2 (some .int)) (mkR 3 0 0 61) (PreC D Y [.ref h0] [(h0, oC 12 [.ref g0, .ref g1, .ref g2, .ref g3, .ref g4, .ref g5, .ref h1, .ref g6, .ref h2, .long 0]), (h1, oC 8 [.ref g7, .int 0, .int 0, .int 0, .int 0, .int 0, .long 0, .int 0, .int (-1)]), (h2, oC 6 [.ref h1, .ref g0, .ref g5, .ref h3, .ref h4, .ref h5, .ref h6]), (h3, oC 3 [.ref g8, .int 0]), (h4, oC 3 [.ref g9, .int 0]), (h5, oC 3 [.ref g10, .int 0]), (h6, oC 7 [.ref g11, .int 0])] sz) (QI D (fun (r : Int32) (u : Unit) => 0 = r) (fun (_ : Unit) => [(h0, oC 12 [.ref g0, .ref g1, .ref g2, .ref g3, .ref g4, .ref g5, .ref h1, .ref g6, .ref h2, .long 0]), (h1, oC 8 [.ref g7, .int 0, .int 0, .int 0, .int 0, .int 0, .long 0, .int 0, .int (-1)]), (h2, oC 6 [.ref h1, .ref g0, .ref g5, .ref h3, .ref h4, .ref h5, .ref h6]), (h3, oC 3 [.ref g8, .int 0]), (h4, oC 3 [.ref g9, .int 0]), (h5, oC 3 [.ref g10, .int 0]), (h6, oC 7 [.ref g11, .int 0])]) (va_A [(h0, oC 12 [.ref g0, .ref g1, .ref g2, .ref g3, .ref g4, .ref g5, .ref h1, .ref g6, .ref h2, .long 0]), (h1, oC 8 [.ref g7, .int 0, .int 0, .int 0, .int 0, .int 0, .long 0, .int 0, .int (-1)]), (h2, oC 6 [.ref h1, .ref g0, .ref g5, .ref h3, .ref h4, .ref h5, .ref h6]), (h3, oC 3 [.ref g8, .int 0]), (h4, oC 3 [.ref g9, .int 0]), (h5, oC 3 [.ref g10, .int 0]), (h6, oC 7 [.ref g11, .int 0])] sz)) 0 0 (va_A [(h0, oC 12 [.ref g0, .ref g1, .ref g2, .ref g3, .ref g4, .ref g5, .ref h1, .ref g6, .ref h2, .long 0]), (h1, oC 8 [.ref g7, .int 0, .int 0, .int 0, .int 0, .int 0, .long 0, .int 0, .int (-1)]), (h2, oC 6 [.ref h1, .ref g0, .ref g5, .ref h3, .ref h4, .ref h5, .ref h6]), (h3, oC 3 [.ref g8, .int 0]), (h4, oC 3 [.ref g9, .int 0]), (h5, oC 3 [.ref g10, .int 0]), (h6, oC 7 [.ref g11, .int 0])] sz) :=
  met_of (by decide +kernel) (Nat.le_of_ble_eq_true rfl) (fun p e s m args below meth c B hin hsz => by
    have B : VB p s m args meth c D Y (va_A [(h0, oC 12 [.ref g0, .ref g1, .ref g2, .ref g3, .ref g4, .ref g5, .ref h1, .ref g6, .ref h2, .long 0]), (h1, oC 8 [.ref g7, .int 0, .int 0, .int 0, .int 0, .int 0, .long 0, .int 0, .int (-1)]), (h2, oC 6 [.ref h1, .ref g0, .ref g5, .ref h3, .ref h4, .ref h5, .ref h6]), (h3, oC 3 [.ref g8, .int 0]), (h4, oC 3 [.ref g9, .int 0]), (h5, oC 3 [.ref g10, .int 0]), (h6, oC 7 [.ref g11, .int 0])] sz) cX11_play 2 RX11 (some .int) := B
    refine V_aload_n 0 B dX11_play_0 0 rfl ?_
    refine V_get 1 B gf_RX11_64 0 rfl rfl dX11_play_1 ?_
    refine V_cvi 4 B (st := []) (As := []) (fun sz => mX4_readText_1 l D Y (h2) (h1) (g7) (g0) (g5) (h3) (h4) (h5) (h6) (g8) (g9) (g10) (g11) sz) glV_RX11_355 ⟨rfl, rfl⟩ ⟨(Nat.le_of_ble_eq_true rfl), (Nat.le_of_ble_eq_true rfl)⟩ ⟨(Nat.le_of_ble_eq_true rfl), (Nat.le_of_ble_eq_true rfl)⟩ [1, 0, 0, 0, 0, 0] rfl 6 1 rfl rfl rfl rfl (Nat.le_of_ble_eq_true rfl) rfl (fun _ _ _ => rfl) dX11_play_4 (fun r0 u0 w0 => ?_)
    obtain rfl := w0
    refine V_ws [(h0, oC 12 [.ref g0, .ref g1, .ref g2, .ref g3, .ref g4, .ref g5, .ref h1, .ref g6, .ref h2, .long 0]), (h1, oC 8 [.ref g7, .int 0, .int 0, .int 0, .int 0, .int 0, .long 0, .int 0, .int (-1)]), (h2, oC 6 [.ref h1, .ref g0, .ref g5, .ref h3, .ref h4, .ref h5, .ref h6]), (h3, oC 3 [.ref g8, .int 0]), (h4, oC 3 [.ref g9, .int 0]), (h5, oC 3 [.ref g10, .int 0]), (h6, oC 7 [.ref g11, .int 0])] rfl ?_
    refine V_if_ne_t 7 B 13 dX11_play_7 (by decide) (by decide +kernel) ?_
    refine V_iconst 13 B (v := 0) dX11_play_13 (by decide +kernel) ?_
    refine V_istore_n 14 B (lv2 := [(1, .int 0), (0, .ref h0)]) dX11_play_14 (by decide) rfl ?_
    refine V_iload_n 15 B dX11_play_15 0 rfl ?_
    refine V_aload_n 16 B dX11_play_16 1 rfl ?_
    refine V_get 17 B gf_RX11_64 0 rfl rfl dX11_play_17 ?_
    refine V_get 20 B gf_RX11_356 2 rfl rfl dX11_play_20 ?_
    refine V_cvi 23 B (st := [.int 0]) (As := []) (fun sz => mX1_size_1 l D Y (h3) (g8) sz) glV_RX11_95 ⟨rfl, rfl⟩ ⟨(Nat.le_of_ble_eq_true rfl), (Nat.le_of_ble_eq_true rfl)⟩ ⟨(Nat.le_of_ble_eq_true rfl), (Nat.le_of_ble_eq_true rfl)⟩ [3] rfl 3 0 rfl rfl rfl rfl (Nat.le_of_ble_eq_true rfl) rfl (fun _ _ _ => rfl) dX11_play_23 (fun r1 u1 w1 => ?_)
    obtain rfl := w1
    refine V_ws [(h0, oC 12 [.ref g0, .ref g1, .ref g2, .ref g3, .ref g4, .ref g5, .ref h1, .ref g6, .ref h2, .long 0]), (h1, oC 8 [.ref g7, .int 0, .int 0, .int 0, .int 0, .int 0, .long 0, .int 0, .int (-1)]), (h2, oC 6 [.ref h1, .ref g0, .ref g5, .ref h3, .ref h4, .ref h5, .ref h6]), (h3, oC 3 [.ref g8, .int 0]), (h4, oC 3 [.ref g9, .int 0]), (h5, oC 3 [.ref g10, .int 0]), (h6, oC 7 [.ref g11, .int 0])] rfl ?_
    refine V_icmp_ge_t 26 B 46 dX11_play_26 (by decide) (by decide +kernel) ?_
    refine V_iload_n 46 B dX11_play_46 0 rfl ?_
    exact V_iret 47 B dX11_play_47 () rfl rfl)
theorem dX8_dropLatePending_0 : decode cX8_dropLatePending 0 = .ok (.aload_n 0, 1) := by decide +kernel
theorem dX8_dropLatePending_1 : decode cX8_dropLatePending 1 = .ok (.getfield 46, 3) := by decide +kernel
theorem dX8_dropLatePending_4 : decode cX8_dropLatePending 4 = .ok (.ifCond .le 43, 3) := by decide +kernel
theorem dX8_dropLatePending_47 : decode cX8_dropLatePending 47 = .ok (.return_, 1) := by decide +kernel
set_option maxRecDepth 100000 in
set_option maxHeartbeats 4000000 in
theorem mX8_dropLatePending_1 (l : Launch) (D : va_G) (Y : Nat → ClassId) (h0 : Nat) (g0 : Nat) (p0 : Int32) (sz : Nat) : Met l yX8_dropLatePending (WSm yX8_dropLatePending cX8_dropLatePending 1 none) (mkR 0 0 0 0) (PreC D Y [.ref h0] [(h0, oC 9 [.ref g0, .int 0, .long 0, .int (-1), .int 0, .int 0, .int p0, .int 0, .int 0])] sz) (QV D (fun (u : Unit) => True) (fun (_ : Unit) => [(h0, oC 9 [.ref g0, .int 0, .long 0, .int (-1), .int 0, .int 0, .int p0, .int 0, .int 0])]) (va_A [(h0, oC 9 [.ref g0, .int 0, .long 0, .int (-1), .int 0, .int 0, .int p0, .int 0, .int 0])] sz)) 0 0 (va_A [(h0, oC 9 [.ref g0, .int 0, .long 0, .int (-1), .int 0, .int 0, .int p0, .int 0, .int 0])] sz) :=
  met_of (by decide +kernel) (Nat.le_of_ble_eq_true rfl) (fun p e s m args below meth c B hin hsz => by
    have B : VB p s m args meth c D Y (va_A [(h0, oC 9 [.ref g0, .int 0, .long 0, .int (-1), .int 0, .int 0, .int p0, .int 0, .int 0])] sz) cX8_dropLatePending 1 RX8 none := B
    refine V_aload_n 0 B dX8_dropLatePending_0 0 rfl ?_
    refine V_get 1 B gf_RX8_46 0 rfl rfl dX8_dropLatePending_1 ?_
    refine V_if_le_t 4 B 47 dX8_dropLatePending_4 (by decide) (by decide +kernel) ?_
    exact V_vret 47 B dX8_dropLatePending_47 () trivial rfl)
theorem dX8_passTicks_0 : decode cX8_passTicks 0 = .ok (.iload_n 1, 1) := by decide +kernel
theorem dX8_passTicks_1 : decode cX8_passTicks 1 = .ok (.ldc 53, 2) := by decide +kernel
theorem dX8_passTicks_3 : decode cX8_passTicks 3 = .ok (.aload_n 0, 1) := by decide +kernel
theorem dX8_passTicks_4 : decode cX8_passTicks 4 = .ok (.getfield 40, 3) := by decide +kernel
theorem dX8_passTicks_7 : decode cX8_passTicks 7 = .ok (.isub, 1) := by decide +kernel
theorem dX8_passTicks_8 : decode cX8_passTicks 8 = .ok (.if_icmp .le 6, 3) := by decide +kernel
theorem dX8_passTicks_14 : decode cX8_passTicks 14 = .ok (.aload_n 0, 1) := by decide +kernel
theorem dX8_passTicks_15 : decode cX8_passTicks 15 = .ok (.dup, 1) := by decide +kernel
theorem dX8_passTicks_16 : decode cX8_passTicks 16 = .ok (.getfield 40, 3) := by decide +kernel
theorem dX8_passTicks_19 : decode cX8_passTicks 19 = .ok (.iload_n 1, 1) := by decide +kernel
theorem dX8_passTicks_20 : decode cX8_passTicks 20 = .ok (.iadd, 1) := by decide +kernel
theorem dX8_passTicks_21 : decode cX8_passTicks 21 = .ok (.putfield 40, 3) := by decide +kernel
theorem dX8_passTicks_24 : decode cX8_passTicks 24 = .ok (.aload_n 0, 1) := by decide +kernel
theorem dX8_passTicks_25 : decode cX8_passTicks 25 = .ok (.invokevirtual 54, 3) := by decide +kernel
theorem glV_RX8_54 : GLV RX8 54 yX8_dropLatePending RX8 cX8_dropLatePending 1 none 0 := ⟨⟨(mT4 178 rfl rfl), (mT4 179 rfl rfl), (mT4 180 rfl rfl), (mT1 7 rfl rfl), (mT4 181 rfl rfl)⟩, by decide +kernel⟩
theorem dX8_passTicks_28 : decode cX8_passTicks 28 = .ok (.aload_n 0, 1) := by decide +kernel
theorem dX8_passTicks_29 : decode cX8_passTicks 29 = .ok (.getfield 40, 3) := by decide +kernel
theorem dX8_passTicks_32 : decode cX8_passTicks 32 = .ok (.ireturn, 1) := by decide +kernel
theorem dX8_passTicks_11 : decode cX8_passTicks 11 = .ok (.bipush (-2), 2) := by decide +kernel
theorem dX8_passTicks_13 : decode cX8_passTicks 13 = .ok (.ireturn, 1) := by decide +kernel
set_option maxRecDepth 100000 in
set_option maxHeartbeats 4000000 in
theorem mX8_passTicks_1 (l : Launch) (D : va_G) (Y : Nat → ClassId) (h0 : Nat) (g0 : Nat) (p0 : Int32) (sz : Nat) : Met l yX8_passTicks (WSm yX8_passTicks cX8_passTicks 2 (some .int)) (mkR 1 0 0 20) (PreC D Y [.ref h0, .int p0] [(h0, oC 9 [.ref g0, .int 0, .long 0, .int (-1), .int 0, .int 0, .int 0, .int 0, .int 0])] sz) (QI D (fun (r : Int32) (u : Nat) => (u = 0 ∧ p0 ≤ 1000000 ∧ p0 = r) ∨ (u = 1 ∧ ¬ p0 ≤ 1000000 ∧ (-2) = r)) (fun (u : Nat) => match u with | 0 => [(h0, oC 9 [.ref g0, .int 0, .long 0, .int (-1), .int 0, .int 0, .int p0, .int 0, .int 0])] | _ => [(h0, oC 9 [.ref g0, .int 0, .long 0, .int (-1), .int 0, .int 0, .int 0, .int 0, .int 0])]) (va_A [(h0, oC 9 [.ref g0, .int 0, .long 0, .int (-1), .int 0, .int 0, .int 0, .int 0, .int 0])] sz)) 0 0 (va_A [(h0, oC 9 [.ref g0, .int 0, .long 0, .int (-1), .int 0, .int 0, .int 0, .int 0, .int 0])] sz) :=
  met_of (by decide +kernel) (Nat.le_of_ble_eq_true rfl) (fun p e s m args below meth c B hin hsz => by
    have B : VB p s m args meth c D Y (va_A [(h0, oC 9 [.ref g0, .int 0, .long 0, .int (-1), .int 0, .int 0, .int 0, .int 0, .int 0])] sz) cX8_passTicks 2 RX8 (some .int) := B
    refine V_iload_n 0 B dX8_passTicks_0 1 rfl ?_
    refine V_ldc 1 B (v := 1000000) dX8_passTicks_1 (mT4 177 rfl rfl) ?_
    refine V_aload_n 3 B dX8_passTicks_3 0 rfl ?_
    refine V_get 4 B gf_RX8_40 0 rfl rfl dX8_passTicks_4 ?_
    refine V_isub 7 B (v := 1000000) dX8_passTicks_7 (by decide +kernel) ?_
    refine V_icmp_le 8 B 14 dX8_passTicks_8 (by decide) (fun k0 => ?_) (fun k0 => ?_)
    ·
      refine V_aload_n 14 B dX8_passTicks_14 0 rfl ?_
      refine V_dup 15 B dX8_passTicks_15 rfl ?_
      refine V_get 16 B gf_RX8_40 0 rfl rfl dX8_passTicks_16 ?_
      refine V_iload_n 19 B dX8_passTicks_19 1 rfl ?_
      refine V_iadd 20 B dX8_passTicks_20 (Int32.zero_add _) ?_
      refine V_put 21 B gp_RX8_40 0 rfl (Nat.le_of_ble_eq_true rfl) rfl rfl dX8_passTicks_21 [(h0, oC 9 [.ref g0, .int 0, .long 0, .int (-1), .int 0, .int 0, .int p0, .int 0, .int 0])] rfl ?_
      refine V_aload_n 24 B dX8_passTicks_24 0 rfl ?_
      refine V_cvv 25 B (st := []) (As := []) (fun sz => mX8_dropLatePending_1 l D Y (h0) (g0) (p0) sz) glV_RX8_54 ⟨rfl, rfl⟩ ⟨(Nat.le_of_ble_eq_true rfl), (Nat.le_of_ble_eq_true rfl)⟩ ⟨(Nat.le_of_ble_eq_true rfl), (Nat.le_of_ble_eq_true rfl)⟩ [0] rfl 9 0 rfl rfl rfl rfl (Nat.le_of_ble_eq_true rfl) rfl (fun _ _ => rfl) dX8_passTicks_25 (fun u1 w1 => ?_)
      refine V_ws [(h0, oC 9 [.ref g0, .int 0, .long 0, .int (-1), .int 0, .int 0, .int p0, .int 0, .int 0])] rfl ?_
      refine V_aload_n 28 B dX8_passTicks_28 0 rfl ?_
      refine V_get 29 B gf_RX8_40 0 rfl rfl dX8_passTicks_29 ?_
      exact V_iret 32 B dX8_passTicks_32 0 (Or.inl ⟨rfl, k0, rfl⟩) rfl
    ·
      refine V_bipush 11 B (v := (-2)) dX8_passTicks_11 (by decide +kernel) ?_
      exact V_iret 13 B dX8_passTicks_13 1 (Or.inr ⟨rfl, k0, rfl⟩) rfl)
theorem dX11_tick_0 : decode cX11_tick 0 = .ok (.iload_n 1, 1) := by decide +kernel
theorem dX11_tick_1 : decode cX11_tick 1 = .ok (.iconst 1, 1) := by decide +kernel
theorem dX11_tick_2 : decode cX11_tick 2 = .ok (.if_icmp .lt 10, 3) := by decide +kernel
theorem dX11_tick_12 : decode cX11_tick 12 = .ok (.new 190, 3) := by decide +kernel
theorem gt_RX11_190_362_194 : GT RX11 190 362 194 "java/lang/IllegalArgumentException" "no such number of ticks" ["java/lang/RuntimeException", "java/lang/Exception"] := ⟨rfl, (mT5 31 rfl rfl), (mT1 22 rfl rfl), List.mem_of_getElem? (i := 6) rfl, by decide +kernel, by decide +kernel, List.mem_of_getElem? (i := 0) rfl, gta_194⟩
theorem dX11_tick_15 : decode cX11_tick 15 = .ok (.dup, 1) := by decide +kernel
theorem dX11_tick_16 : decode cX11_tick 16 = .ok (.ldc_w 362, 3) := by decide +kernel
theorem dX11_tick_19 : decode cX11_tick 19 = .ok (.invokespecial 194, 3) := by decide +kernel
theorem dX11_tick_22 : decode cX11_tick 22 = .ok (.athrow, 1) := by decide +kernel
theorem dX11_tick_5 : decode cX11_tick 5 = .ok (.iload_n 1, 1) := by decide +kernel
theorem dX11_tick_6 : decode cX11_tick 6 = .ok (.sipush 1000, 3) := by decide +kernel
theorem dX11_tick_9 : decode cX11_tick 9 = .ok (.if_icmp .le 14, 3) := by decide +kernel
theorem dX11_tick_23 : decode cX11_tick 23 = .ok (.aload_n 0, 1) := by decide +kernel
theorem dX11_tick_24 : decode cX11_tick 24 = .ok (.getfield 10, 3) := by decide +kernel
theorem dX11_tick_27 : decode cX11_tick 27 = .ok (.getfield 129, 3) := by decide +kernel
theorem dX11_tick_30 : decode cX11_tick 30 = .ok (.iload_n 1, 1) := by decide +kernel
theorem dX11_tick_31 : decode cX11_tick 31 = .ok (.invokevirtual 364, 3) := by decide +kernel
theorem glV_RX11_364 : GLV RX11 364 yX8_passTicks RX8 cX8_passTicks 2 (some .int) 1 := ⟨⟨(mT7 87 rfl rfl), (mT4 174 rfl rfl), (mT4 175 rfl rfl), (mT1 7 rfl rfl), (mT4 176 rfl rfl)⟩, by decide +kernel⟩
theorem dX11_tick_34 : decode cX11_tick 34 = .ok (.ireturn, 1) := by decide +kernel
set_option maxRecDepth 100000 in
set_option maxHeartbeats 4000000 in
theorem mX11_tick_1 (l : Launch) (hl9 : l.stackTraces = false) (D : va_G) (Y : Nat → ClassId) (h0 : Nat) (h1 : Nat) (g0 : Nat) (g1 : Nat) (g2 : Nat) (g3 : Nat) (g4 : Nat) (g5 : Nat) (g6 : Nat) (g7 : Nat) (g8 : Nat) (g9 : Nat) (g10 : Nat) (g11 : Nat) (g12 : Nat) (g13 : Nat) (g14 : Nat) (g15 : Nat) (g16 : Nat) (g17 : Nat) (h2 : Nat) (g18 : Nat) (p0 : Int32) (sz : Nat) : vx_Met l yX11_tick (WSm yX11_tick cX11_tick 2 (some .int)) (mkR 6 1 6 82) (PreX D Y [.ref h0, .int p0] [(h0, oC 12 [.ref h1, .ref g0, .ref g1, .ref g2, .ref g3, .ref g4, .ref g5, .ref g6, .ref g7, .long 0]), (h1, oC 2 [.ref g8, .ref g9, .ref g10, .ref g11, .ref g12, .ref g13, .ref g14, .ref g15, .ref g16, .ref g17, .ref h2, .int 0]), (h2, oC 9 [.ref g18, .int 0, .long 0, .int (-1), .int 0, .int 0, .int 0, .int 0, .int 0])] sz) (QI D (fun (r : Int32) (u : Unit) => ¬ p0 < 1 ∧ p0 ≤ 1000 ∧ p0 ≤ 1000000 ∧ p0 = r) (fun (_ : Unit) => [(h0, oC 12 [.ref h1, .ref g0, .ref g1, .ref g2, .ref g3, .ref g4, .ref g5, .ref g6, .ref g7, .long 0]), (h1, oC 2 [.ref g8, .ref g9, .ref g10, .ref g11, .ref g12, .ref g13, .ref g14, .ref g15, .ref g16, .ref g17, .ref h2, .int 0]), (h2, oC 9 [.ref g18, .int 0, .long 0, .int (-1), .int 0, .int 0, .int p0, .int 0, .int 0])]) (va_A [(h0, oC 12 [.ref h1, .ref g0, .ref g1, .ref g2, .ref g3, .ref g4, .ref g5, .ref g6, .ref g7, .long 0]), (h1, oC 2 [.ref g8, .ref g9, .ref g10, .ref g11, .ref g12, .ref g13, .ref g14, .ref g15, .ref g16, .ref g17, .ref h2, .int 0]), (h2, oC 9 [.ref g18, .int 0, .long 0, .int (-1), .int 0, .int 0, .int 0, .int 0, .int 0])] sz)) (XW D (fun (E : String) (u : Unit) => (E = "java/lang/IllegalArgumentException" ∧ p0 < 1) ∨ (E = "java/lang/IllegalArgumentException" ∧ ¬ p0 < 1 ∧ ¬ p0 ≤ 1000)) (fun (_ : Unit) => [(h0, oC 12 [.ref h1, .ref g0, .ref g1, .ref g2, .ref g3, .ref g4, .ref g5, .ref g6, .ref g7, .long 0]), (h1, oC 2 [.ref g8, .ref g9, .ref g10, .ref g11, .ref g12, .ref g13, .ref g14, .ref g15, .ref g16, .ref g17, .ref h2, .int 0]), (h2, oC 9 [.ref g18, .int 0, .long 0, .int (-1), .int 0, .int 0, .int 0, .int 0, .int 0])]) (va_A [(h0, oC 12 [.ref h1, .ref g0, .ref g1, .ref g2, .ref g3, .ref g4, .ref g5, .ref g6, .ref g7, .long 0]), (h1, oC 2 [.ref g8, .ref g9, .ref g10, .ref g11, .ref g12, .ref g13, .ref g14, .ref g15, .ref g16, .ref g17, .ref h2, .int 0]), (h2, oC 9 [.ref g18, .int 0, .long 0, .int (-1), .int 0, .int 0, .int 0, .int 0, .int 0])] sz)) 1 6 (va_A [(h0, oC 12 [.ref h1, .ref g0, .ref g1, .ref g2, .ref g3, .ref g4, .ref g5, .ref g6, .ref g7, .long 0]), (h1, oC 2 [.ref g8, .ref g9, .ref g10, .ref g11, .ref g12, .ref g13, .ref g14, .ref g15, .ref g16, .ref g17, .ref h2, .int 0]), (h2, oC 9 [.ref g18, .int 0, .long 0, .int (-1), .int 0, .int 0, .int 0, .int 0, .int 0])] sz) :=
  xmet_of (by decide +kernel) (Nat.le_of_ble_eq_true rfl) (fun p e s m args below meth c B EB hout hsz => by
    have B : VB p s m args meth c D Y (va_A [(h0, oC 12 [.ref h1, .ref g0, .ref g1, .ref g2, .ref g3, .ref g4, .ref g5, .ref g6, .ref g7, .long 0]), (h1, oC 2 [.ref g8, .ref g9, .ref g10, .ref g11, .ref g12, .ref g13, .ref g14, .ref g15, .ref g16, .ref g17, .ref h2, .int 0]), (h2, oC 9 [.ref g18, .int 0, .long 0, .int (-1), .int 0, .int 0, .int 0, .int 0, .int 0])] sz) cX11_tick 2 RX11 (some .int) := B
    refine V_iload_n 0 B dX11_tick_0 1 rfl ?_
    refine V_iconst 1 B (v := 1) dX11_tick_1 (by decide +kernel) ?_
    refine V_icmp_lt 2 B 12 dX11_tick_2 (by decide) (fun k0 => ?_) (fun k0 => ?_)
    ·
      exact V_throwSW 12 B EB hl9 gt_RX11_190_362_194 hout dX11_tick_12 dX11_tick_15 dX11_tick_16 dX11_tick_19 dX11_tick_22 (Nat.le_of_ble_eq_true rfl) (Nat.le_of_ble_eq_true rfl) (Nat.le_of_ble_eq_true rfl) (Nat.le_of_ble_eq_true rfl) (Nat.le_of_ble_eq_true rfl) (Nat.le_of_ble_eq_true rfl) () (Or.inl ⟨rfl, k0⟩) rfl
    ·
      refine V_iload_n 5 B dX11_tick_5 1 rfl ?_
      refine V_sipush 6 B (v := 1000) dX11_tick_6 (by decide +kernel) ?_
      refine V_icmp_le 9 B 23 dX11_tick_9 (by decide) (fun k1 => ?_) (fun k1 => ?_)
      ·
        refine V_aload_n 23 B dX11_tick_23 0 rfl ?_
        refine V_get 24 B gf_RX11_10 0 rfl rfl dX11_tick_24 ?_
        refine V_get 27 B gf_RX11_129 1 rfl rfl dX11_tick_27 ?_
        refine V_iload_n 30 B dX11_tick_30 1 rfl ?_
        refine V_cvi 31 B (st := []) (As := [.int p0]) (fun sz => mX8_passTicks_1 l D Y (h2) (g18) (p0) sz) glV_RX11_364 ⟨rfl, rfl⟩ ⟨(Nat.le_of_ble_eq_true rfl), (Nat.le_of_ble_eq_true rfl)⟩ ⟨(Nat.le_of_ble_eq_true rfl), (Nat.le_of_ble_eq_true rfl)⟩ [2] rfl 9 0 rfl rfl rfl rfl (Nat.le_of_ble_eq_true rfl) rfl (fun _ u _ => by
        first | rfl | (split <;> rfl) | (dsimp only; split <;> rfl)) dX11_tick_31 (fun r2 u2 w2 => ?_)
        rcases w2 with ⟨rfl, k3, rfl⟩ | ⟨rfl, k4, rfl⟩
        ·
          refine V_ws [(h0, oC 12 [.ref h1, .ref g0, .ref g1, .ref g2, .ref g3, .ref g4, .ref g5, .ref g6, .ref g7, .long 0]), (h1, oC 2 [.ref g8, .ref g9, .ref g10, .ref g11, .ref g12, .ref g13, .ref g14, .ref g15, .ref g16, .ref g17, .ref h2, .int 0]), (h2, oC 9 [.ref g18, .int 0, .long 0, .int (-1), .int 0, .int 0, .int p0, .int 0, .int 0])] rfl ?_
          refine V_xret ?_
          refine V_widen (k := 1) (n := 6) (Nat.le_of_ble_eq_true rfl) (Nat.le_of_ble_eq_true rfl) ?_
          exact V_iret 34 B dX11_tick_34 () ⟨k0, k1, k3, rfl⟩ rfl
        ·
          refine V_ws [(h0, oC 12 [.ref h1, .ref g0, .ref g1, .ref g2, .ref g3, .ref g4, .ref g5, .ref g6, .ref g7, .long 0]), (h1, oC 2 [.ref g8, .ref g9, .ref g10, .ref g11, .ref g12, .ref g13, .ref g14, .ref g15, .ref g16, .ref g17, .ref h2, .int 0]), (h2, oC 9 [.ref g18, .int 0, .long 0, .int (-1), .int 0, .int 0, .int 0, .int 0, .int 0])] rfl ?_
          exact (q_abs (b_nle k4 (n := 1000001) (by decide +kernel)) (b_le k1 (n := 1000) (by decide +kernel)) (by decide +kernel)).elim
      ·
        exact V_throwSW 12 B EB hl9 gt_RX11_190_362_194 hout dX11_tick_12 dX11_tick_15 dX11_tick_16 dX11_tick_19 dX11_tick_22 (Nat.le_of_ble_eq_true rfl) (Nat.le_of_ble_eq_true rfl) (Nat.le_of_ble_eq_true rfl) (Nat.le_of_ble_eq_true rfl) (Nat.le_of_ble_eq_true rfl) (Nat.le_of_ble_eq_true rfl) () (Or.inr ⟨rfl, k0, k1⟩) rfl)
theorem dX11_typing_0 : decode cX11_typing 0 = .ok (.iload_n 1, 1) := by decide +kernel
theorem dX11_typing_1 : decode cX11_typing 1 = .ok (.tableswitch 101 0 4 #[35, 46, 57, 68, 79], 35) := by decide +kernel
theorem dX11_typing_36 : decode cX11_typing 36 = .ok (.aload_n 0, 1) := by decide +kernel
theorem dX11_typing_37 : decode cX11_typing 37 = .ok (.getfield 10, 3) := by decide +kernel
theorem dX11_typing_40 : decode cX11_typing 40 = .ok (.getfield 129, 3) := by decide +kernel
theorem dX11_typing_43 : decode cX11_typing 43 = .ok (.getfield 367, 3) := by decide +kernel
theorem gf_RX11_367 : GF RX11 367 9 1 := ⟨RX8, TX8, 9, rfl, inw_X8, Nat.le_of_ble_eq_true rfl, (mT1 114 rfl rfl)⟩
theorem dX11_typing_46 : decode cX11_typing 46 = .ok (.ireturn, 1) := by decide +kernel
theorem dX11_typing_47 : decode cX11_typing 47 = .ok (.aload_n 0, 1) := by decide +kernel
theorem dX11_typing_48 : decode cX11_typing 48 = .ok (.getfield 10, 3) := by decide +kernel
theorem dX11_typing_51 : decode cX11_typing 51 = .ok (.getfield 129, 3) := by decide +kernel
theorem dX11_typing_54 : decode cX11_typing 54 = .ok (.getfield 370, 3) := by decide +kernel
theorem gf_RX11_370 : GF RX11 370 9 3 := ⟨RX8, TX8, 9, rfl, inw_X8, Nat.le_of_ble_eq_true rfl, (mT1 120 rfl rfl)⟩
theorem dX11_typing_57 : decode cX11_typing 57 = .ok (.ireturn, 1) := by decide +kernel
theorem dX11_typing_58 : decode cX11_typing 58 = .ok (.aload_n 0, 1) := by decide +kernel
theorem dX11_typing_59 : decode cX11_typing 59 = .ok (.getfield 10, 3) := by decide +kernel
theorem dX11_typing_62 : decode cX11_typing 62 = .ok (.getfield 129, 3) := by decide +kernel
theorem dX11_typing_65 : decode cX11_typing 65 = .ok (.getfield 373, 3) := by decide +kernel
theorem gf_RX11_373 : GF RX11 373 9 4 := ⟨RX8, TX8, 9, rfl, inw_X8, Nat.le_of_ble_eq_true rfl, (mT1 123 rfl rfl)⟩
theorem dX11_typing_68 : decode cX11_typing 68 = .ok (.ireturn, 1) := by decide +kernel
theorem dX11_typing_69 : decode cX11_typing 69 = .ok (.aload_n 0, 1) := by decide +kernel
theorem dX11_typing_70 : decode cX11_typing 70 = .ok (.getfield 10, 3) := by decide +kernel
theorem dX11_typing_73 : decode cX11_typing 73 = .ok (.getfield 129, 3) := by decide +kernel
theorem dX11_typing_76 : decode cX11_typing 76 = .ok (.getfield 376, 3) := by decide +kernel
theorem gf_RX11_376 : GF RX11 376 9 5 := ⟨RX8, TX8, 9, rfl, inw_X8, Nat.le_of_ble_eq_true rfl, (mT1 126 rfl rfl)⟩
theorem dX11_typing_79 : decode cX11_typing 79 = .ok (.ireturn, 1) := by decide +kernel
theorem dX11_typing_80 : decode cX11_typing 80 = .ok (.aload_n 0, 1) := by decide +kernel
theorem dX11_typing_81 : decode cX11_typing 81 = .ok (.getfield 10, 3) := by decide +kernel
theorem dX11_typing_84 : decode cX11_typing 84 = .ok (.getfield 129, 3) := by decide +kernel
theorem dX11_typing_87 : decode cX11_typing 87 = .ok (.getfield 144, 3) := by decide +kernel
theorem dX11_typing_90 : decode cX11_typing 90 = .ok (.aload_n 0, 1) := by decide +kernel
theorem dX11_typing_91 : decode cX11_typing 91 = .ok (.getfield 10, 3) := by decide +kernel
theorem dX11_typing_94 : decode cX11_typing 94 = .ok (.getfield 129, 3) := by decide +kernel
theorem dX11_typing_97 : decode cX11_typing 97 = .ok (.getfield 379, 3) := by decide +kernel
theorem gf_RX11_379 : GF RX11 379 9 7 := ⟨RX8, TX8, 9, rfl, inw_X8, Nat.le_of_ble_eq_true rfl, (mT1 132 rfl rfl)⟩
theorem dX11_typing_100 : decode cX11_typing 100 = .ok (.isub, 1) := by decide +kernel
theorem dX11_typing_101 : decode cX11_typing 101 = .ok (.ireturn, 1) := by decide +kernel
theorem sw_out_0_4 {x : Int32} (h0 : ¬ x = 0) (h1 : ¬ x = 1) (h2 : ¬ x = 2) (h3 : ¬ x = 3) (h4 : ¬ x = 4) : x.toInt < 0 ∨ 4 < x.toInt := by
  have e0 := neT (n := 0) h0 (by decide +kernel)
  have e1 := neT (n := 1) h1 (by decide +kernel)
  have e2 := neT (n := 2) h2 (by decide +kernel)
  have e3 := neT (n := 3) h3 (by decide +kernel)
  have e4 := neT (n := 4) h4 (by decide +kernel)
  omega
theorem dX11_typing_102 : decode cX11_typing 102 = .ok (.iconst (-1), 1) := by decide +kernel
theorem dX11_typing_103 : decode cX11_typing 103 = .ok (.ireturn, 1) := by decide +kernel
set_option maxRecDepth 100000 in
set_option maxHeartbeats 4000000 in
theorem mX11_typing_1 (l : Launch) (D : va_G) (Y : Nat → ClassId) (h0 : Nat) (h1 : Nat) (g0 : Nat) (g1 : Nat) (g2 : Nat) (g3 : Nat) (g4 : Nat) (g5 : Nat) (g6 : Nat) (g7 : Nat) (g8 : Nat) (g9 : Nat) (g10 : Nat) (g11 : Nat) (g12 : Nat) (g13 : Nat) (g14 : Nat) (g15 : Nat) (g16 : Nat) (g17 : Nat) (h2 : Nat) (g18 : Nat) (p0 : Int32) (sz : Nat) : Met l yX11_typing (WSm yX11_typing cX11_typing 2 (some .int)) (mkR 0 0 0 0) (PreC D Y [.ref h0, .int p0] [(h0, oC 12 [.ref h1, .ref g0, .ref g1, .ref g2, .ref g3, .ref g4, .ref g5, .ref g6, .ref g7, .long 0]), (h1, oC 2 [.ref g8, .ref g9, .ref g10, .ref g11, .ref g12, .ref g13, .ref g14, .ref g15, .ref g16, .ref g17, .ref h2, .int 0]), (h2, oC 9 [.ref g18, .int 0, .long 0, .int (-1), .int 0, .int 0, .int 0, .int 0, .int 0])] sz) (QI D (fun (r : Int32) (u : Unit) => (p0 = 0 ∧ 0 = r) ∨ (p0 = 1 ∧ (-1) = r) ∨ (p0 = 2 ∧ 0 = r) ∨ (p0 = 3 ∧ 0 = r) ∨ (p0 = 4 ∧ 0 = r) ∨ (¬ p0 = 0 ∧ ¬ p0 = 1 ∧ ¬ p0 = 2 ∧ ¬ p0 = 3 ∧ ¬ p0 = 4 ∧ (-1) = r)) (fun (_ : Unit) => [(h0, oC 12 [.ref h1, .ref g0, .ref g1, .ref g2, .ref g3, .ref g4, .ref g5, .ref g6, .ref g7, .long 0]), (h1, oC 2 [.ref g8, .ref g9, .ref g10, .ref g11, .ref g12, .ref g13, .ref g14, .ref g15, .ref g16, .ref g17, .ref h2, .int 0]), (h2, oC 9 [.ref g18, .int 0, .long 0, .int (-1), .int 0, .int 0, .int 0, .int 0, .int 0])]) (va_A [(h0, oC 12 [.ref h1, .ref g0, .ref g1, .ref g2, .ref g3, .ref g4, .ref g5, .ref g6, .ref g7, .long 0]), (h1, oC 2 [.ref g8, .ref g9, .ref g10, .ref g11, .ref g12, .ref g13, .ref g14, .ref g15, .ref g16, .ref g17, .ref h2, .int 0]), (h2, oC 9 [.ref g18, .int 0, .long 0, .int (-1), .int 0, .int 0, .int 0, .int 0, .int 0])] sz)) 0 0 (va_A [(h0, oC 12 [.ref h1, .ref g0, .ref g1, .ref g2, .ref g3, .ref g4, .ref g5, .ref g6, .ref g7, .long 0]), (h1, oC 2 [.ref g8, .ref g9, .ref g10, .ref g11, .ref g12, .ref g13, .ref g14, .ref g15, .ref g16, .ref g17, .ref h2, .int 0]), (h2, oC 9 [.ref g18, .int 0, .long 0, .int (-1), .int 0, .int 0, .int 0, .int 0, .int 0])] sz) :=
  met_of (by decide +kernel) (Nat.le_of_ble_eq_true rfl) (fun p e s m args below meth c B hin hsz => by
    have B : VB p s m args meth c D Y (va_A [(h0, oC 12 [.ref h1, .ref g0, .ref g1, .ref g2, .ref g3, .ref g4, .ref g5, .ref g6, .ref g7, .long 0]), (h1, oC 2 [.ref g8, .ref g9, .ref g10, .ref g11, .ref g12, .ref g13, .ref g14, .ref g15, .ref g16, .ref g17, .ref h2, .int 0]), (h2, oC 9 [.ref g18, .int 0, .long 0, .int (-1), .int 0, .int 0, .int 0, .int 0, .int 0])] sz) cX11_typing 2 RX11 (some .int) := B
    refine V_iload_n 0 B dX11_typing_0 1 rfl ?_
    by_cases k0 : p0 = 0
    ·
      obtain rfl : p0 = 0 := k0
      refine V_tableIn 1 B 36 dX11_typing_1 (by decide +kernel) (by decide +kernel) (off := 35) (by decide +kernel) (by decide) ?_
      refine V_aload_n 36 B dX11_typing_36 0 rfl ?_
      refine V_get 37 B gf_RX11_10 0 rfl rfl dX11_typing_37 ?_
      refine V_get 40 B gf_RX11_129 1 rfl rfl dX11_typing_40 ?_
      refine V_get 43 B gf_RX11_367 2 rfl rfl dX11_typing_43 ?_
      exact V_iret 46 B dX11_typing_46 () (Or.inl ⟨rfl, rfl⟩) rfl
    ·
      by_cases k1 : p0 = 1
      ·
        obtain rfl : p0 = 1 := k1
        refine V_tableIn 1 B 47 dX11_typing_1 (by decide +kernel) (by decide +kernel) (off := 46) (by decide +kernel) (by decide) ?_
        refine V_aload_n 47 B dX11_typing_47 0 rfl ?_
        refine V_get 48 B gf_RX11_10 0 rfl rfl dX11_typing_48 ?_
        refine V_get 51 B gf_RX11_129 1 rfl rfl dX11_typing_51 ?_
        refine V_get 54 B gf_RX11_370 2 rfl rfl dX11_typing_54 ?_
        exact V_iret 57 B dX11_typing_57 () (Or.inr (Or.inl ⟨rfl, rfl⟩)) rfl
      ·
        by_cases k2 : p0 = 2
        ·
          obtain rfl : p0 = 2 := k2
          refine V_tableIn 1 B 58 dX11_typing_1 (by decide +kernel) (by decide +kernel) (off := 57) (by decide +kernel) (by decide) ?_
          refine V_aload_n 58 B dX11_typing_58 0 rfl ?_
          refine V_get 59 B gf_RX11_10 0 rfl rfl dX11_typing_59 ?_
          refine V_get 62 B gf_RX11_129 1 rfl rfl dX11_typing_62 ?_
          refine V_get 65 B gf_RX11_373 2 rfl rfl dX11_typing_65 ?_
          exact V_iret 68 B dX11_typing_68 () (Or.inr (Or.inr (Or.inl ⟨rfl, rfl⟩))) rfl
        ·
          by_cases k3 : p0 = 3
          ·
            obtain rfl : p0 = 3 := k3
            refine V_tableIn 1 B 69 dX11_typing_1 (by decide +kernel) (by decide +kernel) (off := 68) (by decide +kernel) (by decide) ?_
            refine V_aload_n 69 B dX11_typing_69 0 rfl ?_
            refine V_get 70 B gf_RX11_10 0 rfl rfl dX11_typing_70 ?_
            refine V_get 73 B gf_RX11_129 1 rfl rfl dX11_typing_73 ?_
            refine V_get 76 B gf_RX11_376 2 rfl rfl dX11_typing_76 ?_
            exact V_iret 79 B dX11_typing_79 () (Or.inr (Or.inr (Or.inr (Or.inl ⟨rfl, rfl⟩)))) rfl
          ·
            by_cases k4 : p0 = 4
            ·
              obtain rfl : p0 = 4 := k4
              refine V_tableIn 1 B 80 dX11_typing_1 (by decide +kernel) (by decide +kernel) (off := 79) (by decide +kernel) (by decide) ?_
              refine V_aload_n 80 B dX11_typing_80 0 rfl ?_
              refine V_get 81 B gf_RX11_10 0 rfl rfl dX11_typing_81 ?_
              refine V_get 84 B gf_RX11_129 1 rfl rfl dX11_typing_84 ?_
              refine V_get 87 B gf_RX11_144 2 rfl rfl dX11_typing_87 ?_
              refine V_aload_n 90 B dX11_typing_90 0 rfl ?_
              refine V_get 91 B gf_RX11_10 0 rfl rfl dX11_typing_91 ?_
              refine V_get 94 B gf_RX11_129 1 rfl rfl dX11_typing_94 ?_
              refine V_get 97 B gf_RX11_379 2 rfl rfl dX11_typing_97 ?_
              refine V_isub 100 B (v := 0) dX11_typing_100 (by decide +kernel) ?_
              exact V_iret 101 B dX11_typing_101 () (Or.inr (Or.inr (Or.inr (Or.inr (Or.inl ⟨rfl, rfl⟩))))) rfl
            ·
              refine V_tableOut 1 B 102 dX11_typing_1 (sw_out_0_4 k0 k1 k2 k3 k4) (by decide) ?_
              refine V_iconst 102 B (v := (-1)) dX11_typing_102 (by decide +kernel) ?_
              exact V_iret 103 B dX11_typing_103 () (Or.inr (Or.inr (Or.inr (Or.inr (Or.inr ⟨k0, k1, k2, k3, k4, rfl⟩))))) rfl)
theorem dX11_pending_0 : decode cX11_pending 0 = .ok (.aload_n 0, 1) := by decide +kernel
theorem dX11_pending_1 : decode cX11_pending 1 = .ok (.getfield 10, 3) := by decide +kernel
theorem dX11_pending_4 : decode cX11_pending 4 = .ok (.getfield 129, 3) := by decide +kernel
theorem dX11_pending_7 : decode cX11_pending 7 = .ok (.getfield 133, 3) := by decide +kernel
theorem dX11_pending_10 : decode cX11_pending 10 = .ok (.iload_n 1, 1) := by decide +kernel
theorem dX11_pending_11 : decode cX11_pending 11 = .ok (.invokestatic 163, 3) := by decide +kernel
theorem dX11_pending_14 : decode cX11_pending 14 = .ok (.ireturn, 1) := by decide +kernel
set_option maxRecDepth 100000 in
set_option maxHeartbeats 4000000 in
theorem mX11_pending_1 (l : Launch) (D : va_G) (Y : Nat → ClassId) (h0 : Nat) (h1 : Nat) (g0 : Nat) (g1 : Nat) (g2 : Nat) (g3 : Nat) (g4 : Nat) (g5 : Nat) (g6 : Nat) (g7 : Nat) (g8 : Nat) (g9 : Nat) (g10 : Nat) (g11 : Nat) (g12 : Nat) (g13 : Nat) (g14 : Nat) (g15 : Nat) (g16 : Nat) (g17 : Nat) (h2 : Nat) (g18 : Nat) (p0 : Int32) (sz : Nat) : Met l yX11_pending (WSm yX11_pending cX11_pending 2 (some .int)) (mkR 1 0 0 22) (PreC D Y [.ref h0, .int p0] [(h0, oC 12 [.ref h1, .ref g0, .ref g1, .ref g2, .ref g3, .ref g4, .ref g5, .ref g6, .ref g7, .long 0]), (h1, oC 2 [.ref g8, .ref g9, .ref g10, .ref g11, .ref g12, .ref g13, .ref g14, .ref g15, .ref g16, .ref g17, .ref h2, .int 0]), (h2, oC 9 [.ref g18, .int 0, .long 0, .int (-1), .int 0, .int 0, .int 0, .int 0, .int 0])] sz) (QI D (fun (r : Int32) (u : Unit) => (p0 < 0 ∧ (-1) = r) ∨ (¬ p0 < 0 ∧ p0 < 4 ∧ (-1) = r) ∨ (¬ p0 < 0 ∧ ¬ p0 < 4 ∧ (-1) = r)) (fun (_ : Unit) => [(h0, oC 12 [.ref h1, .ref g0, .ref g1, .ref g2, .ref g3, .ref g4, .ref g5, .ref g6, .ref g7, .long 0]), (h1, oC 2 [.ref g8, .ref g9, .ref g10, .ref g11, .ref g12, .ref g13, .ref g14, .ref g15, .ref g16, .ref g17, .ref h2, .int 0]), (h2, oC 9 [.ref g18, .int 0, .long 0, .int (-1), .int 0, .int 0, .int 0, .int 0, .int 0])]) (va_A [(h0, oC 12 [.ref h1, .ref g0, .ref g1, .ref g2, .ref g3, .ref g4, .ref g5, .ref g6, .ref g7, .long 0]), (h1, oC 2 [.ref g8, .ref g9, .ref g10, .ref g11, .ref g12, .ref g13, .ref g14, .ref g15, .ref g16, .ref g17, .ref h2, .int 0]), (h2, oC 9 [.ref g18, .int 0, .long 0, .int (-1), .int 0, .int 0, .int 0, .int 0, .int 0])] sz)) 0 0 (va_A [(h0, oC 12 [.ref h1, .ref g0, .ref g1, .ref g2, .ref g3, .ref g4, .ref g5, .ref g6, .ref g7, .long 0]), (h1, oC 2 [.ref g8, .ref g9, .ref g10, .ref g11, .ref g12, .ref g13, .ref g14, .ref g15, .ref g16, .ref g17, .ref h2, .int 0]), (h2, oC 9 [.ref g18, .int 0, .long 0, .int (-1), .int 0, .int 0, .int 0, .int 0, .int 0])] sz) :=
  met_of (by decide +kernel) (Nat.le_of_ble_eq_true rfl) (fun p e s m args below meth c B hin hsz => by
    have B : VB p s m args meth c D Y (va_A [(h0, oC 12 [.ref h1, .ref g0, .ref g1, .ref g2, .ref g3, .ref g4, .ref g5, .ref g6, .ref g7, .long 0]), (h1, oC 2 [.ref g8, .ref g9, .ref g10, .ref g11, .ref g12, .ref g13, .ref g14, .ref g15, .ref g16, .ref g17, .ref h2, .int 0]), (h2, oC 9 [.ref g18, .int 0, .long 0, .int (-1), .int 0, .int 0, .int 0, .int 0, .int 0])] sz) cX11_pending 2 RX11 (some .int) := B
    refine V_aload_n 0 B dX11_pending_0 0 rfl ?_
    refine V_get 1 B gf_RX11_10 0 rfl rfl dX11_pending_1 ?_
    refine V_get 4 B gf_RX11_129 1 rfl rfl dX11_pending_4 ?_
    refine V_get 7 B gf_RX11_133 2 rfl rfl dX11_pending_7 ?_
    refine V_iload_n 10 B dX11_pending_10 1 rfl ?_
    refine V_csi 11 B (st := []) (As := [.long 0, .int p0]) (fun sz => mX6_strokeAt_1 l D Y (p0) sz) glS_RX11_163 ⟨rfl, rfl⟩ ⟨(Nat.le_of_ble_eq_true rfl), (Nat.le_of_ble_eq_true rfl)⟩ ⟨(Nat.le_of_ble_eq_true rfl), (Nat.le_of_ble_eq_true rfl)⟩ [] rfl rfl (Nat.le_of_ble_eq_true rfl) rfl (fun _ _ _ => rfl) dX11_pending_11 (fun r0 u0 w0 => ?_)
    rcases w0 with ⟨k1, rfl⟩ | ⟨k2, k3, rfl⟩ | ⟨k4, k5, rfl⟩
    ·
      refine V_ws [(h0, oC 12 [.ref h1, .ref g0, .ref g1, .ref g2, .ref g3, .ref g4, .ref g5, .ref g6, .ref g7, .long 0]), (h1, oC 2 [.ref g8, .ref g9, .ref g10, .ref g11, .ref g12, .ref g13, .ref g14, .ref g15, .ref g16, .ref g17, .ref h2, .int 0]), (h2, oC 9 [.ref g18, .int 0, .long 0, .int (-1), .int 0, .int 0, .int 0, .int 0, .int 0])] rfl ?_
      exact V_iret 14 B dX11_pending_14 () (Or.inl ⟨k1, rfl⟩) rfl
    ·
      refine V_ws [(h0, oC 12 [.ref h1, .ref g0, .ref g1, .ref g2, .ref g3, .ref g4, .ref g5, .ref g6, .ref g7, .long 0]), (h1, oC 2 [.ref g8, .ref g9, .ref g10, .ref g11, .ref g12, .ref g13, .ref g14, .ref g15, .ref g16, .ref g17, .ref h2, .int 0]), (h2, oC 9 [.ref g18, .int 0, .long 0, .int (-1), .int 0, .int 0, .int 0, .int 0, .int 0])] rfl ?_
      exact V_iret 14 B dX11_pending_14 () (Or.inr (Or.inl ⟨k2, k3, rfl⟩)) rfl
    ·
      refine V_ws [(h0, oC 12 [.ref h1, .ref g0, .ref g1, .ref g2, .ref g3, .ref g4, .ref g5, .ref g6, .ref g7, .long 0]), (h1, oC 2 [.ref g8, .ref g9, .ref g10, .ref g11, .ref g12, .ref g13, .ref g14, .ref g15, .ref g16, .ref g17, .ref h2, .int 0]), (h2, oC 9 [.ref g18, .int 0, .long 0, .int (-1), .int 0, .int 0, .int 0, .int 0, .int 0])] rfl ?_
      exact V_iret 14 B dX11_pending_14 () (Or.inr (Or.inr ⟨k4, k5, rfl⟩)) rfl)
theorem dX11_backTo_0 : decode cX11_backTo 0 = .ok (.iload_n 1, 1) := by decide +kernel
theorem dX11_backTo_1 : decode cX11_backTo 1 = .ok (.ifCond .ge 5, 3) := by decide +kernel
theorem dX11_backTo_6 : decode cX11_backTo 6 = .ok (.aload_n 0, 1) := by decide +kernel
theorem dX11_backTo_7 : decode cX11_backTo 7 = .ok (.getfield 10, 3) := by decide +kernel
theorem dX11_backTo_10 : decode cX11_backTo 10 = .ok (.getfield 129, 3) := by decide +kernel
theorem dX11_backTo_13 : decode cX11_backTo 13 = .ok (.getfield 147, 3) := by decide +kernel
theorem dX11_backTo_16 : decode cX11_backTo 16 = .ok (.aload_n 0, 1) := by decide +kernel
theorem dX11_backTo_17 : decode cX11_backTo 17 = .ok (.getfield 10, 3) := by decide +kernel
theorem dX11_backTo_20 : decode cX11_backTo 20 = .ok (.getfield 129, 3) := by decide +kernel
theorem dX11_backTo_23 : decode cX11_backTo 23 = .ok (.getfield 147, 3) := by decide +kernel
theorem dX11_backTo_26 : decode cX11_backTo 26 = .ok (.invokevirtual 95, 3) := by decide +kernel
theorem dX11_backTo_29 : decode cX11_backTo 29 = .ok (.iconst 1, 1) := by decide +kernel
theorem dX11_backTo_30 : decode cX11_backTo 30 = .ok (.isub, 1) := by decide +kernel
theorem dX11_backTo_31 : decode cX11_backTo 31 = .ok (.iload_n 1, 1) := by decide +kernel
theorem dX11_backTo_32 : decode cX11_backTo 32 = .ok (.isub, 1) := by decide +kernel
theorem dX11_backTo_33 : decode cX11_backTo 33 = .ok (.invokevirtual 187, 3) := by decide +kernel
theorem dX11_backTo_36 : decode cX11_backTo 36 = .ok (.ireturn, 1) := by decide +kernel
theorem dX11_backTo_4 : decode cX11_backTo 4 = .ok (.iconst (-1), 1) := by decide +kernel
theorem dX11_backTo_5 : decode cX11_backTo 5 = .ok (.ireturn, 1) := by decide +kernel
set_option maxRecDepth 100000 in
set_option maxHeartbeats 4000000 in
theorem mX11_backTo_1 (l : Launch) (D : va_G) (Y : Nat → ClassId) (h0 : Nat) (h1 : Nat) (g0 : Nat) (g1 : Nat) (g2 : Nat) (g3 : Nat) (g4 : Nat) (g5 : Nat) (g6 : Nat) (g7 : Nat) (g8 : Nat) (g9 : Nat) (g10 : Nat) (g11 : Nat) (g12 : Nat) (g13 : Nat) (g14 : Nat) (g15 : Nat) (g16 : Nat) (g17 : Nat) (h2 : Nat) (h3 : Nat) (g18 : Nat) (p0 : Int32) (sz : Nat) : Met l yX11_backTo (WSm yX11_backTo cX11_backTo 2 (some .int)) (mkR 1 0 0 21) (PreC D Y [.ref h0, .int p0] [(h0, oC 12 [.ref h1, .ref g0, .ref g1, .ref g2, .ref g3, .ref g4, .ref g5, .ref g6, .ref g7, .long 0]), (h1, oC 2 [.ref g8, .ref g9, .ref g10, .ref g11, .ref g12, .ref g13, .ref g14, .ref g15, .ref g16, .ref g17, .ref h2, .int 0]), (h2, oC 9 [.ref h3, .int 0, .long 0, .int (-1), .int 0, .int 0, .int 0, .int 0, .int 0]), (h3, oC 3 [.ref g18, .int 0])] sz) (QI D (fun (r : Int32) (u : Unit) => (0 ≤ p0 ∧ ((-1) - p0) < 0 ∧ (-1) = r) ∨ (0 ≤ p0 ∧ ¬ ((-1) - p0) < 0 ∧ (-1) = r) ∨ (¬ 0 ≤ p0 ∧ (-1) = r)) (fun (_ : Unit) => [(h0, oC 12 [.ref h1, .ref g0, .ref g1, .ref g2, .ref g3, .ref g4, .ref g5, .ref g6, .ref g7, .long 0]), (h1, oC 2 [.ref g8, .ref g9, .ref g10, .ref g11, .ref g12, .ref g13, .ref g14, .ref g15, .ref g16, .ref g17, .ref h2, .int 0]), (h2, oC 9 [.ref h3, .int 0, .long 0, .int (-1), .int 0, .int 0, .int 0, .int 0, .int 0]), (h3, oC 3 [.ref g18, .int 0])]) (va_A [(h0, oC 12 [.ref h1, .ref g0, .ref g1, .ref g2, .ref g3, .ref g4, .ref g5, .ref g6, .ref g7, .long 0]), (h1, oC 2 [.ref g8, .ref g9, .ref g10, .ref g11, .ref g12, .ref g13, .ref g14, .ref g15, .ref g16, .ref g17, .ref h2, .int 0]), (h2, oC 9 [.ref h3, .int 0, .long 0, .int (-1), .int 0, .int 0, .int 0, .int 0, .int 0]), (h3, oC 3 [.ref g18, .int 0])] sz)) 0 0 (va_A [(h0, oC 12 [.ref h1, .ref g0, .ref g1, .ref g2, .ref g3, .ref g4, .ref g5, .ref g6, .ref g7, .long 0]), (h1, oC 2 [.ref g8, .ref g9, .ref g10, .ref g11, .ref g12, .ref g13, .ref g14, .ref g15, .ref g16, .ref g17, .ref h2, .int 0]), (h2, oC 9 [.ref h3, .int 0, .long 0, .int (-1), .int 0, .int 0, .int 0, .int 0, .int 0]), (h3, oC 3 [.ref g18, .int 0])] sz) :=
  met_of (by decide +kernel) (Nat.le_of_ble_eq_true rfl) (fun p e s m args below meth c B hin hsz => by
    have B : VB p s m args meth c D Y (va_A [(h0, oC 12 [.ref h1, .ref g0, .ref g1, .ref g2, .ref g3, .ref g4, .ref g5, .ref g6, .ref g7, .long 0]), (h1, oC 2 [.ref g8, .ref g9, .ref g10, .ref g11, .ref g12, .ref g13, .ref g14, .ref g15, .ref g16, .ref g17, .ref h2, .int 0]), (h2, oC 9 [.ref h3, .int 0, .long 0, .int (-1), .int 0, .int 0, .int 0, .int 0, .int 0]), (h3, oC 3 [.ref g18, .int 0])] sz) cX11_backTo 2 RX11 (some .int) := B
    refine V_iload_n 0 B dX11_backTo_0 1 rfl ?_
    refine V_if_ge 1 B 6 dX11_backTo_1 (by decide) (fun k0 => ?_) (fun k0 => ?_)
    ·
      refine V_aload_n 6 B dX11_backTo_6 0 rfl ?_
      refine V_get 7 B gf_RX11_10 0 rfl rfl dX11_backTo_7 ?_
      refine V_get 10 B gf_RX11_129 1 rfl rfl dX11_backTo_10 ?_
      refine V_get 13 B gf_RX11_147 2 rfl rfl dX11_backTo_13 ?_
      refine V_aload_n 16 B dX11_backTo_16 0 rfl ?_
      refine V_get 17 B gf_RX11_10 0 rfl rfl dX11_backTo_17 ?_
      refine V_get 20 B gf_RX11_129 1 rfl rfl dX11_backTo_20 ?_
      refine V_get 23 B gf_RX11_147 2 rfl rfl dX11_backTo_23 ?_
      refine V_cvi 26 B (st := [.ref h3]) (As := []) (fun sz => mX1_size_1 l D Y (h3) (g18) sz) glV_RX11_95 ⟨rfl, rfl⟩ ⟨(Nat.le_of_ble_eq_true rfl), (Nat.le_of_ble_eq_true rfl)⟩ ⟨(Nat.le_of_ble_eq_true rfl), (Nat.le_of_ble_eq_true rfl)⟩ [3] rfl 3 0 rfl rfl rfl rfl (Nat.le_of_ble_eq_true rfl) rfl (fun _ _ _ => rfl) dX11_backTo_26 (fun r1 u1 w1 => ?_)
      obtain rfl := w1
      refine V_ws [(h0, oC 12 [.ref h1, .ref g0, .ref g1, .ref g2, .ref g3, .ref g4, .ref g5, .ref g6, .ref g7, .long 0]), (h1, oC 2 [.ref g8, .ref g9, .ref g10, .ref g11, .ref g12, .ref g13, .ref g14, .ref g15, .ref g16, .ref g17, .ref h2, .int 0]), (h2, oC 9 [.ref h3, .int 0, .long 0, .int (-1), .int 0, .int 0, .int 0, .int 0, .int 0]), (h3, oC 3 [.ref g18, .int 0])] rfl ?_
      refine V_iconst 29 B (v := 1) dX11_backTo_29 (by decide +kernel) ?_
      refine V_isub 30 B (v := (-1)) dX11_backTo_30 (by decide +kernel) ?_
      refine V_iload_n 31 B dX11_backTo_31 1 rfl ?_
      refine V_isub 32 B dX11_backTo_32 rfl ?_
      refine V_cvi 33 B (st := []) (As := [.int ((-1) - p0)]) (fun sz => mX1_at_2 l D Y (h3) (g18) (((-1) - p0)) sz) glV_RX11_187 ⟨rfl, rfl⟩ ⟨(Nat.le_of_ble_eq_true rfl), (Nat.le_of_ble_eq_true rfl)⟩ ⟨(Nat.le_of_ble_eq_true rfl), (Nat.le_of_ble_eq_true rfl)⟩ [3] rfl 3 0 rfl rfl rfl rfl (Nat.le_of_ble_eq_true rfl) rfl (fun _ _ _ => rfl) dX11_backTo_33 (fun r2 u2 w2 => ?_)
      rcases w2 with ⟨k3, rfl⟩ | ⟨k4, rfl⟩
      ·
        refine V_ws [(h0, oC 12 [.ref h1, .ref g0, .ref g1, .ref g2, .ref g3, .ref g4, .ref g5, .ref g6, .ref g7, .long 0]), (h1, oC 2 [.ref g8, .ref g9, .ref g10, .ref g11, .ref g12, .ref g13, .ref g14, .ref g15, .ref g16, .ref g17, .ref h2, .int 0]), (h2, oC 9 [.ref h3, .int 0, .long 0, .int (-1), .int 0, .int 0, .int 0, .int 0, .int 0]), (h3, oC 3 [.ref g18, .int 0])] rfl ?_
        exact V_iret 36 B dX11_backTo_36 () (Or.inl ⟨k0, k3, rfl⟩) rfl
      ·
        refine V_ws [(h0, oC 12 [.ref h1, .ref g0, .ref g1, .ref g2, .ref g3, .ref g4, .ref g5, .ref g6, .ref g7, .long 0]), (h1, oC 2 [.ref g8, .ref g9, .ref g10, .ref g11, .ref g12, .ref g13, .ref g14, .ref g15, .ref g16, .ref g17, .ref h2, .int 0]), (h2, oC 9 [.ref h3, .int 0, .long 0, .int (-1), .int 0, .int 0, .int 0, .int 0, .int 0]), (h3, oC 3 [.ref g18, .int 0])] rfl ?_
        exact V_iret 36 B dX11_backTo_36 () (Or.inr (Or.inl ⟨k0, k4, rfl⟩)) rfl
    ·
      refine V_iconst 4 B (v := (-1)) dX11_backTo_4 (by decide +kernel) ?_
      exact V_iret 5 B dX11_backTo_5 () (Or.inr (Or.inr ⟨k0, rfl⟩)) rfl)
theorem dX8_dropLatePending_7 : decode cX8_dropLatePending 7 = .ok (.aload_n 0, 1) := by decide +kernel
theorem dX8_dropLatePending_8 : decode cX8_dropLatePending 8 = .ok (.getfield 30, 3) := by decide +kernel
theorem dX8_dropLatePending_11 : decode cX8_dropLatePending 11 = .ok (.lconst 0, 1) := by decide +kernel
theorem dX8_dropLatePending_12 : decode cX8_dropLatePending 12 = .ok (.lcmp, 1) := by decide +kernel
theorem dX8_dropLatePending_13 : decode cX8_dropLatePending 13 = .ok (.ifCond .eq 34, 3) := by decide +kernel
set_option maxRecDepth 100000 in
set_option maxHeartbeats 4000000 in
theorem mX8_dropLatePending_2 (l : Launch) (D : va_G) (Y : Nat → ClassId) (h0 : Nat) (g0 : Nat) (p0 : Int32) (sz : Nat) : Met l yX8_dropLatePending (WSm yX8_dropLatePending cX8_dropLatePending 1 none) (mkR 0 0 0 0) (PreC D Y [.ref h0] [(h0, oC 9 [.ref g0, .int 0, .long 0, .int (-1), .int 0, .int 0, .int 0, .int 0, .int p0])] sz) (QV D (fun (u : Unit) => (p0 ≤ 0) ∨ (¬ p0 ≤ 0)) (fun (_ : Unit) => [(h0, oC 9 [.ref g0, .int 0, .long 0, .int (-1), .int 0, .int 0, .int 0, .int 0, .int p0])]) (va_A [(h0, oC 9 [.ref g0, .int 0, .long 0, .int (-1), .int 0, .int 0, .int 0, .int 0, .int p0])] sz)) 0 0 (va_A [(h0, oC 9 [.ref g0, .int 0, .long 0, .int (-1), .int 0, .int 0, .int 0, .int 0, .int p0])] sz) :=
  met_of (by decide +kernel) (Nat.le_of_ble_eq_true rfl) (fun p e s m args below meth c B hin hsz => by
    have B : VB p s m args meth c D Y (va_A [(h0, oC 9 [.ref g0, .int 0, .long 0, .int (-1), .int 0, .int 0, .int 0, .int 0, .int p0])] sz) cX8_dropLatePending 1 RX8 none := B
    refine V_aload_n 0 B dX8_dropLatePending_0 0 rfl ?_
    refine V_get 1 B gf_RX8_46 0 rfl rfl dX8_dropLatePending_1 ?_
    refine V_if_le 4 B 47 dX8_dropLatePending_4 (by decide) (fun k0 => ?_) (fun k0 => ?_)
    ·
      exact V_vret 47 B dX8_dropLatePending_47 () (Or.inl k0) rfl
    ·
      refine V_aload_n 7 B dX8_dropLatePending_7 0 rfl ?_
      refine V_get 8 B gf_RX8_30 0 rfl rfl dX8_dropLatePending_8 ?_
      refine V_lconst 11 B (v := 0) dX8_dropLatePending_11 (by decide +kernel) ?_
      refine V_lcmp 12 B (v := 0) dX8_dropLatePending_12 (by decide +kernel) ?_
      refine V_if_eq_t 13 B 47 dX8_dropLatePending_13 (by decide) (by decide +kernel) ?_
      exact V_vret 47 B dX8_dropLatePending_47 () (Or.inr k0) rfl)
theorem dX11_setTimeout_0 : decode cX11_setTimeout 0 = .ok (.iload_n 1, 1) := by decide +kernel
theorem dX11_setTimeout_1 : decode cX11_setTimeout 1 = .ok (.ifCond .lt 10, 3) := by decide +kernel
theorem dX11_setTimeout_11 : decode cX11_setTimeout 11 = .ok (.new 190, 3) := by decide +kernel
theorem gt_RX11_190_382_194 : GT RX11 190 382 194 "java/lang/IllegalArgumentException" "no such timeout" ["java/lang/RuntimeException", "java/lang/Exception"] := ⟨rfl, (mT5 31 rfl rfl), (mT1 22 rfl rfl), List.mem_of_getElem? (i := 7) rfl, by decide +kernel, by decide +kernel, List.mem_of_getElem? (i := 0) rfl, gta_194⟩
theorem dX11_setTimeout_14 : decode cX11_setTimeout 14 = .ok (.dup, 1) := by decide +kernel
theorem dX11_setTimeout_15 : decode cX11_setTimeout 15 = .ok (.ldc_w 382, 3) := by decide +kernel
theorem dX11_setTimeout_18 : decode cX11_setTimeout 18 = .ok (.invokespecial 194, 3) := by decide +kernel
theorem dX11_setTimeout_21 : decode cX11_setTimeout 21 = .ok (.athrow, 1) := by decide +kernel
theorem dX11_setTimeout_4 : decode cX11_setTimeout 4 = .ok (.iload_n 1, 1) := by decide +kernel
theorem dX11_setTimeout_5 : decode cX11_setTimeout 5 = .ok (.sipush 1000, 3) := by decide +kernel
theorem dX11_setTimeout_8 : decode cX11_setTimeout 8 = .ok (.if_icmp .lt 14, 3) := by decide +kernel
theorem dX11_setTimeout_22 : decode cX11_setTimeout 22 = .ok (.aload_n 0, 1) := by decide +kernel
theorem dX11_setTimeout_23 : decode cX11_setTimeout 23 = .ok (.getfield 10, 3) := by decide +kernel
theorem dX11_setTimeout_26 : decode cX11_setTimeout 26 = .ok (.getfield 129, 3) := by decide +kernel
theorem dX11_setTimeout_29 : decode cX11_setTimeout 29 = .ok (.getfield 153, 3) := by decide +kernel
theorem dX11_setTimeout_32 : decode cX11_setTimeout 32 = .ok (.istore_n 2, 1) := by decide +kernel
theorem dX11_setTimeout_33 : decode cX11_setTimeout 33 = .ok (.aload_n 0, 1) := by decide +kernel
theorem dX11_setTimeout_34 : decode cX11_setTimeout 34 = .ok (.getfield 10, 3) := by decide +kernel
theorem dX11_setTimeout_37 : decode cX11_setTimeout 37 = .ok (.getfield 129, 3) := by decide +kernel
theorem dX11_setTimeout_40 : decode cX11_setTimeout 40 = .ok (.iload_n 1, 1) := by decide +kernel
theorem dX11_setTimeout_41 : decode cX11_setTimeout 41 = .ok (.putfield 153, 3) := by decide +kernel
theorem gp_RX11_153 : GP RX11 153 9 8 .int false := ⟨RX8, TX8, 9, ⟨rfl, inw_X8, Nat.le_of_ble_eq_true rfl, (mT1 134 rfl rfl)⟩, ⟨tyX8, tyX8_ok⟩, nmX8, rfl, by decide +kernel, fun h => nomatch h⟩
theorem dX11_setTimeout_44 : decode cX11_setTimeout 44 = .ok (.aload_n 0, 1) := by decide +kernel
theorem dX11_setTimeout_45 : decode cX11_setTimeout 45 = .ok (.getfield 10, 3) := by decide +kernel
theorem dX11_setTimeout_48 : decode cX11_setTimeout 48 = .ok (.getfield 129, 3) := by decide +kernel
theorem dX11_setTimeout_51 : decode cX11_setTimeout 51 = .ok (.invokevirtual 384, 3) := by decide +kernel
theorem glV_RX11_384 : GLV RX11 384 yX8_dropLatePending RX8 cX8_dropLatePending 1 none 0 := ⟨⟨(mT7 96 rfl rfl), (mT4 179 rfl rfl), (mT4 180 rfl rfl), (mT1 7 rfl rfl), (mT4 181 rfl rfl)⟩, by decide +kernel⟩
theorem dX11_setTimeout_54 : decode cX11_setTimeout 54 = .ok (.iload_n 2, 1) := by decide +kernel
theorem dX11_setTimeout_55 : decode cX11_setTimeout 55 = .ok (.ireturn, 1) := by decide +kernel
set_option maxRecDepth 100000 in
set_option maxHeartbeats 4000000 in
theorem mX11_setTimeout_1 (l : Launch) (hl9 : l.stackTraces = false) (D : va_G) (Y : Nat → ClassId) (h0 : Nat) (h1 : Nat) (g0 : Nat) (g1 : Nat) (g2 : Nat) (g3 : Nat) (g4 : Nat) (g5 : Nat) (g6 : Nat) (g7 : Nat) (g8 : Nat) (g9 : Nat) (g10 : Nat) (g11 : Nat) (g12 : Nat) (g13 : Nat) (g14 : Nat) (g15 : Nat) (g16 : Nat) (g17 : Nat) (h2 : Nat) (g18 : Nat) (p0 : Int32) (sz : Nat) : vx_Met l yX11_setTimeout (WSm yX11_setTimeout cX11_setTimeout 3 (some .int)) (mkR 6 1 6 82) (PreX D Y [.ref h0, .int p0] [(h0, oC 12 [.ref h1, .ref g0, .ref g1, .ref g2, .ref g3, .ref g4, .ref g5, .ref g6, .ref g7, .long 0]), (h1, oC 2 [.ref g8, .ref g9, .ref g10, .ref g11, .ref g12, .ref g13, .ref g14, .ref g15, .ref g16, .ref g17, .ref h2, .int 0]), (h2, oC 9 [.ref g18, .int 0, .long 0, .int (-1), .int 0, .int 0, .int 0, .int 0, .int 0])] sz) (QI D (fun (r : Int32) (u : Nat) => (u = 0 ∧ p0 = 0 ∧ 0 = r) ∨ (u = 1 ∧ ¬ p0 < 0 ∧ p0 < 1000 ∧ ¬ p0 ≤ 0 ∧ 0 = r)) (fun (u : Nat) => match u with | 0 => [(h0, oC 12 [.ref h1, .ref g0, .ref g1, .ref g2, .ref g3, .ref g4, .ref g5, .ref g6, .ref g7, .long 0]), (h1, oC 2 [.ref g8, .ref g9, .ref g10, .ref g11, .ref g12, .ref g13, .ref g14, .ref g15, .ref g16, .ref g17, .ref h2, .int 0]), (h2, oC 9 [.ref g18, .int 0, .long 0, .int (-1), .int 0, .int 0, .int 0, .int 0, .int 0])] | _ => [(h0, oC 12 [.ref h1, .ref g0, .ref g1, .ref g2, .ref g3, .ref g4, .ref g5, .ref g6, .ref g7, .long 0]), (h1, oC 2 [.ref g8, .ref g9, .ref g10, .ref g11, .ref g12, .ref g13, .ref g14, .ref g15, .ref g16, .ref g17, .ref h2, .int 0]), (h2, oC 9 [.ref g18, .int 0, .long 0, .int (-1), .int 0, .int 0, .int 0, .int 0, .int p0])]) (va_A [(h0, oC 12 [.ref h1, .ref g0, .ref g1, .ref g2, .ref g3, .ref g4, .ref g5, .ref g6, .ref g7, .long 0]), (h1, oC 2 [.ref g8, .ref g9, .ref g10, .ref g11, .ref g12, .ref g13, .ref g14, .ref g15, .ref g16, .ref g17, .ref h2, .int 0]), (h2, oC 9 [.ref g18, .int 0, .long 0, .int (-1), .int 0, .int 0, .int 0, .int 0, .int 0])] sz)) (XW D (fun (E : String) (u : Unit) => (E = "java/lang/IllegalArgumentException" ∧ p0 < 0) ∨ (E = "java/lang/IllegalArgumentException" ∧ ¬ p0 < 0 ∧ ¬ p0 < 1000)) (fun (_ : Unit) => [(h0, oC 12 [.ref h1, .ref g0, .ref g1, .ref g2, .ref g3, .ref g4, .ref g5, .ref g6, .ref g7, .long 0]), (h1, oC 2 [.ref g8, .ref g9, .ref g10, .ref g11, .ref g12, .ref g13, .ref g14, .ref g15, .ref g16, .ref g17, .ref h2, .int 0]), (h2, oC 9 [.ref g18, .int 0, .long 0, .int (-1), .int 0, .int 0, .int 0, .int 0, .int 0])]) (va_A [(h0, oC 12 [.ref h1, .ref g0, .ref g1, .ref g2, .ref g3, .ref g4, .ref g5, .ref g6, .ref g7, .long 0]), (h1, oC 2 [.ref g8, .ref g9, .ref g10, .ref g11, .ref g12, .ref g13, .ref g14, .ref g15, .ref g16, .ref g17, .ref h2, .int 0]), (h2, oC 9 [.ref g18, .int 0, .long 0, .int (-1), .int 0, .int 0, .int 0, .int 0, .int 0])] sz)) 1 6 (va_A [(h0, oC 12 [.ref h1, .ref g0, .ref g1, .ref g2, .ref g3, .ref g4, .ref g5, .ref g6, .ref g7, .long 0]), (h1, oC 2 [.ref g8, .ref g9, .ref g10, .ref g11, .ref g12, .ref g13, .ref g14, .ref g15, .ref g16, .ref g17, .ref h2, .int 0]), (h2, oC 9 [.ref g18, .int 0, .long 0, .int (-1), .int 0, .int 0, .int 0, .int 0, .int 0])] sz) :=
  xmet_of (by decide +kernel) (Nat.le_of_ble_eq_true rfl) (fun p e s m args below meth c B EB hout hsz => by
    have B : VB p s m args meth c D Y (va_A [(h0, oC 12 [.ref h1, .ref g0, .ref g1, .ref g2, .ref g3, .ref g4, .ref g5, .ref g6, .ref g7, .long 0]), (h1, oC 2 [.ref g8, .ref g9, .ref g10, .ref g11, .ref g12, .ref g13, .ref g14, .ref g15, .ref g16, .ref g17, .ref h2, .int 0]), (h2, oC 9 [.ref g18, .int 0, .long 0, .int (-1), .int 0, .int 0, .int 0, .int 0, .int 0])] sz) cX11_setTimeout 3 RX11 (some .int) := B
    refine V_iload_n 0 B dX11_setTimeout_0 1 rfl ?_
    refine V_if_lt 1 B 11 dX11_setTimeout_1 (by decide) (fun k0 => ?_) (fun k0 => ?_)
    ·
      exact V_throwSW 11 B EB hl9 gt_RX11_190_382_194 hout dX11_setTimeout_11 dX11_setTimeout_14 dX11_setTimeout_15 dX11_setTimeout_18 dX11_setTimeout_21 (Nat.le_of_ble_eq_true rfl) (Nat.le_of_ble_eq_true rfl) (Nat.le_of_ble_eq_true rfl) (Nat.le_of_ble_eq_true rfl) (Nat.le_of_ble_eq_true rfl) (Nat.le_of_ble_eq_true rfl) () (Or.inl ⟨rfl, k0⟩) rfl
    ·
      refine V_iload_n 4 B dX11_setTimeout_4 1 rfl ?_
      refine V_sipush 5 B (v := 1000) dX11_setTimeout_5 (by decide +kernel) ?_
      refine V_icmp_lt 8 B 22 dX11_setTimeout_8 (by decide) (fun k1 => ?_) (fun k1 => ?_)
      ·
        refine V_aload_n 22 B dX11_setTimeout_22 0 rfl ?_
        refine V_get 23 B gf_RX11_10 0 rfl rfl dX11_setTimeout_23 ?_
        refine V_get 26 B gf_RX11_129 1 rfl rfl dX11_setTimeout_26 ?_
        refine V_get 29 B gf_RX11_153 2 rfl rfl dX11_setTimeout_29 ?_
        refine V_istore_n 32 B (lv2 := [(2, .int 0), (0, .ref h0), (1, .int p0)]) dX11_setTimeout_32 (by decide) rfl ?_
        refine V_aload_n 33 B dX11_setTimeout_33 1 rfl ?_
        refine V_get 34 B gf_RX11_10 0 rfl rfl dX11_setTimeout_34 ?_
        refine V_get 37 B gf_RX11_129 1 rfl rfl dX11_setTimeout_37 ?_
        refine V_iload_n 40 B dX11_setTimeout_40 2 rfl ?_
        refine V_put 41 B gp_RX11_153 2 rfl (Nat.le_of_ble_eq_true rfl) rfl rfl dX11_setTimeout_41 [(h0, oC 12 [.ref h1, .ref g0, .ref g1, .ref g2, .ref g3, .ref g4, .ref g5, .ref g6, .ref g7, .long 0]), (h1, oC 2 [.ref g8, .ref g9, .ref g10, .ref g11, .ref g12, .ref g13, .ref g14, .ref g15, .ref g16, .ref g17, .ref h2, .int 0]), (h2, oC 9 [.ref g18, .int 0, .long 0, .int (-1), .int 0, .int 0, .int 0, .int 0, .int p0])] rfl ?_
        refine V_aload_n 44 B dX11_setTimeout_44 1 rfl ?_
        refine V_get 45 B gf_RX11_10 0 rfl rfl dX11_setTimeout_45 ?_
        refine V_get 48 B gf_RX11_129 1 rfl rfl dX11_setTimeout_48 ?_
        refine V_cvv 51 B (st := []) (As := []) (fun sz => mX8_dropLatePending_2 l D Y (h2) (g18) (p0) sz) glV_RX11_384 ⟨rfl, rfl⟩ ⟨(Nat.le_of_ble_eq_true rfl), (Nat.le_of_ble_eq_true rfl)⟩ ⟨(Nat.le_of_ble_eq_true rfl), (Nat.le_of_ble_eq_true rfl)⟩ [2] rfl 9 0 rfl rfl rfl rfl (Nat.le_of_ble_eq_true rfl) rfl (fun _ _ => rfl) dX11_setTimeout_51 (fun u2 w2 => ?_)
        rcases w2 with k3 | k4
        ·
          refine V_ws [(h0, oC 12 [.ref h1, .ref g0, .ref g1, .ref g2, .ref g3, .ref g4, .ref g5, .ref g6, .ref g7, .long 0]), (h1, oC 2 [.ref g8, .ref g9, .ref g10, .ref g11, .ref g12, .ref g13, .ref g14, .ref g15, .ref g16, .ref g17, .ref h2, .int 0]), (h2, oC 9 [.ref g18, .int 0, .long 0, .int (-1), .int 0, .int 0, .int 0, .int 0, .int p0])] rfl ?_
          obtain rfl : p0 = 0 := q_eq (b_nlt k0 (n := 0) (by decide +kernel)) (b_le k3 (n := 0) (by decide +kernel)) (by decide +kernel)
          refine V_iload_n 54 B dX11_setTimeout_54 0 rfl ?_
          refine V_xret ?_
          refine V_widen (k := 1) (n := 6) (Nat.le_of_ble_eq_true rfl) (Nat.le_of_ble_eq_true rfl) ?_
          exact V_iret 55 B dX11_setTimeout_55 0 (Or.inl ⟨rfl, rfl, rfl⟩) rfl
        ·
          refine V_ws [(h0, oC 12 [.ref h1, .ref g0, .ref g1, .ref g2, .ref g3, .ref g4, .ref g5, .ref g6, .ref g7, .long 0]), (h1, oC 2 [.ref g8, .ref g9, .ref g10, .ref g11, .ref g12, .ref g13, .ref g14, .ref g15, .ref g16, .ref g17, .ref h2, .int 0]), (h2, oC 9 [.ref g18, .int 0, .long 0, .int (-1), .int 0, .int 0, .int 0, .int 0, .int p0])] rfl ?_
          refine V_iload_n 54 B dX11_setTimeout_54 0 rfl ?_
          refine V_xret ?_
          refine V_widen (k := 1) (n := 6) (Nat.le_of_ble_eq_true rfl) (Nat.le_of_ble_eq_true rfl) ?_
          exact V_iret 55 B dX11_setTimeout_55 1 (Or.inr ⟨rfl, k0, k1, k4, rfl⟩) rfl
      ·
        exact V_throwSW 11 B EB hl9 gt_RX11_190_382_194 hout dX11_setTimeout_11 dX11_setTimeout_14 dX11_setTimeout_15 dX11_setTimeout_18 dX11_setTimeout_21 (Nat.le_of_ble_eq_true rfl) (Nat.le_of_ble_eq_true rfl) (Nat.le_of_ble_eq_true rfl) (Nat.le_of_ble_eq_true rfl) (Nat.le_of_ble_eq_true rfl) (Nat.le_of_ble_eq_true rfl) () (Or.inr ⟨rfl, k0, k1⟩) rfl)
theorem dX11_wish_0 : decode cX11_wish 0 = .ok (.aload_n 0, 1) := by decide +kernel
theorem dX11_wish_1 : decode cX11_wish 1 = .ok (.getfield 68, 3) := by decide +kernel
theorem dX11_wish_4 : decode cX11_wish 4 = .ok (.lconst 0, 1) := by decide +kernel
theorem dX11_wish_5 : decode cX11_wish 5 = .ok (.lcmp, 1) := by decide +kernel
theorem dX11_wish_6 : decode cX11_wish 6 = .ok (.ifCond .ne 6, 3) := by decide +kernel
theorem dX11_wish_9 : decode cX11_wish 9 = .ok (.bipush (-4), 2) := by decide +kernel
theorem dX11_wish_11 : decode cX11_wish 11 = .ok (.ireturn, 1) := by decide +kernel
set_option maxRecDepth 100000 in
set_option maxHeartbeats 4000000 in
theorem mX11_wish_1 (l : Launch) (D : va_G) (Y : Nat → ClassId) (h0 : Nat) (g0 : Nat) (g1 : Nat) (g2 : Nat) (g3 : Nat) (g4 : Nat) (g5 : Nat) (g6 : Nat) (g7 : Nat) (g8 : Nat) (sz : Nat) : Met l yX11_wish (WSm yX11_wish cX11_wish 1 (some .int)) (mkR 0 0 0 0) (PreC D Y [.ref h0] [(h0, oC 12 [.ref g0, .ref g1, .ref g2, .ref g3, .ref g4, .ref g5, .ref g6, .ref g7, .ref g8, .long 0])] sz) (QI D (fun (r : Int32) (u : Unit) => (-4) = r) (fun (_ : Unit) => [(h0, oC 12 [.ref g0, .ref g1, .ref g2, .ref g3, .ref g4, .ref g5, .ref g6, .ref g7, .ref g8, .long 0])]) (va_A [(h0, oC 12 [.ref g0, .ref g1, .ref g2, .ref g3, .ref g4, .ref g5, .ref g6, .ref g7, .ref g8, .long 0])] sz)) 0 0 (va_A [(h0, oC 12 [.ref g0, .ref g1, .ref g2, .ref g3, .ref g4, .ref g5, .ref g6, .ref g7, .ref g8, .long 0])] sz) :=
  met_of (by decide +kernel) (Nat.le_of_ble_eq_true rfl) (fun p e s m args below meth c B hin hsz => by
    have B : VB p s m args meth c D Y (va_A [(h0, oC 12 [.ref g0, .ref g1, .ref g2, .ref g3, .ref g4, .ref g5, .ref g6, .ref g7, .ref g8, .long 0])] sz) cX11_wish 1 RX11 (some .int) := B
    refine V_aload_n 0 B dX11_wish_0 0 rfl ?_
    refine V_get 1 B gf_RX11_68 0 rfl rfl dX11_wish_1 ?_
    refine V_lconst 4 B (v := 0) dX11_wish_4 (by decide +kernel) ?_
    refine V_lcmp 5 B (v := 0) dX11_wish_5 (by decide +kernel) ?_
    refine V_if_ne_f 6 B 12 dX11_wish_6 (by decide) (by decide +kernel) ?_
    refine V_bipush 9 B (v := (-4)) dX11_wish_9 (by decide +kernel) ?_
    exact V_iret 11 B dX11_wish_11 () rfl rfl)
theorem dX11_clearWishes_0 : decode cX11_clearWishes 0 = .ok (.aload_n 0, 1) := by decide +kernel
theorem dX11_clearWishes_1 : decode cX11_clearWishes 1 = .ok (.getfield 10, 3) := by decide +kernel
theorem dX11_clearWishes_4 : decode cX11_clearWishes 4 = .ok (.getfield 150, 3) := by decide +kernel
theorem dX11_clearWishes_7 : decode cX11_clearWishes 7 = .ok (.invokevirtual 126, 3) := by decide +kernel
theorem dX11_clearWishes_10 : decode cX11_clearWishes 10 = .ok (.istore_n 1, 1) := by decide +kernel
theorem dX11_clearWishes_11 : decode cX11_clearWishes 11 = .ok (.aload_n 0, 1) := by decide +kernel
theorem dX11_clearWishes_12 : decode cX11_clearWishes 12 = .ok (.getfield 10, 3) := by decide +kernel
theorem dX11_clearWishes_15 : decode cX11_clearWishes 15 = .ok (.getfield 150, 3) := by decide +kernel
theorem dX11_clearWishes_18 : decode cX11_clearWishes 18 = .ok (.invokevirtual 387, 3) := by decide +kernel
theorem glV_RX11_387 : GLV RX11 387 yX5_clear RX5 cX5_clear 1 none 0 := ⟨⟨(mT5 8 rfl rfl), (mT2 188 rfl rfl), (mT2 189 rfl rfl), (mT1 5 rfl rfl), (mT2 190 rfl rfl)⟩, by decide +kernel⟩
theorem dX11_clearWishes_21 : decode cX11_clearWishes 21 = .ok (.iload_n 1, 1) := by decide +kernel
theorem dX11_clearWishes_22 : decode cX11_clearWishes 22 = .ok (.ireturn, 1) := by decide +kernel
set_option maxRecDepth 100000 in
set_option maxHeartbeats 4000000 in
theorem mX11_clearWishes_1 (l : Launch) (D : va_G) (Y : Nat → ClassId) (h0 : Nat) (h1 : Nat) (g0 : Nat) (g1 : Nat) (g2 : Nat) (g3 : Nat) (g4 : Nat) (g5 : Nat) (g6 : Nat) (g7 : Nat) (g8 : Nat) (g9 : Nat) (g10 : Nat) (g11 : Nat) (g12 : Nat) (g13 : Nat) (g14 : Nat) (g15 : Nat) (h2 : Nat) (g16 : Nat) (g17 : Nat) (g18 : Nat) (sz : Nat) : Met l yX11_clearWishes (WSm yX11_clearWishes cX11_clearWishes 2 (some .int)) (mkR 1 0 0 20) (PreC D Y [.ref h0] [(h0, oC 12 [.ref h1, .ref g0, .ref g1, .ref g2, .ref g3, .ref g4, .ref g5, .ref g6, .ref g7, .long 0]), (h1, oC 2 [.ref g8, .ref g9, .ref g10, .ref g11, .ref g12, .ref g13, .ref g14, .ref g15, .ref h2, .ref g16, .ref g17, .int 0]), (h2, oC 7 [.ref g18, .int 0])] sz) (QI D (fun (r : Int32) (u : Unit) => 0 = r) (fun (_ : Unit) => [(h0, oC 12 [.ref h1, .ref g0, .ref g1, .ref g2, .ref g3, .ref g4, .ref g5, .ref g6, .ref g7, .long 0]), (h1, oC 2 [.ref g8, .ref g9, .ref g10, .ref g11, .ref g12, .ref g13, .ref g14, .ref g15, .ref h2, .ref g16, .ref g17, .int 0]), (h2, oC 7 [.ref g18, .int 0])]) (va_A [(h0, oC 12 [.ref h1, .ref g0, .ref g1, .ref g2, .ref g3, .ref g4, .ref g5, .ref g6, .ref g7, .long 0]), (h1, oC 2 [.ref g8, .ref g9, .ref g10, .ref g11, .ref g12, .ref g13, .ref g14, .ref g15, .ref h2, .ref g16, .ref g17, .int 0]), (h2, oC 7 [.ref g18, .int 0])] sz)) 0 0 (va_A [(h0, oC 12 [.ref h1, .ref g0, .ref g1, .ref g2, .ref g3, .ref g4, .ref g5, .ref g6, .ref g7, .long 0]), (h1, oC 2 [.ref g8, .ref g9, .ref g10, .ref g11, .ref g12, .ref g13, .ref g14, .ref g15, .ref h2, .ref g16, .ref g17, .int 0]), (h2, oC 7 [.ref g18, .int 0])] sz) :=
  met_of (by decide +kernel) (Nat.le_of_ble_eq_true rfl) (fun p e s m args below meth c B hin hsz => by
    have B : VB p s m args meth c D Y (va_A [(h0, oC 12 [.ref h1, .ref g0, .ref g1, .ref g2, .ref g3, .ref g4, .ref g5, .ref g6, .ref g7, .long 0]), (h1, oC 2 [.ref g8, .ref g9, .ref g10, .ref g11, .ref g12, .ref g13, .ref g14, .ref g15, .ref h2, .ref g16, .ref g17, .int 0]), (h2, oC 7 [.ref g18, .int 0])] sz) cX11_clearWishes 2 RX11 (some .int) := B
    refine V_aload_n 0 B dX11_clearWishes_0 0 rfl ?_
    refine V_get 1 B gf_RX11_10 0 rfl rfl dX11_clearWishes_1 ?_
    refine V_get 4 B gf_RX11_150 1 rfl rfl dX11_clearWishes_4 ?_
    refine V_cvi 7 B (st := []) (As := []) (fun sz => mX5_size_1 l D Y (h2) (g18) sz) glV_RX11_126 ⟨rfl, rfl⟩ ⟨(Nat.le_of_ble_eq_true rfl), (Nat.le_of_ble_eq_true rfl)⟩ ⟨(Nat.le_of_ble_eq_true rfl), (Nat.le_of_ble_eq_true rfl)⟩ [2] rfl 7 0 rfl rfl rfl rfl (Nat.le_of_ble_eq_true rfl) rfl (fun _ _ _ => rfl) dX11_clearWishes_7 (fun r0 u0 w0 => ?_)
    obtain rfl := w0
    refine V_ws [(h0, oC 12 [.ref h1, .ref g0, .ref g1, .ref g2, .ref g3, .ref g4, .ref g5, .ref g6, .ref g7, .long 0]), (h1, oC 2 [.ref g8, .ref g9, .ref g10, .ref g11, .ref g12, .ref g13, .ref g14, .ref g15, .ref h2, .ref g16, .ref g17, .int 0]), (h2, oC 7 [.ref g18, .int 0])] rfl ?_
    refine V_istore_n 10 B (lv2 := [(1, .int 0), (0, .ref h0)]) dX11_clearWishes_10 (by decide) rfl ?_
    refine V_aload_n 11 B dX11_clearWishes_11 1 rfl ?_
    refine V_get 12 B gf_RX11_10 0 rfl rfl dX11_clearWishes_12 ?_
    refine V_get 15 B gf_RX11_150 1 rfl rfl dX11_clearWishes_15 ?_
    refine V_cvv 18 B (st := []) (As := []) (fun sz => mX5_clear_1 l D Y (h2) (g18) sz) glV_RX11_387 ⟨rfl, rfl⟩ ⟨(Nat.le_of_ble_eq_true rfl), (Nat.le_of_ble_eq_true rfl)⟩ ⟨(Nat.le_of_ble_eq_true rfl), (Nat.le_of_ble_eq_true rfl)⟩ [2] rfl 7 0 rfl rfl rfl rfl (Nat.le_of_ble_eq_true rfl) rfl (fun _ _ => rfl) dX11_clearWishes_18 (fun u1 w1 => ?_)
    refine V_ws [(h0, oC 12 [.ref h1, .ref g0, .ref g1, .ref g2, .ref g3, .ref g4, .ref g5, .ref g6, .ref g7, .long 0]), (h1, oC 2 [.ref g8, .ref g9, .ref g10, .ref g11, .ref g12, .ref g13, .ref g14, .ref g15, .ref h2, .ref g16, .ref g17, .int 0]), (h2, oC 7 [.ref g18, .int 0])] rfl ?_
    refine V_iload_n 21 B dX11_clearWishes_21 0 rfl ?_
    exact V_iret 22 B dX11_clearWishes_22 () rfl rfl)
theorem dX10_meetRivals_0 : decode cX10_meetRivals 0 = .ok (.aload_n 0, 1) := by decide +kernel
theorem dX10_meetRivals_1 : decode cX10_meetRivals 1 = .ok (.getfield 34, 3) := by decide +kernel
theorem gf_RX10_34 : GF RX10 34 11 4 := ⟨RX10, TX10, 5, rfl, inw_X10, Nat.le_of_ble_eq_true rfl, (mT2 5 rfl rfl)⟩
theorem dX10_meetRivals_4 : decode cX10_meetRivals 4 = .ok (.invokevirtual 75, 3) := by decide +kernel
theorem dX10_meetRivals_7 : decode cX10_meetRivals 7 = .ok (.iconst 0, 1) := by decide +kernel
theorem dX10_meetRivals_8 : decode cX10_meetRivals 8 = .ok (.istore_n 2, 1) := by decide +kernel
theorem dX10_meetRivals_9 : decode cX10_meetRivals 9 = .ok (.iconst 0, 1) := by decide +kernel
theorem dX10_meetRivals_10 : decode cX10_meetRivals 10 = .ok (.istore_n 3, 1) := by decide +kernel
theorem dX10_meetRivals_11 : decode cX10_meetRivals 11 = .ok (.iload_n 3, 1) := by decide +kernel
theorem dX10_meetRivals_12 : decode cX10_meetRivals 12 = .ok (.aload_n 0, 1) := by decide +kernel
theorem dX10_meetRivals_13 : decode cX10_meetRivals 13 = .ok (.getfield 9, 3) := by decide +kernel
theorem dX10_meetRivals_16 : decode cX10_meetRivals 16 = .ok (.getfield 140, 3) := by decide +kernel
theorem gf_RX10_140 : GF RX10 140 2 8 := ⟨RX0, TX0, 12, rfl, inw_X0, Nat.le_of_ble_eq_true rfl, (mT1 192 rfl rfl)⟩
theorem dX10_meetRivals_19 : decode cX10_meetRivals 19 = .ok (.invokevirtual 143, 3) := by decide +kernel
theorem glV_RX10_143 : GLV RX10 143 yX5_size RX5 cX5_size 1 (some .int) 0 := ⟨⟨(mT7 108 rfl rfl), (mT3 77 rfl rfl), (mT3 78 rfl rfl), (mT1 5 rfl rfl), (mT3 79 rfl rfl)⟩, by decide +kernel⟩
theorem dX10_meetRivals_22 : decode cX10_meetRivals 22 = .ok (.if_icmp .ge 113, 3) := by decide +kernel
theorem dX10_meetRivals_135 : decode cX10_meetRivals 135 = .ok (.iload_n 2, 1) := by decide +kernel
theorem dX10_meetRivals_136 : decode cX10_meetRivals 136 = .ok (.ireturn, 1) := by decide +kernel
set_option maxRecDepth 100000 in
set_option maxHeartbeats 4000000 in
theorem mX10_meetRivals_1 (l : Launch) (D : va_G) (Y : Nat → ClassId) (h2 : Nat) (h0 : Nat) (g0 : Nat) (g1 : Nat) (g2 : Nat) (g3 : Nat) (g4 : Nat) (g5 : Nat) (g6 : Nat) (g7 : Nat) (h1 : Nat) (g8 : Nat) (g9 : Nat) (g10 : Nat) (g11 : Nat) (g12 : Nat) (g13 : Nat) (h3 : Nat) (g14 : Nat) (sz : Nat) : Met l yX10_meetRivals (WSm yX10_meetRivals cX10_meetRivals 8 (some .int)) (mkR 1 0 0 20) (PreC D Y [.ref h2, .int 0] [(h0, oC 2 [.ref g0, .ref g1, .ref g2, .ref g3, .ref g4, .ref g5, .ref g6, .ref g7, .ref h1, .ref g8, .ref g9, .int 0]), (h1, oC 7 [.ref g10, .int 0]), (h2, oC 11 [.ref h0, .ref g11, .ref g12, .ref g13, .ref h3]), (h3, oC 3 [.ref g14, .int 0])] sz) (QI D (fun (r : Int32) (u : Unit) => 0 = r) (fun (_ : Unit) => [(h0, oC 2 [.ref g0, .ref g1, .ref g2, .ref g3, .ref g4, .ref g5, .ref g6, .ref g7, .ref h1, .ref g8, .ref g9, .int 0]), (h1, oC 7 [.ref g10, .int 0]), (h2, oC 11 [.ref h0, .ref g11, .ref g12, .ref g13, .ref h3]), (h3, oC 3 [.ref g14, .int 0])]) (va_A [(h0, oC 2 [.ref g0, .ref g1, .ref g2, .ref g3, .ref g4, .ref g5, .ref g6, .ref g7, .ref h1, .ref g8, .ref g9, .int 0]), (h1, oC 7 [.ref g10, .int 0]), (h2, oC 11 [.ref h0, .ref g11, .ref g12, .ref g13, .ref h3]), (h3, oC 3 [.ref g14, .int 0])] sz)) 0 0 (va_A [(h0, oC 2 [.ref g0, .ref g1, .ref g2, .ref g3, .ref g4, .ref g5, .ref g6, .ref g7, .ref h1, .ref g8, .ref g9, .int 0]), (h1, oC 7 [.ref g10, .int 0]), (h2, oC 11 [.ref h0, .ref g11, .ref g12, .ref g13, .ref h3]), (h3, oC 3 [.ref g14, .int 0])] sz) :=
  met_of (by decide +kernel) (Nat.le_of_ble_eq_true rfl) (fun p e s m args below meth c B hin hsz => by
    have B : VB p s m args meth c D Y (va_A [(h0, oC 2 [.ref g0, .ref g1, .ref g2, .ref g3, .ref g4, .ref g5, .ref g6, .ref g7, .ref h1, .ref g8, .ref g9, .int 0]), (h1, oC 7 [.ref g10, .int 0]), (h2, oC 11 [.ref h0, .ref g11, .ref g12, .ref g13, .ref h3]), (h3, oC 3 [.ref g14, .int 0])] sz) cX10_meetRivals 8 RX10 (some .int) := B
    refine V_aload_n 0 B dX10_meetRivals_0 0 rfl ?_
    refine V_get 1 B gf_RX10_34 2 rfl rfl dX10_meetRivals_1 ?_
    refine V_cvv 4 B (st := []) (As := []) (fun sz => mX1_clear_2 l D Y (h3) (g14) sz) glV_RX10_75 ⟨rfl, rfl⟩ ⟨(Nat.le_of_ble_eq_true rfl), (Nat.le_of_ble_eq_true rfl)⟩ ⟨(Nat.le_of_ble_eq_true rfl), (Nat.le_of_ble_eq_true rfl)⟩ [3] rfl 3 0 rfl rfl rfl rfl (Nat.le_of_ble_eq_true rfl) rfl (fun _ _ => rfl) dX10_meetRivals_4 (fun u0 w0 => ?_)
    refine V_ws [(h0, oC 2 [.ref g0, .ref g1, .ref g2, .ref g3, .ref g4, .ref g5, .ref g6, .ref g7, .ref h1, .ref g8, .ref g9, .int 0]), (h1, oC 7 [.ref g10, .int 0]), (h2, oC 11 [.ref h0, .ref g11, .ref g12, .ref g13, .ref h3]), (h3, oC 3 [.ref g14, .int 0])] rfl ?_
    refine V_iconst 7 B (v := 0) dX10_meetRivals_7 (by decide +kernel) ?_
    refine V_istore_n 8 B (lv2 := [(2, .int 0), (0, .ref h2), (1, .int 0)]) dX10_meetRivals_8 (by decide) rfl ?_
    refine V_iconst 9 B (v := 0) dX10_meetRivals_9 (by decide +kernel) ?_
    refine V_istore_n 10 B (lv2 := [(3, .int 0), (2, .int 0), (0, .ref h2), (1, .int 0)]) dX10_meetRivals_10 (by decide) rfl ?_
    refine V_iload_n 11 B dX10_meetRivals_11 0 rfl ?_
    refine V_aload_n 12 B dX10_meetRivals_12 2 rfl ?_
    refine V_get 13 B gf_RX10_9 2 rfl rfl dX10_meetRivals_13 ?_
    refine V_get 16 B gf_RX10_140 0 rfl rfl dX10_meetRivals_16 ?_
    refine V_cvi 19 B (st := [.int 0]) (As := []) (fun sz => mX5_size_1 l D Y (h1) (g10) sz) glV_RX10_143 ⟨rfl, rfl⟩ ⟨(Nat.le_of_ble_eq_true rfl), (Nat.le_of_ble_eq_true rfl)⟩ ⟨(Nat.le_of_ble_eq_true rfl), (Nat.le_of_ble_eq_true rfl)⟩ [1] rfl 7 0 rfl rfl rfl rfl (Nat.le_of_ble_eq_true rfl) rfl (fun _ _ _ => rfl) dX10_meetRivals_19 (fun r1 u1 w1 => ?_)
    obtain rfl := w1
    refine V_ws [(h0, oC 2 [.ref g0, .ref g1, .ref g2, .ref g3, .ref g4, .ref g5, .ref g6, .ref g7, .ref h1, .ref g8, .ref g9, .int 0]), (h1, oC 7 [.ref g10, .int 0]), (h2, oC 11 [.ref h0, .ref g11, .ref g12, .ref g13, .ref h3]), (h3, oC 3 [.ref g14, .int 0])] rfl ?_
    refine V_icmp_ge_t 22 B 135 dX10_meetRivals_22 (by decide) (by decide +kernel) ?_
    refine V_iload_n 135 B dX10_meetRivals_135 1 rfl ?_
    exact V_iret 136 B dX10_meetRivals_136 () rfl rfl)
theorem dX10_fewestDropped_0 : decode cX10_fewestDropped 0 = .ok (.iconst 1, 1) := by decide +kernel
theorem dX10_fewestDropped_1 : decode cX10_fewestDropped 1 = .ok (.aload_n 0, 1) := by decide +kernel
theorem dX10_fewestDropped_2 : decode cX10_fewestDropped 2 = .ok (.getfield 9, 3) := by decide +kernel
theorem dX10_fewestDropped_5 : decode cX10_fewestDropped 5 = .ok (.getfield 140, 3) := by decide +kernel
theorem dX10_fewestDropped_8 : decode cX10_fewestDropped 8 = .ok (.invokevirtual 143, 3) := by decide +kernel
theorem dX10_fewestDropped_11 : decode cX10_fewestDropped 11 = .ok (.ishl, 1) := by decide +kernel
theorem dX10_fewestDropped_12 : decode cX10_fewestDropped 12 = .ok (.iconst 1, 1) := by decide +kernel
theorem dX10_fewestDropped_13 : decode cX10_fewestDropped 13 = .ok (.isub, 1) := by decide +kernel
theorem dX10_fewestDropped_14 : decode cX10_fewestDropped 14 = .ok (.istore_n 2, 1) := by decide +kernel
theorem dX10_fewestDropped_15 : decode cX10_fewestDropped 15 = .ok (.aload_n 0, 1) := by decide +kernel
theorem dX10_fewestDropped_16 : decode cX10_fewestDropped 16 = .ok (.iload_n 1, 1) := by decide +kernel
theorem dX10_fewestDropped_17 : decode cX10_fewestDropped 17 = .ok (.invokevirtual 144, 3) := by decide +kernel
theorem glV_RX10_144 : GLV RX10 144 yX10_meetRivals RX10 cX10_meetRivals 8 (some .int) 1 := ⟨⟨(mT7 109 rfl rfl), (mT7 111 rfl rfl), (mTs 25 rfl rfl), (mT1 8 rfl rfl), (mT7 112 rfl rfl)⟩, by decide +kernel⟩
theorem dX10_fewestDropped_20 : decode cX10_fewestDropped 20 = .ok (.istore_n 3, 1) := by decide +kernel
theorem dX10_fewestDropped_21 : decode cX10_fewestDropped 21 = .ok (.iload_n 2, 1) := by decide +kernel
theorem dX10_fewestDropped_22 : decode cX10_fewestDropped 22 = .ok (.istore 4, 2) := by decide +kernel
theorem dX10_fewestDropped_24 : decode cX10_fewestDropped 24 = .ok (.iconst 0, 1) := by decide +kernel
theorem dX10_fewestDropped_25 : decode cX10_fewestDropped 25 = .ok (.istore 5, 2) := by decide +kernel
theorem dX10_fewestDropped_27 : decode cX10_fewestDropped 27 = .ok (.iload 5, 2) := by decide +kernel
theorem dX10_fewestDropped_29 : decode cX10_fewestDropped 29 = .ok (.iload_n 2, 1) := by decide +kernel
theorem dX10_fewestDropped_30 : decode cX10_fewestDropped 30 = .ok (.if_icmp .ge 48, 3) := by decide +kernel
theorem dX10_fewestDropped_78 : decode cX10_fewestDropped 78 = .ok (.iload 4, 2) := by decide +kernel
theorem dX10_fewestDropped_80 : decode cX10_fewestDropped 80 = .ok (.ireturn, 1) := by decide +kernel
set_option maxRecDepth 100000 in
set_option maxHeartbeats 4000000 in
theorem mX10_fewestDropped_1 (l : Launch) (D : va_G) (Y : Nat → ClassId) (h2 : Nat) (h0 : Nat) (g0 : Nat) (g1 : Nat) (g2 : Nat) (g3 : Nat) (g4 : Nat) (g5 : Nat) (g6 : Nat) (g7 : Nat) (h1 : Nat) (g8 : Nat) (g9 : Nat) (g10 : Nat) (g11 : Nat) (g12 : Nat) (g13 : Nat) (h3 : Nat) (g14 : Nat) (sz : Nat) : Met l yX10_fewestDropped (WSm yX10_fewestDropped cX10_fewestDropped 6 (some .int)) (mkR 2 0 0 47) (PreC D Y [.ref h2, .int 0] [(h0, oC 2 [.ref g0, .ref g1, .ref g2, .ref g3, .ref g4, .ref g5, .ref g6, .ref g7, .ref h1, .ref g8, .ref g9, .int 0]), (h1, oC 7 [.ref g10, .int 0]), (h2, oC 11 [.ref h0, .ref g11, .ref g12, .ref g13, .ref h3]), (h3, oC 3 [.ref g14, .int 0])] sz) (QI D (fun (r : Int32) (u : Unit) => 0 = r) (fun (_ : Unit) => [(h0, oC 2 [.ref g0, .ref g1, .ref g2, .ref g3, .ref g4, .ref g5, .ref g6, .ref g7, .ref h1, .ref g8, .ref g9, .int 0]), (h1, oC 7 [.ref g10, .int 0]), (h2, oC 11 [.ref h0, .ref g11, .ref g12, .ref g13, .ref h3]), (h3, oC 3 [.ref g14, .int 0])]) (va_A [(h0, oC 2 [.ref g0, .ref g1, .ref g2, .ref g3, .ref g4, .ref g5, .ref g6, .ref g7, .ref h1, .ref g8, .ref g9, .int 0]), (h1, oC 7 [.ref g10, .int 0]), (h2, oC 11 [.ref h0, .ref g11, .ref g12, .ref g13, .ref h3]), (h3, oC 3 [.ref g14, .int 0])] sz)) 0 0 (va_A [(h0, oC 2 [.ref g0, .ref g1, .ref g2, .ref g3, .ref g4, .ref g5, .ref g6, .ref g7, .ref h1, .ref g8, .ref g9, .int 0]), (h1, oC 7 [.ref g10, .int 0]), (h2, oC 11 [.ref h0, .ref g11, .ref g12, .ref g13, .ref h3]), (h3, oC 3 [.ref g14, .int 0])] sz) :=
  met_of (by decide +kernel) (Nat.le_of_ble_eq_true rfl) (fun p e s m args below meth c B hin hsz => by
    have B : VB p s m args meth c D Y (va_A [(h0, oC 2 [.ref g0, .ref g1, .ref g2, .ref g3, .ref g4, .ref g5, .ref g6, .ref g7, .ref h1, .ref g8, .ref g9, .int 0]), (h1, oC 7 [.ref g10, .int 0]), (h2, oC 11 [.ref h0, .ref g11, .ref g12, .ref g13, .ref h3]), (h3, oC 3 [.ref g14, .int 0])] sz) cX10_fewestDropped 6 RX10 (some .int) := B
    refine V_iconst 0 B (v := 1) dX10_fewestDropped_0 (by decide +kernel) ?_
    refine V_aload_n 1 B dX10_fewestDropped_1 0 rfl ?_
    refine V_get 2 B gf_RX10_9 2 rfl rfl dX10_fewestDropped_2 ?_
    refine V_get 5 B gf_RX10_140 0 rfl rfl dX10_fewestDropped_5 ?_
    refine V_cvi 8 B (st := [.int 1]) (As := []) (fun sz => mX5_size_1 l D Y (h1) (g10) sz) glV_RX10_143 ⟨rfl, rfl⟩ ⟨(Nat.le_of_ble_eq_true rfl), (Nat.le_of_ble_eq_true rfl)⟩ ⟨(Nat.le_of_ble_eq_true rfl), (Nat.le_of_ble_eq_true rfl)⟩ [1] rfl 7 0 rfl rfl rfl rfl (Nat.le_of_ble_eq_true rfl) rfl (fun _ _ _ => rfl) dX10_fewestDropped_8 (fun r0 u0 w0 => ?_)
    obtain rfl := w0
    refine V_ws [(h0, oC 2 [.ref g0, .ref g1, .ref g2, .ref g3, .ref g4, .ref g5, .ref g6, .ref g7, .ref h1, .ref g8, .ref g9, .int 0]), (h1, oC 7 [.ref g10, .int 0]), (h2, oC 11 [.ref h0, .ref g11, .ref g12, .ref g13, .ref h3]), (h3, oC 3 [.ref g14, .int 0])] rfl ?_
    refine V_ishl 11 B (v := 1) dX10_fewestDropped_11 (by decide +kernel) ?_
    refine V_iconst 12 B (v := 1) dX10_fewestDropped_12 (by decide +kernel) ?_
    refine V_isub 13 B (v := 0) dX10_fewestDropped_13 (by decide +kernel) ?_
    refine V_istore_n 14 B (lv2 := [(2, .int 0), (0, .ref h2), (1, .int 0)]) dX10_fewestDropped_14 (by decide) rfl ?_
    refine V_aload_n 15 B dX10_fewestDropped_15 1 rfl ?_
    refine V_iload_n 16 B dX10_fewestDropped_16 2 rfl ?_
    refine V_cvi 17 B (st := []) (As := [.int 0]) (fun sz => mX10_meetRivals_1 l D Y (h2) (h0) (g0) (g1) (g2) (g3) (g4) (g5) (g6) (g7) (h1) (g8) (g9) (g10) (g11) (g12) (g13) (h3) (g14) sz) glV_RX10_144 ⟨rfl, rfl⟩ ⟨(Nat.le_of_ble_eq_true rfl), (Nat.le_of_ble_eq_true rfl)⟩ ⟨(Nat.le_of_ble_eq_true rfl), (Nat.le_of_ble_eq_true rfl)⟩ [0, 0, 0, 0] rfl 11 2 rfl rfl rfl rfl (Nat.le_of_ble_eq_true rfl) rfl (fun _ _ _ => rfl) dX10_fewestDropped_17 (fun r1 u1 w1 => ?_)
    obtain rfl := w1
    refine V_ws [(h0, oC 2 [.ref g0, .ref g1, .ref g2, .ref g3, .ref g4, .ref g5, .ref g6, .ref g7, .ref h1, .ref g8, .ref g9, .int 0]), (h1, oC 7 [.ref g10, .int 0]), (h2, oC 11 [.ref h0, .ref g11, .ref g12, .ref g13, .ref h3]), (h3, oC 3 [.ref g14, .int 0])] rfl ?_
    refine V_istore_n 20 B (lv2 := [(3, .int 0), (2, .int 0), (0, .ref h2), (1, .int 0)]) dX10_fewestDropped_20 (by decide) rfl ?_
    refine V_iload_n 21 B dX10_fewestDropped_21 1 rfl ?_
    refine V_istore 22 B (lv2 := [(4, .int 0), (3, .int 0), (2, .int 0), (0, .ref h2), (1, .int 0)]) dX10_fewestDropped_22 (by decide) rfl ?_
    refine V_iconst 24 B (v := 0) dX10_fewestDropped_24 (by decide +kernel) ?_
    refine V_istore 25 B (lv2 := [(5, .int 0), (4, .int 0), (3, .int 0), (2, .int 0), (0, .ref h2), (1, .int 0)]) dX10_fewestDropped_25 (by decide) rfl ?_
    refine V_iload 27 B dX10_fewestDropped_27 0 rfl ?_
    refine V_iload_n 29 B dX10_fewestDropped_29 3 rfl ?_
    refine V_icmp_ge_t 30 B 78 dX10_fewestDropped_30 (by decide) (by decide +kernel) ?_
    refine V_iload 78 B dX10_fewestDropped_78 1 rfl ?_
    exact V_iret 80 B dX10_fewestDropped_80 () rfl rfl)
theorem dX11_leastDrop_0 : decode cX11_leastDrop 0 = .ok (.aload_n 0, 1) := by decide +kernel
theorem dX11_leastDrop_1 : decode cX11_leastDrop 1 = .ok (.iload_n 1, 1) := by decide +kernel
theorem dX11_leastDrop_2 : decode cX11_leastDrop 2 = .ok (.invokevirtual 180, 3) := by decide +kernel
theorem dX11_leastDrop_5 : decode cX11_leastDrop 5 = .ok (.aload_n 0, 1) := by decide +kernel
theorem dX11_leastDrop_6 : decode cX11_leastDrop 6 = .ok (.getfield 30, 3) := by decide +kernel
theorem dX11_leastDrop_9 : decode cX11_leastDrop 9 = .ok (.iload_n 1, 1) := by decide +kernel
theorem dX11_leastDrop_10 : decode cX11_leastDrop 10 = .ok (.invokevirtual 390, 3) := by decide +kernel
theorem glV_RX11_390 : GLV RX11 390 yX10_fewestDropped RX10 cX10_fewestDropped 6 (some .int) 1 := ⟨⟨(mT7 104 rfl rfl), (mT7 105 rfl rfl), (mT7 106 rfl rfl), (mT1 8 rfl rfl), (mT7 107 rfl rfl)⟩, by decide +kernel⟩
theorem dX11_leastDrop_13 : decode cX11_leastDrop 13 = .ok (.ireturn, 1) := by decide +kernel
set_option maxRecDepth 100000 in
set_option maxHeartbeats 4000000 in
theorem mX11_leastDrop_1 (l : Launch) (hl9 : l.stackTraces = false) (D : va_G) (Y : Nat → ClassId) (h0 : Nat) (h1 : Nat) (g0 : Nat) (g1 : Nat) (g2 : Nat) (h4 : Nat) (g3 : Nat) (g4 : Nat) (g5 : Nat) (g6 : Nat) (h2 : Nat) (g7 : Nat) (g8 : Nat) (g9 : Nat) (g10 : Nat) (g11 : Nat) (g12 : Nat) (g13 : Nat) (h3 : Nat) (g14 : Nat) (g15 : Nat) (g16 : Nat) (g17 : Nat) (g18 : Nat) (g19 : Nat) (g20 : Nat) (h5 : Nat) (g21 : Nat) (p0 : Int32) (sz : Nat) : vx_Met l yX11_leastDrop (WSm yX11_leastDrop cX11_leastDrop 2 (some .int)) (mkR 7 1 6 103) (PreX D Y [.ref h0, .int p0] [(h0, oC 12 [.ref h1, .ref g0, .ref g1, .ref g2, .ref h4, .ref g3, .ref g4, .ref g5, .ref g6, .long 0]), (h1, oC 2 [.ref h2, .ref g7, .ref g8, .ref g9, .ref g10, .ref g11, .ref g12, .ref g13, .ref h3, .ref g14, .ref g15, .int 0]), (h2, oC 3 [.ref g16, .int 1]), (h3, oC 7 [.ref g17, .int 0]), (h4, oC 11 [.ref h1, .ref g18, .ref g19, .ref g20, .ref h5]), (h5, oC 3 [.ref g21, .int 0])] sz) (QI D (fun (r : Int32) (u : Unit) => p0 = 0 ∧ 0 = r) (fun (_ : Unit) => [(h0, oC 12 [.ref h1, .ref g0, .ref g1, .ref g2, .ref h4, .ref g3, .ref g4, .ref g5, .ref g6, .long 0]), (h1, oC 2 [.ref h2, .ref g7, .ref g8, .ref g9, .ref g10, .ref g11, .ref g12, .ref g13, .ref h3, .ref g14, .ref g15, .int 0]), (h2, oC 3 [.ref g16, .int 1]), (h3, oC 7 [.ref g17, .int 0]), (h4, oC 11 [.ref h1, .ref g18, .ref g19, .ref g20, .ref h5]), (h5, oC 3 [.ref g21, .int 0])]) (va_A [(h0, oC 12 [.ref h1, .ref g0, .ref g1, .ref g2, .ref h4, .ref g3, .ref g4, .ref g5, .ref g6, .long 0]), (h1, oC 2 [.ref h2, .ref g7, .ref g8, .ref g9, .ref g10, .ref g11, .ref g12, .ref g13, .ref h3, .ref g14, .ref g15, .int 0]), (h2, oC 3 [.ref g16, .int 1]), (h3, oC 7 [.ref g17, .int 0]), (h4, oC 11 [.ref h1, .ref g18, .ref g19, .ref g20, .ref h5]), (h5, oC 3 [.ref g21, .int 0])] sz)) (XW D (fun (E : String) (u : Unit) => (E = "java/lang/IndexOutOfBoundsException" ∧ p0 < 0) ∨ (E = "java/lang/IndexOutOfBoundsException" ∧ ¬ p0 < 0 ∧ 1 ≤ p0)) (fun (_ : Unit) => [(h0, oC 12 [.ref h1, .ref g0, .ref g1, .ref g2, .ref h4, .ref g3, .ref g4, .ref g5, .ref g6, .long 0]), (h1, oC 2 [.ref h2, .ref g7, .ref g8, .ref g9, .ref g10, .ref g11, .ref g12, .ref g13, .ref h3, .ref g14, .ref g15, .int 0]), (h2, oC 3 [.ref g16, .int 1]), (h3, oC 7 [.ref g17, .int 0]), (h4, oC 11 [.ref h1, .ref g18, .ref g19, .ref g20, .ref h5]), (h5, oC 3 [.ref g21, .int 0])]) (va_A [(h0, oC 12 [.ref h1, .ref g0, .ref g1, .ref g2, .ref h4, .ref g3, .ref g4, .ref g5, .ref g6, .long 0]), (h1, oC 2 [.ref h2, .ref g7, .ref g8, .ref g9, .ref g10, .ref g11, .ref g12, .ref g13, .ref h3, .ref g14, .ref g15, .int 0]), (h2, oC 3 [.ref g16, .int 1]), (h3, oC 7 [.ref g17, .int 0]), (h4, oC 11 [.ref h1, .ref g18, .ref g19, .ref g20, .ref h5]), (h5, oC 3 [.ref g21, .int 0])] sz)) 1 6 (va_A [(h0, oC 12 [.ref h1, .ref g0, .ref g1, .ref g2, .ref h4, .ref g3, .ref g4, .ref g5, .ref g6, .long 0]), (h1, oC 2 [.ref h2, .ref g7, .ref g8, .ref g9, .ref g10, .ref g11, .ref g12, .ref g13, .ref h3, .ref g14, .ref g15, .int 0]), (h2, oC 3 [.ref g16, .int 1]), (h3, oC 7 [.ref g17, .int 0]), (h4, oC 11 [.ref h1, .ref g18, .ref g19, .ref g20, .ref h5]), (h5, oC 3 [.ref g21, .int 0])] sz) :=
  xmet_of (by decide +kernel) (Nat.le_of_ble_eq_true rfl) (fun p e s m args below meth c B EB hout hsz => by
    have B : VB p s m args meth c D Y (va_A [(h0, oC 12 [.ref h1, .ref g0, .ref g1, .ref g2, .ref h4, .ref g3, .ref g4, .ref g5, .ref g6, .long 0]), (h1, oC 2 [.ref h2, .ref g7, .ref g8, .ref g9, .ref g10, .ref g11, .ref g12, .ref g13, .ref h3, .ref g14, .ref g15, .int 0]), (h2, oC 3 [.ref g16, .int 1]), (h3, oC 7 [.ref g17, .int 0]), (h4, oC 11 [.ref h1, .ref g18, .ref g19, .ref g20, .ref h5]), (h5, oC 3 [.ref g21, .int 0])] sz) cX11_leastDrop 2 RX11 (some .int) := B
    refine V_aload_n 0 B dX11_leastDrop_0 0 rfl ?_
    refine V_iload_n 1 B dX11_leastDrop_1 1 rfl ?_
    refine V_xvv 2 B EB (st := []) (As := [.int p0]) (fun sz => mX11_needMode_1 l hl9 D Y (h0) (h1) (g0) (g1) (g2) (h4) (g3) (g4) (g5) (g6) (h2) (g7) (g8) (g9) (g10) (g11) (g12) (g13) (h3) (g14) (g15) (g16) (p0) sz) glV_RX11_180 ⟨rfl, rfl⟩ ⟨(Nat.le_of_ble_eq_true rfl), (Nat.le_of_ble_eq_true rfl)⟩ ⟨(Nat.le_of_ble_eq_true rfl), (Nat.le_of_ble_eq_true rfl)⟩ [0, 0, 0] rfl 12 0 rfl rfl rfl rfl (Nat.le_of_ble_eq_true rfl) rfl (fun _ _ => rfl) (fun _ _ _ => rfl) dX11_leastDrop_2 (fun E u0 w0 => ?_) (fun u0 w0 => ?_)
    ·
      rcases w0 with ⟨rfl, k1⟩ | ⟨rfl, k2, k3⟩
      ·
        exact VX_out 2 B hout () (Or.inl ⟨rfl, k1⟩) rfl (Nat.le_of_ble_eq_true rfl) (Nat.le_of_ble_eq_true rfl)
      ·
        exact VX_out 2 B hout () (Or.inr ⟨rfl, k2, k3⟩) rfl (Nat.le_of_ble_eq_true rfl) (Nat.le_of_ble_eq_true rfl)
    ·
      have k4 := w0
      refine V_ws [(h0, oC 12 [.ref h1, .ref g0, .ref g1, .ref g2, .ref h4, .ref g3, .ref g4, .ref g5, .ref g6, .long 0]), (h1, oC 2 [.ref h2, .ref g7, .ref g8, .ref g9, .ref g10, .ref g11, .ref g12, .ref g13, .ref h3, .ref g14, .ref g15, .int 0]), (h2, oC 3 [.ref g16, .int 1]), (h3, oC 7 [.ref g17, .int 0]), (h4, oC 11 [.ref h1, .ref g18, .ref g19, .ref g20, .ref h5]), (h5, oC 3 [.ref g21, .int 0])] rfl ?_
      obtain rfl : p0 = 0 := k4
      refine V_aload_n 5 B dX11_leastDrop_5 0 rfl ?_
      refine V_get 6 B gf_RX11_30 0 rfl rfl dX11_leastDrop_6 ?_
      refine V_iload_n 9 B dX11_leastDrop_9 1 rfl ?_
      refine V_cvi 10 B (st := []) (As := [.int 0]) (fun sz => mX10_fewestDropped_1 l D Y (h4) (h1) (h2) (g7) (g8) (g9) (g10) (g11) (g12) (g13) (h3) (g14) (g15) (g17) (g18) (g19) (g20) (h5) (g21) sz) glV_RX11_390 ⟨rfl, rfl⟩ ⟨(Nat.le_of_ble_eq_true rfl), (Nat.le_of_ble_eq_true rfl)⟩ ⟨(Nat.le_of_ble_eq_true rfl), (Nat.le_of_ble_eq_true rfl)⟩ [1, 1, 0, 0] rfl 11 2 rfl rfl rfl rfl (Nat.le_of_ble_eq_true rfl) rfl (fun _ _ _ => rfl) dX11_leastDrop_10 (fun r5 u5 w5 => ?_)
      obtain rfl := w5
      refine V_ws [(h0, oC 12 [.ref h1, .ref g0, .ref g1, .ref g2, .ref h4, .ref g3, .ref g4, .ref g5, .ref g6, .long 0]), (h1, oC 2 [.ref h2, .ref g7, .ref g8, .ref g9, .ref g10, .ref g11, .ref g12, .ref g13, .ref h3, .ref g14, .ref g15, .int 0]), (h2, oC 3 [.ref g16, .int 1]), (h3, oC 7 [.ref g17, .int 0]), (h4, oC 11 [.ref h1, .ref g18, .ref g19, .ref g20, .ref h5]), (h5, oC 3 [.ref g21, .int 0])] rfl ?_
      refine V_xret ?_
      exact V_iret 13 B dX11_leastDrop_13 () ⟨rfl, rfl⟩ rfl)
theorem dX11_draftWish_0 : decode cX11_draftWish 0 = .ok (.iload_n 1, 1) := by decide +kernel
theorem dX11_draftWish_1 : decode cX11_draftWish 1 = .ok (.ifCond .lt 17, 3) := by decide +kernel
theorem dX11_draftWish_18 : decode cX11_draftWish 18 = .ok (.new 225, 3) := by decide +kernel
theorem gt_RX11_225_393_229 : GT RX11 225 393 229 "java/lang/IndexOutOfBoundsException" "no such wish" ["java/lang/RuntimeException", "java/lang/Exception"] := ⟨rfl, (mT5 136 rfl rfl), (mT1 23 rfl rfl), List.mem_of_getElem? (i := 8) rfl, by decide +kernel, by decide +kernel, List.mem_of_getElem? (i := 1) rfl, gta_229⟩
theorem dX11_draftWish_21 : decode cX11_draftWish 21 = .ok (.dup, 1) := by decide +kernel
theorem dX11_draftWish_22 : decode cX11_draftWish 22 = .ok (.ldc_w 393, 3) := by decide +kernel
theorem dX11_draftWish_25 : decode cX11_draftWish 25 = .ok (.invokespecial 229, 3) := by decide +kernel
theorem dX11_draftWish_28 : decode cX11_draftWish 28 = .ok (.athrow, 1) := by decide +kernel
theorem dX11_draftWish_4 : decode cX11_draftWish 4 = .ok (.iload_n 1, 1) := by decide +kernel
theorem dX11_draftWish_5 : decode cX11_draftWish 5 = .ok (.aload_n 0, 1) := by decide +kernel
theorem dX11_draftWish_6 : decode cX11_draftWish 6 = .ok (.getfield 10, 3) := by decide +kernel
theorem dX11_draftWish_9 : decode cX11_draftWish 9 = .ok (.getfield 150, 3) := by decide +kernel
theorem dX11_draftWish_12 : decode cX11_draftWish 12 = .ok (.invokevirtual 126, 3) := by decide +kernel
theorem dX11_draftWish_15 : decode cX11_draftWish 15 = .ok (.if_icmp .lt 14, 3) := by decide +kernel
set_option maxRecDepth 100000 in
set_option maxHeartbeats 4000000 in
theorem mX11_draftWish_1 (l : Launch) (hl9 : l.stackTraces = false) (D : va_G) (Y : Nat → ClassId) (h0 : Nat) (h1 : Nat) (g0 : Nat) (g1 : Nat) (g2 : Nat) (g3 : Nat) (g4 : Nat) (g5 : Nat) (g6 : Nat) (g7 : Nat) (g8 : Nat) (g9 : Nat) (g10 : Nat) (g11 : Nat) (g12 : Nat) (g13 : Nat) (g14 : Nat) (g15 : Nat) (h2 : Nat) (g16 : Nat) (g17 : Nat) (g18 : Nat) (p0 : Int32) (sz : Nat) : vx_Met l yX11_draftWish (WSm yX11_draftWish cX11_draftWish 2 (some .int)) (mkR 6 1 6 82) (PreX D Y [.ref h0, .int p0] [(h0, oC 12 [.ref h1, .ref g0, .ref g1, .ref g2, .ref g3, .ref g4, .ref g5, .ref g6, .ref g7, .long 0]), (h1, oC 2 [.ref g8, .ref g9, .ref g10, .ref g11, .ref g12, .ref g13, .ref g14, .ref g15, .ref h2, .ref g16, .ref g17, .int 0]), (h2, oC 7 [.ref g18, .int 0])] sz) (QI D (fun (r : Int32) (u : Unit) => False) (fun (_ : Unit) => [(h0, oC 12 [.ref h1, .ref g0, .ref g1, .ref g2, .ref g3, .ref g4, .ref g5, .ref g6, .ref g7, .long 0]), (h1, oC 2 [.ref g8, .ref g9, .ref g10, .ref g11, .ref g12, .ref g13, .ref g14, .ref g15, .ref h2, .ref g16, .ref g17, .int 0]), (h2, oC 7 [.ref g18, .int 0])]) (va_A [(h0, oC 12 [.ref h1, .ref g0, .ref g1, .ref g2, .ref g3, .ref g4, .ref g5, .ref g6, .ref g7, .long 0]), (h1, oC 2 [.ref g8, .ref g9, .ref g10, .ref g11, .ref g12, .ref g13, .ref g14, .ref g15, .ref h2, .ref g16, .ref g17, .int 0]), (h2, oC 7 [.ref g18, .int 0])] sz)) (XW D (fun (E : String) (u : Unit) => (E = "java/lang/IndexOutOfBoundsException" ∧ p0 < 0) ∨ (E = "java/lang/IndexOutOfBoundsException" ∧ ¬ p0 < 0)) (fun (_ : Unit) => [(h0, oC 12 [.ref h1, .ref g0, .ref g1, .ref g2, .ref g3, .ref g4, .ref g5, .ref g6, .ref g7, .long 0]), (h1, oC 2 [.ref g8, .ref g9, .ref g10, .ref g11, .ref g12, .ref g13, .ref g14, .ref g15, .ref h2, .ref g16, .ref g17, .int 0]), (h2, oC 7 [.ref g18, .int 0])]) (va_A [(h0, oC 12 [.ref h1, .ref g0, .ref g1, .ref g2, .ref g3, .ref g4, .ref g5, .ref g6, .ref g7, .long 0]), (h1, oC 2 [.ref g8, .ref g9, .ref g10, .ref g11, .ref g12, .ref g13, .ref g14, .ref g15, .ref h2, .ref g16, .ref g17, .int 0]), (h2, oC 7 [.ref g18, .int 0])] sz)) 1 6 (va_A [(h0, oC 12 [.ref h1, .ref g0, .ref g1, .ref g2, .ref g3, .ref g4, .ref g5, .ref g6, .ref g7, .long 0]), (h1, oC 2 [.ref g8, .ref g9, .ref g10, .ref g11, .ref g12, .ref g13, .ref g14, .ref g15, .ref h2, .ref g16, .ref g17, .int 0]), (h2, oC 7 [.ref g18, .int 0])] sz) :=
  xmet_of (by decide +kernel) (Nat.le_of_ble_eq_true rfl) (fun p e s m args below meth c B EB hout hsz => by
    have B : VB p s m args meth c D Y (va_A [(h0, oC 12 [.ref h1, .ref g0, .ref g1, .ref g2, .ref g3, .ref g4, .ref g5, .ref g6, .ref g7, .long 0]), (h1, oC 2 [.ref g8, .ref g9, .ref g10, .ref g11, .ref g12, .ref g13, .ref g14, .ref g15, .ref h2, .ref g16, .ref g17, .int 0]), (h2, oC 7 [.ref g18, .int 0])] sz) cX11_draftWish 2 RX11 (some .int) := B
    refine V_iload_n 0 B dX11_draftWish_0 1 rfl ?_
    refine V_if_lt 1 B 18 dX11_draftWish_1 (by decide) (fun k0 => ?_) (fun k0 => ?_)
    ·
      exact V_throwSW 18 B EB hl9 gt_RX11_225_393_229 hout dX11_draftWish_18 dX11_draftWish_21 dX11_draftWish_22 dX11_draftWish_25 dX11_draftWish_28 (Nat.le_of_ble_eq_true rfl) (Nat.le_of_ble_eq_true rfl) (Nat.le_of_ble_eq_true rfl) (Nat.le_of_ble_eq_true rfl) (Nat.le_of_ble_eq_true rfl) (Nat.le_of_ble_eq_true rfl) () (Or.inl ⟨rfl, k0⟩) rfl
    ·
      refine V_iload_n 4 B dX11_draftWish_4 1 rfl ?_
      refine V_aload_n 5 B dX11_draftWish_5 0 rfl ?_
      refine V_get 6 B gf_RX11_10 0 rfl rfl dX11_draftWish_6 ?_
      refine V_get 9 B gf_RX11_150 1 rfl rfl dX11_draftWish_9 ?_
      refine V_cvi 12 B (st := [.int p0]) (As := []) (fun sz => mX5_size_1 l D Y (h2) (g18) sz) glV_RX11_126 ⟨rfl, rfl⟩ ⟨(Nat.le_of_ble_eq_true rfl), (Nat.le_of_ble_eq_true rfl)⟩ ⟨(Nat.le_of_ble_eq_true rfl), (Nat.le_of_ble_eq_true rfl)⟩ [2] rfl 7 0 rfl rfl rfl rfl (Nat.le_of_ble_eq_true rfl) rfl (fun _ _ _ => rfl) dX11_draftWish_12 (fun r1 u1 w1 => ?_)
      obtain rfl := w1
      refine V_ws [(h0, oC 12 [.ref h1, .ref g0, .ref g1, .ref g2, .ref g3, .ref g4, .ref g5, .ref g6, .ref g7, .long 0]), (h1, oC 2 [.ref g8, .ref g9, .ref g10, .ref g11, .ref g12, .ref g13, .ref g14, .ref g15, .ref h2, .ref g16, .ref g17, .int 0]), (h2, oC 7 [.ref g18, .int 0])] rfl ?_
      refine V_icmp_lt_f 15 B 29 dX11_draftWish_15 (by decide) (q_nlt (b_nlt k0 (n := 0) (by decide +kernel)) (by decide +kernel)) ?_
      exact V_throwSW 18 B EB hl9 gt_RX11_225_393_229 hout dX11_draftWish_18 dX11_draftWish_21 dX11_draftWish_22 dX11_draftWish_25 dX11_draftWish_28 (Nat.le_of_ble_eq_true rfl) (Nat.le_of_ble_eq_true rfl) (Nat.le_of_ble_eq_true rfl) (Nat.le_of_ble_eq_true rfl) (Nat.le_of_ble_eq_true rfl) (Nat.le_of_ble_eq_true rfl) () (Or.inr ⟨rfl, k0⟩) rfl)
set_option maxRecDepth 100000 in
set_option maxHeartbeats 4000000 in
theorem mX1_copyFrom_7 (l : Launch) (D : va_G) (Y : Nat → ClassId) (h2 : Nat) (h0 : Nat) (h1 : Nat) (h3 : Nat) (sz : Nat) : Met l yX1_copyFrom (WSm yX1_copyFrom cX1_copyFrom 4 none) (mkR 1 0 0 13) (PreC D Y [.ref h2, .ref h0] [(h0, oC 3 [.ref h1, .int 1]), (h1, aI Y 6 (upd (fun _ => 0) 0 (-1))), (h2, oC 3 [.ref h3, .int 1]), (h3, aI Y 6 (upd (fun _ => 0) 0 (-1)))] sz) (QV D (fun (u : Unit) => True) (fun (_ : Unit) => [(h0, oC 3 [.ref h1, .int 1]), (h1, aI Y 6 (upd (fun _ => 0) 0 (-1))), (h2, oC 3 [.ref h3, .int 1]), (h3, aI Y 6 (upd (upd (fun _ => 0) 0 (-1)) 0 (-1)))]) (va_A [(h0, oC 3 [.ref h1, .int 1]), (h1, aI Y 6 (upd (fun _ => 0) 0 (-1))), (h2, oC 3 [.ref h3, .int 1]), (h3, aI Y 6 (upd (fun _ => 0) 0 (-1)))] sz)) 0 0 (va_A [(h0, oC 3 [.ref h1, .int 1]), (h1, aI Y 6 (upd (fun _ => 0) 0 (-1))), (h2, oC 3 [.ref h3, .int 1]), (h3, aI Y 6 (upd (fun _ => 0) 0 (-1)))] sz) :=
  met_of (by decide +kernel) (Nat.le_of_ble_eq_true rfl) (fun p e s m args below meth c B hin hsz => by
    have B : VB p s m args meth c D Y (va_A [(h0, oC 3 [.ref h1, .int 1]), (h1, aI Y 6 (upd (fun _ => 0) 0 (-1))), (h2, oC 3 [.ref h3, .int 1]), (h3, aI Y 6 (upd (fun _ => 0) 0 (-1)))] sz) cX1_copyFrom 4 RX1 none := B
    refine V_aload_n 0 B dX1_copyFrom_0 1 rfl ?_
    refine V_get 1 B gf_RX1_21 0 rfl rfl dX1_copyFrom_1 ?_
    refine V_aload_n 4 B dX1_copyFrom_4 1 rfl ?_
    refine V_get 5 B gf_RX1_15 0 rfl rfl dX1_copyFrom_5 ?_
    refine V_alenI 8 B (v := 6) 1 rfl (by decide +kernel) dX1_copyFrom_8 ?_
    refine V_mmin 9 B (v := 1) gm_RX1_25 dX1_copyFrom_9 (Nat.le_of_ble_eq_true rfl) (Nat.le_of_ble_eq_true rfl) (Nat.le_of_ble_eq_true rfl) (Nat.le_of_ble_eq_true rfl) (by decide +kernel) ?_
    refine V_aload_n 12 B dX1_copyFrom_12 0 rfl ?_
    refine V_get 13 B gf_RX1_15 2 rfl rfl dX1_copyFrom_13 ?_
    refine V_alenI 16 B (v := 6) 3 rfl (by decide +kernel) dX1_copyFrom_16 ?_
    refine V_mmin 17 B (v := 1) gm_RX1_25 dX1_copyFrom_17 (Nat.le_of_ble_eq_true rfl) (Nat.le_of_ble_eq_true rfl) (Nat.le_of_ble_eq_true rfl) (Nat.le_of_ble_eq_true rfl) (by decide +kernel) ?_
    refine V_istore_n 20 B (lv2 := [(2, .int 1), (0, .ref h2), (1, .ref h0)]) dX1_copyFrom_20 (by decide) rfl ?_
    refine V_iconst 21 B (v := 0) dX1_copyFrom_21 (by decide +kernel) ?_
    refine V_istore_n 22 B (lv2 := [(3, .int 0), (2, .int 1), (0, .ref h2), (1, .ref h0)]) dX1_copyFrom_22 (by decide) rfl ?_
    refine V_iload_n 23 B dX1_copyFrom_23 0 rfl ?_
    refine V_iload_n 24 B dX1_copyFrom_24 1 rfl ?_
    refine V_icmp_ge_f 25 B 46 dX1_copyFrom_25 (by decide) (by decide +kernel) ?_
    refine V_aload_n 28 B dX1_copyFrom_28 2 rfl ?_
    refine V_get 29 B gf_RX1_15 2 rfl rfl dX1_copyFrom_29 ?_
    refine V_iload_n 32 B dX1_copyFrom_32 0 rfl ?_
    refine V_aload_n 33 B dX1_copyFrom_33 3 rfl ?_
    refine V_get 34 B gf_RX1_15 0 rfl rfl dX1_copyFrom_34 ?_
    refine V_iload_n 37 B dX1_copyFrom_37 0 rfl ?_
    refine V_iald 38 B (v := (-1)) 1 rfl (vpin _ _ (by decide +kernel)) dX1_copyFrom_38 rfl ?_
    refine V_iast 39 B 3 rfl (vpin _ _ (by decide +kernel)) dX1_copyFrom_39 [(h0, oC 3 [.ref h1, .int 1]), (h1, aI Y 6 (upd (fun _ => 0) 0 (-1))), (h2, oC 3 [.ref h3, .int 1]), (h3, aI Y 6 (upd (upd (fun _ => 0) 0 (-1)) 0 (-1)))] rfl ?_
    refine V_iinc 40 B (v := 1) (lv2 := [(3, .int 1), (2, .int 1), (0, .ref h2), (1, .ref h0)]) dX1_copyFrom_40 0 rfl (by decide +kernel) (by decide) rfl ?_
    refine V_goto 43 B 23 dX1_copyFrom_43 (by decide) ?_
    refine V_iload_n 23 B dX1_copyFrom_23 0 rfl ?_
    refine V_iload_n 24 B dX1_copyFrom_24 1 rfl ?_
    refine V_icmp_ge_t 25 B 46 dX1_copyFrom_25 (by decide) (by decide +kernel) ?_
    refine V_aload_n 46 B dX1_copyFrom_46 2 rfl ?_
    refine V_iload_n 47 B dX1_copyFrom_47 1 rfl ?_
    refine V_put 48 B gp_RX1_21 2 rfl (Nat.le_of_ble_eq_true rfl) rfl rfl dX1_copyFrom_48 [(h0, oC 3 [.ref h1, .int 1]), (h1, aI Y 6 (upd (fun _ => 0) 0 (-1))), (h2, oC 3 [.ref h3, .int 1]), (h3, aI Y 6 (upd (upd (fun _ => 0) 0 (-1)) 0 (-1)))] rfl ?_
    exact V_vret 51 B dX1_copyFrom_51 () trivial rfl)
set_option maxRecDepth 100000 in
set_option maxHeartbeats 4000000 in
theorem mX1_copyFrom_8 (l : Launch) (D : va_G) (Y : Nat → ClassId) (h2 : Nat) (h0 : Nat) (h1 : Nat) (h3 : Nat) (sz : Nat) : Met l yX1_copyFrom (WSm yX1_copyFrom cX1_copyFrom 4 none) (mkR 1 0 0 13) (PreC D Y [.ref h2, .ref h0] [(h0, oC 3 [.ref h1, .int 0]), (h1, aI Y 40 (fun _ => 0)), (h2, oC 3 [.ref h3, .int 0]), (h3, aI Y 40 (fun _ => 0))] sz) (QV D (fun (u : Unit) => True) (fun (_ : Unit) => [(h0, oC 3 [.ref h1, .int 0]), (h1, aI Y 40 (fun _ => 0)), (h2, oC 3 [.ref h3, .int 0]), (h3, aI Y 40 (fun _ => 0))]) (va_A [(h0, oC 3 [.ref h1, .int 0]), (h1, aI Y 40 (fun _ => 0)), (h2, oC 3 [.ref h3, .int 0]), (h3, aI Y 40 (fun _ => 0))] sz)) 0 0 (va_A [(h0, oC 3 [.ref h1, .int 0]), (h1, aI Y 40 (fun _ => 0)), (h2, oC 3 [.ref h3, .int 0]), (h3, aI Y 40 (fun _ => 0))] sz) :=
  met_of (by decide +kernel) (Nat.le_of_ble_eq_true rfl) (fun p e s m args below meth c B hin hsz => by
    have B : VB p s m args meth c D Y (va_A [(h0, oC 3 [.ref h1, .int 0]), (h1, aI Y 40 (fun _ => 0)), (h2, oC 3 [.ref h3, .int 0]), (h3, aI Y 40 (fun _ => 0))] sz) cX1_copyFrom 4 RX1 none := B
    refine V_aload_n 0 B dX1_copyFrom_0 1 rfl ?_
    refine V_get 1 B gf_RX1_21 0 rfl rfl dX1_copyFrom_1 ?_
    refine V_aload_n 4 B dX1_copyFrom_4 1 rfl ?_
    refine V_get 5 B gf_RX1_15 0 rfl rfl dX1_copyFrom_5 ?_
    refine V_alenI 8 B (v := 40) 1 rfl (by decide +kernel) dX1_copyFrom_8 ?_
    refine V_mmin 9 B (v := 0) gm_RX1_25 dX1_copyFrom_9 (Nat.le_of_ble_eq_true rfl) (Nat.le_of_ble_eq_true rfl) (Nat.le_of_ble_eq_true rfl) (Nat.le_of_ble_eq_true rfl) (by decide +kernel) ?_
    refine V_aload_n 12 B dX1_copyFrom_12 0 rfl ?_
    refine V_get 13 B gf_RX1_15 2 rfl rfl dX1_copyFrom_13 ?_
    refine V_alenI 16 B (v := 40) 3 rfl (by decide +kernel) dX1_copyFrom_16 ?_
    refine V_mmin 17 B (v := 0) gm_RX1_25 dX1_copyFrom_17 (Nat.le_of_ble_eq_true rfl) (Nat.le_of_ble_eq_true rfl) (Nat.le_of_ble_eq_true rfl) (Nat.le_of_ble_eq_true rfl) (by decide +kernel) ?_
    refine V_istore_n 20 B (lv2 := [(2, .int 0), (0, .ref h2), (1, .ref h0)]) dX1_copyFrom_20 (by decide) rfl ?_
    refine V_iconst 21 B (v := 0) dX1_copyFrom_21 (by decide +kernel) ?_
    refine V_istore_n 22 B (lv2 := [(3, .int 0), (2, .int 0), (0, .ref h2), (1, .ref h0)]) dX1_copyFrom_22 (by decide) rfl ?_
    refine V_iload_n 23 B dX1_copyFrom_23 0 rfl ?_
    refine V_iload_n 24 B dX1_copyFrom_24 1 rfl ?_
    refine V_icmp_ge_t 25 B 46 dX1_copyFrom_25 (by decide) (by decide +kernel) ?_
    refine V_aload_n 46 B dX1_copyFrom_46 2 rfl ?_
    refine V_iload_n 47 B dX1_copyFrom_47 1 rfl ?_
    refine V_put 48 B gp_RX1_21 2 rfl (Nat.le_of_ble_eq_true rfl) rfl rfl dX1_copyFrom_48 [(h0, oC 3 [.ref h1, .int 0]), (h1, aI Y 40 (fun _ => 0)), (h2, oC 3 [.ref h3, .int 0]), (h3, aI Y 40 (fun _ => 0))] rfl ?_
    exact V_vret 51 B dX1_copyFrom_51 () trivial rfl)
set_option maxRecDepth 100000 in
set_option maxHeartbeats 4000000 in
theorem mX5_copyFrom_4 (l : Launch) (D : va_G) (Y : Nat → ClassId) (h2 : Nat) (h0 : Nat) (h1 : Nat) (h3 : Nat) (sz : Nat) : Met l yX5_copyFrom (WSm yX5_copyFrom cX5_copyFrom 4 none) (mkR 1 0 0 13) (PreC D Y [.ref h2, .ref h0] [(h0, oC 7 [.ref h1, .int 0]), (h1, aJ Y 6 (fun _ => 0)), (h2, oC 7 [.ref h3, .int 0]), (h3, aJ Y 6 (fun _ => 0))] sz) (QV D (fun (u : Unit) => True) (fun (_ : Unit) => [(h0, oC 7 [.ref h1, .int 0]), (h1, aJ Y 6 (fun _ => 0)), (h2, oC 7 [.ref h3, .int 0]), (h3, aJ Y 6 (fun _ => 0))]) (va_A [(h0, oC 7 [.ref h1, .int 0]), (h1, aJ Y 6 (fun _ => 0)), (h2, oC 7 [.ref h3, .int 0]), (h3, aJ Y 6 (fun _ => 0))] sz)) 0 0 (va_A [(h0, oC 7 [.ref h1, .int 0]), (h1, aJ Y 6 (fun _ => 0)), (h2, oC 7 [.ref h3, .int 0]), (h3, aJ Y 6 (fun _ => 0))] sz) :=
  met_of (by decide +kernel) (Nat.le_of_ble_eq_true rfl) (fun p e s m args below meth c B hin hsz => by
    have B : VB p s m args meth c D Y (va_A [(h0, oC 7 [.ref h1, .int 0]), (h1, aJ Y 6 (fun _ => 0)), (h2, oC 7 [.ref h3, .int 0]), (h3, aJ Y 6 (fun _ => 0))] sz) cX5_copyFrom 4 RX5 none := B
    refine V_aload_n 0 B dX5_copyFrom_0 1 rfl ?_
    refine V_get 1 B gf_RX5_19 0 rfl rfl dX5_copyFrom_1 ?_
    refine V_aload_n 4 B dX5_copyFrom_4 1 rfl ?_
    refine V_get 5 B gf_RX5_13 0 rfl rfl dX5_copyFrom_5 ?_
    refine V_alenJ 8 B (v := 6) 1 rfl (by decide +kernel) dX5_copyFrom_8 ?_
    refine V_mmin 9 B (v := 0) gm_RX5_29 dX5_copyFrom_9 (Nat.le_of_ble_eq_true rfl) (Nat.le_of_ble_eq_true rfl) (Nat.le_of_ble_eq_true rfl) (Nat.le_of_ble_eq_true rfl) (by decide +kernel) ?_
    refine V_aload_n 12 B dX5_copyFrom_12 0 rfl ?_
    refine V_get 13 B gf_RX5_13 2 rfl rfl dX5_copyFrom_13 ?_
    refine V_alenJ 16 B (v := 6) 3 rfl (by decide +kernel) dX5_copyFrom_16 ?_
    refine V_mmin 17 B (v := 0) gm_RX5_29 dX5_copyFrom_17 (Nat.le_of_ble_eq_true rfl) (Nat.le_of_ble_eq_true rfl) (Nat.le_of_ble_eq_true rfl) (Nat.le_of_ble_eq_true rfl) (by decide +kernel) ?_
    refine V_istore_n 20 B (lv2 := [(2, .int 0), (0, .ref h2), (1, .ref h0)]) dX5_copyFrom_20 (by decide) rfl ?_
    refine V_iconst 21 B (v := 0) dX5_copyFrom_21 (by decide +kernel) ?_
    refine V_istore_n 22 B (lv2 := [(3, .int 0), (2, .int 0), (0, .ref h2), (1, .ref h0)]) dX5_copyFrom_22 (by decide) rfl ?_
    refine V_iload_n 23 B dX5_copyFrom_23 0 rfl ?_
    refine V_iload_n 24 B dX5_copyFrom_24 1 rfl ?_
    refine V_icmp_ge_t 25 B 46 dX5_copyFrom_25 (by decide) (by decide +kernel) ?_
    refine V_aload_n 46 B dX5_copyFrom_46 2 rfl ?_
    refine V_iload_n 47 B dX5_copyFrom_47 1 rfl ?_
    refine V_put 48 B gp_RX5_19 2 rfl (Nat.le_of_ble_eq_true rfl) rfl rfl dX5_copyFrom_48 [(h0, oC 7 [.ref h1, .int 0]), (h1, aJ Y 6 (fun _ => 0)), (h2, oC 7 [.ref h3, .int 0]), (h3, aJ Y 6 (fun _ => 0))] rfl ?_
    exact V_vret 51 B dX5_copyFrom_51 () trivial rfl)
set_option maxRecDepth 100000 in
set_option maxHeartbeats 4000000 in
theorem mX1_copyFrom_9 (l : Launch) (D : va_G) (Y : Nat → ClassId) (h2 : Nat) (h0 : Nat) (h1 : Nat) (h3 : Nat) (sz : Nat) : Met l yX1_copyFrom (WSm yX1_copyFrom cX1_copyFrom 4 none) (mkR 1 0 0 13) (PreC D Y [.ref h2, .ref h0] [(h0, oC 3 [.ref h1, .int 0]), (h1, aI Y 80 (fun _ => 0)), (h2, oC 3 [.ref h3, .int 0]), (h3, aI Y 80 (fun _ => 0))] sz) (QV D (fun (u : Unit) => True) (fun (_ : Unit) => [(h0, oC 3 [.ref h1, .int 0]), (h1, aI Y 80 (fun _ => 0)), (h2, oC 3 [.ref h3, .int 0]), (h3, aI Y 80 (fun _ => 0))]) (va_A [(h0, oC 3 [.ref h1, .int 0]), (h1, aI Y 80 (fun _ => 0)), (h2, oC 3 [.ref h3, .int 0]), (h3, aI Y 80 (fun _ => 0))] sz)) 0 0 (va_A [(h0, oC 3 [.ref h1, .int 0]), (h1, aI Y 80 (fun _ => 0)), (h2, oC 3 [.ref h3, .int 0]), (h3, aI Y 80 (fun _ => 0))] sz) :=
  met_of (by decide +kernel) (Nat.le_of_ble_eq_true rfl) (fun p e s m args below meth c B hin hsz => by
    have B : VB p s m args meth c D Y (va_A [(h0, oC 3 [.ref h1, .int 0]), (h1, aI Y 80 (fun _ => 0)), (h2, oC 3 [.ref h3, .int 0]), (h3, aI Y 80 (fun _ => 0))] sz) cX1_copyFrom 4 RX1 none := B
    refine V_aload_n 0 B dX1_copyFrom_0 1 rfl ?_
    refine V_get 1 B gf_RX1_21 0 rfl rfl dX1_copyFrom_1 ?_
    refine V_aload_n 4 B dX1_copyFrom_4 1 rfl ?_
    refine V_get 5 B gf_RX1_15 0 rfl rfl dX1_copyFrom_5 ?_
    refine V_alenI 8 B (v := 80) 1 rfl (by decide +kernel) dX1_copyFrom_8 ?_
    refine V_mmin 9 B (v := 0) gm_RX1_25 dX1_copyFrom_9 (Nat.le_of_ble_eq_true rfl) (Nat.le_of_ble_eq_true rfl) (Nat.le_of_ble_eq_true rfl) (Nat.le_of_ble_eq_true rfl) (by decide +kernel) ?_
    refine V_aload_n 12 B dX1_copyFrom_12 0 rfl ?_
    refine V_get 13 B gf_RX1_15 2 rfl rfl dX1_copyFrom_13 ?_
    refine V_alenI 16 B (v := 80) 3 rfl (by decide +kernel) dX1_copyFrom_16 ?_
    refine V_mmin 17 B (v := 0) gm_RX1_25 dX1_copyFrom_17 (Nat.le_of_ble_eq_true rfl) (Nat.le_of_ble_eq_true rfl) (Nat.le_of_ble_eq_true rfl) (Nat.le_of_ble_eq_true rfl) (by decide +kernel) ?_
    refine V_istore_n 20 B (lv2 := [(2, .int 0), (0, .ref h2), (1, .ref h0)]) dX1_copyFrom_20 (by decide) rfl ?_
    refine V_iconst 21 B (v := 0) dX1_copyFrom_21 (by decide +kernel) ?_
    refine V_istore_n 22 B (lv2 := [(3, .int 0), (2, .int 0), (0, .ref h2), (1, .ref h0)]) dX1_copyFrom_22 (by decide) rfl ?_
    refine V_iload_n 23 B dX1_copyFrom_23 0 rfl ?_
    refine V_iload_n 24 B dX1_copyFrom_24 1 rfl ?_
    refine V_icmp_ge_t 25 B 46 dX1_copyFrom_25 (by decide) (by decide +kernel) ?_
    refine V_aload_n 46 B dX1_copyFrom_46 2 rfl ?_
    refine V_iload_n 47 B dX1_copyFrom_47 1 rfl ?_
    refine V_put 48 B gp_RX1_21 2 rfl (Nat.le_of_ble_eq_true rfl) rfl rfl dX1_copyFrom_48 [(h0, oC 3 [.ref h1, .int 0]), (h1, aI Y 80 (fun _ => 0)), (h2, oC 3 [.ref h3, .int 0]), (h3, aI Y 80 (fun _ => 0))] rfl ?_
    exact V_vret 51 B dX1_copyFrom_51 () trivial rfl)
set_option maxRecDepth 100000 in
set_option maxHeartbeats 4000000 in
theorem mX5_copyFrom_5 (l : Launch) (D : va_G) (Y : Nat → ClassId) (h2 : Nat) (h0 : Nat) (h1 : Nat) (h3 : Nat) (sz : Nat) : Met l yX5_copyFrom (WSm yX5_copyFrom cX5_copyFrom 4 none) (mkR 1 0 0 13) (PreC D Y [.ref h2, .ref h0] [(h0, oC 7 [.ref h1, .int 0]), (h1, aJ Y 80 (fun _ => 0)), (h2, oC 7 [.ref h3, .int 0]), (h3, aJ Y 80 (fun _ => 0))] sz) (QV D (fun (u : Unit) => True) (fun (_ : Unit) => [(h0, oC 7 [.ref h1, .int 0]), (h1, aJ Y 80 (fun _ => 0)), (h2, oC 7 [.ref h3, .int 0]), (h3, aJ Y 80 (fun _ => 0))]) (va_A [(h0, oC 7 [.ref h1, .int 0]), (h1, aJ Y 80 (fun _ => 0)), (h2, oC 7 [.ref h3, .int 0]), (h3, aJ Y 80 (fun _ => 0))] sz)) 0 0 (va_A [(h0, oC 7 [.ref h1, .int 0]), (h1, aJ Y 80 (fun _ => 0)), (h2, oC 7 [.ref h3, .int 0]), (h3, aJ Y 80 (fun _ => 0))] sz) :=
  met_of (by decide +kernel) (Nat.le_of_ble_eq_true rfl) (fun p e s m args below meth c B hin hsz => by
    have B : VB p s m args meth c D Y (va_A [(h0, oC 7 [.ref h1, .int 0]), (h1, aJ Y 80 (fun _ => 0)), (h2, oC 7 [.ref h3, .int 0]), (h3, aJ Y 80 (fun _ => 0))] sz) cX5_copyFrom 4 RX5 none := B
    refine V_aload_n 0 B dX5_copyFrom_0 1 rfl ?_
    refine V_get 1 B gf_RX5_19 0 rfl rfl dX5_copyFrom_1 ?_
    refine V_aload_n 4 B dX5_copyFrom_4 1 rfl ?_
    refine V_get 5 B gf_RX5_13 0 rfl rfl dX5_copyFrom_5 ?_
    refine V_alenJ 8 B (v := 80) 1 rfl (by decide +kernel) dX5_copyFrom_8 ?_
    refine V_mmin 9 B (v := 0) gm_RX5_29 dX5_copyFrom_9 (Nat.le_of_ble_eq_true rfl) (Nat.le_of_ble_eq_true rfl) (Nat.le_of_ble_eq_true rfl) (Nat.le_of_ble_eq_true rfl) (by decide +kernel) ?_
    refine V_aload_n 12 B dX5_copyFrom_12 0 rfl ?_
    refine V_get 13 B gf_RX5_13 2 rfl rfl dX5_copyFrom_13 ?_
    refine V_alenJ 16 B (v := 80) 3 rfl (by decide +kernel) dX5_copyFrom_16 ?_
    refine V_mmin 17 B (v := 0) gm_RX5_29 dX5_copyFrom_17 (Nat.le_of_ble_eq_true rfl) (Nat.le_of_ble_eq_true rfl) (Nat.le_of_ble_eq_true rfl) (Nat.le_of_ble_eq_true rfl) (by decide +kernel) ?_
    refine V_istore_n 20 B (lv2 := [(2, .int 0), (0, .ref h2), (1, .ref h0)]) dX5_copyFrom_20 (by decide) rfl ?_
    refine V_iconst 21 B (v := 0) dX5_copyFrom_21 (by decide +kernel) ?_
    refine V_istore_n 22 B (lv2 := [(3, .int 0), (2, .int 0), (0, .ref h2), (1, .ref h0)]) dX5_copyFrom_22 (by decide) rfl ?_
    refine V_iload_n 23 B dX5_copyFrom_23 0 rfl ?_
    refine V_iload_n 24 B dX5_copyFrom_24 1 rfl ?_
    refine V_icmp_ge_t 25 B 46 dX5_copyFrom_25 (by decide) (by decide +kernel) ?_
    refine V_aload_n 46 B dX5_copyFrom_46 2 rfl ?_
    refine V_iload_n 47 B dX5_copyFrom_47 1 rfl ?_
    refine V_put 48 B gp_RX5_19 2 rfl (Nat.le_of_ble_eq_true rfl) rfl rfl dX5_copyFrom_48 [(h0, oC 7 [.ref h1, .int 0]), (h1, aJ Y 80 (fun _ => 0)), (h2, oC 7 [.ref h3, .int 0]), (h3, aJ Y 80 (fun _ => 0))] rfl ?_
    exact V_vret 51 B dX5_copyFrom_51 () trivial rfl)
set_option maxRecDepth 100000 in
set_option maxHeartbeats 4000000 in
theorem mX5_copyFrom_6 (l : Launch) (D : va_G) (Y : Nat → ClassId) (h2 : Nat) (h0 : Nat) (h1 : Nat) (h3 : Nat) (sz : Nat) : Met l yX5_copyFrom (WSm yX5_copyFrom cX5_copyFrom 4 none) (mkR 1 0 0 13) (PreC D Y [.ref h2, .ref h0] [(h0, oC 7 [.ref h1, .int 0]), (h1, aJ Y 10 (fun _ => 0)), (h2, oC 7 [.ref h3, .int 0]), (h3, aJ Y 10 (fun _ => 0))] sz) (QV D (fun (u : Unit) => True) (fun (_ : Unit) => [(h0, oC 7 [.ref h1, .int 0]), (h1, aJ Y 10 (fun _ => 0)), (h2, oC 7 [.ref h3, .int 0]), (h3, aJ Y 10 (fun _ => 0))]) (va_A [(h0, oC 7 [.ref h1, .int 0]), (h1, aJ Y 10 (fun _ => 0)), (h2, oC 7 [.ref h3, .int 0]), (h3, aJ Y 10 (fun _ => 0))] sz)) 0 0 (va_A [(h0, oC 7 [.ref h1, .int 0]), (h1, aJ Y 10 (fun _ => 0)), (h2, oC 7 [.ref h3, .int 0]), (h3, aJ Y 10 (fun _ => 0))] sz) :=
  met_of (by decide +kernel) (Nat.le_of_ble_eq_true rfl) (fun p e s m args below meth c B hin hsz => by
    have B : VB p s m args meth c D Y (va_A [(h0, oC 7 [.ref h1, .int 0]), (h1, aJ Y 10 (fun _ => 0)), (h2, oC 7 [.ref h3, .int 0]), (h3, aJ Y 10 (fun _ => 0))] sz) cX5_copyFrom 4 RX5 none := B
    refine V_aload_n 0 B dX5_copyFrom_0 1 rfl ?_
    refine V_get 1 B gf_RX5_19 0 rfl rfl dX5_copyFrom_1 ?_
    refine V_aload_n 4 B dX5_copyFrom_4 1 rfl ?_
    refine V_get 5 B gf_RX5_13 0 rfl rfl dX5_copyFrom_5 ?_
    refine V_alenJ 8 B (v := 10) 1 rfl (by decide +kernel) dX5_copyFrom_8 ?_
    refine V_mmin 9 B (v := 0) gm_RX5_29 dX5_copyFrom_9 (Nat.le_of_ble_eq_true rfl) (Nat.le_of_ble_eq_true rfl) (Nat.le_of_ble_eq_true rfl) (Nat.le_of_ble_eq_true rfl) (by decide +kernel) ?_
    refine V_aload_n 12 B dX5_copyFrom_12 0 rfl ?_
    refine V_get 13 B gf_RX5_13 2 rfl rfl dX5_copyFrom_13 ?_
    refine V_alenJ 16 B (v := 10) 3 rfl (by decide +kernel) dX5_copyFrom_16 ?_
    refine V_mmin 17 B (v := 0) gm_RX5_29 dX5_copyFrom_17 (Nat.le_of_ble_eq_true rfl) (Nat.le_of_ble_eq_true rfl) (Nat.le_of_ble_eq_true rfl) (Nat.le_of_ble_eq_true rfl) (by decide +kernel) ?_
    refine V_istore_n 20 B (lv2 := [(2, .int 0), (0, .ref h2), (1, .ref h0)]) dX5_copyFrom_20 (by decide) rfl ?_
    refine V_iconst 21 B (v := 0) dX5_copyFrom_21 (by decide +kernel) ?_
    refine V_istore_n 22 B (lv2 := [(3, .int 0), (2, .int 0), (0, .ref h2), (1, .ref h0)]) dX5_copyFrom_22 (by decide) rfl ?_
    refine V_iload_n 23 B dX5_copyFrom_23 0 rfl ?_
    refine V_iload_n 24 B dX5_copyFrom_24 1 rfl ?_
    refine V_icmp_ge_t 25 B 46 dX5_copyFrom_25 (by decide) (by decide +kernel) ?_
    refine V_aload_n 46 B dX5_copyFrom_46 2 rfl ?_
    refine V_iload_n 47 B dX5_copyFrom_47 1 rfl ?_
    refine V_put 48 B gp_RX5_19 2 rfl (Nat.le_of_ble_eq_true rfl) rfl rfl dX5_copyFrom_48 [(h0, oC 7 [.ref h1, .int 0]), (h1, aJ Y 10 (fun _ => 0)), (h2, oC 7 [.ref h3, .int 0]), (h3, aJ Y 10 (fun _ => 0))] rfl ?_
    exact V_vret 51 B dX5_copyFrom_51 () trivial rfl)
set_option maxRecDepth 100000 in
set_option maxHeartbeats 4000000 in
theorem mX1_copyFrom_10 (l : Launch) (D : va_G) (Y : Nat → ClassId) (h2 : Nat) (h0 : Nat) (h1 : Nat) (h3 : Nat) (sz : Nat) : Met l yX1_copyFrom (WSm yX1_copyFrom cX1_copyFrom 4 none) (mkR 1 0 0 13) (PreC D Y [.ref h2, .ref h0] [(h0, oC 3 [.ref h1, .int 0]), (h1, aI Y 4 (fun _ => 0)), (h2, oC 3 [.ref h3, .int 0]), (h3, aI Y 4 (fun _ => 0))] sz) (QV D (fun (u : Unit) => True) (fun (_ : Unit) => [(h0, oC 3 [.ref h1, .int 0]), (h1, aI Y 4 (fun _ => 0)), (h2, oC 3 [.ref h3, .int 0]), (h3, aI Y 4 (fun _ => 0))]) (va_A [(h0, oC 3 [.ref h1, .int 0]), (h1, aI Y 4 (fun _ => 0)), (h2, oC 3 [.ref h3, .int 0]), (h3, aI Y 4 (fun _ => 0))] sz)) 0 0 (va_A [(h0, oC 3 [.ref h1, .int 0]), (h1, aI Y 4 (fun _ => 0)), (h2, oC 3 [.ref h3, .int 0]), (h3, aI Y 4 (fun _ => 0))] sz) :=
  met_of (by decide +kernel) (Nat.le_of_ble_eq_true rfl) (fun p e s m args below meth c B hin hsz => by
    have B : VB p s m args meth c D Y (va_A [(h0, oC 3 [.ref h1, .int 0]), (h1, aI Y 4 (fun _ => 0)), (h2, oC 3 [.ref h3, .int 0]), (h3, aI Y 4 (fun _ => 0))] sz) cX1_copyFrom 4 RX1 none := B
    refine V_aload_n 0 B dX1_copyFrom_0 1 rfl ?_
    refine V_get 1 B gf_RX1_21 0 rfl rfl dX1_copyFrom_1 ?_
    refine V_aload_n 4 B dX1_copyFrom_4 1 rfl ?_
    refine V_get 5 B gf_RX1_15 0 rfl rfl dX1_copyFrom_5 ?_
    refine V_alenI 8 B (v := 4) 1 rfl (by decide +kernel) dX1_copyFrom_8 ?_
    refine V_mmin 9 B (v := 0) gm_RX1_25 dX1_copyFrom_9 (Nat.le_of_ble_eq_true rfl) (Nat.le_of_ble_eq_true rfl) (Nat.le_of_ble_eq_true rfl) (Nat.le_of_ble_eq_true rfl) (by decide +kernel) ?_
    refine V_aload_n 12 B dX1_copyFrom_12 0 rfl ?_
    refine V_get 13 B gf_RX1_15 2 rfl rfl dX1_copyFrom_13 ?_
    refine V_alenI 16 B (v := 4) 3 rfl (by decide +kernel) dX1_copyFrom_16 ?_
    refine V_mmin 17 B (v := 0) gm_RX1_25 dX1_copyFrom_17 (Nat.le_of_ble_eq_true rfl) (Nat.le_of_ble_eq_true rfl) (Nat.le_of_ble_eq_true rfl) (Nat.le_of_ble_eq_true rfl) (by decide +kernel) ?_
    refine V_istore_n 20 B (lv2 := [(2, .int 0), (0, .ref h2), (1, .ref h0)]) dX1_copyFrom_20 (by decide) rfl ?_
    refine V_iconst 21 B (v := 0) dX1_copyFrom_21 (by decide +kernel) ?_
    refine V_istore_n 22 B (lv2 := [(3, .int 0), (2, .int 0), (0, .ref h2), (1, .ref h0)]) dX1_copyFrom_22 (by decide) rfl ?_
    refine V_iload_n 23 B dX1_copyFrom_23 0 rfl ?_
    refine V_iload_n 24 B dX1_copyFrom_24 1 rfl ?_
    refine V_icmp_ge_t 25 B 46 dX1_copyFrom_25 (by decide) (by decide +kernel) ?_
    refine V_aload_n 46 B dX1_copyFrom_46 2 rfl ?_
    refine V_iload_n 47 B dX1_copyFrom_47 1 rfl ?_
    refine V_put 48 B gp_RX1_21 2 rfl (Nat.le_of_ble_eq_true rfl) rfl rfl dX1_copyFrom_48 [(h0, oC 3 [.ref h1, .int 0]), (h1, aI Y 4 (fun _ => 0)), (h2, oC 3 [.ref h3, .int 0]), (h3, aI Y 4 (fun _ => 0))] rfl ?_
    exact V_vret 51 B dX1_copyFrom_51 () trivial rfl)
set_option maxRecDepth 100000 in
set_option maxHeartbeats 4000000 in
theorem mX1_copyFrom_11 (l : Launch) (D : va_G) (Y : Nat → ClassId) (h2 : Nat) (h0 : Nat) (h1 : Nat) (h3 : Nat) (sz : Nat) : Met l yX1_copyFrom (WSm yX1_copyFrom cX1_copyFrom 4 none) (mkR 1 0 0 13) (PreC D Y [.ref h2, .ref h0] [(h0, oC 3 [.ref h1, .int 0]), (h1, aI Y 104 (fun _ => 0)), (h2, oC 3 [.ref h3, .int 0]), (h3, aI Y 104 (fun _ => 0))] sz) (QV D (fun (u : Unit) => True) (fun (_ : Unit) => [(h0, oC 3 [.ref h1, .int 0]), (h1, aI Y 104 (fun _ => 0)), (h2, oC 3 [.ref h3, .int 0]), (h3, aI Y 104 (fun _ => 0))]) (va_A [(h0, oC 3 [.ref h1, .int 0]), (h1, aI Y 104 (fun _ => 0)), (h2, oC 3 [.ref h3, .int 0]), (h3, aI Y 104 (fun _ => 0))] sz)) 0 0 (va_A [(h0, oC 3 [.ref h1, .int 0]), (h1, aI Y 104 (fun _ => 0)), (h2, oC 3 [.ref h3, .int 0]), (h3, aI Y 104 (fun _ => 0))] sz) :=
  met_of (by decide +kernel) (Nat.le_of_ble_eq_true rfl) (fun p e s m args below meth c B hin hsz => by
    have B : VB p s m args meth c D Y (va_A [(h0, oC 3 [.ref h1, .int 0]), (h1, aI Y 104 (fun _ => 0)), (h2, oC 3 [.ref h3, .int 0]), (h3, aI Y 104 (fun _ => 0))] sz) cX1_copyFrom 4 RX1 none := B
    refine V_aload_n 0 B dX1_copyFrom_0 1 rfl ?_
    refine V_get 1 B gf_RX1_21 0 rfl rfl dX1_copyFrom_1 ?_
    refine V_aload_n 4 B dX1_copyFrom_4 1 rfl ?_
    refine V_get 5 B gf_RX1_15 0 rfl rfl dX1_copyFrom_5 ?_
    refine V_alenI 8 B (v := 104) 1 rfl (by decide +kernel) dX1_copyFrom_8 ?_
    refine V_mmin 9 B (v := 0) gm_RX1_25 dX1_copyFrom_9 (Nat.le_of_ble_eq_true rfl) (Nat.le_of_ble_eq_true rfl) (Nat.le_of_ble_eq_true rfl) (Nat.le_of_ble_eq_true rfl) (by decide +kernel) ?_
    refine V_aload_n 12 B dX1_copyFrom_12 0 rfl ?_
    refine V_get 13 B gf_RX1_15 2 rfl rfl dX1_copyFrom_13 ?_
    refine V_alenI 16 B (v := 104) 3 rfl (by decide +kernel) dX1_copyFrom_16 ?_
    refine V_mmin 17 B (v := 0) gm_RX1_25 dX1_copyFrom_17 (Nat.le_of_ble_eq_true rfl) (Nat.le_of_ble_eq_true rfl) (Nat.le_of_ble_eq_true rfl) (Nat.le_of_ble_eq_true rfl) (by decide +kernel) ?_
    refine V_istore_n 20 B (lv2 := [(2, .int 0), (0, .ref h2), (1, .ref h0)]) dX1_copyFrom_20 (by decide) rfl ?_
    refine V_iconst 21 B (v := 0) dX1_copyFrom_21 (by decide +kernel) ?_
    refine V_istore_n 22 B (lv2 := [(3, .int 0), (2, .int 0), (0, .ref h2), (1, .ref h0)]) dX1_copyFrom_22 (by decide) rfl ?_
    refine V_iload_n 23 B dX1_copyFrom_23 0 rfl ?_
    refine V_iload_n 24 B dX1_copyFrom_24 1 rfl ?_
    refine V_icmp_ge_t 25 B 46 dX1_copyFrom_25 (by decide) (by decide +kernel) ?_
    refine V_aload_n 46 B dX1_copyFrom_46 2 rfl ?_
    refine V_iload_n 47 B dX1_copyFrom_47 1 rfl ?_
    refine V_put 48 B gp_RX1_21 2 rfl (Nat.le_of_ble_eq_true rfl) rfl rfl dX1_copyFrom_48 [(h0, oC 3 [.ref h1, .int 0]), (h1, aI Y 104 (fun _ => 0)), (h2, oC 3 [.ref h3, .int 0]), (h3, aI Y 104 (fun _ => 0))] rfl ?_
    exact V_vret 51 B dX1_copyFrom_51 () trivial rfl)
set_option maxRecDepth 100000 in
set_option maxHeartbeats 4000000 in
theorem mX2_copyFrom_2 (l : Launch) (D : va_G) (Y : Nat → ClassId) (h7 : Nat) (h0 : Nat) (h1 : Nat) (h3 : Nat) (h5 : Nat) (h2 : Nat) (h4 : Nat) (h6 : Nat) (h8 : Nat) (h10 : Nat) (h12 : Nat) (h9 : Nat) (h11 : Nat) (h13 : Nat) (sz : Nat) : Met l yX2_copyFrom (WSm yX2_copyFrom cX2_copyFrom 2 none) (mkR 2 0 0 36) (PreC D Y [.ref h7, .ref h0] [(h0, oC 4 [.ref h1, .ref h3, .ref h5, .int 0]), (h1, oC 3 [.ref h2, .int 0]), (h2, aI Y 4 (fun _ => 0)), (h3, oC 3 [.ref h4, .int 0]), (h4, aI Y 4 (fun _ => 0)), (h5, oC 3 [.ref h6, .int 0]), (h6, aI Y 104 (fun _ => 0)), (h7, oC 4 [.ref h8, .ref h10, .ref h12, .int 0]), (h8, oC 3 [.ref h9, .int 0]), (h9, aI Y 4 (fun _ => 0)), (h10, oC 3 [.ref h11, .int 0]), (h11, aI Y 4 (fun _ => 0)), (h12, oC 3 [.ref h13, .int 0]), (h13, aI Y 104 (fun _ => 0))] sz) (QV D (fun (u : Unit) => True) (fun (_ : Unit) => [(h0, oC 4 [.ref h1, .ref h3, .ref h5, .int 0]), (h1, oC 3 [.ref h2, .int 0]), (h2, aI Y 4 (fun _ => 0)), (h3, oC 3 [.ref h4, .int 0]), (h4, aI Y 4 (fun _ => 0)), (h5, oC 3 [.ref h6, .int 0]), (h6, aI Y 104 (fun _ => 0)), (h7, oC 4 [.ref h8, .ref h10, .ref h12, .int 0]), (h8, oC 3 [.ref h9, .int 0]), (h9, aI Y 4 (fun _ => 0)), (h10, oC 3 [.ref h11, .int 0]), (h11, aI Y 4 (fun _ => 0)), (h12, oC 3 [.ref h13, .int 0]), (h13, aI Y 104 (fun _ => 0))]) (va_A [(h0, oC 4 [.ref h1, .ref h3, .ref h5, .int 0]), (h1, oC 3 [.ref h2, .int 0]), (h2, aI Y 4 (fun _ => 0)), (h3, oC 3 [.ref h4, .int 0]), (h4, aI Y 4 (fun _ => 0)), (h5, oC 3 [.ref h6, .int 0]), (h6, aI Y 104 (fun _ => 0)), (h7, oC 4 [.ref h8, .ref h10, .ref h12, .int 0]), (h8, oC 3 [.ref h9, .int 0]), (h9, aI Y 4 (fun _ => 0)), (h10, oC 3 [.ref h11, .int 0]), (h11, aI Y 4 (fun _ => 0)), (h12, oC 3 [.ref h13, .int 0]), (h13, aI Y 104 (fun _ => 0))] sz)) 0 0 (va_A [(h0, oC 4 [.ref h1, .ref h3, .ref h5, .int 0]), (h1, oC 3 [.ref h2, .int 0]), (h2, aI Y 4 (fun _ => 0)), (h3, oC 3 [.ref h4, .int 0]), (h4, aI Y 4 (fun _ => 0)), (h5, oC 3 [.ref h6, .int 0]), (h6, aI Y 104 (fun _ => 0)), (h7, oC 4 [.ref h8, .ref h10, .ref h12, .int 0]), (h8, oC 3 [.ref h9, .int 0]), (h9, aI Y 4 (fun _ => 0)), (h10, oC 3 [.ref h11, .int 0]), (h11, aI Y 4 (fun _ => 0)), (h12, oC 3 [.ref h13, .int 0]), (h13, aI Y 104 (fun _ => 0))] sz) :=
  met_of (by decide +kernel) (Nat.le_of_ble_eq_true rfl) (fun p e s m args below meth c B hin hsz => by
    have B : VB p s m args meth c D Y (va_A [(h0, oC 4 [.ref h1, .ref h3, .ref h5, .int 0]), (h1, oC 3 [.ref h2, .int 0]), (h2, aI Y 4 (fun _ => 0)), (h3, oC 3 [.ref h4, .int 0]), (h4, aI Y 4 (fun _ => 0)), (h5, oC 3 [.ref h6, .int 0]), (h6, aI Y 104 (fun _ => 0)), (h7, oC 4 [.ref h8, .ref h10, .ref h12, .int 0]), (h8, oC 3 [.ref h9, .int 0]), (h9, aI Y 4 (fun _ => 0)), (h10, oC 3 [.ref h11, .int 0]), (h11, aI Y 4 (fun _ => 0)), (h12, oC 3 [.ref h13, .int 0]), (h13, aI Y 104 (fun _ => 0))] sz) cX2_copyFrom 2 RX2 none := B
    refine V_aload_n 0 B dX2_copyFrom_0 0 rfl ?_
    refine V_get 1 B gf_RX2_14 7 rfl rfl dX2_copyFrom_1 ?_
    refine V_aload_n 4 B dX2_copyFrom_4 1 rfl ?_
    refine V_get 5 B gf_RX2_14 0 rfl rfl dX2_copyFrom_5 ?_
    refine V_cvv 8 B (st := []) (As := [.ref h1]) (fun sz => mX1_copyFrom_10 l D Y (h8) (h1) (h2) (h9) sz) glV_RX2_33 ⟨rfl, rfl⟩ ⟨(Nat.le_of_ble_eq_true rfl), (Nat.le_of_ble_eq_true rfl)⟩ ⟨(Nat.le_of_ble_eq_true rfl), (Nat.le_of_ble_eq_true rfl)⟩ [1, 0, 5, 0] rfl 3 2 rfl rfl rfl rfl (Nat.le_of_ble_eq_true rfl) rfl (fun _ _ => rfl) dX2_copyFrom_8 (fun u0 w0 => ?_)
    refine V_ws [(h0, oC 4 [.ref h1, .ref h3, .ref h5, .int 0]), (h1, oC 3 [.ref h2, .int 0]), (h2, aI Y 4 (fun _ => 0)), (h3, oC 3 [.ref h4, .int 0]), (h4, aI Y 4 (fun _ => 0)), (h5, oC 3 [.ref h6, .int 0]), (h6, aI Y 104 (fun _ => 0)), (h7, oC 4 [.ref h8, .ref h10, .ref h12, .int 0]), (h8, oC 3 [.ref h9, .int 0]), (h9, aI Y 4 (fun _ => 0)), (h10, oC 3 [.ref h11, .int 0]), (h11, aI Y 4 (fun _ => 0)), (h12, oC 3 [.ref h13, .int 0]), (h13, aI Y 104 (fun _ => 0))] rfl ?_
    refine V_aload_n 11 B dX2_copyFrom_11 0 rfl ?_
    refine V_get 12 B gf_RX2_20 7 rfl rfl dX2_copyFrom_12 ?_
    refine V_aload_n 15 B dX2_copyFrom_15 1 rfl ?_
    refine V_get 16 B gf_RX2_20 0 rfl rfl dX2_copyFrom_16 ?_
    refine V_cvv 19 B (st := []) (As := [.ref h3]) (fun sz => mX1_copyFrom_10 l D Y (h10) (h3) (h4) (h11) sz) glV_RX2_33 ⟨rfl, rfl⟩ ⟨(Nat.le_of_ble_eq_true rfl), (Nat.le_of_ble_eq_true rfl)⟩ ⟨(Nat.le_of_ble_eq_true rfl), (Nat.le_of_ble_eq_true rfl)⟩ [3, 0, 5, 0] rfl 3 2 rfl rfl rfl rfl (Nat.le_of_ble_eq_true rfl) rfl (fun _ _ => rfl) dX2_copyFrom_19 (fun u1 w1 => ?_)
    refine V_ws [(h0, oC 4 [.ref h1, .ref h3, .ref h5, .int 0]), (h1, oC 3 [.ref h2, .int 0]), (h2, aI Y 4 (fun _ => 0)), (h3, oC 3 [.ref h4, .int 0]), (h4, aI Y 4 (fun _ => 0)), (h5, oC 3 [.ref h6, .int 0]), (h6, aI Y 104 (fun _ => 0)), (h7, oC 4 [.ref h8, .ref h10, .ref h12, .int 0]), (h8, oC 3 [.ref h9, .int 0]), (h9, aI Y 4 (fun _ => 0)), (h10, oC 3 [.ref h11, .int 0]), (h11, aI Y 4 (fun _ => 0)), (h12, oC 3 [.ref h13, .int 0]), (h13, aI Y 104 (fun _ => 0))] rfl ?_
    refine V_aload_n 22 B dX2_copyFrom_22 0 rfl ?_
    refine V_get 23 B gf_RX2_23 7 rfl rfl dX2_copyFrom_23 ?_
    refine V_aload_n 26 B dX2_copyFrom_26 1 rfl ?_
    refine V_get 27 B gf_RX2_23 0 rfl rfl dX2_copyFrom_27 ?_
    refine V_cvv 30 B (st := []) (As := [.ref h5]) (fun sz => mX1_copyFrom_11 l D Y (h12) (h5) (h6) (h13) sz) glV_RX2_33 ⟨rfl, rfl⟩ ⟨(Nat.le_of_ble_eq_true rfl), (Nat.le_of_ble_eq_true rfl)⟩ ⟨(Nat.le_of_ble_eq_true rfl), (Nat.le_of_ble_eq_true rfl)⟩ [5, 0, 5, 0] rfl 3 2 rfl rfl rfl rfl (Nat.le_of_ble_eq_true rfl) rfl (fun _ _ => rfl) dX2_copyFrom_30 (fun u2 w2 => ?_)
    refine V_ws [(h0, oC 4 [.ref h1, .ref h3, .ref h5, .int 0]), (h1, oC 3 [.ref h2, .int 0]), (h2, aI Y 4 (fun _ => 0)), (h3, oC 3 [.ref h4, .int 0]), (h4, aI Y 4 (fun _ => 0)), (h5, oC 3 [.ref h6, .int 0]), (h6, aI Y 104 (fun _ => 0)), (h7, oC 4 [.ref h8, .ref h10, .ref h12, .int 0]), (h8, oC 3 [.ref h9, .int 0]), (h9, aI Y 4 (fun _ => 0)), (h10, oC 3 [.ref h11, .int 0]), (h11, aI Y 4 (fun _ => 0)), (h12, oC 3 [.ref h13, .int 0]), (h13, aI Y 104 (fun _ => 0))] rfl ?_
    refine V_aload_n 33 B dX2_copyFrom_33 0 rfl ?_
    refine V_aload_n 34 B dX2_copyFrom_34 1 rfl ?_
    refine V_get 35 B gf_RX2_26 0 rfl rfl dX2_copyFrom_35 ?_
    refine V_put 38 B gp_RX2_26 7 rfl (Nat.le_of_ble_eq_true rfl) rfl rfl dX2_copyFrom_38 [(h0, oC 4 [.ref h1, .ref h3, .ref h5, .int 0]), (h1, oC 3 [.ref h2, .int 0]), (h2, aI Y 4 (fun _ => 0)), (h3, oC 3 [.ref h4, .int 0]), (h4, aI Y 4 (fun _ => 0)), (h5, oC 3 [.ref h6, .int 0]), (h6, aI Y 104 (fun _ => 0)), (h7, oC 4 [.ref h8, .ref h10, .ref h12, .int 0]), (h8, oC 3 [.ref h9, .int 0]), (h9, aI Y 4 (fun _ => 0)), (h10, oC 3 [.ref h11, .int 0]), (h11, aI Y 4 (fun _ => 0)), (h12, oC 3 [.ref h13, .int 0]), (h13, aI Y 104 (fun _ => 0))] rfl ?_
    exact V_vret 41 B dX2_copyFrom_41 () trivial rfl)
