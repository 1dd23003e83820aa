theorem dX11_force_0 : decode cX11_force 0 = .ok (.aload_n 0, 1) := by decide +kernel
theorem dX11_force_1 : decode cX11_force 1 = .ok (.iload_n 1, 1) := by decide +kernel
theorem dX11_force_2 : decode cX11_force 2 = .ok (.invokevirtual 180, 3) := by decide +kernel
theorem dX11_force_5 : decode cX11_force 5 = .ok (.aload_n 0, 1) := by decide +kernel
theorem dX11_force_6 : decode cX11_force 6 = .ok (.iload_n 2, 1) := by decide +kernel
theorem dX11_force_7 : decode cX11_force 7 = .ok (.invokevirtual 204, 3) := by decide +kernel
theorem dX11_force_10 : decode cX11_force 10 = .ok (.aload_n 0, 1) := by decide +kernel
theorem dX11_force_11 : decode cX11_force 11 = .ok (.getfield 68, 3) := by decide +kernel
theorem dX11_force_14 : decode cX11_force 14 = .ok (.lconst 0, 1) := by decide +kernel
theorem dX11_force_15 : decode cX11_force 15 = .ok (.lcmp, 1) := by decide +kernel
theorem dX11_force_16 : decode cX11_force 16 = .ok (.ifCond .ne 8, 3) := by decide +kernel
theorem dX11_force_24 : decode cX11_force 24 = .ok (.aload_n 0, 1) := by decide +kernel
theorem dX11_force_25 : decode cX11_force 25 = .ok (.getfield 10, 3) := by decide +kernel
theorem dX11_force_28 : decode cX11_force 28 = .ok (.iload_n 1, 1) := by decide +kernel
theorem dX11_force_29 : decode cX11_force 29 = .ok (.iload_n 2, 1) := by decide +kernel
theorem dX11_force_30 : decode cX11_force 30 = .ok (.aload_n 0, 1) := by decide +kernel
theorem dX11_force_31 : decode cX11_force 31 = .ok (.getfield 68, 3) := by decide +kernel
theorem dX11_force_34 : decode cX11_force 34 = .ok (.invokevirtual 234, 3) := by decide +kernel
theorem dX0_placeByForce_0 : decode cX0_placeByForce 0 = .ok (.aload_n 0, 1) := by decide +kernel
theorem dX0_placeByForce_1 : decode cX0_placeByForce 1 = .ok (.getfield 32, 3) := by decide +kernel
theorem dX0_placeByForce_4 : decode cX0_placeByForce 4 = .ok (.lload_n 3, 1) := by decide +kernel
theorem dX0_placeByForce_5 : decode cX0_placeByForce 5 = .ok (.invokevirtual 119, 3) := by decide +kernel
theorem dX0_placeByForce_8 : decode cX0_placeByForce 8 = .ok (.ifCond .eq 7, 3) := by decide +kernel
theorem dX0_placeByForce_15 : decode cX0_placeByForce 15 = .ok (.aload_n 0, 1) := by decide +kernel
theorem dX0_placeByForce_16 : decode cX0_placeByForce 16 = .ok (.iload_n 1, 1) := by decide +kernel
theorem dX0_placeByForce_17 : decode cX0_placeByForce 17 = .ok (.lload_n 3, 1) := by decide +kernel
theorem dX0_placeByForce_18 : decode cX0_placeByForce 18 = .ok (.invokevirtual 138, 3) := by decide +kernel
theorem dX0_ownClashes_0 : decode cX0_ownClashes 0 = .ok (.iconst 0, 1) := by decide +kernel
theorem dX0_ownClashes_1 : decode cX0_ownClashes 1 = .ok (.istore 4, 2) := by decide +kernel
theorem dX0_ownClashes_3 : decode cX0_ownClashes 3 = .ok (.iconst 0, 1) := by decide +kernel
theorem dX0_ownClashes_4 : decode cX0_ownClashes 4 = .ok (.istore 5, 2) := by decide +kernel
theorem dX0_ownClashes_6 : decode cX0_ownClashes 6 = .ok (.iload 5, 2) := by decide +kernel
theorem dX0_ownClashes_8 : decode cX0_ownClashes 8 = .ok (.aload_n 0, 1) := by decide +kernel
theorem dX0_ownClashes_9 : decode cX0_ownClashes 9 = .ok (.getfield 36, 3) := by decide +kernel
theorem dX0_ownClashes_12 : decode cX0_ownClashes 12 = .ok (.invokevirtual 91, 3) := by decide +kernel
theorem dX0_ownClashes_15 : decode cX0_ownClashes 15 = .ok (.if_icmp .ge 23, 3) := by decide +kernel
theorem dX0_ownClashes_38 : decode cX0_ownClashes 38 = .ok (.iload 4, 2) := by decide +kernel
theorem dX0_ownClashes_40 : decode cX0_ownClashes 40 = .ok (.ireturn, 1) := by decide +kernel
theorem dX0_ownClashes_18 : decode cX0_ownClashes 18 = .ok (.aload_n 0, 1) := by decide +kernel
theorem dX0_ownClashes_19 : decode cX0_ownClashes 19 = .ok (.iload 5, 2) := by decide +kernel
theorem dX0_ownClashes_21 : decode cX0_ownClashes 21 = .ok (.iload_n 1, 1) := by decide +kernel
theorem dX0_ownClashes_22 : decode cX0_ownClashes 22 = .ok (.lload_n 2, 1) := by decide +kernel
theorem dX0_ownClashes_23 : decode cX0_ownClashes 23 = .ok (.invokevirtual 115, 3) := by decide +kernel
theorem dX0_ownClashes_26 : decode cX0_ownClashes 26 = .ok (.ifCond .eq 6, 3) := by decide +kernel
theorem dX0_ownClashes_32 : decode cX0_ownClashes 32 = .ok (.iinc 5 1, 3) := by decide +kernel
theorem dX0_ownClashes_35 : decode cX0_ownClashes 35 = .ok (.goto (-29), 3) := by decide +kernel
theorem dX0_ownClashes_29 : decode cX0_ownClashes 29 = .ok (.iinc 4 1, 3) := by decide +kernel
set_option maxRecDepth 100000 in
set_option maxHeartbeats 4000000 in
theorem sX0_ownClashes_1 (l : Launch) (D : va_G) (Y : Nat → ClassId) (h0 : Nat) (h1 : Nat) (h2 : Nat) (h3 : Nat) (h4 : Nat) (g0 : Nat) (g1 : Nat) (g2 : Nat) (g3 : Nat) (g4 : Nat) (g5 : Nat) (g6 : Nat) (g7 : Nat) (g8 : Nat) (p0 : Int32) (p1 : Int32) (f0 : Nat → Int32) (p2 : Int32) (f1 : Nat → Int64) (p3 : Int32) (p4 : Int64) (sz : Nat) : Met l yX0_ownClashes (WSm yX0_ownClashes cX0_ownClashes 6 (some .int)) (mkR 2 0 0 52) (PreG EX D Y [.ref h0, .int p3, .long p4] [(h0, oC 2 [.ref g0, .ref g1, .ref g2, .ref g3, .ref g4, .ref h1, .ref g5, .ref h3, .ref g6, .ref g7, .ref g8, .int p0]), (h1, oC 3 [.ref h2, .int p1]), (h2, aI Y 80 f0), (h3, oC 7 [.ref h4, .int p2]), (h4, aJ Y 80 f1)] sz) (QI D (fun (_ : Int32) (_ : UU) => True) (fun (u : UU) => [(h0, oC 2 [.ref g0, .ref g1, .ref g2, .ref g3, .ref g4, .ref h1, .ref g5, .ref h3, .ref g6, .ref g7, .ref g8, .int p0]), (h1, oC 3 [.ref h2, .int p1]), (h2, aI Y 80 f0), (h3, oC 7 [.ref h4, .int p2]), (h4, aJ Y 80 f1)]) (va_A [(h0, oC 2 [.ref g0, .ref g1, .ref g2, .ref g3, .ref g4, .ref h1, .ref g5, .ref h3, .ref g6, .ref g7, .ref g8, .int p0]), (h1, oC 3 [.ref h2, .int p1]), (h2, aI Y 80 f0), (h3, oC 7 [.ref h4, .int p2]), (h4, aJ Y 80 f1)] sz)) 0 0 (va_A [(h0, oC 2 [.ref g0, .ref g1, .ref g2, .ref g3, .ref g4, .ref h1, .ref g5, .ref h3, .ref g6, .ref g7, .ref g8, .int p0]), (h1, oC 3 [.ref h2, .int p1]), (h2, aI Y 80 f0), (h3, oC 7 [.ref h4, .int p2]), (h4, aJ Y 80 f1)] sz) :=
  gmet_of (by decide +kernel) (Nat.le_of_ble_eq_true rfl) (fun p e s m args below meth c B EB hsz => by
    have B : VB p s m args meth c D Y (va_A [(h0, oC 2 [.ref g0, .ref g1, .ref g2, .ref g3, .ref g4, .ref h1, .ref g5, .ref h3, .ref g6, .ref g7, .ref g8, .int p0]), (h1, oC 3 [.ref h2, .int p1]), (h2, aI Y 80 f0), (h3, oC 7 [.ref h4, .int p2]), (h4, aJ Y 80 f1)] sz) cX0_ownClashes 6 RX0 (some .int) := B
    refine V_iconst 0 B (v := 0) dX0_ownClashes_0 (by decide +kernel) ?_
    refine V_istore 1 B (lv2 := [(4, .int 0), (0, .ref h0), (1, .int p3), (2, .long p4)]) dX0_ownClashes_1 (by decide) rfl ?_
    refine V_iconst 3 B (v := 0) dX0_ownClashes_3 (by decide +kernel) ?_
    refine V_istore 4 B (lv2 := [(5, .int 0), (4, .int 0), (0, .ref h0), (1, .int p3), (2, .long p4)]) dX0_ownClashes_4 (by decide) rfl ?_
    refine V_wloop (α := UU) (fun a => (2147483647 - ((a.1 0)).toInt).toNat) (fun a => 0 ≤ ((a.1 0)).toInt) (fun a => [(5, .int (a.1 0)), (4, .int (a.1 1)), (0, .ref h0), (1, .int p3), (2, .long p4)]) (fun a => [(h0, oC 2 [.ref g0, .ref g1, .ref g2, .ref g3, .ref g4, .ref h1, .ref g5, .ref h3, .ref g6, .ref g7, .ref g8, .int p0]), (h1, oC 3 [.ref h2, .int p1]), (h2, aI Y 80 f0), (h3, oC 7 [.ref h4, .int p2]), (h4, aJ Y 80 f1)]) (mkU [0, 0] [] [] [] []) (show (0 : Int) ≤ (0 : Int32).toInt by decide +kernel) rfl rfl (fun a0 hI2 IH1 => ?_)
    refine V_lv [(5, .int (a0.1 0)), (4, .int (a0.1 1)), (0, .ref h0), (1, .int p3), (2, .long p4)] [0, 1, 2, 3, 4] rfl ?_
    refine V_ws [(h0, oC 2 [.ref g0, .ref g1, .ref g2, .ref g3, .ref g4, .ref h1, .ref g5, .ref h3, .ref g6, .ref g7, .ref g8, .int p0]), (h1, oC 3 [.ref h2, .int p1]), (h2, aI Y 80 f0), (h3, oC 7 [.ref h4, .int p2]), (h4, aJ Y 80 f1)] rfl ?_
    refine V_iload 6 B dX0_ownClashes_6 0 rfl ?_
    refine V_aload_n 8 B dX0_ownClashes_8 2 rfl ?_
    refine V_get 9 B gf_RX0_36 0 rfl rfl dX0_ownClashes_9 ?_
    refine V_gvi 12 B envX EB (st := [.int (a0.1 0)]) (As := []) (fun sz => sX1_size_1 l D Y h1 h2 p1 sz) glV_RX0_91 ⟨rfl, rfl⟩ ⟨(Nat.le_of_ble_eq_true rfl), (Nat.le_of_ble_eq_true rfl)⟩ ⟨(Nat.le_of_ble_eq_true rfl), (Nat.le_of_ble_eq_true rfl)⟩ [1] rfl 3 0 rfl rfl rfl rfl (Nat.le_of_ble_eq_true rfl) rfl (fun _ _ _ => rfl) dX0_ownClashes_12 (fun j3 u4 w5 => ?_)
    refine V_ws [(h0, oC 2 [.ref g0, .ref g1, .ref g2, .ref g3, .ref g4, .ref h1, .ref g5, .ref h3, .ref g6, .ref g7, .ref g8, .int p0]), (h1, oC 3 [.ref h2, .int p1]), (h2, aI Y 80 f0), (h3, oC 7 [.ref h4, .int p2]), (h4, aJ Y 80 f1)] rfl ?_
    refine V_icmp_ge 15 B 38 dX0_ownClashes_15 (by decide) (fun k6 => ?_) (fun k6 => ?_)
    ·
      refine V_iload 38 B dX0_ownClashes_38 1 rfl ?_
      exact V_iret 40 B dX0_ownClashes_40 (mkU [] [] [] [] []) trivial rfl
    ·
      refine V_aload_n 18 B dX0_ownClashes_18 2 rfl ?_
      refine V_iload 19 B dX0_ownClashes_19 0 rfl ?_
      refine V_iload_n 21 B dX0_ownClashes_21 3 rfl ?_
      refine V_lload_n 22 B dX0_ownClashes_22 4 rfl ?_
      refine V_gvi 23 B envX EB (st := []) (As := [.int (a0.1 0), .int p3, .long p4]) (fun sz => sX0_isOwnClash_1 l D Y h0 h1 h2 h3 h4 g0 g1 g2 g3 g4 g5 g6 g7 g8 p0 p1 f0 p2 f1 (a0.1 0) p3 p4 sz) glV_RX0_115 ⟨rfl, rfl⟩ ⟨(Nat.le_of_ble_eq_true rfl), (Nat.le_of_ble_eq_true rfl)⟩ ⟨(Nat.le_of_ble_eq_true rfl), (Nat.le_of_ble_eq_true rfl)⟩ [0, 0, 0, 0, 0] rfl 2 0 rfl rfl rfl rfl (Nat.le_of_ble_eq_true rfl) rfl (fun _ _ _ => rfl) dX0_ownClashes_23 (fun j7 u8 w9 => ?_)
      refine V_ws [(h0, oC 2 [.ref g0, .ref g1, .ref g2, .ref g3, .ref g4, .ref h1, .ref g5, .ref h3, .ref g6, .ref g7, .ref g8, .int p0]), (h1, oC 3 [.ref h2, .int p1]), (h2, aI Y 80 f0), (h3, oC 7 [.ref h4, .int p2]), (h4, aJ Y 80 f1)] rfl ?_
      rcases w9 with rfl | rfl
      ·
        refine V_if_eq_t 26 B 32 dX0_ownClashes_26 (by decide) (by decide +kernel) ?_
        refine V_iinc 32 B (v := ((a0.1 0) + Int32.ofInt 1)) (lv2 := [(5, .int ((a0.1 0) + Int32.ofInt 1)), (4, .int (a0.1 1)), (0, .ref h0), (1, .int p3), (2, .long p4)]) dX0_ownClashes_32 0 rfl rfl (by decide) rfl ?_
        refine V_goto 35 B 6 dX0_ownClashes_35 (by decide) ?_
        refine V_lv [(5, .int ((a0.1 0) + Int32.ofInt 1)), (4, .int (a0.1 1)), (0, .ref h0), (1, .int p3), (2, .long p4)] [0, 1, 2, 3, 4] rfl ?_
        exact IH1 (mkU [((a0.1 0) + Int32.ofInt 1), (a0.1 1)] [] [] [] []) (Int.le_trans (by decide) (o_add_lo (c := Int32.ofInt 1) hI2 (o_lt_hi (o_nle k6) (i_hi j3) (k := 2147483646) (by decide +kernel)) (by decide +kernel) (by decide +kernel) (k := 1) (by decide +kernel))) (up_dec (x := (a0.1 0)) (c := Int32.ofInt 1) (by decide +kernel) hI2 (o_lt_hi (o_nle k6) (i_hi j3) (k := 2147483646) (by decide +kernel)) (by decide))
      ·
        refine V_if_eq_f 26 B 32 dX0_ownClashes_26 (by decide) (by decide +kernel) ?_
        refine V_iinc 29 B (v := ((a0.1 1) + Int32.ofInt 1)) (lv2 := [(4, .int ((a0.1 1) + Int32.ofInt 1)), (5, .int (a0.1 0)), (0, .ref h0), (1, .int p3), (2, .long p4)]) dX0_ownClashes_29 1 rfl rfl (by decide) rfl ?_
        refine V_iinc 32 B (v := ((a0.1 0) + Int32.ofInt 1)) (lv2 := [(5, .int ((a0.1 0) + Int32.ofInt 1)), (4, .int ((a0.1 1) + Int32.ofInt 1)), (0, .ref h0), (1, .int p3), (2, .long p4)]) dX0_ownClashes_32 1 rfl rfl (by decide) rfl ?_
        refine V_goto 35 B 6 dX0_ownClashes_35 (by decide) ?_
        refine V_lv [(5, .int ((a0.1 0) + Int32.ofInt 1)), (4, .int ((a0.1 1) + Int32.ofInt 1)), (0, .ref h0), (1, .int p3), (2, .long p4)] [0, 1, 2, 3, 4] rfl ?_
        exact IH1 (mkU [((a0.1 0) + Int32.ofInt 1), ((a0.1 1) + Int32.ofInt 1)] [] [] [] []) (Int.le_trans (by decide) (o_add_lo (c := Int32.ofInt 1) hI2 (o_lt_hi (o_nle k6) (i_hi j3) (k := 2147483646) (by decide +kernel)) (by decide +kernel) (by decide +kernel) (k := 1) (by decide +kernel))) (up_dec (x := (a0.1 0)) (c := Int32.ofInt 1) (by decide +kernel) hI2 (o_lt_hi (o_nle k6) (i_hi j3) (k := 2147483646) (by decide +kernel)) (by decide)))
theorem glV_RX0_138 : GLV RX0 138 yX0_ownClashes RX0 cX0_ownClashes 6 (some .int) 2 := ⟨⟨(mT4 223 rfl rfl), (mT4 224 rfl rfl), (mT4 225 rfl rfl), (mT1 2 rfl rfl), (mT4 226 rfl rfl)⟩, by decide +kernel⟩
theorem dX0_placeByForce_21 : decode cX0_placeByForce 21 = .ok (.istore 5, 2) := by decide +kernel
theorem dX0_placeByForce_23 : decode cX0_placeByForce 23 = .ok (.iload 5, 2) := by decide +kernel
theorem dX0_placeByForce_25 : decode cX0_placeByForce 25 = .ok (.ifCond .ne 16, 3) := by decide +kernel
theorem dX0_placeByForce_41 : decode cX0_placeByForce 41 = .ok (.aload_n 0, 1) := by decide +kernel
theorem dX0_placeByForce_42 : decode cX0_placeByForce 42 = .ok (.getfield 36, 3) := by decide +kernel
theorem dX0_placeByForce_45 : decode cX0_placeByForce 45 = .ok (.invokevirtual 91, 3) := by decide +kernel
theorem dX0_placeByForce_48 : decode cX0_placeByForce 48 = .ok (.iconst 1, 1) := by decide +kernel
theorem dX0_placeByForce_49 : decode cX0_placeByForce 49 = .ok (.isub, 1) := by decide +kernel
theorem dX0_placeByForce_50 : decode cX0_placeByForce 50 = .ok (.istore 6, 2) := by decide +kernel
theorem dX0_placeByForce_52 : decode cX0_placeByForce 52 = .ok (.iload 6, 2) := by decide +kernel
theorem dX0_placeByForce_54 : decode cX0_placeByForce 54 = .ok (.ifCond .lt 26, 3) := by decide +kernel
theorem dX0_placeByForce_80 : decode cX0_placeByForce 80 = .ok (.aload_n 0, 1) := by decide +kernel
theorem dX0_placeByForce_81 : decode cX0_placeByForce 81 = .ok (.iload_n 1, 1) := by decide +kernel
theorem dX0_placeByForce_82 : decode cX0_placeByForce 82 = .ok (.iload_n 2, 1) := by decide +kernel
theorem dX0_placeByForce_83 : decode cX0_placeByForce 83 = .ok (.lload_n 3, 1) := by decide +kernel
theorem dX0_placeByForce_84 : decode cX0_placeByForce 84 = .ok (.invokevirtual 134, 3) := by decide +kernel
theorem dX0_placeByForce_87 : decode cX0_placeByForce 87 = .ok (.iload 5, 2) := by decide +kernel
theorem dX0_placeByForce_89 : decode cX0_placeByForce 89 = .ok (.ireturn, 1) := by decide +kernel
theorem dX0_placeByForce_57 : decode cX0_placeByForce 57 = .ok (.aload_n 0, 1) := by decide +kernel
theorem dX0_placeByForce_58 : decode cX0_placeByForce 58 = .ok (.iload 6, 2) := by decide +kernel
theorem dX0_placeByForce_60 : decode cX0_placeByForce 60 = .ok (.iload_n 1, 1) := by decide +kernel
theorem dX0_placeByForce_61 : decode cX0_placeByForce 61 = .ok (.lload_n 3, 1) := by decide +kernel
theorem dX0_placeByForce_62 : decode cX0_placeByForce 62 = .ok (.invokevirtual 115, 3) := by decide +kernel
theorem dX0_placeByForce_65 : decode cX0_placeByForce 65 = .ok (.ifCond .eq 9, 3) := by decide +kernel
theorem dX0_placeByForce_74 : decode cX0_placeByForce 74 = .ok (.iinc 6 (-1), 3) := by decide +kernel
theorem dX0_placeByForce_77 : decode cX0_placeByForce 77 = .ok (.goto (-25), 3) := by decide +kernel
theorem dX0_placeByForce_68 : decode cX0_placeByForce 68 = .ok (.aload_n 0, 1) := by decide +kernel
theorem dX0_placeByForce_69 : decode cX0_placeByForce 69 = .ok (.iload 6, 2) := by decide +kernel
theorem dX0_placeByForce_71 : decode cX0_placeByForce 71 = .ok (.invokevirtual 142, 3) := by decide +kernel
theorem dX0_removeBinding_0 : decode cX0_removeBinding 0 = .ok (.aload_n 0, 1) := by decide +kernel
theorem dX0_removeBinding_1 : decode cX0_removeBinding 1 = .ok (.getfield 36, 3) := by decide +kernel
theorem dX0_removeBinding_4 : decode cX0_removeBinding 4 = .ok (.iload_n 1, 1) := by decide +kernel
theorem dX0_removeBinding_5 : decode cX0_removeBinding 5 = .ok (.invokevirtual 98, 3) := by decide +kernel
theorem dX1_removeAt_0 : decode cX1_removeAt 0 = .ok (.iload_n 1, 1) := by decide +kernel
theorem dX1_removeAt_1 : decode cX1_removeAt 1 = .ok (.ifCond .lt 11, 3) := by decide +kernel
theorem dX1_removeAt_12 : decode cX1_removeAt 12 = .ok (.return_, 1) := by decide +kernel
theorem dX1_removeAt_4 : decode cX1_removeAt 4 = .ok (.iload_n 1, 1) := by decide +kernel
theorem dX1_removeAt_5 : decode cX1_removeAt 5 = .ok (.aload_n 0, 1) := by decide +kernel
theorem dX1_removeAt_6 : decode cX1_removeAt 6 = .ok (.getfield 21, 3) := by decide +kernel
theorem dX1_removeAt_9 : decode cX1_removeAt 9 = .ok (.if_icmp .lt 4, 3) := by decide +kernel
theorem dX1_removeAt_13 : decode cX1_removeAt 13 = .ok (.iload_n 1, 1) := by decide +kernel
theorem dX1_removeAt_14 : decode cX1_removeAt 14 = .ok (.iconst 1, 1) := by decide +kernel
theorem dX1_removeAt_15 : decode cX1_removeAt 15 = .ok (.iadd, 1) := by decide +kernel
theorem dX1_removeAt_16 : decode cX1_removeAt 16 = .ok (.istore_n 2, 1) := by decide +kernel
theorem dX1_removeAt_17 : decode cX1_removeAt 17 = .ok (.iload_n 2, 1) := by decide +kernel
theorem dX1_removeAt_18 : decode cX1_removeAt 18 = .ok (.aload_n 0, 1) := by decide +kernel
theorem dX1_removeAt_19 : decode cX1_removeAt 19 = .ok (.getfield 21, 3) := by decide +kernel
theorem dX1_removeAt_22 : decode cX1_removeAt 22 = .ok (.if_icmp .ge 32, 3) := by decide +kernel
theorem dX1_removeAt_54 : decode cX1_removeAt 54 = .ok (.aload_n 0, 1) := by decide +kernel
theorem dX1_removeAt_55 : decode cX1_removeAt 55 = .ok (.dup, 1) := by decide +kernel
theorem dX1_removeAt_56 : decode cX1_removeAt 56 = .ok (.getfield 21, 3) := by decide +kernel
theorem dX1_removeAt_59 : decode cX1_removeAt 59 = .ok (.iconst 1, 1) := by decide +kernel
theorem dX1_removeAt_60 : decode cX1_removeAt 60 = .ok (.isub, 1) := by decide +kernel
theorem dX1_removeAt_61 : decode cX1_removeAt 61 = .ok (.putfield 21, 3) := by decide +kernel
theorem dX1_removeAt_64 : decode cX1_removeAt 64 = .ok (.return_, 1) := by decide +kernel
theorem dX1_removeAt_25 : decode cX1_removeAt 25 = .ok (.iload_n 2, 1) := by decide +kernel
theorem dX1_removeAt_26 : decode cX1_removeAt 26 = .ok (.aload_n 0, 1) := by decide +kernel
theorem dX1_removeAt_27 : decode cX1_removeAt 27 = .ok (.getfield 15, 3) := by decide +kernel
theorem dX1_removeAt_30 : decode cX1_removeAt 30 = .ok (.arraylength, 1) := by decide +kernel
theorem dX1_removeAt_31 : decode cX1_removeAt 31 = .ok (.if_icmp .ge 23, 3) := by decide +kernel
theorem dX1_removeAt_34 : decode cX1_removeAt 34 = .ok (.aload_n 0, 1) := by decide +kernel
theorem dX1_removeAt_35 : decode cX1_removeAt 35 = .ok (.getfield 15, 3) := by decide +kernel
theorem dX1_removeAt_38 : decode cX1_removeAt 38 = .ok (.iload_n 2, 1) := by decide +kernel
theorem dX1_removeAt_39 : decode cX1_removeAt 39 = .ok (.iconst 1, 1) := by decide +kernel
theorem dX1_removeAt_40 : decode cX1_removeAt 40 = .ok (.isub, 1) := by decide +kernel
theorem dX1_removeAt_41 : decode cX1_removeAt 41 = .ok (.aload_n 0, 1) := by decide +kernel
theorem dX1_removeAt_42 : decode cX1_removeAt 42 = .ok (.getfield 15, 3) := by decide +kernel
theorem dX1_removeAt_45 : decode cX1_removeAt 45 = .ok (.iload_n 2, 1) := by decide +kernel
theorem dX1_removeAt_46 : decode cX1_removeAt 46 = .ok (.iaload, 1) := by decide +kernel
theorem dX1_removeAt_47 : decode cX1_removeAt 47 = .ok (.iastore, 1) := by decide +kernel
theorem dX1_removeAt_48 : decode cX1_removeAt 48 = .ok (.iinc 2 1, 3) := by decide +kernel
theorem dX1_removeAt_51 : decode cX1_removeAt 51 = .ok (.goto (-34), 3) := by decide +kernel
set_option maxRecDepth 100000 in
set_option maxHeartbeats 4000000 in
theorem sX1_removeAt_1 (l : Launch) (D : va_G) (Y : Nat → ClassId) (h0 : Nat) (h1 : Nat) (p0 : Int32) (f0 : Nat → Int32) (p1 : Int32) (sz : Nat) : Met l yX1_removeAt (WSm yX1_removeAt cX1_removeAt 3 none) (mkR 0 0 0 0) (PreG EX D Y [.ref h0, .int p1] [(h0, oC 3 [.ref h1, .int p0]), (h1, aI Y 80 f0)] sz) (QV D (fun (_ : UU) => True) (fun (u : UU) => [(h0, oC 3 [.ref h1, .int (u.1 0)]), (h1, aI Y 80 (u.2.2.1 0))]) (va_A [(h0, oC 3 [.ref h1, .int p0]), (h1, aI Y 80 f0)] sz)) 0 0 (va_A [(h0, oC 3 [.ref h1, .int p0]), (h1, aI Y 80 f0)] sz) :=
  gmet_of (by decide +kernel) (Nat.le_of_ble_eq_true rfl) (fun p e s m args below meth c B EB hsz => by
    have B : VB p s m args meth c D Y (va_A [(h0, oC 3 [.ref h1, .int p0]), (h1, aI Y 80 f0)] sz) cX1_removeAt 3 RX1 none := B
    refine V_iload_n 0 B dX1_removeAt_0 1 rfl ?_
    refine V_if_lt 1 B 12 dX1_removeAt_1 (by decide) (fun k0 => ?_) (fun k0 => ?_)
    ·
      exact V_vret 12 B dX1_removeAt_12 (mkU [p0] [] [f0] [] []) trivial rfl
    ·
      refine V_iload_n 4 B dX1_removeAt_4 1 rfl ?_
      refine V_aload_n 5 B dX1_removeAt_5 0 rfl ?_
      refine V_get 6 B gf_RX1_21 0 rfl rfl dX1_removeAt_6 ?_
      refine V_icmp_lt 9 B 13 dX1_removeAt_9 (by decide) (fun k1 => ?_) (fun k1 => ?_)
      ·
        refine V_iload_n 13 B dX1_removeAt_13 1 rfl ?_
        refine V_iconst 14 B (v := 1) dX1_removeAt_14 (by decide +kernel) ?_
        refine V_iadd 15 B dX1_removeAt_15 rfl ?_
        refine V_istore_n 16 B (lv2 := [(2, .int (p1 + 1)), (0, .ref h0), (1, .int p1)]) dX1_removeAt_16 (by decide) rfl ?_
        refine V_wloop (α := UU) (fun a => (2147483647 - ((a.1 0)).toInt).toNat) (fun a => 1 ≤ ((a.1 0)).toInt) (fun a => [(2, .int (a.1 0)), (0, .ref h0), (1, .int p1)]) (fun a => [(h0, oC 3 [.ref h1, .int (a.1 1)]), (h1, aI Y 80 (a.2.2.1 0))]) (mkU [(p1 + 1), p0] [] [f0] [] []) (o_add_lo (c := 1) (b_nlt k0 (n := 0) (by decide +kernel)) (o_lt_hi k1 (i_hi p0) (k := 2147483646) (by decide +kernel)) (by decide +kernel) (by decide +kernel) (k := 1) (by decide +kernel)) rfl rfl (fun a2 hI4 IH3 => ?_)
        refine V_lv [(2, .int (a2.1 0)), (0, .ref h0), (1, .int p1)] [0, 1, 2] rfl ?_
        refine V_ws [(h0, oC 3 [.ref h1, .int (a2.1 1)]), (h1, aI Y 80 (a2.2.2.1 0))] rfl ?_
        refine V_iload_n 17 B dX1_removeAt_17 0 rfl ?_
        refine V_aload_n 18 B dX1_removeAt_18 1 rfl ?_
        refine V_get 19 B gf_RX1_21 0 rfl rfl dX1_removeAt_19 ?_
        refine V_icmp_ge 22 B 54 dX1_removeAt_22 (by decide) (fun k5 => ?_) (fun k5 => ?_)
        ·
          refine V_aload_n 54 B dX1_removeAt_54 1 rfl ?_
          refine V_dup 55 B dX1_removeAt_55 rfl ?_
          refine V_get 56 B gf_RX1_21 0 rfl rfl dX1_removeAt_56 ?_
          refine V_iconst 59 B (v := 1) dX1_removeAt_59 (by decide +kernel) ?_
          refine V_isub 60 B dX1_removeAt_60 rfl ?_
          refine V_nmi (fun j6 _ => ?_)
          refine V_put 61 B gp_RX1_21 0 rfl (Nat.le_of_ble_eq_true rfl) rfl rfl dX1_removeAt_61 [(h0, oC 3 [.ref h1, .int j6]), (h1, aI Y 80 (a2.2.2.1 0))] rfl ?_
          exact V_vret 64 B dX1_removeAt_64 (mkU [j6] [] [(a2.2.2.1 0)] [] []) trivial rfl
        ·
          refine V_iload_n 25 B dX1_removeAt_25 0 rfl ?_
          refine V_aload_n 26 B dX1_removeAt_26 1 rfl ?_
          refine V_get 27 B gf_RX1_15 0 rfl rfl dX1_removeAt_27 ?_
          refine V_alenI 30 B (v := 80) 1 rfl (by decide +kernel) dX1_removeAt_30 ?_
          refine V_icmp_ge 31 B 54 dX1_removeAt_31 (by decide) (fun k7 => ?_) (fun k7 => ?_)
          ·
            refine V_aload_n 54 B dX1_removeAt_54 1 rfl ?_
            refine V_dup 55 B dX1_removeAt_55 rfl ?_
            refine V_get 56 B gf_RX1_21 0 rfl rfl dX1_removeAt_56 ?_
            refine V_iconst 59 B (v := 1) dX1_removeAt_59 (by decide +kernel) ?_
            refine V_isub 60 B dX1_removeAt_60 rfl ?_
            refine V_put 61 B gp_RX1_21 0 rfl (Nat.le_of_ble_eq_true rfl) rfl rfl dX1_removeAt_61 [(h0, oC 3 [.ref h1, .int ((a2.1 1) - 1)]), (h1, aI Y 80 (a2.2.2.1 0))] rfl ?_
            exact V_vret 64 B dX1_removeAt_64 (mkU [((a2.1 1) - 1)] [] [(a2.2.2.1 0)] [] []) trivial rfl
          ·
            refine V_aload_n 34 B dX1_removeAt_34 1 rfl ?_
            refine V_get 35 B gf_RX1_15 0 rfl rfl dX1_removeAt_35 ?_
            refine V_iload_n 38 B dX1_removeAt_38 0 rfl ?_
            refine V_iconst 39 B (v := 1) dX1_removeAt_39 (by decide +kernel) ?_
            refine V_isub 40 B dX1_removeAt_40 rfl ?_
            refine V_aload_n 41 B dX1_removeAt_41 1 rfl ?_
            refine V_get 42 B gf_RX1_15 0 rfl rfl dX1_removeAt_42 ?_
            refine V_iload_n 45 B dX1_removeAt_45 0 rfl ?_
            refine V_iald 46 B 1 rfl (vpin_b (Int.le_trans (by decide) hI4) (b_nge k7 (n := 79) (by decide +kernel)) (by decide)) dX1_removeAt_46 rfl ?_
            refine V_nmi (fun j8 _ => ?_)
            refine V_iast 47 B 1 rfl (vpin_b (o_sub_lo (c := 1) hI4 (b_nge k7 (n := 79) (by decide +kernel)) (by decide +kernel) (by decide +kernel) (k := 0) (by decide +kernel)) (o_sub_hi (c := 1) hI4 (b_nge k7 (n := 79) (by decide +kernel)) (by decide +kernel) (by decide +kernel) (k := 78) (by decide +kernel)) (by decide)) dX1_removeAt_47 [(h0, oC 3 [.ref h1, .int (a2.1 1)]), (h1, aI Y 80 (upd (a2.2.2.1 0) (((a2.1 0) - 1) : Int32).toNatClampNeg j8))] rfl ?_
            refine V_iinc 48 B (v := ((a2.1 0) + Int32.ofInt 1)) (lv2 := [(2, .int ((a2.1 0) + Int32.ofInt 1)), (0, .ref h0), (1, .int p1)]) dX1_removeAt_48 0 rfl rfl (by decide) rfl ?_
            refine V_goto 51 B 17 dX1_removeAt_51 (by decide) ?_
            refine V_lv [(2, .int ((a2.1 0) + Int32.ofInt 1)), (0, .ref h0), (1, .int p1)] [0, 1, 2] rfl ?_
            exact IH3 (mkU [((a2.1 0) + Int32.ofInt 1), (a2.1 1)] [] [(upd (a2.2.2.1 0) (((a2.1 0) - 1) : Int32).toNatClampNeg j8)] [] []) (Int.le_trans (by decide) (o_add_lo (c := Int32.ofInt 1) hI4 (b_nge k7 (n := 79) (by decide +kernel)) (by decide +kernel) (by decide +kernel) (k := 2) (by decide +kernel))) (up_dec (x := (a2.1 0)) (c := Int32.ofInt 1) (by decide +kernel) hI4 (Int.le_trans (b_nge k7 (n := 79) (by decide +kernel)) (by decide)) (by decide))
      ·
        exact V_vret 12 B dX1_removeAt_12 (mkU [p0] [] [f0] [] []) trivial rfl)
theorem glV_RX0_98 : GLV RX0 98 yX1_removeAt RX1 cX1_removeAt 3 none 1 := ⟨⟨(mT4 194 rfl rfl), (mT4 80 rfl rfl), (mT4 81 rfl rfl), (mT1 3 rfl rfl), (mT4 82 rfl rfl)⟩, by decide +kernel⟩
theorem dX0_removeBinding_8 : decode cX0_removeBinding 8 = .ok (.aload_n 0, 1) := by decide +kernel
theorem dX0_removeBinding_9 : decode cX0_removeBinding 9 = .ok (.getfield 39, 3) := by decide +kernel
theorem dX0_removeBinding_12 : decode cX0_removeBinding 12 = .ok (.iload_n 1, 1) := by decide +kernel
theorem dX0_removeBinding_13 : decode cX0_removeBinding 13 = .ok (.invokevirtual 98, 3) := by decide +kernel
theorem dX0_removeBinding_16 : decode cX0_removeBinding 16 = .ok (.aload_n 0, 1) := by decide +kernel
theorem dX0_removeBinding_17 : decode cX0_removeBinding 17 = .ok (.getfield 42, 3) := by decide +kernel
theorem dX0_removeBinding_20 : decode cX0_removeBinding 20 = .ok (.iload_n 1, 1) := by decide +kernel
theorem dX0_removeBinding_21 : decode cX0_removeBinding 21 = .ok (.invokevirtual 101, 3) := by decide +kernel
theorem dX5_removeAt_0 : decode cX5_removeAt 0 = .ok (.iload_n 1, 1) := by decide +kernel
theorem dX5_removeAt_1 : decode cX5_removeAt 1 = .ok (.ifCond .lt 11, 3) := by decide +kernel
theorem dX5_removeAt_12 : decode cX5_removeAt 12 = .ok (.return_, 1) := by decide +kernel
theorem dX5_removeAt_4 : decode cX5_removeAt 4 = .ok (.iload_n 1, 1) := by decide +kernel
theorem dX5_removeAt_5 : decode cX5_removeAt 5 = .ok (.aload_n 0, 1) := by decide +kernel
theorem dX5_removeAt_6 : decode cX5_removeAt 6 = .ok (.getfield 19, 3) := by decide +kernel
theorem dX5_removeAt_9 : decode cX5_removeAt 9 = .ok (.if_icmp .lt 4, 3) := by decide +kernel
theorem dX5_removeAt_13 : decode cX5_removeAt 13 = .ok (.iload_n 1, 1) := by decide +kernel
theorem dX5_removeAt_14 : decode cX5_removeAt 14 = .ok (.iconst 1, 1) := by decide +kernel
theorem dX5_removeAt_15 : decode cX5_removeAt 15 = .ok (.iadd, 1) := by decide +kernel
theorem dX5_removeAt_16 : decode cX5_removeAt 16 = .ok (.istore_n 2, 1) := by decide +kernel
theorem dX5_removeAt_17 : decode cX5_removeAt 17 = .ok (.iload_n 2, 1) := by decide +kernel
theorem dX5_removeAt_18 : decode cX5_removeAt 18 = .ok (.aload_n 0, 1) := by decide +kernel
theorem dX5_removeAt_19 : decode cX5_removeAt 19 = .ok (.getfield 19, 3) := by decide +kernel
theorem dX5_removeAt_22 : decode cX5_removeAt 22 = .ok (.if_icmp .ge 32, 3) := by decide +kernel
theorem dX5_removeAt_54 : decode cX5_removeAt 54 = .ok (.aload_n 0, 1) := by decide +kernel
theorem dX5_removeAt_55 : decode cX5_removeAt 55 = .ok (.dup, 1) := by decide +kernel
theorem dX5_removeAt_56 : decode cX5_removeAt 56 = .ok (.getfield 19, 3) := by decide +kernel
theorem dX5_removeAt_59 : decode cX5_removeAt 59 = .ok (.iconst 1, 1) := by decide +kernel
theorem dX5_removeAt_60 : decode cX5_removeAt 60 = .ok (.isub, 1) := by decide +kernel
theorem dX5_removeAt_61 : decode cX5_removeAt 61 = .ok (.putfield 19, 3) := by decide +kernel
theorem dX5_removeAt_64 : decode cX5_removeAt 64 = .ok (.return_, 1) := by decide +kernel
theorem dX5_removeAt_25 : decode cX5_removeAt 25 = .ok (.iload_n 2, 1) := by decide +kernel
theorem dX5_removeAt_26 : decode cX5_removeAt 26 = .ok (.aload_n 0, 1) := by decide +kernel
theorem dX5_removeAt_27 : decode cX5_removeAt 27 = .ok (.getfield 13, 3) := by decide +kernel
theorem dX5_removeAt_30 : decode cX5_removeAt 30 = .ok (.arraylength, 1) := by decide +kernel
theorem dX5_removeAt_31 : decode cX5_removeAt 31 = .ok (.if_icmp .ge 23, 3) := by decide +kernel
theorem dX5_removeAt_34 : decode cX5_removeAt 34 = .ok (.aload_n 0, 1) := by decide +kernel
theorem dX5_removeAt_35 : decode cX5_removeAt 35 = .ok (.getfield 13, 3) := by decide +kernel
theorem dX5_removeAt_38 : decode cX5_removeAt 38 = .ok (.iload_n 2, 1) := by decide +kernel
theorem dX5_removeAt_39 : decode cX5_removeAt 39 = .ok (.iconst 1, 1) := by decide +kernel
theorem dX5_removeAt_40 : decode cX5_removeAt 40 = .ok (.isub, 1) := by decide +kernel
theorem dX5_removeAt_41 : decode cX5_removeAt 41 = .ok (.aload_n 0, 1) := by decide +kernel
theorem dX5_removeAt_42 : decode cX5_removeAt 42 = .ok (.getfield 13, 3) := by decide +kernel
theorem dX5_removeAt_45 : decode cX5_removeAt 45 = .ok (.iload_n 2, 1) := by decide +kernel
theorem dX5_removeAt_46 : decode cX5_removeAt 46 = .ok (.laload, 1) := by decide +kernel
theorem dX5_removeAt_47 : decode cX5_removeAt 47 = .ok (.lastore, 1) := by decide +kernel
theorem dX5_removeAt_48 : decode cX5_removeAt 48 = .ok (.iinc 2 1, 3) := by decide +kernel
theorem dX5_removeAt_51 : decode cX5_removeAt 51 = .ok (.goto (-34), 3) := by decide +kernel
set_option maxRecDepth 100000 in
set_option maxHeartbeats 4000000 in
theorem sX5_removeAt_1 (l : Launch) (D : va_G) (Y : Nat → ClassId) (h0 : Nat) (h1 : Nat) (p0 : Int32) (f0 : Nat → Int64) (p1 : Int32) (sz : Nat) : Met l yX5_removeAt (WSm yX5_removeAt cX5_removeAt 3 none) (mkR 0 0 0 0) (PreG EX D Y [.ref h0, .int p1] [(h0, oC 7 [.ref h1, .int p0]), (h1, aJ Y 80 f0)] sz) (QV D (fun (_ : UU) => True) (fun (u : UU) => [(h0, oC 7 [.ref h1, .int (u.1 0)]), (h1, aJ Y 80 (u.2.2.2.1 0))]) (va_A [(h0, oC 7 [.ref h1, .int p0]), (h1, aJ Y 80 f0)] sz)) 0 0 (va_A [(h0, oC 7 [.ref h1, .int p0]), (h1, aJ Y 80 f0)] sz) :=
  gmet_of (by decide +kernel) (Nat.le_of_ble_eq_true rfl) (fun p e s m args below meth c B EB hsz => by
    have B : VB p s m args meth c D Y (va_A [(h0, oC 7 [.ref h1, .int p0]), (h1, aJ Y 80 f0)] sz) cX5_removeAt 3 RX5 none := B
    refine V_iload_n 0 B dX5_removeAt_0 1 rfl ?_
    refine V_if_lt 1 B 12 dX5_removeAt_1 (by decide) (fun k0 => ?_) (fun k0 => ?_)
    ·
      exact V_vret 12 B dX5_removeAt_12 (mkU [p0] [] [] [f0] []) trivial rfl
    ·
      refine V_iload_n 4 B dX5_removeAt_4 1 rfl ?_
      refine V_aload_n 5 B dX5_removeAt_5 0 rfl ?_
      refine V_get 6 B gf_RX5_19 0 rfl rfl dX5_removeAt_6 ?_
      refine V_icmp_lt 9 B 13 dX5_removeAt_9 (by decide) (fun k1 => ?_) (fun k1 => ?_)
      ·
        refine V_iload_n 13 B dX5_removeAt_13 1 rfl ?_
        refine V_iconst 14 B (v := 1) dX5_removeAt_14 (by decide +kernel) ?_
        refine V_iadd 15 B dX5_removeAt_15 rfl ?_
        refine V_istore_n 16 B (lv2 := [(2, .int (p1 + 1)), (0, .ref h0), (1, .int p1)]) dX5_removeAt_16 (by decide) rfl ?_
        refine V_wloop (α := UU) (fun a => (2147483647 - ((a.1 0)).toInt).toNat) (fun a => 1 ≤ ((a.1 0)).toInt) (fun a => [(2, .int (a.1 0)), (0, .ref h0), (1, .int p1)]) (fun a => [(h0, oC 7 [.ref h1, .int (a.1 1)]), (h1, aJ Y 80 (a.2.2.2.1 0))]) (mkU [(p1 + 1), p0] [] [] [f0] []) (o_add_lo (c := 1) (b_nlt k0 (n := 0) (by decide +kernel)) (o_lt_hi k1 (i_hi p0) (k := 2147483646) (by decide +kernel)) (by decide +kernel) (by decide +kernel) (k := 1) (by decide +kernel)) rfl rfl (fun a2 hI4 IH3 => ?_)
        refine V_lv [(2, .int (a2.1 0)), (0, .ref h0), (1, .int p1)] [0, 1, 2] rfl ?_
        refine V_ws [(h0, oC 7 [.ref h1, .int (a2.1 1)]), (h1, aJ Y 80 (a2.2.2.2.1 0))] rfl ?_
        refine V_iload_n 17 B dX5_removeAt_17 0 rfl ?_
        refine V_aload_n 18 B dX5_removeAt_18 1 rfl ?_
        refine V_get 19 B gf_RX5_19 0 rfl rfl dX5_removeAt_19 ?_
        refine V_icmp_ge 22 B 54 dX5_removeAt_22 (by decide) (fun k5 => ?_) (fun k5 => ?_)
        ·
          refine V_aload_n 54 B dX5_removeAt_54 1 rfl ?_
          refine V_dup 55 B dX5_removeAt_55 rfl ?_
          refine V_get 56 B gf_RX5_19 0 rfl rfl dX5_removeAt_56 ?_
          refine V_iconst 59 B (v := 1) dX5_removeAt_59 (by decide +kernel) ?_
          refine V_isub 60 B dX5_removeAt_60 rfl ?_
          refine V_nmi (fun j6 _ => ?_)
          refine V_put 61 B gp_RX5_19 0 rfl (Nat.le_of_ble_eq_true rfl) rfl rfl dX5_removeAt_61 [(h0, oC 7 [.ref h1, .int j6]), (h1, aJ Y 80 (a2.2.2.2.1 0))] rfl ?_
          exact V_vret 64 B dX5_removeAt_64 (mkU [j6] [] [] [(a2.2.2.2.1 0)] []) trivial rfl
        ·
          refine V_iload_n 25 B dX5_removeAt_25 0 rfl ?_
          refine V_aload_n 26 B dX5_removeAt_26 1 rfl ?_
          refine V_get 27 B gf_RX5_13 0 rfl rfl dX5_removeAt_27 ?_
          refine V_alenJ 30 B (v := 80) 1 rfl (by decide +kernel) dX5_removeAt_30 ?_
          refine V_icmp_ge 31 B 54 dX5_removeAt_31 (by decide) (fun k7 => ?_) (fun k7 => ?_)
          ·
            refine V_aload_n 54 B dX5_removeAt_54 1 rfl ?_
            refine V_dup 55 B dX5_removeAt_55 rfl ?_
            refine V_get 56 B gf_RX5_19 0 rfl rfl dX5_removeAt_56 ?_
            refine V_iconst 59 B (v := 1) dX5_removeAt_59 (by decide +kernel) ?_
            refine V_isub 60 B dX5_removeAt_60 rfl ?_
            refine V_put 61 B gp_RX5_19 0 rfl (Nat.le_of_ble_eq_true rfl) rfl rfl dX5_removeAt_61 [(h0, oC 7 [.ref h1, .int ((a2.1 1) - 1)]), (h1, aJ Y 80 (a2.2.2.2.1 0))] rfl ?_
            exact V_vret 64 B dX5_removeAt_64 (mkU [((a2.1 1) - 1)] [] [] [(a2.2.2.2.1 0)] []) trivial rfl
          ·
            refine V_aload_n 34 B dX5_removeAt_34 1 rfl ?_
            refine V_get 35 B gf_RX5_13 0 rfl rfl dX5_removeAt_35 ?_
            refine V_iload_n 38 B dX5_removeAt_38 0 rfl ?_
            refine V_iconst 39 B (v := 1) dX5_removeAt_39 (by decide +kernel) ?_
            refine V_isub 40 B dX5_removeAt_40 rfl ?_
            refine V_aload_n 41 B dX5_removeAt_41 1 rfl ?_
            refine V_get 42 B gf_RX5_13 0 rfl rfl dX5_removeAt_42 ?_
            refine V_iload_n 45 B dX5_removeAt_45 0 rfl ?_
            refine V_lald 46 B 1 rfl (vpin_b (Int.le_trans (by decide) hI4) (b_nge k7 (n := 79) (by decide +kernel)) (by decide)) dX5_removeAt_46 rfl ?_
            refine V_nml (fun o8 _ => ?_)
            refine V_last 47 B 1 rfl (vpin_b (o_sub_lo (c := 1) hI4 (b_nge k7 (n := 79) (by decide +kernel)) (by decide +kernel) (by decide +kernel) (k := 0) (by decide +kernel)) (o_sub_hi (c := 1) hI4 (b_nge k7 (n := 79) (by decide +kernel)) (by decide +kernel) (by decide +kernel) (k := 78) (by decide +kernel)) (by decide)) dX5_removeAt_47 [(h0, oC 7 [.ref h1, .int (a2.1 1)]), (h1, aJ Y 80 (vp_updL (a2.2.2.2.1 0) (((a2.1 0) - 1) : Int32).toNatClampNeg o8))] rfl ?_
            refine V_iinc 48 B (v := ((a2.1 0) + Int32.ofInt 1)) (lv2 := [(2, .int ((a2.1 0) + Int32.ofInt 1)), (0, .ref h0), (1, .int p1)]) dX5_removeAt_48 0 rfl rfl (by decide) rfl ?_
            refine V_goto 51 B 17 dX5_removeAt_51 (by decide) ?_
            refine V_lv [(2, .int ((a2.1 0) + Int32.ofInt 1)), (0, .ref h0), (1, .int p1)] [0, 1, 2] rfl ?_
            exact IH3 (mkU [((a2.1 0) + Int32.ofInt 1), (a2.1 1)] [] [] [(vp_updL (a2.2.2.2.1 0) (((a2.1 0) - 1) : Int32).toNatClampNeg o8)] []) (Int.le_trans (by decide) (o_add_lo (c := Int32.ofInt 1) hI4 (b_nge k7 (n := 79) (by decide +kernel)) (by decide +kernel) (by decide +kernel) (k := 2) (by decide +kernel))) (up_dec (x := (a2.1 0)) (c := Int32.ofInt 1) (by decide +kernel) hI4 (Int.le_trans (b_nge k7 (n := 79) (by decide +kernel)) (by decide)) (by decide))
      ·
        exact V_vret 12 B dX5_removeAt_12 (mkU [p0] [] [] [f0] []) trivial rfl)
theorem glV_RX0_101 : GLV RX0 101 yX5_removeAt RX5 cX5_removeAt 3 none 1 := ⟨⟨(mT4 195 rfl rfl), (mT4 196 rfl rfl), (mT4 197 rfl rfl), (mT1 5 rfl rfl), (mT4 198 rfl rfl)⟩, by decide +kernel⟩
theorem dX0_removeBinding_24 : decode cX0_removeBinding 24 = .ok (.return_, 1) := by decide +kernel
set_option maxRecDepth 100000 in
set_option maxHeartbeats 4000000 in
theorem sX0_removeBinding_1 (l : Launch) (D : va_G) (Y : Nat → ClassId) (h0 : Nat) (h1 : Nat) (h2 : Nat) (h3 : Nat) (h4 : Nat) (h5 : Nat) (h6 : Nat) (g0 : Nat) (g1 : Nat) (g2 : Nat) (g3 : Nat) (g4 : Nat) (g5 : Nat) (g6 : Nat) (g7 : Nat) (p0 : Int32) (p1 : Int32) (f0 : Nat → Int32) (p2 : Int32) (f1 : Nat → Int32) (p3 : Int32) (f2 : Nat → Int64) (p4 : Int32) (sz : Nat) : Met l yX0_removeBinding (WSm yX0_removeBinding cX0_removeBinding 2 none) (mkR 1 0 0 22) (PreG EX D Y [.ref h0, .int p4] [(h0, oC 2 [.ref g0, .ref g1, .ref g2, .ref g3, .ref g4, .ref h1, .ref h3, .ref h5, .ref g5, .ref g6, .ref g7, .int p0]), (h1, oC 3 [.ref h2, .int p1]), (h2, aI Y 80 f0), (h3, oC 3 [.ref h4, .int p2]), (h4, aI Y 80 f1), (h5, oC 7 [.ref h6, .int p3]), (h6, aJ Y 80 f2)] sz) (QV D (fun (_ : UU) => True) (fun (u : UU) => [(h0, oC 2 [.ref g0, .ref g1, .ref g2, .ref g3, .ref g4, .ref h1, .ref h3, .ref h5, .ref g5, .ref g6, .ref g7, .int p0]), (h1, oC 3 [.ref h2, .int (u.1 0)]), (h2, aI Y 80 (u.2.2.1 0)), (h3, oC 3 [.ref h4, .int (u.1 1)]), (h4, aI Y 80 (u.2.2.1 1)), (h5, oC 7 [.ref h6, .int (u.1 2)]), (h6, aJ Y 80 (u.2.2.2.1 0))]) (va_A [(h0, oC 2 [.ref g0, .ref g1, .ref g2, .ref g3, .ref g4, .ref h1, .ref h3, .ref h5, .ref g5, .ref g6, .ref g7, .int p0]), (h1, oC 3 [.ref h2, .int p1]), (h2, aI Y 80 f0), (h3, oC 3 [.ref h4, .int p2]), (h4, aI Y 80 f1), (h5, oC 7 [.ref h6, .int p3]), (h6, aJ Y 80 f2)] sz)) 0 0 (va_A [(h0, oC 2 [.ref g0, .ref g1, .ref g2, .ref g3, .ref g4, .ref h1, .ref h3, .ref h5, .ref g5, .ref g6, .ref g7, .int p0]), (h1, oC 3 [.ref h2, .int p1]), (h2, aI Y 80 f0), (h3, oC 3 [.ref h4, .int p2]), (h4, aI Y 80 f1), (h5, oC 7 [.ref h6, .int p3]), (h6, aJ Y 80 f2)] sz) :=
  gmet_of (by decide +kernel) (Nat.le_of_ble_eq_true rfl) (fun p e s m args below meth c B EB hsz => by
    have B : VB p s m args meth c D Y (va_A [(h0, oC 2 [.ref g0, .ref g1, .ref g2, .ref g3, .ref g4, .ref h1, .ref h3, .ref h5, .ref g5, .ref g6, .ref g7, .int p0]), (h1, oC 3 [.ref h2, .int p1]), (h2, aI Y 80 f0), (h3, oC 3 [.ref h4, .int p2]), (h4, aI Y 80 f1), (h5, oC 7 [.ref h6, .int p3]), (h6, aJ Y 80 f2)] sz) cX0_removeBinding 2 RX0 none := B
    refine V_aload_n 0 B dX0_removeBinding_0 0 rfl ?_
    refine V_get 1 B gf_RX0_36 0 rfl rfl dX0_removeBinding_1 ?_
    refine V_iload_n 4 B dX0_removeBinding_4 1 rfl ?_
    refine V_gvv 5 B envX EB (st := []) (As := [.int p4]) (fun sz => sX1_removeAt_1 l D Y h1 h2 p1 f0 p4 sz) glV_RX0_98 ⟨rfl, rfl⟩ ⟨(Nat.le_of_ble_eq_true rfl), (Nat.le_of_ble_eq_true rfl)⟩ ⟨(Nat.le_of_ble_eq_true rfl), (Nat.le_of_ble_eq_true rfl)⟩ [1, 0] rfl 3 0 rfl rfl rfl rfl (Nat.le_of_ble_eq_true rfl) rfl (fun _ _ => rfl) dX0_removeBinding_5 (fun u1 w2 => ?_)
    refine V_ws [(h0, oC 2 [.ref g0, .ref g1, .ref g2, .ref g3, .ref g4, .ref h1, .ref h3, .ref h5, .ref g5, .ref g6, .ref g7, .int p0]), (h1, oC 3 [.ref h2, .int (u1.1 0)]), (h2, aI Y 80 (u1.2.2.1 0)), (h3, oC 3 [.ref h4, .int p2]), (h4, aI Y 80 f1), (h5, oC 7 [.ref h6, .int p3]), (h6, aJ Y 80 f2)] rfl ?_
    refine V_aload_n 8 B dX0_removeBinding_8 0 rfl ?_
    refine V_get 9 B gf_RX0_39 0 rfl rfl dX0_removeBinding_9 ?_
    refine V_iload_n 12 B dX0_removeBinding_12 1 rfl ?_
    refine V_gvv 13 B envX EB (st := []) (As := [.int p4]) (fun sz => sX1_removeAt_1 l D Y h3 h4 p2 f1 p4 sz) glV_RX0_98 ⟨rfl, rfl⟩ ⟨(Nat.le_of_ble_eq_true rfl), (Nat.le_of_ble_eq_true rfl)⟩ ⟨(Nat.le_of_ble_eq_true rfl), (Nat.le_of_ble_eq_true rfl)⟩ [3, 0] rfl 3 0 rfl rfl rfl rfl (Nat.le_of_ble_eq_true rfl) rfl (fun _ _ => rfl) dX0_removeBinding_13 (fun u4 w5 => ?_)
    refine V_ws [(h0, oC 2 [.ref g0, .ref g1, .ref g2, .ref g3, .ref g4, .ref h1, .ref h3, .ref h5, .ref g5, .ref g6, .ref g7, .int p0]), (h1, oC 3 [.ref h2, .int (u1.1 0)]), (h2, aI Y 80 (u1.2.2.1 0)), (h3, oC 3 [.ref h4, .int (u4.1 0)]), (h4, aI Y 80 (u4.2.2.1 0)), (h5, oC 7 [.ref h6, .int p3]), (h6, aJ Y 80 f2)] rfl ?_
    refine V_aload_n 16 B dX0_removeBinding_16 0 rfl ?_
    refine V_get 17 B gf_RX0_42 0 rfl rfl dX0_removeBinding_17 ?_
    refine V_iload_n 20 B dX0_removeBinding_20 1 rfl ?_
    refine V_gvv 21 B envX EB (st := []) (As := [.int p4]) (fun sz => sX5_removeAt_1 l D Y h5 h6 p3 f2 p4 sz) glV_RX0_101 ⟨rfl, rfl⟩ ⟨(Nat.le_of_ble_eq_true rfl), (Nat.le_of_ble_eq_true rfl)⟩ ⟨(Nat.le_of_ble_eq_true rfl), (Nat.le_of_ble_eq_true rfl)⟩ [5, 0] rfl 7 0 rfl rfl rfl rfl (Nat.le_of_ble_eq_true rfl) rfl (fun _ _ => rfl) dX0_removeBinding_21 (fun u7 w8 => ?_)
    refine V_ws [(h0, oC 2 [.ref g0, .ref g1, .ref g2, .ref g3, .ref g4, .ref h1, .ref h3, .ref h5, .ref g5, .ref g6, .ref g7, .int p0]), (h1, oC 3 [.ref h2, .int (u1.1 0)]), (h2, aI Y 80 (u1.2.2.1 0)), (h3, oC 3 [.ref h4, .int (u4.1 0)]), (h4, aI Y 80 (u4.2.2.1 0)), (h5, oC 7 [.ref h6, .int (u7.1 0)]), (h6, aJ Y 80 (u7.2.2.2.1 0))] rfl ?_
    exact V_vret 24 B dX0_removeBinding_24 (mkU [(u1.1 0), (u4.1 0), (u7.1 0)] [] [(u1.2.2.1 0), (u4.2.2.1 0)] [(u7.2.2.2.1 0)] []) trivial rfl)
theorem glV_RX0_142 : GLV RX0 142 yX0_removeBinding RX0 cX0_removeBinding 2 none 1 := ⟨⟨(mT4 227 rfl rfl), (mT4 191 rfl rfl), (mT4 192 rfl rfl), (mT1 2 rfl rfl), (mT4 193 rfl rfl)⟩, by decide +kernel⟩
theorem dX0_placeByForce_28 : decode cX0_placeByForce 28 = .ok (.aload_n 0, 1) := by decide +kernel
theorem dX0_placeByForce_29 : decode cX0_placeByForce 29 = .ok (.getfield 36, 3) := by decide +kernel
theorem dX0_placeByForce_32 : decode cX0_placeByForce 32 = .ok (.invokevirtual 130, 3) := by decide +kernel
theorem dX0_placeByForce_35 : decode cX0_placeByForce 35 = .ok (.ifCond .eq 6, 3) := by decide +kernel
theorem dX0_placeByForce_38 : decode cX0_placeByForce 38 = .ok (.bipush (-2), 2) := by decide +kernel
theorem dX0_placeByForce_40 : decode cX0_placeByForce 40 = .ok (.ireturn, 1) := by decide +kernel
theorem dX0_placeByForce_11 : decode cX0_placeByForce 11 = .ok (.sipush (-1000), 3) := by decide +kernel
theorem dX0_placeByForce_14 : decode cX0_placeByForce 14 = .ok (.ireturn, 1) := by decide +kernel
set_option maxRecDepth 100000 in
set_option maxHeartbeats 4000000 in
theorem sX0_placeByForce_1 (l : Launch) (D : va_G) (Y : Nat → ClassId) (h0 : Nat) (h1 : Nat) (h2 : Nat) (h3 : Nat) (h4 : Nat) (h5 : Nat) (h6 : Nat) (h7 : Nat) (h8 : Nat) (g0 : Nat) (g1 : Nat) (g2 : Nat) (g3 : Nat) (g4 : Nat) (g5 : Nat) (g6 : Nat) (p0 : Int32) (p1 : Int32) (f0 : Nat → Int64) (p2 : Int32) (f1 : Nat → Int32) (p3 : Int32) (f2 : Nat → Int32) (p4 : Int32) (f3 : Nat → Int64) (p5 : Int32) (p6 : Int32) (p7 : Int64) (sz : Nat) : Met l yX0_placeByForce (WSm yX0_placeByForce cX0_placeByForce 7 (some .int)) (mkR 3 0 0 77) (PreG EX D Y [.ref h0, .int p5, .int p6, .long p7] [(h0, oC 2 [.ref g0, .ref g1, .ref g2, .ref g3, .ref h1, .ref h3, .ref h5, .ref h7, .ref g4, .ref g5, .ref g6, .int p0]), (h1, oC 7 [.ref h2, .int p1]), (h2, aJ Y 6 f0), (h3, oC 3 [.ref h4, .int p2]), (h4, aI Y 80 f1), (h5, oC 3 [.ref h6, .int p3]), (h6, aI Y 80 f2), (h7, oC 7 [.ref h8, .int p4]), (h8, aJ Y 80 f3)] sz) (QI D (fun (_ : Int32) (_ : UU) => True) (fun (u : UU) => [(h0, oC 2 [.ref g0, .ref g1, .ref g2, .ref g3, .ref h1, .ref h3, .ref h5, .ref h7, .ref g4, .ref g5, .ref g6, .int p0]), (h1, oC 7 [.ref h2, .int p1]), (h2, aJ Y 6 f0), (h3, oC 3 [.ref h4, .int (u.1 0)]), (h4, aI Y 80 (u.2.2.1 0)), (h5, oC 3 [.ref h6, .int (u.1 1)]), (h6, aI Y 80 (u.2.2.1 1)), (h7, oC 7 [.ref h8, .int (u.1 2)]), (h8, aJ Y 80 (u.2.2.2.1 0))]) (va_A [(h0, oC 2 [.ref g0, .ref g1, .ref g2, .ref g3, .ref h1, .ref h3, .ref h5, .ref h7, .ref g4, .ref g5, .ref g6, .int p0]), (h1, oC 7 [.ref h2, .int p1]), (h2, aJ Y 6 f0), (h3, oC 3 [.ref h4, .int p2]), (h4, aI Y 80 f1), (h5, oC 3 [.ref h6, .int p3]), (h6, aI Y 80 f2), (h7, oC 7 [.ref h8, .int p4]), (h8, aJ Y 80 f3)] sz)) 0 0 (va_A [(h0, oC 2 [.ref g0, .ref g1, .ref g2, .ref g3, .ref h1, .ref h3, .ref h5, .ref h7, .ref g4, .ref g5, .ref g6, .int p0]), (h1, oC 7 [.ref h2, .int p1]), (h2, aJ Y 6 f0), (h3, oC 3 [.ref h4, .int p2]), (h4, aI Y 80 f1), (h5, oC 3 [.ref h6, .int p3]), (h6, aI Y 80 f2), (h7, oC 7 [.ref h8, .int p4]), (h8, aJ Y 80 f3)] sz) :=
  gmet_of (by decide +kernel) (Nat.le_of_ble_eq_true rfl) (fun p e s m args below meth c B EB hsz => by
    have B : VB p s m args meth c D Y (va_A [(h0, oC 2 [.ref g0, .ref g1, .ref g2, .ref g3, .ref h1, .ref h3, .ref h5, .ref h7, .ref g4, .ref g5, .ref g6, .int p0]), (h1, oC 7 [.ref h2, .int p1]), (h2, aJ Y 6 f0), (h3, oC 3 [.ref h4, .int p2]), (h4, aI Y 80 f1), (h5, oC 3 [.ref h6, .int p3]), (h6, aI Y 80 f2), (h7, oC 7 [.ref h8, .int p4]), (h8, aJ Y 80 f3)] sz) cX0_placeByForce 7 RX0 (some .int) := B
    refine V_aload_n 0 B dX0_placeByForce_0 0 rfl ?_
    refine V_get 1 B gf_RX0_32 0 rfl rfl dX0_placeByForce_1 ?_
    refine V_lload_n 4 B dX0_placeByForce_4 3 rfl ?_
    refine V_gvi 5 B envX EB (st := []) (As := [.long p7]) (fun sz => sX5_hasClash_1 l D Y h1 h2 p1 f0 p7 sz) glV_RX0_119 ⟨rfl, rfl⟩ ⟨(Nat.le_of_ble_eq_true rfl), (Nat.le_of_ble_eq_true rfl)⟩ ⟨(Nat.le_of_ble_eq_true rfl), (Nat.le_of_ble_eq_true rfl)⟩ [1, 0] rfl 7 0 rfl rfl rfl rfl (Nat.le_of_ble_eq_true rfl) rfl (fun _ _ _ => rfl) dX0_placeByForce_5 (fun j0 u1 w2 => ?_)
    refine V_ws [(h0, oC 2 [.ref g0, .ref g1, .ref g2, .ref g3, .ref h1, .ref h3, .ref h5, .ref h7, .ref g4, .ref g5, .ref g6, .int p0]), (h1, oC 7 [.ref h2, .int p1]), (h2, aJ Y 6 f0), (h3, oC 3 [.ref h4, .int p2]), (h4, aI Y 80 f1), (h5, oC 3 [.ref h6, .int p3]), (h6, aI Y 80 f2), (h7, oC 7 [.ref h8, .int p4]), (h8, aJ Y 80 f3)] rfl ?_
    rcases w2 with rfl | rfl
    ·
      refine V_if_eq_t 8 B 15 dX0_placeByForce_8 (by decide) (by decide +kernel) ?_
      refine V_aload_n 15 B dX0_placeByForce_15 0 rfl ?_
      refine V_iload_n 16 B dX0_placeByForce_16 1 rfl ?_
      refine V_lload_n 17 B dX0_placeByForce_17 3 rfl ?_
      refine V_gvi 18 B envX EB (st := []) (As := [.int p5, .long p7]) (fun sz => sX0_ownClashes_1 l D Y h0 h3 h4 h7 h8 g0 g1 g2 g3 h1 h5 g4 g5 g6 p0 p2 f1 p4 f3 p5 p7 sz) glV_RX0_138 ⟨rfl, rfl⟩ ⟨(Nat.le_of_ble_eq_true rfl), (Nat.le_of_ble_eq_true rfl)⟩ ⟨(Nat.le_of_ble_eq_true rfl), (Nat.le_of_ble_eq_true rfl)⟩ [0, 2, 0, 2, 0] rfl 2 0 rfl rfl rfl rfl (Nat.le_of_ble_eq_true rfl) rfl (fun _ _ _ => rfl) dX0_placeByForce_18 (fun j3 u4 w5 => ?_)
      refine V_ws [(h0, oC 2 [.ref g0, .ref g1, .ref g2, .ref g3, .ref h1, .ref h3, .ref h5, .ref h7, .ref g4, .ref g5, .ref g6, .int p0]), (h1, oC 7 [.ref h2, .int p1]), (h2, aJ Y 6 f0), (h3, oC 3 [.ref h4, .int p2]), (h4, aI Y 80 f1), (h5, oC 3 [.ref h6, .int p3]), (h6, aI Y 80 f2), (h7, oC 7 [.ref h8, .int p4]), (h8, aJ Y 80 f3)] rfl ?_
      refine V_istore 21 B (lv2 := [(5, .int j3), (0, .ref h0), (1, .int p5), (2, .int p6), (3, .long p7)]) dX0_placeByForce_21 (by decide) rfl ?_
      refine V_iload 23 B dX0_placeByForce_23 0 rfl ?_
      refine V_if_ne 25 B 41 dX0_placeByForce_25 (by decide) (fun k6 => ?_) (fun k6 => ?_)
      ·
        refine V_aload_n 41 B dX0_placeByForce_41 1 rfl ?_
        refine V_get 42 B gf_RX0_36 0 rfl rfl dX0_placeByForce_42 ?_
        refine V_gvi 45 B envX EB (st := []) (As := []) (fun sz => sX1_size_1 l D Y h3 h4 p2 sz) glV_RX0_91 ⟨rfl, rfl⟩ ⟨(Nat.le_of_ble_eq_true rfl), (Nat.le_of_ble_eq_true rfl)⟩ ⟨(Nat.le_of_ble_eq_true rfl), (Nat.le_of_ble_eq_true rfl)⟩ [3] rfl 3 0 rfl rfl rfl rfl (Nat.le_of_ble_eq_true rfl) rfl (fun _ _ _ => rfl) dX0_placeByForce_45 (fun j7 u8 w9 => ?_)
        refine V_ws [(h0, oC 2 [.ref g0, .ref g1, .ref g2, .ref g3, .ref h1, .ref h3, .ref h5, .ref h7, .ref g4, .ref g5, .ref g6, .int p0]), (h1, oC 7 [.ref h2, .int p1]), (h2, aJ Y 6 f0), (h3, oC 3 [.ref h4, .int p2]), (h4, aI Y 80 f1), (h5, oC 3 [.ref h6, .int p3]), (h6, aI Y 80 f2), (h7, oC 7 [.ref h8, .int p4]), (h8, aJ Y 80 f3)] rfl ?_
        refine V_iconst 48 B (v := 1) dX0_placeByForce_48 (by decide +kernel) ?_
        refine V_isub 49 B dX0_placeByForce_49 rfl ?_
        refine V_nmi (fun j10 _ => ?_)
        refine V_istore 50 B (lv2 := [(6, .int j10), (5, .int j3), (0, .ref h0), (1, .int p5), (2, .int p6), (3, .long p7)]) dX0_placeByForce_50 (by decide) rfl ?_
        refine V_wloop (α := UU) (fun a => (((a.1 0)).toInt + 1).toNat) (fun a => True) (fun a => [(6, .int (a.1 0)), (5, .int j3), (0, .ref h0), (1, .int p5), (2, .int p6), (3, .long p7)]) (fun a => [(h0, oC 2 [.ref g0, .ref g1, .ref g2, .ref g3, .ref h1, .ref h3, .ref h5, .ref h7, .ref g4, .ref g5, .ref g6, .int p0]), (h1, oC 7 [.ref h2, .int p1]), (h2, aJ Y 6 f0), (h3, oC 3 [.ref h4, .int (a.1 1)]), (h4, aI Y 80 (a.2.2.1 0)), (h5, oC 3 [.ref h6, .int (a.1 2)]), (h6, aI Y 80 (a.2.2.1 1)), (h7, oC 7 [.ref h8, .int (a.1 3)]), (h8, aJ Y 80 (a.2.2.2.1 0))]) (mkU [j10, p2, p3, p4] [] [f1, f2] [f3] []) trivial rfl rfl (fun a11 hI13 IH12 => ?_)
        refine V_lv [(6, .int (a11.1 0)), (5, .int j3), (0, .ref h0), (1, .int p5), (2, .int p6), (3, .long p7)] [0, 1, 2, 3, 4, 5] rfl ?_
        refine V_ws [(h0, oC 2 [.ref g0, .ref g1, .ref g2, .ref g3, .ref h1, .ref h3, .ref h5, .ref h7, .ref g4, .ref g5, .ref g6, .int p0]), (h1, oC 7 [.ref h2, .int p1]), (h2, aJ Y 6 f0), (h3, oC 3 [.ref h4, .int (a11.1 1)]), (h4, aI Y 80 (a11.2.2.1 0)), (h5, oC 3 [.ref h6, .int (a11.1 2)]), (h6, aI Y 80 (a11.2.2.1 1)), (h7, oC 7 [.ref h8, .int (a11.1 3)]), (h8, aJ Y 80 (a11.2.2.2.1 0))] rfl ?_
        refine V_iload 52 B dX0_placeByForce_52 0 rfl ?_
        refine V_if_lt 54 B 80 dX0_placeByForce_54 (by decide) (fun k14 => ?_) (fun k14 => ?_)
        ·
          refine V_aload_n 80 B dX0_placeByForce_80 2 rfl ?_
          refine V_iload_n 81 B dX0_placeByForce_81 3 rfl ?_
          refine V_iload_n 82 B dX0_placeByForce_82 4 rfl ?_
          refine V_lload_n 83 B dX0_placeByForce_83 5 rfl ?_
          refine V_gvv 84 B envX EB (st := []) (As := [.int p5, .int p6, .long p7]) (fun sz => sX0_appendBinding_1 l D Y h0 h3 h4 h5 h6 h7 h8 g0 g1 g2 g3 h1 g4 g5 g6 p0 (a11.1 1) (a11.2.2.1 0) (a11.1 2) (a11.2.2.1 1) (a11.1 3) (a11.2.2.2.1 0) p5 p6 p7 sz) glV_RX0_134 ⟨rfl, rfl⟩ ⟨(Nat.le_of_ble_eq_true rfl), (Nat.le_of_ble_eq_true rfl)⟩ ⟨(Nat.le_of_ble_eq_true rfl), (Nat.le_of_ble_eq_true rfl)⟩ [0, 2, 0, 0, 0, 0, 0] rfl 2 0 rfl rfl rfl rfl (Nat.le_of_ble_eq_true rfl) rfl (fun _ _ => rfl) dX0_placeByForce_84 (fun u16 w17 => ?_)
          refine V_ws [(h0, oC 2 [.ref g0, .ref g1, .ref g2, .ref g3, .ref h1, .ref h3, .ref h5, .ref h7, .ref g4, .ref g5, .ref g6, .int p0]), (h1, oC 7 [.ref h2, .int p1]), (h2, aJ Y 6 f0), (h3, oC 3 [.ref h4, .int (u16.1 0)]), (h4, aI Y 80 (u16.2.2.1 0)), (h5, oC 3 [.ref h6, .int (u16.1 1)]), (h6, aI Y 80 (u16.2.2.1 1)), (h7, oC 7 [.ref h8, .int (u16.1 2)]), (h8, aJ Y 80 (u16.2.2.2.1 0))] rfl ?_
          refine V_iload 87 B dX0_placeByForce_87 1 rfl ?_
          exact V_iret 89 B dX0_placeByForce_89 (mkU [(u16.1 0), (u16.1 1), (u16.1 2)] [] [(u16.2.2.1 0), (u16.2.2.1 1)] [(u16.2.2.2.1 0)] []) trivial rfl
        ·
          refine V_aload_n 57 B dX0_placeByForce_57 2 rfl ?_
          refine V_iload 58 B dX0_placeByForce_58 0 rfl ?_
          refine V_iload_n 60 B dX0_placeByForce_60 3 rfl ?_
          refine V_lload_n 61 B dX0_placeByForce_61 5 rfl ?_
          refine V_gvi 62 B envX EB (st := []) (As := [.int (a11.1 0), .int p5, .long p7]) (fun sz => sX0_isOwnClash_1 l D Y h0 h3 h4 h7 h8 g0 g1 g2 g3 h1 h5 g4 g5 g6 p0 (a11.1 1) (a11.2.2.1 0) (a11.1 3) (a11.2.2.2.1 0) (a11.1 0) p5 p7 sz) glV_RX0_115 ⟨rfl, rfl⟩ ⟨(Nat.le_of_ble_eq_true rfl), (Nat.le_of_ble_eq_true rfl)⟩ ⟨(Nat.le_of_ble_eq_true rfl), (Nat.le_of_ble_eq_true rfl)⟩ [0, 2, 0, 2, 0] rfl 2 0 rfl rfl rfl rfl (Nat.le_of_ble_eq_true rfl) rfl (fun _ _ _ => rfl) dX0_placeByForce_62 (fun j18 u19 w20 => ?_)
          refine V_ws [(h0, oC 2 [.ref g0, .ref g1, .ref g2, .ref g3, .ref h1, .ref h3, .ref h5, .ref h7, .ref g4, .ref g5, .ref g6, .int p0]), (h1, oC 7 [.ref h2, .int p1]), (h2, aJ Y 6 f0), (h3, oC 3 [.ref h4, .int (a11.1 1)]), (h4, aI Y 80 (a11.2.2.1 0)), (h5, oC 3 [.ref h6, .int (a11.1 2)]), (h6, aI Y 80 (a11.2.2.1 1)), (h7, oC 7 [.ref h8, .int (a11.1 3)]), (h8, aJ Y 80 (a11.2.2.2.1 0))] rfl ?_
          rcases w20 with rfl | rfl
          ·
            refine V_if_eq_t 65 B 74 dX0_placeByForce_65 (by decide) (by decide +kernel) ?_
            refine V_iinc 74 B (v := ((a11.1 0) + Int32.ofInt (-1))) (lv2 := [(6, .int ((a11.1 0) + Int32.ofInt (-1))), (5, .int j3), (0, .ref h0), (1, .int p5), (2, .int p6), (3, .long p7)]) dX0_placeByForce_74 0 rfl rfl (by decide) rfl ?_
            refine V_goto 77 B 52 dX0_placeByForce_77 (by decide) ?_
            refine V_lv [(6, .int ((a11.1 0) + Int32.ofInt (-1))), (5, .int j3), (0, .ref h0), (1, .int p5), (2, .int p6), (3, .long p7)] [0, 1, 2, 3, 4, 5] rfl ?_
            exact IH12 (mkU [((a11.1 0) + Int32.ofInt (-1)), (a11.1 1), (a11.1 2), (a11.1 3)] [] [(a11.2.2.1 0), (a11.2.2.1 1)] [(a11.2.2.2.1 0)] []) trivial (dn_dec (x := (a11.1 0)) (c := Int32.ofInt (-1)) (k := 1) (by decide +kernel) (by decide) (by decide) (b_nlt k14 (n := 0) (by decide +kernel)) (by decide) (i_hi (a11.1 0)) (by decide))
          ·
            refine V_if_eq_f 65 B 74 dX0_placeByForce_65 (by decide) (by decide +kernel) ?_
            refine V_aload_n 68 B dX0_placeByForce_68 2 rfl ?_
            refine V_iload 69 B dX0_placeByForce_69 0 rfl ?_
            refine V_gvv 71 B envX EB (st := []) (As := [.int (a11.1 0)]) (fun sz => sX0_removeBinding_1 l D Y h0 h3 h4 h5 h6 h7 h8 g0 g1 g2 g3 h1 g4 g5 g6 p0 (a11.1 1) (a11.2.2.1 0) (a11.1 2) (a11.2.2.1 1) (a11.1 3) (a11.2.2.2.1 0) (a11.1 0) sz) glV_RX0_142 ⟨rfl, rfl⟩ ⟨(Nat.le_of_ble_eq_true rfl), (Nat.le_of_ble_eq_true rfl)⟩ ⟨(Nat.le_of_ble_eq_true rfl), (Nat.le_of_ble_eq_true rfl)⟩ [0, 2, 0, 0, 0, 0, 0] rfl 2 0 rfl rfl rfl rfl (Nat.le_of_ble_eq_true rfl) rfl (fun _ _ => rfl) dX0_placeByForce_71 (fun u22 w23 => ?_)
            refine V_ws [(h0, oC 2 [.ref g0, .ref g1, .ref g2, .ref g3, .ref h1, .ref h3, .ref h5, .ref h7, .ref g4, .ref g5, .ref g6, .int p0]), (h1, oC 7 [.ref h2, .int p1]), (h2, aJ Y 6 f0), (h3, oC 3 [.ref h4, .int (u22.1 0)]), (h4, aI Y 80 (u22.2.2.1 0)), (h5, oC 3 [.ref h6, .int (u22.1 1)]), (h6, aI Y 80 (u22.2.2.1 1)), (h7, oC 7 [.ref h8, .int (u22.1 2)]), (h8, aJ Y 80 (u22.2.2.2.1 0))] rfl ?_
            refine V_iinc 74 B (v := ((a11.1 0) + Int32.ofInt (-1))) (lv2 := [(6, .int ((a11.1 0) + Int32.ofInt (-1))), (5, .int j3), (0, .ref h0), (1, .int p5), (2, .int p6), (3, .long p7)]) dX0_placeByForce_74 0 rfl rfl (by decide) rfl ?_
            refine V_goto 77 B 52 dX0_placeByForce_77 (by decide) ?_
            refine V_lv [(6, .int ((a11.1 0) + Int32.ofInt (-1))), (5, .int j3), (0, .ref h0), (1, .int p5), (2, .int p6), (3, .long p7)] [0, 1, 2, 3, 4, 5] rfl ?_
            exact IH12 (mkU [((a11.1 0) + Int32.ofInt (-1)), (u22.1 0), (u22.1 1), (u22.1 2)] [] [(u22.2.2.1 0), (u22.2.2.1 1)] [(u22.2.2.2.1 0)] []) trivial (dn_dec (x := (a11.1 0)) (c := Int32.ofInt (-1)) (k := 1) (by decide +kernel) (by decide) (by decide) (b_nlt k14 (n := 0) (by decide +kernel)) (by decide) (i_hi (a11.1 0)) (by decide))
      ·
        obtain rfl : j3 = 0 := k6
        refine V_aload_n 28 B dX0_placeByForce_28 1 rfl ?_
        refine V_get 29 B gf_RX0_36 0 rfl rfl dX0_placeByForce_29 ?_
        refine V_gvi 32 B envX EB (st := []) (As := []) (fun sz => sX1_isFull_2 l D Y h3 h4 p2 f1 sz) glV_RX0_130 ⟨rfl, rfl⟩ ⟨(Nat.le_of_ble_eq_true rfl), (Nat.le_of_ble_eq_true rfl)⟩ ⟨(Nat.le_of_ble_eq_true rfl), (Nat.le_of_ble_eq_true rfl)⟩ [3, 0] rfl 3 0 rfl rfl rfl rfl (Nat.le_of_ble_eq_true rfl) rfl (fun _ _ _ => rfl) dX0_placeByForce_32 (fun j24 u25 w26 => ?_)
        refine V_ws [(h0, oC 2 [.ref g0, .ref g1, .ref g2, .ref g3, .ref h1, .ref h3, .ref h5, .ref h7, .ref g4, .ref g5, .ref g6, .int p0]), (h1, oC 7 [.ref h2, .int p1]), (h2, aJ Y 6 f0), (h3, oC 3 [.ref h4, .int p2]), (h4, aI Y 80 f1), (h5, oC 3 [.ref h6, .int p3]), (h6, aI Y 80 f2), (h7, oC 7 [.ref h8, .int p4]), (h8, aJ Y 80 f3)] rfl ?_
        rcases w26 with rfl | rfl
        ·
          refine V_if_eq_t 35 B 41 dX0_placeByForce_35 (by decide) (by decide +kernel) ?_
          refine V_aload_n 41 B dX0_placeByForce_41 1 rfl ?_
          refine V_get 42 B gf_RX0_36 0 rfl rfl dX0_placeByForce_42 ?_
          refine V_gvi 45 B envX EB (st := []) (As := []) (fun sz => sX1_size_1 l D Y h3 h4 p2 sz) glV_RX0_91 ⟨rfl, rfl⟩ ⟨(Nat.le_of_ble_eq_true rfl), (Nat.le_of_ble_eq_true rfl)⟩ ⟨(Nat.le_of_ble_eq_true rfl), (Nat.le_of_ble_eq_true rfl)⟩ [3] rfl 3 0 rfl rfl rfl rfl (Nat.le_of_ble_eq_true rfl) rfl (fun _ _ _ => rfl) dX0_placeByForce_45 (fun j27 u28 w29 => ?_)
          refine V_ws [(h0, oC 2 [.ref g0, .ref g1, .ref g2, .ref g3, .ref h1, .ref h3, .ref h5, .ref h7, .ref g4, .ref g5, .ref g6, .int p0]), (h1, oC 7 [.ref h2, .int p1]), (h2, aJ Y 6 f0), (h3, oC 3 [.ref h4, .int p2]), (h4, aI Y 80 f1), (h5, oC 3 [.ref h6, .int p3]), (h6, aI Y 80 f2), (h7, oC 7 [.ref h8, .int p4]), (h8, aJ Y 80 f3)] rfl ?_
          refine V_iconst 48 B (v := 1) dX0_placeByForce_48 (by decide +kernel) ?_
          refine V_isub 49 B dX0_placeByForce_49 rfl ?_
          refine V_nmi (fun j30 _ => ?_)
          refine V_istore 50 B (lv2 := [(6, .int j30), (5, .int 0), (0, .ref h0), (1, .int p5), (2, .int p6), (3, .long p7)]) dX0_placeByForce_50 (by decide) rfl ?_
          refine V_wloop (α := UU) (fun a => (((a.1 0)).toInt + 1).toNat) (fun a => True) (fun a => [(6, .int (a.1 0)), (5, .int 0), (0, .ref h0), (1, .int p5), (2, .int p6), (3, .long p7)]) (fun a => [(h0, oC 2 [.ref g0, .ref g1, .ref g2, .ref g3, .ref h1, .ref h3, .ref h5, .ref h7, .ref g4, .ref g5, .ref g6, .int p0]), (h1, oC 7 [.ref h2, .int p1]), (h2, aJ Y 6 f0), (h3, oC 3 [.ref h4, .int (a.1 1)]), (h4, aI Y 80 (a.2.2.1 0)), (h5, oC 3 [.ref h6, .int (a.1 2)]), (h6, aI Y 80 (a.2.2.1 1)), (h7, oC 7 [.ref h8, .int (a.1 3)]), (h8, aJ Y 80 (a.2.2.2.1 0))]) (mkU [j30, p2, p3, p4] [] [f1, f2] [f3] []) trivial rfl rfl (fun a31 hI33 IH32 => ?_)
          refine V_lv [(6, .int (a31.1 0)), (5, .int 0), (0, .ref h0), (1, .int p5), (2, .int p6), (3, .long p7)] [0, 1, 2, 3, 4, 5] rfl ?_
          refine V_ws [(h0, oC 2 [.ref g0, .ref g1, .ref g2, .ref g3, .ref h1, .ref h3, .ref h5, .ref h7, .ref g4, .ref g5, .ref g6, .int p0]), (h1, oC 7 [.ref h2, .int p1]), (h2, aJ Y 6 f0), (h3, oC 3 [.ref h4, .int (a31.1 1)]), (h4, aI Y 80 (a31.2.2.1 0)), (h5, oC 3 [.ref h6, .int (a31.1 2)]), (h6, aI Y 80 (a31.2.2.1 1)), (h7, oC 7 [.ref h8, .int (a31.1 3)]), (h8, aJ Y 80 (a31.2.2.2.1 0))] rfl ?_
          refine V_iload 52 B dX0_placeByForce_52 0 rfl ?_
          refine V_if_lt 54 B 80 dX0_placeByForce_54 (by decide) (fun k34 => ?_) (fun k34 => ?_)
          ·
            refine V_aload_n 80 B dX0_placeByForce_80 2 rfl ?_
            refine V_iload_n 81 B dX0_placeByForce_81 3 rfl ?_
            refine V_iload_n 82 B dX0_placeByForce_82 4 rfl ?_
            refine V_lload_n 83 B dX0_placeByForce_83 5 rfl ?_
            refine V_gvv 84 B envX EB (st := []) (As := [.int p5, .int p6, .long p7]) (fun sz => sX0_appendBinding_1 l D Y h0 h3 h4 h5 h6 h7 h8 g0 g1 g2 g3 h1 g4 g5 g6 p0 (a31.1 1) (a31.2.2.1 0) (a31.1 2) (a31.2.2.1 1) (a31.1 3) (a31.2.2.2.1 0) p5 p6 p7 sz) glV_RX0_134 ⟨rfl, rfl⟩ ⟨(Nat.le_of_ble_eq_true rfl), (Nat.le_of_ble_eq_true rfl)⟩ ⟨(Nat.le_of_ble_eq_true rfl), (Nat.le_of_ble_eq_true rfl)⟩ [0, 2, 0, 0, 0, 0, 0] rfl 2 0 rfl rfl rfl rfl (Nat.le_of_ble_eq_true rfl) rfl (fun _ _ => rfl) dX0_placeByForce_84 (fun u36 w37 => ?_)
            refine V_ws [(h0, oC 2 [.ref g0, .ref g1, .ref g2, .ref g3, .ref h1, .ref h3, .ref h5, .ref h7, .ref g4, .ref g5, .ref g6, .int p0]), (h1, oC 7 [.ref h2, .int p1]), (h2, aJ Y 6 f0), (h3, oC 3 [.ref h4, .int (u36.1 0)]), (h4, aI Y 80 (u36.2.2.1 0)), (h5, oC 3 [.ref h6, .int (u36.1 1)]), (h6, aI Y 80 (u36.2.2.1 1)), (h7, oC 7 [.ref h8, .int (u36.1 2)]), (h8, aJ Y 80 (u36.2.2.2.1 0))] rfl ?_
            refine V_iload 87 B dX0_placeByForce_87 1 rfl ?_
            exact V_iret 89 B dX0_placeByForce_89 (mkU [(u36.1 0), (u36.1 1), (u36.1 2)] [] [(u36.2.2.1 0), (u36.2.2.1 1)] [(u36.2.2.2.1 0)] []) trivial rfl
          ·
            refine V_aload_n 57 B dX0_placeByForce_57 2 rfl ?_
            refine V_iload 58 B dX0_placeByForce_58 0 rfl ?_
            refine V_iload_n 60 B dX0_placeByForce_60 3 rfl ?_
            refine V_lload_n 61 B dX0_placeByForce_61 5 rfl ?_
            refine V_gvi 62 B envX EB (st := []) (As := [.int (a31.1 0), .int p5, .long p7]) (fun sz => sX0_isOwnClash_1 l D Y h0 h3 h4 h7 h8 g0 g1 g2 g3 h1 h5 g4 g5 g6 p0 (a31.1 1) (a31.2.2.1 0) (a31.1 3) (a31.2.2.2.1 0) (a31.1 0) p5 p7 sz) glV_RX0_115 ⟨rfl, rfl⟩ ⟨(Nat.le_of_ble_eq_true rfl), (Nat.le_of_ble_eq_true rfl)⟩ ⟨(Nat.le_of_ble_eq_true rfl), (Nat.le_of_ble_eq_true rfl)⟩ [0, 2, 0, 2, 0] rfl 2 0 rfl rfl rfl rfl (Nat.le_of_ble_eq_true rfl) rfl (fun _ _ _ => rfl) dX0_placeByForce_62 (fun j38 u39 w40 => ?_)
            refine V_ws [(h0, oC 2 [.ref g0, .ref g1, .ref g2, .ref g3, .ref h1, .ref h3, .ref h5, .ref h7, .ref g4, .ref g5, .ref g6, .int p0]), (h1, oC 7 [.ref h2, .int p1]), (h2, aJ Y 6 f0), (h3, oC 3 [.ref h4, .int (a31.1 1)]), (h4, aI Y 80 (a31.2.2.1 0)), (h5, oC 3 [.ref h6, .int (a31.1 2)]), (h6, aI Y 80 (a31.2.2.1 1)), (h7, oC 7 [.ref h8, .int (a31.1 3)]), (h8, aJ Y 80 (a31.2.2.2.1 0))] rfl ?_
            rcases w40 with rfl | rfl
            ·
              refine V_if_eq_t 65 B 74 dX0_placeByForce_65 (by decide) (by decide +kernel) ?_
              refine V_iinc 74 B (v := ((a31.1 0) + Int32.ofInt (-1))) (lv2 := [(6, .int ((a31.1 0) + Int32.ofInt (-1))), (5, .int 0), (0, .ref h0), (1, .int p5), (2, .int p6), (3, .long p7)]) dX0_placeByForce_74 0 rfl rfl (by decide) rfl ?_
              refine V_goto 77 B 52 dX0_placeByForce_77 (by decide) ?_
              refine V_lv [(6, .int ((a31.1 0) + Int32.ofInt (-1))), (5, .int 0), (0, .ref h0), (1, .int p5), (2, .int p6), (3, .long p7)] [0, 1, 2, 3, 4, 5] rfl ?_
              exact IH32 (mkU [((a31.1 0) + Int32.ofInt (-1)), (a31.1 1), (a31.1 2), (a31.1 3)] [] [(a31.2.2.1 0), (a31.2.2.1 1)] [(a31.2.2.2.1 0)] []) trivial (dn_dec (x := (a31.1 0)) (c := Int32.ofInt (-1)) (k := 1) (by decide +kernel) (by decide) (by decide) (b_nlt k34 (n := 0) (by decide +kernel)) (by decide) (i_hi (a31.1 0)) (by decide))
            ·
              refine V_if_eq_f 65 B 74 dX0_placeByForce_65 (by decide) (by decide +kernel) ?_
              refine V_aload_n 68 B dX0_placeByForce_68 2 rfl ?_
              refine V_iload 69 B dX0_placeByForce_69 0 rfl ?_
              refine V_gvv 71 B envX EB (st := []) (As := [.int (a31.1 0)]) (fun sz => sX0_removeBinding_1 l D Y h0 h3 h4 h5 h6 h7 h8 g0 g1 g2 g3 h1 g4 g5 g6 p0 (a31.1 1) (a31.2.2.1 0) (a31.1 2) (a31.2.2.1 1) (a31.1 3) (a31.2.2.2.1 0) (a31.1 0) sz) glV_RX0_142 ⟨rfl, rfl⟩ ⟨(Nat.le_of_ble_eq_true rfl), (Nat.le_of_ble_eq_true rfl)⟩ ⟨(Nat.le_of_ble_eq_true rfl), (Nat.le_of_ble_eq_true rfl)⟩ [0, 2, 0, 0, 0, 0, 0] rfl 2 0 rfl rfl rfl rfl (Nat.le_of_ble_eq_true rfl) rfl (fun _ _ => rfl) dX0_placeByForce_71 (fun u42 w43 => ?_)
              refine V_ws [(h0, oC 2 [.ref g0, .ref g1, .ref g2, .ref g3, .ref h1, .ref h3, .ref h5, .ref h7, .ref g4, .ref g5, .ref g6, .int p0]), (h1, oC 7 [.ref h2, .int p1]), (h2, aJ Y 6 f0), (h3, oC 3 [.ref h4, .int (u42.1 0)]), (h4, aI Y 80 (u42.2.2.1 0)), (h5, oC 3 [.ref h6, .int (u42.1 1)]), (h6, aI Y 80 (u42.2.2.1 1)), (h7, oC 7 [.ref h8, .int (u42.1 2)]), (h8, aJ Y 80 (u42.2.2.2.1 0))] rfl ?_
              refine V_iinc 74 B (v := ((a31.1 0) + Int32.ofInt (-1))) (lv2 := [(6, .int ((a31.1 0) + Int32.ofInt (-1))), (5, .int 0), (0, .ref h0), (1, .int p5), (2, .int p6), (3, .long p7)]) dX0_placeByForce_74 0 rfl rfl (by decide) rfl ?_
              refine V_goto 77 B 52 dX0_placeByForce_77 (by decide) ?_
              refine V_lv [(6, .int ((a31.1 0) + Int32.ofInt (-1))), (5, .int 0), (0, .ref h0), (1, .int p5), (2, .int p6), (3, .long p7)] [0, 1, 2, 3, 4, 5] rfl ?_
              exact IH32 (mkU [((a31.1 0) + Int32.ofInt (-1)), (u42.1 0), (u42.1 1), (u42.1 2)] [] [(u42.2.2.1 0), (u42.2.2.1 1)] [(u42.2.2.2.1 0)] []) trivial (dn_dec (x := (a31.1 0)) (c := Int32.ofInt (-1)) (k := 1) (by decide +kernel) (by decide) (by decide) (b_nlt k34 (n := 0) (by decide +kernel)) (by decide) (i_hi (a31.1 0)) (by decide))
        ·
          refine V_if_eq_f 35 B 41 dX0_placeByForce_35 (by decide) (by decide +kernel) ?_
          refine V_bipush 38 B (v := (-2)) dX0_placeByForce_38 (by decide +kernel) ?_
          exact V_iret 40 B dX0_placeByForce_40 (mkU [p2, p3, p4] [] [f1, f2] [f3] []) trivial rfl
    ·
      refine V_if_eq_f 8 B 15 dX0_placeByForce_8 (by decide) (by decide +kernel) ?_
      refine V_sipush 11 B (v := (-1000)) dX0_placeByForce_11 (by decide +kernel) ?_
      exact V_iret 14 B dX0_placeByForce_14 (mkU [p2, p3, p4] [] [f1, f2] [f3] []) trivial rfl)
theorem glV_RX11_234 : GLV RX11 234 yX0_placeByForce RX0 cX0_placeByForce 7 (some .int) 3 := ⟨⟨(mT5 216 rfl rfl), (mT4 220 rfl rfl), (mT4 221 rfl rfl), (mT1 2 rfl rfl), (mT4 222 rfl rfl)⟩, by decide +kernel⟩
theorem dX11_force_37 : decode cX11_force 37 = .ok (.ireturn, 1) := by decide +kernel
theorem dX11_force_19 : decode cX11_force 19 = .ok (.bipush (-4), 2) := by decide +kernel
theorem dX11_force_21 : decode cX11_force 21 = .ok (.goto 16, 3) := by decide +kernel
set_option maxRecDepth 100000 in
set_option maxHeartbeats 4000000 in
theorem sX11_force_1 (l : Launch) (hl9 : l.stackTraces = false) (D : va_G) (Y : Nat → ClassId) (h0 : Nat) (h1 : Nat) (h2 : Nat) (h3 : Nat) (h4 : Nat) (h5 : Nat) (h6 : Nat) (h7 : Nat) (h8 : Nat) (h9 : Nat) (h10 : Nat) (h11 : Nat) (g0 : Nat) (g1 : Nat) (g2 : Nat) (g3 : Nat) (g4 : Nat) (g5 : Nat) (g6 : Nat) (g7 : Nat) (g8 : Nat) (g9 : Nat) (g10 : Nat) (g11 : Nat) (g12 : Nat) (g13 : Nat) (g14 : Nat) (p0 : Int64) (p1 : Int32) (p2 : Int32) (p3 : Int32) (p4 : Int32) (f0 : Nat → Int64) (p5 : Int32) (f1 : Nat → Int32) (p6 : Int32) (f2 : Nat → Int32) (p7 : Int32) (f3 : Nat → Int64) (p8 : Int32) (p9 : Int32) (sz : Nat) : vx_Met l yX11_force (WSm yX11_force cX11_force 3 (some .int)) (mkR 7 2 12 103) (PreX D Y [.ref h0, .int p8, .int p9] [(h0, oC 12 [.ref h1, .ref g0, .ref g1, .ref g2, .ref g3, .ref g4, .ref g5, .ref g6, .ref g7, .long p0]), (h1, oC 2 [.ref h2, .ref h3, .ref g8, .ref g9, .ref h4, .ref h6, .ref h8, .ref h10, .ref g10, .ref g11, .ref g12, .int p1]), (h2, oC 3 [.ref g13, .int p2]), (h3, oC 3 [.ref g14, .int p3]), (h4, oC 7 [.ref h5, .int p4]), (h5, aJ Y 6 f0), (h6, oC 3 [.ref h7, .int p5]), (h7, aI Y 80 f1), (h8, oC 3 [.ref h9, .int p6]), (h9, aI Y 80 f2), (h10, oC 7 [.ref h11, .int p7]), (h11, aJ Y 80 f3)] sz) (QI D (fun (_ : Int32) (_ : UU) => True) (fun (u : UU) => [(h0, oC 12 [.ref h1, .ref g0, .ref g1, .ref g2, .ref g3, .ref g4, .ref g5, .ref g6, .ref g7, .long p0]), (h1, oC 2 [.ref h2, .ref h3, .ref g8, .ref g9, .ref h4, .ref h6, .ref h8, .ref h10, .ref g10, .ref g11, .ref g12, .int p1]), (h2, oC 3 [.ref g13, .int p2]), (h3, oC 3 [.ref g14, .int p3]), (h4, oC 7 [.ref h5, .int p4]), (h5, aJ Y 6 f0), (h6, oC 3 [.ref h7, .int (u.1 0)]), (h7, aI Y 80 (u.2.2.1 0)), (h8, oC 3 [.ref h9, .int (u.1 1)]), (h9, aI Y 80 (u.2.2.1 1)), (h10, oC 7 [.ref h11, .int (u.1 2)]), (h11, aJ Y 80 (u.2.2.2.1 0))]) (va_A [(h0, oC 12 [.ref h1, .ref g0, .ref g1, .ref g2, .ref g3, .ref g4, .ref g5, .ref g6, .ref g7, .long p0]), (h1, oC 2 [.ref h2, .ref h3, .ref g8, .ref g9, .ref h4, .ref h6, .ref h8, .ref h10, .ref g10, .ref g11, .ref g12, .int p1]), (h2, oC 3 [.ref g13, .int p2]), (h3, oC 3 [.ref g14, .int p3]), (h4, oC 7 [.ref h5, .int p4]), (h5, aJ Y 6 f0), (h6, oC 3 [.ref h7, .int p5]), (h7, aI Y 80 f1), (h8, oC 3 [.ref h9, .int p6]), (h9, aI Y 80 f2), (h10, oC 7 [.ref h11, .int p7]), (h11, aJ Y 80 f3)] sz)) (XW D (fun (E : String) (_ : UU) => E = "java/lang/IndexOutOfBoundsException") (fun (u : UU) => [(h0, oC 12 [.ref h1, .ref g0, .ref g1, .ref g2, .ref g3, .ref g4, .ref g5, .ref g6, .ref g7, .long p0]), (h1, oC 2 [.ref h2, .ref h3, .ref g8, .ref g9, .ref h4, .ref h6, .ref h8, .ref h10, .ref g10, .ref g11, .ref g12, .int p1]), (h2, oC 3 [.ref g13, .int p2]), (h3, oC 3 [.ref g14, .int p3]), (h4, oC 7 [.ref h5, .int p4]), (h5, aJ Y 6 f0), (h6, oC 3 [.ref h7, .int (u.1 0)]), (h7, aI Y 80 (u.2.2.1 0)), (h8, oC 3 [.ref h9, .int (u.1 1)]), (h9, aI Y 80 (u.2.2.1 1)), (h10, oC 7 [.ref h11, .int (u.1 2)]), (h11, aJ Y 80 (u.2.2.2.1 0))]) (va_A [(h0, oC 12 [.ref h1, .ref g0, .ref g1, .ref g2, .ref g3, .ref g4, .ref g5, .ref g6, .ref g7, .long p0]), (h1, oC 2 [.ref h2, .ref h3, .ref g8, .ref g9, .ref h4, .ref h6, .ref h8, .ref h10, .ref g10, .ref g11, .ref g12, .int p1]), (h2, oC 3 [.ref g13, .int p2]), (h3, oC 3 [.ref g14, .int p3]), (h4, oC 7 [.ref h5, .int p4]), (h5, aJ Y 6 f0), (h6, oC 3 [.ref h7, .int p5]), (h7, aI Y 80 f1), (h8, oC 3 [.ref h9, .int p6]), (h9, aI Y 80 f2), (h10, oC 7 [.ref h11, .int p7]), (h11, aJ Y 80 f3)] sz)) 2 12 (va_A [(h0, oC 12 [.ref h1, .ref g0, .ref g1, .ref g2, .ref g3, .ref g4, .ref g5, .ref g6, .ref g7, .long p0]), (h1, oC 2 [.ref h2, .ref h3, .ref g8, .ref g9, .ref h4, .ref h6, .ref h8, .ref h10, .ref g10, .ref g11, .ref g12, .int p1]), (h2, oC 3 [.ref g13, .int p2]), (h3, oC 3 [.ref g14, .int p3]), (h4, oC 7 [.ref h5, .int p4]), (h5, aJ Y 6 f0), (h6, oC 3 [.ref h7, .int p5]), (h7, aI Y 80 f1), (h8, oC 3 [.ref h9, .int p6]), (h9, aI Y 80 f2), (h10, oC 7 [.ref h11, .int p7]), (h11, aJ Y 80 f3)] sz) :=
  xmet_of (by decide +kernel) (Nat.le_of_ble_eq_true rfl) (fun p e s m args below meth c B EB hout hsz => by
    have B : VB p s m args meth c D Y (va_A [(h0, oC 12 [.ref h1, .ref g0, .ref g1, .ref g2, .ref g3, .ref g4, .ref g5, .ref g6, .ref g7, .long p0]), (h1, oC 2 [.ref h2, .ref h3, .ref g8, .ref g9, .ref h4, .ref h6, .ref h8, .ref h10, .ref g10, .ref g11, .ref g12, .int p1]), (h2, oC 3 [.ref g13, .int p2]), (h3, oC 3 [.ref g14, .int p3]), (h4, oC 7 [.ref h5, .int p4]), (h5, aJ Y 6 f0), (h6, oC 3 [.ref h7, .int p5]), (h7, aI Y 80 f1), (h8, oC 3 [.ref h9, .int p6]), (h9, aI Y 80 f2), (h10, oC 7 [.ref h11, .int p7]), (h11, aJ Y 80 f3)] sz) cX11_force 3 RX11 (some .int) := B
    refine V_aload_n 0 B dX11_force_0 0 rfl ?_
    refine V_iload_n 1 B dX11_force_1 1 rfl ?_
    refine V_xvv 2 B EB (st := []) (As := [.int p8]) (fun sz => sX11_needMode_1 l hl9 D Y h0 h1 h2 g0 g1 g2 g3 g4 g5 g6 g7 h3 g8 g9 h4 h6 h8 h10 g10 g11 g12 g13 p0 p1 p2 p8 sz) glV_RX11_180 ⟨rfl, rfl⟩ ⟨(Nat.le_of_ble_eq_true rfl), (Nat.le_of_ble_eq_true rfl)⟩ ⟨(Nat.le_of_ble_eq_true rfl), (Nat.le_of_ble_eq_true rfl)⟩ [0, 0, 0] rfl 12 0 rfl rfl rfl rfl (Nat.le_of_ble_eq_true rfl) rfl (fun _ _ => rfl) (fun _ _ _ => rfl) dX11_force_2 (fun E u1 w2 => ?_) (fun u1 w2 => ?_)
    ·
      obtain rfl := w2
      exact VX_out 2 B hout (mkU [p5, p6, p7] [] [f1, f2] [f3] []) rfl rfl (Nat.le_of_ble_eq_true rfl) (Nat.le_of_ble_eq_true rfl)
    ·
      refine V_ws [(h0, oC 12 [.ref h1, .ref g0, .ref g1, .ref g2, .ref g3, .ref g4, .ref g5, .ref g6, .ref g7, .long p0]), (h1, oC 2 [.ref h2, .ref h3, .ref g8, .ref g9, .ref h4, .ref h6, .ref h8, .ref h10, .ref g10, .ref g11, .ref g12, .int p1]), (h2, oC 3 [.ref g13, .int p2]), (h3, oC 3 [.ref g14, .int p3]), (h4, oC 7 [.ref h5, .int p4]), (h5, aJ Y 6 f0), (h6, oC 3 [.ref h7, .int p5]), (h7, aI Y 80 f1), (h8, oC 3 [.ref h9, .int p6]), (h9, aI Y 80 f2), (h10, oC 7 [.ref h11, .int p7]), (h11, aJ Y 80 f3)] rfl ?_
      refine V_aload_n 5 B dX11_force_5 0 rfl ?_
      refine V_iload_n 6 B dX11_force_6 2 rfl ?_
      refine V_xvv 7 B EB (st := []) (As := [.int p9]) (fun sz => sX11_needCommand_1 l hl9 D Y h0 h1 h3 g0 g1 g2 g3 g4 g5 g6 g7 h2 g8 g9 h4 h6 h8 h10 g10 g11 g12 g14 p0 p1 p3 p9 sz) glV_RX11_204 ⟨rfl, rfl⟩ ⟨(Nat.le_of_ble_eq_true rfl), (Nat.le_of_ble_eq_true rfl)⟩ ⟨(Nat.le_of_ble_eq_true rfl), (Nat.le_of_ble_eq_true rfl)⟩ [0, 0, 1] rfl 12 0 rfl rfl rfl rfl (Nat.le_of_ble_eq_true rfl) rfl (fun _ _ => rfl) (fun _ _ _ => rfl) dX11_force_7 (fun E u4 w5 => ?_) (fun u4 w5 => ?_)
      ·
        obtain rfl := w5
        exact VX_out 7 B hout (mkU [p5, p6, p7] [] [f1, f2] [f3] []) rfl rfl (Nat.le_of_ble_eq_true rfl) (Nat.le_of_ble_eq_true rfl)
      ·
        refine V_ws [(h0, oC 12 [.ref h1, .ref g0, .ref g1, .ref g2, .ref g3, .ref g4, .ref g5, .ref g6, .ref g7, .long p0]), (h1, oC 2 [.ref h2, .ref h3, .ref g8, .ref g9, .ref h4, .ref h6, .ref h8, .ref h10, .ref g10, .ref g11, .ref g12, .int p1]), (h2, oC 3 [.ref g13, .int p2]), (h3, oC 3 [.ref g14, .int p3]), (h4, oC 7 [.ref h5, .int p4]), (h5, aJ Y 6 f0), (h6, oC 3 [.ref h7, .int p5]), (h7, aI Y 80 f1), (h8, oC 3 [.ref h9, .int p6]), (h9, aI Y 80 f2), (h10, oC 7 [.ref h11, .int p7]), (h11, aJ Y 80 f3)] rfl ?_
        refine V_aload_n 10 B dX11_force_10 0 rfl ?_
        refine V_get 11 B gf_RX11_68 0 rfl rfl dX11_force_11 ?_
        refine V_lconst 14 B (v := 0) dX11_force_14 (by decide +kernel) ?_
        refine V_lcmp 15 B dX11_force_15 rfl ?_
        refine V_nmi (fun j6 _ => ?_)
        refine V_if_ne 16 B 24 dX11_force_16 (by decide) (fun k7 => ?_) (fun k7 => ?_)
        ·
          refine V_aload_n 24 B dX11_force_24 0 rfl ?_
          refine V_get 25 B gf_RX11_10 0 rfl rfl dX11_force_25 ?_
          refine V_iload_n 28 B dX11_force_28 1 rfl ?_
          refine V_iload_n 29 B dX11_force_29 2 rfl ?_
          refine V_aload_n 30 B dX11_force_30 0 rfl ?_
          refine V_get 31 B gf_RX11_68 0 rfl rfl dX11_force_31 ?_
          refine V_gvi 34 B envX EB (st := []) (As := [.int p8, .int p9, .long p0]) (fun sz => sX0_placeByForce_1 l D Y h1 h4 h5 h6 h7 h8 h9 h10 h11 h2 h3 g8 g9 g10 g11 g12 p1 p4 f0 p5 f1 p6 f2 p7 f3 p8 p9 p0 sz) glV_RX11_234 ⟨rfl, rfl⟩ ⟨(Nat.le_of_ble_eq_true rfl), (Nat.le_of_ble_eq_true rfl)⟩ ⟨(Nat.le_of_ble_eq_true rfl), (Nat.le_of_ble_eq_true rfl)⟩ [1, 2, 0, 0, 0, 0, 0, 0, 0] rfl 2 0 rfl rfl rfl rfl (Nat.le_of_ble_eq_true rfl) rfl (fun _ _ _ => rfl) dX11_force_34 (fun j8 u9 w10 => ?_)
          refine V_ws [(h0, oC 12 [.ref h1, .ref g0, .ref g1, .ref g2, .ref g3, .ref g4, .ref g5, .ref g6, .ref g7, .long p0]), (h1, oC 2 [.ref h2, .ref h3, .ref g8, .ref g9, .ref h4, .ref h6, .ref h8, .ref h10, .ref g10, .ref g11, .ref g12, .int p1]), (h2, oC 3 [.ref g13, .int p2]), (h3, oC 3 [.ref g14, .int p3]), (h4, oC 7 [.ref h5, .int p4]), (h5, aJ Y 6 f0), (h6, oC 3 [.ref h7, .int (u9.1 0)]), (h7, aI Y 80 (u9.2.2.1 0)), (h8, oC 3 [.ref h9, .int (u9.1 1)]), (h9, aI Y 80 (u9.2.2.1 1)), (h10, oC 7 [.ref h11, .int (u9.1 2)]), (h11, aJ Y 80 (u9.2.2.2.1 0))] rfl ?_
          refine V_xret ?_
          refine V_widen (k := 2) (n := 12) (Nat.le_of_ble_eq_true rfl) (Nat.le_of_ble_eq_true rfl) ?_
          exact V_iret 37 B dX11_force_37 (mkU [(u9.1 0), (u9.1 1), (u9.1 2)] [] [(u9.2.2.1 0), (u9.2.2.1 1)] [(u9.2.2.2.1 0)] []) trivial rfl
        ·
          obtain rfl : j6 = 0 := k7
          refine V_bipush 19 B (v := (-4)) dX11_force_19 (by decide +kernel) ?_
          refine V_goto 21 B 37 dX11_force_21 (by decide) ?_
          refine V_xret ?_
          refine V_widen (k := 2) (n := 12) (Nat.le_of_ble_eq_true rfl) (Nat.le_of_ble_eq_true rfl) ?_
          exact V_iret 37 B dX11_force_37 (mkU [p5, p6, p7] [] [f1, f2] [f3] []) trivial rfl)
theorem dX11_move_0 : decode cX11_move 0 = .ok (.aload_n 0, 1) := by decide +kernel
theorem dX11_move_1 : decode cX11_move 1 = .ok (.iload_n 1, 1) := by decide +kernel
theorem dX11_move_2 : decode cX11_move 2 = .ok (.invokevirtual 167, 3) := by decide +kernel
theorem dX11_move_5 : decode cX11_move 5 = .ok (.aload_n 0, 1) := by decide +kernel
theorem dX11_move_6 : decode cX11_move 6 = .ok (.getfield 68, 3) := by decide +kernel
theorem dX11_move_9 : decode cX11_move 9 = .ok (.lconst 0, 1) := by decide +kernel
theorem dX11_move_10 : decode cX11_move 10 = .ok (.lcmp, 1) := by decide +kernel
theorem dX11_move_11 : decode cX11_move 11 = .ok (.ifCond .ne 8, 3) := by decide +kernel
theorem dX11_move_19 : decode cX11_move 19 = .ok (.aload_n 0, 1) := by decide +kernel
theorem dX11_move_20 : decode cX11_move 20 = .ok (.getfield 10, 3) := by decide +kernel
theorem dX11_move_23 : decode cX11_move 23 = .ok (.iload_n 1, 1) := by decide +kernel
theorem dX11_move_24 : decode cX11_move 24 = .ok (.aload_n 0, 1) := by decide +kernel
theorem dX11_move_25 : decode cX11_move 25 = .ok (.getfield 68, 3) := by decide +kernel
theorem dX11_move_28 : decode cX11_move 28 = .ok (.invokevirtual 237, 3) := by decide +kernel
theorem dX0_replaceSequence_0 : decode cX0_replaceSequence 0 = .ok (.aload_n 0, 1) := by decide +kernel
theorem dX0_replaceSequence_1 : decode cX0_replaceSequence 1 = .ok (.getfield 36, 3) := by decide +kernel
theorem dX0_replaceSequence_4 : decode cX0_replaceSequence 4 = .ok (.iload_n 1, 1) := by decide +kernel
theorem dX0_replaceSequence_5 : decode cX0_replaceSequence 5 = .ok (.invokevirtual 102, 3) := by decide +kernel
theorem dX0_replaceSequence_8 : decode cX0_replaceSequence 8 = .ok (.istore 4, 2) := by decide +kernel
theorem dX0_replaceSequence_10 : decode cX0_replaceSequence 10 = .ok (.aload_n 0, 1) := by decide +kernel
theorem dX0_replaceSequence_11 : decode cX0_replaceSequence 11 = .ok (.getfield 32, 3) := by decide +kernel
theorem dX0_replaceSequence_14 : decode cX0_replaceSequence 14 = .ok (.lload_n 2, 1) := by decide +kernel
theorem dX0_replaceSequence_15 : decode cX0_replaceSequence 15 = .ok (.invokevirtual 119, 3) := by decide +kernel
theorem dX0_replaceSequence_18 : decode cX0_replaceSequence 18 = .ok (.ifCond .ne 15, 3) := by decide +kernel
theorem dX0_replaceSequence_21 : decode cX0_replaceSequence 21 = .ok (.aload_n 0, 1) := by decide +kernel
theorem dX0_replaceSequence_22 : decode cX0_replaceSequence 22 = .ok (.iload 4, 2) := by decide +kernel
theorem dX0_replaceSequence_24 : decode cX0_replaceSequence 24 = .ok (.lload_n 2, 1) := by decide +kernel
theorem dX0_replaceSequence_25 : decode cX0_replaceSequence 25 = .ok (.iload_n 1, 1) := by decide +kernel
theorem dX0_replaceSequence_26 : decode cX0_replaceSequence 26 = .ok (.invokevirtual 122, 3) := by decide +kernel
theorem dX0_replaceSequence_29 : decode cX0_replaceSequence 29 = .ok (.iconst (-1), 1) := by decide +kernel
theorem dX0_replaceSequence_30 : decode cX0_replaceSequence 30 = .ok (.if_icmp .eq 7, 3) := by decide +kernel
theorem dX0_replaceSequence_37 : decode cX0_replaceSequence 37 = .ok (.aload_n 0, 1) := by decide +kernel
theorem dX0_replaceSequence_38 : decode cX0_replaceSequence 38 = .ok (.getfield 42, 3) := by decide +kernel
theorem dX0_replaceSequence_41 : decode cX0_replaceSequence 41 = .ok (.iload_n 1, 1) := by decide +kernel
theorem dX0_replaceSequence_42 : decode cX0_replaceSequence 42 = .ok (.lload_n 2, 1) := by decide +kernel
theorem dX0_replaceSequence_43 : decode cX0_replaceSequence 43 = .ok (.invokevirtual 145, 3) := by decide +kernel
theorem dX5_put_0 : decode cX5_put 0 = .ok (.iload_n 1, 1) := by decide +kernel
theorem dX5_put_1 : decode cX5_put 1 = .ok (.ifCond .lt 27, 3) := by decide +kernel
theorem dX5_put_28 : decode cX5_put 28 = .ok (.return_, 1) := by decide +kernel
theorem dX5_put_4 : decode cX5_put 4 = .ok (.iload_n 1, 1) := by decide +kernel
theorem dX5_put_5 : decode cX5_put 5 = .ok (.aload_n 0, 1) := by decide +kernel
theorem dX5_put_6 : decode cX5_put 6 = .ok (.getfield 19, 3) := by decide +kernel
theorem dX5_put_9 : decode cX5_put 9 = .ok (.if_icmp .ge 19, 3) := by decide +kernel
theorem dX5_put_12 : decode cX5_put 12 = .ok (.iload_n 1, 1) := by decide +kernel
theorem dX5_put_13 : decode cX5_put 13 = .ok (.aload_n 0, 1) := by decide +kernel
theorem dX5_put_14 : decode cX5_put 14 = .ok (.getfield 13, 3) := by decide +kernel
theorem dX5_put_17 : decode cX5_put 17 = .ok (.arraylength, 1) := by decide +kernel
theorem dX5_put_18 : decode cX5_put 18 = .ok (.if_icmp .ge 10, 3) := by decide +kernel
theorem dX5_put_21 : decode cX5_put 21 = .ok (.aload_n 0, 1) := by decide +kernel
theorem dX5_put_22 : decode cX5_put 22 = .ok (.getfield 13, 3) := by decide +kernel
theorem dX5_put_25 : decode cX5_put 25 = .ok (.iload_n 1, 1) := by decide +kernel
theorem dX5_put_26 : decode cX5_put 26 = .ok (.lload_n 2, 1) := by decide +kernel
theorem dX5_put_27 : decode cX5_put 27 = .ok (.lastore, 1) := by decide +kernel
set_option maxRecDepth 100000 in
set_option maxHeartbeats 4000000 in
theorem sX5_put_1 (l : Launch) (D : va_G) (Y : Nat → ClassId) (h0 : Nat) (h1 : Nat) (p0 : Int32) (f0 : Nat → Int64) (p1 : Int32) (p2 : Int64) (sz : Nat) : Met l yX5_put (WSm yX5_put cX5_put 4 none) (mkR 0 0 0 0) (PreG EX D Y [.ref h0, .int p1, .long p2] [(h0, oC 7 [.ref h1, .int p0]), (h1, aJ Y 80 f0)] sz) (QV D (fun (_ : UU) => True) (fun (u : UU) => [(h0, oC 7 [.ref h1, .int p0]), (h1, aJ Y 80 (u.2.2.2.1 0))]) (va_A [(h0, oC 7 [.ref h1, .int p0]), (h1, aJ Y 80 f0)] sz)) 0 0 (va_A [(h0, oC 7 [.ref h1, .int p0]), (h1, aJ Y 80 f0)] sz) :=
  gmet_of (by decide +kernel) (Nat.le_of_ble_eq_true rfl) (fun p e s m args below meth c B EB hsz => by
    have B : VB p s m args meth c D Y (va_A [(h0, oC 7 [.ref h1, .int p0]), (h1, aJ Y 80 f0)] sz) cX5_put 4 RX5 none := B
    refine V_iload_n 0 B dX5_put_0 1 rfl ?_
    refine V_if_lt 1 B 28 dX5_put_1 (by decide) (fun k0 => ?_) (fun k0 => ?_)
    ·
      exact V_vret 28 B dX5_put_28 (mkU [] [] [] [f0] []) trivial rfl
    ·
      refine V_iload_n 4 B dX5_put_4 1 rfl ?_
      refine V_aload_n 5 B dX5_put_5 0 rfl ?_
      refine V_get 6 B gf_RX5_19 0 rfl rfl dX5_put_6 ?_
      refine V_icmp_ge 9 B 28 dX5_put_9 (by decide) (fun k1 => ?_) (fun k1 => ?_)
      ·
        exact V_vret 28 B dX5_put_28 (mkU [] [] [] [f0] []) trivial rfl
      ·
        refine V_iload_n 12 B dX5_put_12 1 rfl ?_
        refine V_aload_n 13 B dX5_put_13 0 rfl ?_
        refine V_get 14 B gf_RX5_13 0 rfl rfl dX5_put_14 ?_
        refine V_alenJ 17 B (v := 80) 1 rfl (by decide +kernel) dX5_put_17 ?_
        refine V_icmp_ge 18 B 28 dX5_put_18 (by decide) (fun k2 => ?_) (fun k2 => ?_)
        ·
          exact V_vret 28 B dX5_put_28 (mkU [] [] [] [f0] []) trivial rfl
        ·
          refine V_aload_n 21 B dX5_put_21 0 rfl ?_
          refine V_get 22 B gf_RX5_13 0 rfl rfl dX5_put_22 ?_
          refine V_iload_n 25 B dX5_put_25 1 rfl ?_
          refine V_lload_n 26 B dX5_put_26 2 rfl ?_
          refine V_last 27 B 1 rfl (vpin_b (b_nlt k0 (n := 0) (by decide +kernel)) (b_nge k2 (n := 79) (by decide +kernel)) (by decide)) dX5_put_27 [(h0, oC 7 [.ref h1, .int p0]), (h1, aJ Y 80 (vp_updL f0 (p1 : Int32).toNatClampNeg p2))] rfl ?_
          exact V_vret 28 B dX5_put_28 (mkU [] [] [] [(vp_updL f0 (p1 : Int32).toNatClampNeg p2)] []) trivial rfl)
theorem glV_RX0_145 : GLV RX0 145 yX5_put RX5 cX5_put 4 none 2 := ⟨⟨(mT5 228 rfl rfl), (mT5 229 rfl rfl), (mT5 230 rfl rfl), (mT1 5 rfl rfl), (mT5 231 rfl rfl)⟩, by decide +kernel⟩
theorem dX0_replaceSequence_46 : decode cX0_replaceSequence 46 = .ok (.lload_n 2, 1) := by decide +kernel
theorem dX0_replaceSequence_47 : decode cX0_replaceSequence 47 = .ok (.invokestatic 149, 3) := by decide +kernel
theorem glS_RX0_149 : GLS RX0 149 yX6_costOf cX6_costOf 5 (some .int) 1 := ⟨⟨(mT5 232 rfl rfl), (mT3 237 rfl rfl), (mT1 18 rfl rfl), (mT3 238 rfl rfl)⟩, by decide +kernel⟩
theorem dX0_replaceSequence_50 : decode cX0_replaceSequence 50 = .ok (.ireturn, 1) := by decide +kernel
theorem dX0_replaceSequence_33 : decode cX0_replaceSequence 33 = .ok (.sipush (-1000), 3) := by decide +kernel
theorem dX0_replaceSequence_36 : decode cX0_replaceSequence 36 = .ok (.ireturn, 1) := by decide +kernel
set_option maxRecDepth 100000 in
set_option maxHeartbeats 4000000 in
theorem sX0_replaceSequence_1 (l : Launch) (D : va_G) (Y : Nat → ClassId) (h0 : Nat) (h1 : Nat) (h2 : Nat) (h3 : Nat) (h4 : Nat) (h5 : Nat) (h6 : Nat) (g0 : Nat) (g1 : Nat) (g2 : Nat) (g3 : Nat) (g4 : Nat) (g5 : Nat) (g6 : Nat) (g7 : Nat) (p0 : Int32) (p1 : Int32) (f0 : Nat → Int64) (p2 : Int32) (f1 : Nat → Int32) (p3 : Int32) (f2 : Nat → Int64) (p4 : Int32) (p5 : Int64) (sz : Nat) : Met l yX0_replaceSequence (WSm yX0_replaceSequence cX0_replaceSequence 5 (some .int)) (mkR 3 0 0 77) (PreG EX D Y [.ref h0, .int p4, .long p5] [(h0, oC 2 [.ref g0, .ref g1, .ref g2, .ref g3, .ref h1, .ref h3, .ref g4, .ref h5, .ref g5, .ref g6, .ref g7, .int p0]), (h1, oC 7 [.ref h2, .int p1]), (h2, aJ Y 6 f0), (h3, oC 3 [.ref h4, .int p2]), (h4, aI Y 80 f1), (h5, oC 7 [.ref h6, .int p3]), (h6, aJ Y 80 f2)] sz) (QI D (fun (_ : Int32) (_ : UU) => True) (fun (u : UU) => [(h0, oC 2 [.ref g0, .ref g1, .ref g2, .ref g3, .ref h1, .ref h3, .ref g4, .ref h5, .ref g5, .ref g6, .ref g7, .int p0]), (h1, oC 7 [.ref h2, .int p1]), (h2, aJ Y 6 f0), (h3, oC 3 [.ref h4, .int p2]), (h4, aI Y 80 f1), (h5, oC 7 [.ref h6, .int p3]), (h6, aJ Y 80 (u.2.2.2.1 0))]) (va_A [(h0, oC 2 [.ref g0, .ref g1, .ref g2, .ref g3, .ref h1, .ref h3, .ref g4, .ref h5, .ref g5, .ref g6, .ref g7, .int p0]), (h1, oC 7 [.ref h2, .int p1]), (h2, aJ Y 6 f0), (h3, oC 3 [.ref h4, .int p2]), (h4, aI Y 80 f1), (h5, oC 7 [.ref h6, .int p3]), (h6, aJ Y 80 f2)] sz)) 0 0 (va_A [(h0, oC 2 [.ref g0, .ref g1, .ref g2, .ref g3, .ref h1, .ref h3, .ref g4, .ref h5, .ref g5, .ref g6, .ref g7, .int p0]), (h1, oC 7 [.ref h2, .int p1]), (h2, aJ Y 6 f0), (h3, oC 3 [.ref h4, .int p2]), (h4, aI Y 80 f1), (h5, oC 7 [.ref h6, .int p3]), (h6, aJ Y 80 f2)] sz) :=
  gmet_of (by decide +kernel) (Nat.le_of_ble_eq_true rfl) (fun p e s m args below meth c B EB hsz => by
    have B : VB p s m args meth c D Y (va_A [(h0, oC 2 [.ref g0, .ref g1, .ref g2, .ref g3, .ref h1, .ref h3, .ref g4, .ref h5, .ref g5, .ref g6, .ref g7, .int p0]), (h1, oC 7 [.ref h2, .int p1]), (h2, aJ Y 6 f0), (h3, oC 3 [.ref h4, .int p2]), (h4, aI Y 80 f1), (h5, oC 7 [.ref h6, .int p3]), (h6, aJ Y 80 f2)] sz) cX0_replaceSequence 5 RX0 (some .int) := B
    refine V_aload_n 0 B dX0_replaceSequence_0 0 rfl ?_
    refine V_get 1 B gf_RX0_36 0 rfl rfl dX0_replaceSequence_1 ?_
    refine V_iload_n 4 B dX0_replaceSequence_4 1 rfl ?_
    refine V_gvi 5 B envX EB (st := []) (As := [.int p4]) (fun sz => sX1_at_3 l D Y h3 h4 p2 f1 p4 sz) glV_RX0_102 ⟨rfl, rfl⟩ ⟨(Nat.le_of_ble_eq_true rfl), (Nat.le_of_ble_eq_true rfl)⟩ ⟨(Nat.le_of_ble_eq_true rfl), (Nat.le_of_ble_eq_true rfl)⟩ [3, 0] rfl 3 0 rfl rfl rfl rfl (Nat.le_of_ble_eq_true rfl) rfl (fun _ _ _ => rfl) dX0_replaceSequence_5 (fun j0 u1 w2 => ?_)
    refine V_ws [(h0, oC 2 [.ref g0, .ref g1, .ref g2, .ref g3, .ref h1, .ref h3, .ref g4, .ref h5, .ref g5, .ref g6, .ref g7, .int p0]), (h1, oC 7 [.ref h2, .int p1]), (h2, aJ Y 6 f0), (h3, oC 3 [.ref h4, .int p2]), (h4, aI Y 80 f1), (h5, oC 7 [.ref h6, .int p3]), (h6, aJ Y 80 f2)] rfl ?_
    refine V_istore 8 B (lv2 := [(4, .int j0), (0, .ref h0), (1, .int p4), (2, .long p5)]) dX0_replaceSequence_8 (by decide) rfl ?_
    refine V_aload_n 10 B dX0_replaceSequence_10 1 rfl ?_
    refine V_get 11 B gf_RX0_32 0 rfl rfl dX0_replaceSequence_11 ?_
    refine V_lload_n 14 B dX0_replaceSequence_14 3 rfl ?_
    refine V_gvi 15 B envX EB (st := []) (As := [.long p5]) (fun sz => sX5_hasClash_1 l D Y h1 h2 p1 f0 p5 sz) glV_RX0_119 ⟨rfl, rfl⟩ ⟨(Nat.le_of_ble_eq_true rfl), (Nat.le_of_ble_eq_true rfl)⟩ ⟨(Nat.le_of_ble_eq_true rfl), (Nat.le_of_ble_eq_true rfl)⟩ [1, 0] rfl 7 0 rfl rfl rfl rfl (Nat.le_of_ble_eq_true rfl) rfl (fun _ _ _ => rfl) dX0_replaceSequence_15 (fun j3 u4 w5 => ?_)
    refine V_ws [(h0, oC 2 [.ref g0, .ref g1, .ref g2, .ref g3, .ref h1, .ref h3, .ref g4, .ref h5, .ref g5, .ref g6, .ref g7, .int p0]), (h1, oC 7 [.ref h2, .int p1]), (h2, aJ Y 6 f0), (h3, oC 3 [.ref h4, .int p2]), (h4, aI Y 80 f1), (h5, oC 7 [.ref h6, .int p3]), (h6, aJ Y 80 f2)] rfl ?_
    rcases w5 with rfl | rfl
    ·
      refine V_if_ne_f 18 B 33 dX0_replaceSequence_18 (by decide) (by decide +kernel) ?_
      refine V_aload_n 21 B dX0_replaceSequence_21 1 rfl ?_
      refine V_iload 22 B dX0_replaceSequence_22 0 rfl ?_
      refine V_lload_n 24 B dX0_replaceSequence_24 3 rfl ?_
      refine V_iload_n 25 B dX0_replaceSequence_25 2 rfl ?_
      refine V_gvi 26 B envX EB (st := []) (As := [.int j0, .long p5, .int p4]) (fun sz => sX0_lowestClash_1 l D Y h0 h3 h4 h5 h6 g0 g1 g2 g3 h1 g4 g5 g6 g7 p0 p2 f1 p3 f2 j0 p5 p4 sz) glV_RX0_122 ⟨rfl, rfl⟩ ⟨(Nat.le_of_ble_eq_true rfl), (Nat.le_of_ble_eq_true rfl)⟩ ⟨(Nat.le_of_ble_eq_true rfl), (Nat.le_of_ble_eq_true rfl)⟩ [0, 2, 0, 0, 0] rfl 2 0 rfl rfl rfl rfl (Nat.le_of_ble_eq_true rfl) rfl (fun _ _ _ => rfl) dX0_replaceSequence_26 (fun j6 u7 w8 => ?_)
      refine V_ws [(h0, oC 2 [.ref g0, .ref g1, .ref g2, .ref g3, .ref h1, .ref h3, .ref g4, .ref h5, .ref g5, .ref g6, .ref g7, .int p0]), (h1, oC 7 [.ref h2, .int p1]), (h2, aJ Y 6 f0), (h3, oC 3 [.ref h4, .int p2]), (h4, aI Y 80 f1), (h5, oC 7 [.ref h6, .int p3]), (h6, aJ Y 80 f2)] rfl ?_
      refine V_iconst 29 B (v := (-1)) dX0_replaceSequence_29 (by decide +kernel) ?_
      refine V_icmp_eq 30 B 37 dX0_replaceSequence_30 (by decide) (fun k9 => ?_) (fun k9 => ?_)
      ·
        obtain rfl : j6 = (-1) := k9
        refine V_aload_n 37 B dX0_replaceSequence_37 1 rfl ?_
        refine V_get 38 B gf_RX0_42 0 rfl rfl dX0_replaceSequence_38 ?_
        refine V_iload_n 41 B dX0_replaceSequence_41 2 rfl ?_
        refine V_lload_n 42 B dX0_replaceSequence_42 3 rfl ?_
        refine V_gvv 43 B envX EB (st := []) (As := [.int p4, .long p5]) (fun sz => sX5_put_1 l D Y h5 h6 p3 f2 p4 p5 sz) glV_RX0_145 ⟨rfl, rfl⟩ ⟨(Nat.le_of_ble_eq_true rfl), (Nat.le_of_ble_eq_true rfl)⟩ ⟨(Nat.le_of_ble_eq_true rfl), (Nat.le_of_ble_eq_true rfl)⟩ [5, 0] rfl 7 0 rfl rfl rfl rfl (Nat.le_of_ble_eq_true rfl) rfl (fun _ _ => rfl) dX0_replaceSequence_43 (fun u11 w12 => ?_)
        refine V_ws [(h0, oC 2 [.ref g0, .ref g1, .ref g2, .ref g3, .ref h1, .ref h3, .ref g4, .ref h5, .ref g5, .ref g6, .ref g7, .int p0]), (h1, oC 7 [.ref h2, .int p1]), (h2, aJ Y 6 f0), (h3, oC 3 [.ref h4, .int p2]), (h4, aI Y 80 f1), (h5, oC 7 [.ref h6, .int p3]), (h6, aJ Y 80 (u11.2.2.2.1 0))] rfl ?_
        refine V_lload_n 46 B dX0_replaceSequence_46 3 rfl ?_
        refine V_gsi 47 B envX EB (st := []) (As := [.long p5]) (fun sz => sX6_costOf_1 l D Y  p5 sz) glS_RX0_149 ⟨rfl, rfl⟩ ⟨(Nat.le_of_ble_eq_true rfl), (Nat.le_of_ble_eq_true rfl)⟩ ⟨(Nat.le_of_ble_eq_true rfl), (Nat.le_of_ble_eq_true rfl)⟩ [] rfl rfl (Nat.le_of_ble_eq_true rfl) rfl (fun _ _ _ => rfl) dX0_replaceSequence_47 (fun j13 u14 w15 => ?_)
        refine V_ws [(h0, oC 2 [.ref g0, .ref g1, .ref g2, .ref g3, .ref h1, .ref h3, .ref g4, .ref h5, .ref g5, .ref g6, .ref g7, .int p0]), (h1, oC 7 [.ref h2, .int p1]), (h2, aJ Y 6 f0), (h3, oC 3 [.ref h4, .int p2]), (h4, aI Y 80 f1), (h5, oC 7 [.ref h6, .int p3]), (h6, aJ Y 80 (u11.2.2.2.1 0))] rfl ?_
        exact V_iret 50 B dX0_replaceSequence_50 (mkU [] [] [] [(u11.2.2.2.1 0)] []) trivial rfl
      ·
        refine V_sipush 33 B (v := (-1000)) dX0_replaceSequence_33 (by decide +kernel) ?_
        exact V_iret 36 B dX0_replaceSequence_36 (mkU [] [] [] [f2] []) trivial rfl
    ·
      refine V_if_ne_t 18 B 33 dX0_replaceSequence_18 (by decide) (by decide +kernel) ?_
      refine V_sipush 33 B (v := (-1000)) dX0_replaceSequence_33 (by decide +kernel) ?_
      exact V_iret 36 B dX0_replaceSequence_36 (mkU [] [] [] [f2] []) trivial rfl)
theorem glV_RX11_237 : GLV RX11 237 yX0_replaceSequence RX0 cX0_replaceSequence 5 (some .int) 2 := ⟨⟨(mT5 224 rfl rfl), (mT5 225 rfl rfl), (mT5 226 rfl rfl), (mT1 2 rfl rfl), (mT5 227 rfl rfl)⟩, by decide +kernel⟩
theorem dX11_move_31 : decode cX11_move 31 = .ok (.ireturn, 1) := by decide +kernel
theorem dX11_move_14 : decode cX11_move 14 = .ok (.bipush (-4), 2) := by decide +kernel
theorem dX11_move_16 : decode cX11_move 16 = .ok (.goto 15, 3) := by decide +kernel
set_option maxRecDepth 100000 in
set_option maxHeartbeats 4000000 in
theorem sX11_move_1 (l : Launch) (hl9 : l.stackTraces = false) (D : va_G) (Y : Nat → ClassId) (h0 : Nat) (h1 : Nat) (h2 : Nat) (h3 : Nat) (h4 : Nat) (h5 : Nat) (h6 : Nat) (h7 : Nat) (g0 : Nat) (g1 : Nat) (g2 : Nat) (g3 : Nat) (g4 : Nat) (g5 : Nat) (g6 : Nat) (g7 : Nat) (g8 : Nat) (g9 : Nat) (g10 : Nat) (g11 : Nat) (g12 : Nat) (g13 : Nat) (g14 : Nat) (g15 : Nat) (p0 : Int64) (p1 : Int32) (p2 : Int32) (f0 : Nat → Int64) (p3 : Int32) (f1 : Nat → Int32) (p4 : Int32) (f2 : Nat → Int64) (p5 : Int32) (sz : Nat) : vx_Met l yX11_move (WSm yX11_move cX11_move 2 (some .int)) (mkR 7 1 6 103) (PreX D Y [.ref h0, .int p5] [(h0, oC 12 [.ref h1, .ref g0, .ref g1, .ref g2, .ref g3, .ref g4, .ref g5, .ref g6, .ref g7, .long p0]), (h1, oC 2 [.ref g8, .ref g9, .ref g10, .ref g11, .ref h2, .ref h4, .ref g12, .ref h6, .ref g13, .ref g14, .ref g15, .int p1]), (h2, oC 7 [.ref h3, .int p2]), (h3, aJ Y 6 f0), (h4, oC 3 [.ref h5, .int p3]), (h5, aI Y 80 f1), (h6, oC 7 [.ref h7, .int p4]), (h7, aJ Y 80 f2)] sz) (QI D (fun (_ : Int32) (_ : UU) => True) (fun (u : UU) => [(h0, oC 12 [.ref h1, .ref g0, .ref g1, .ref g2, .ref g3, .ref g4, .ref g5, .ref g6, .ref g7, .long p0]), (h1, oC 2 [.ref g8, .ref g9, .ref g10, .ref g11, .ref h2, .ref h4, .ref g12, .ref h6, .ref g13, .ref g14, .ref g15, .int p1]), (h2, oC 7 [.ref h3, .int p2]), (h3, aJ Y 6 f0), (h4, oC 3 [.ref h5, .int p3]), (h5, aI Y 80 f1), (h6, oC 7 [.ref h7, .int p4]), (h7, aJ Y 80 (u.2.2.2.1 0))]) (va_A [(h0, oC 12 [.ref h1, .ref g0, .ref g1, .ref g2, .ref g3, .ref g4, .ref g5, .ref g6, .ref g7, .long p0]), (h1, oC 2 [.ref g8, .ref g9, .ref g10, .ref g11, .ref h2, .ref h4, .ref g12, .ref h6, .ref g13, .ref g14, .ref g15, .int p1]), (h2, oC 7 [.ref h3, .int p2]), (h3, aJ Y 6 f0), (h4, oC 3 [.ref h5, .int p3]), (h5, aI Y 80 f1), (h6, oC 7 [.ref h7, .int p4]), (h7, aJ Y 80 f2)] sz)) (XW D (fun (E : String) (_ : UU) => E = "java/lang/IndexOutOfBoundsException") (fun (u : UU) => [(h0, oC 12 [.ref h1, .ref g0, .ref g1, .ref g2, .ref g3, .ref g4, .ref g5, .ref g6, .ref g7, .long p0]), (h1, oC 2 [.ref g8, .ref g9, .ref g10, .ref g11, .ref h2, .ref h4, .ref g12, .ref h6, .ref g13, .ref g14, .ref g15, .int p1]), (h2, oC 7 [.ref h3, .int p2]), (h3, aJ Y 6 f0), (h4, oC 3 [.ref h5, .int p3]), (h5, aI Y 80 f1), (h6, oC 7 [.ref h7, .int p4]), (h7, aJ Y 80 (u.2.2.2.1 0))]) (va_A [(h0, oC 12 [.ref h1, .ref g0, .ref g1, .ref g2, .ref g3, .ref g4, .ref g5, .ref g6, .ref g7, .long p0]), (h1, oC 2 [.ref g8, .ref g9, .ref g10, .ref g11, .ref h2, .ref h4, .ref g12, .ref h6, .ref g13, .ref g14, .ref g15, .int p1]), (h2, oC 7 [.ref h3, .int p2]), (h3, aJ Y 6 f0), (h4, oC 3 [.ref h5, .int p3]), (h5, aI Y 80 f1), (h6, oC 7 [.ref h7, .int p4]), (h7, aJ Y 80 f2)] sz)) 1 6 (va_A [(h0, oC 12 [.ref h1, .ref g0, .ref g1, .ref g2, .ref g3, .ref g4, .ref g5, .ref g6, .ref g7, .long p0]), (h1, oC 2 [.ref g8, .ref g9, .ref g10, .ref g11, .ref h2, .ref h4, .ref g12, .ref h6, .ref g13, .ref g14, .ref g15, .int p1]), (h2, oC 7 [.ref h3, .int p2]), (h3, aJ Y 6 f0), (h4, oC 3 [.ref h5, .int p3]), (h5, aI Y 80 f1), (h6, oC 7 [.ref h7, .int p4]), (h7, aJ Y 80 f2)] sz) :=
  xmet_of (by decide +kernel) (Nat.le_of_ble_eq_true rfl) (fun p e s m args below meth c B EB hout hsz => by
    have B : VB p s m args meth c D Y (va_A [(h0, oC 12 [.ref h1, .ref g0, .ref g1, .ref g2, .ref g3, .ref g4, .ref g5, .ref g6, .ref g7, .long p0]), (h1, oC 2 [.ref g8, .ref g9, .ref g10, .ref g11, .ref h2, .ref h4, .ref g12, .ref h6, .ref g13, .ref g14, .ref g15, .int p1]), (h2, oC 7 [.ref h3, .int p2]), (h3, aJ Y 6 f0), (h4, oC 3 [.ref h5, .int p3]), (h5, aI Y 80 f1), (h6, oC 7 [.ref h7, .int p4]), (h7, aJ Y 80 f2)] sz) cX11_move 2 RX11 (some .int) := B
    refine V_aload_n 0 B dX11_move_0 0 rfl ?_
    refine V_iload_n 1 B dX11_move_1 1 rfl ?_
    refine V_xvv 2 B EB (st := []) (As := [.int p5]) (fun sz => sX11_needBinding_1 l hl9 D Y h0 h1 h4 g0 g1 g2 g3 g4 g5 g6 g7 g8 g9 g10 g11 h2 g12 h6 g13 g14 g15 h5 p0 p1 p3 p5 sz) glV_RX11_167 ⟨rfl, rfl⟩ ⟨(Nat.le_of_ble_eq_true rfl), (Nat.le_of_ble_eq_true rfl)⟩ ⟨(Nat.le_of_ble_eq_true rfl), (Nat.le_of_ble_eq_true rfl)⟩ [0, 0, 2] rfl 12 0 rfl rfl rfl rfl (Nat.le_of_ble_eq_true rfl) rfl (fun _ _ => rfl) (fun _ _ _ => rfl) dX11_move_2 (fun E u1 w2 => ?_) (fun u1 w2 => ?_)
    ·
      obtain rfl := w2
      exact VX_out 2 B hout (mkU [] [] [] [f2] []) rfl rfl (Nat.le_of_ble_eq_true rfl) (Nat.le_of_ble_eq_true rfl)
    ·
      refine V_ws [(h0, oC 12 [.ref h1, .ref g0, .ref g1, .ref g2, .ref g3, .ref g4, .ref g5, .ref g6, .ref g7, .long p0]), (h1, oC 2 [.ref g8, .ref g9, .ref g10, .ref g11, .ref h2, .ref h4, .ref g12, .ref h6, .ref g13, .ref g14, .ref g15, .int p1]), (h2, oC 7 [.ref h3, .int p2]), (h3, aJ Y 6 f0), (h4, oC 3 [.ref h5, .int p3]), (h5, aI Y 80 f1), (h6, oC 7 [.ref h7, .int p4]), (h7, aJ Y 80 f2)] rfl ?_
      refine V_aload_n 5 B dX11_move_5 0 rfl ?_
      refine V_get 6 B gf_RX11_68 0 rfl rfl dX11_move_6 ?_
      refine V_lconst 9 B (v := 0) dX11_move_9 (by decide +kernel) ?_
      refine V_lcmp 10 B dX11_move_10 rfl ?_
      refine V_nmi (fun j3 _ => ?_)
      refine V_if_ne 11 B 19 dX11_move_11 (by decide) (fun k4 => ?_) (fun k4 => ?_)
      ·
        refine V_aload_n 19 B dX11_move_19 0 rfl ?_
        refine V_get 20 B gf_RX11_10 0 rfl rfl dX11_move_20 ?_
        refine V_iload_n 23 B dX11_move_23 1 rfl ?_
        refine V_aload_n 24 B dX11_move_24 0 rfl ?_
        refine V_get 25 B gf_RX11_68 0 rfl rfl dX11_move_25 ?_
        refine V_gvi 28 B envX EB (st := []) (As := [.int p5, .long p0]) (fun sz => sX0_replaceSequence_1 l D Y h1 h2 h3 h4 h5 h6 h7 g8 g9 g10 g11 g12 g13 g14 g15 p1 p2 f0 p3 f1 p4 f2 p5 p0 sz) glV_RX11_237 ⟨rfl, rfl⟩ ⟨(Nat.le_of_ble_eq_true rfl), (Nat.le_of_ble_eq_true rfl)⟩ ⟨(Nat.le_of_ble_eq_true rfl), (Nat.le_of_ble_eq_true rfl)⟩ [1, 0, 0, 0, 0, 0, 0] rfl 2 0 rfl rfl rfl rfl (Nat.le_of_ble_eq_true rfl) rfl (fun _ _ _ => rfl) dX11_move_28 (fun j5 u6 w7 => ?_)
        refine V_ws [(h0, oC 12 [.ref h1, .ref g0, .ref g1, .ref g2, .ref g3, .ref g4, .ref g5, .ref g6, .ref g7, .long p0]), (h1, oC 2 [.ref g8, .ref g9, .ref g10, .ref g11, .ref h2, .ref h4, .ref g12, .ref h6, .ref g13, .ref g14, .ref g15, .int p1]), (h2, oC 7 [.ref h3, .int p2]), (h3, aJ Y 6 f0), (h4, oC 3 [.ref h5, .int p3]), (h5, aI Y 80 f1), (h6, oC 7 [.ref h7, .int p4]), (h7, aJ Y 80 (u6.2.2.2.1 0))] rfl ?_
        refine V_xret ?_
        refine V_widen (k := 1) (n := 6) (Nat.le_of_ble_eq_true rfl) (Nat.le_of_ble_eq_true rfl) ?_
        exact V_iret 31 B dX11_move_31 (mkU [] [] [] [(u6.2.2.2.1 0)] []) trivial rfl
      ·
        obtain rfl : j3 = 0 := k4
        refine V_bipush 14 B (v := (-4)) dX11_move_14 (by decide +kernel) ?_
        refine V_goto 16 B 31 dX11_move_16 (by decide) ?_
        refine V_xret ?_
        refine V_widen (k := 1) (n := 6) (Nat.le_of_ble_eq_true rfl) (Nat.le_of_ble_eq_true rfl) ?_
        exact V_iret 31 B dX11_move_31 (mkU [] [] [] [f2] []) trivial rfl)
theorem dX11_unbind_0 : decode cX11_unbind 0 = .ok (.aload_n 0, 1) := by decide +kernel
theorem dX11_unbind_1 : decode cX11_unbind 1 = .ok (.iload_n 1, 1) := by decide +kernel
theorem dX11_unbind_2 : decode cX11_unbind 2 = .ok (.invokevirtual 167, 3) := by decide +kernel
theorem dX11_unbind_5 : decode cX11_unbind 5 = .ok (.aload_n 0, 1) := by decide +kernel
theorem dX11_unbind_6 : decode cX11_unbind 6 = .ok (.getfield 10, 3) := by decide +kernel
theorem dX11_unbind_9 : decode cX11_unbind 9 = .ok (.iload_n 1, 1) := by decide +kernel
theorem dX11_unbind_10 : decode cX11_unbind 10 = .ok (.invokevirtual 241, 3) := by decide +kernel
theorem glV_RX11_241 : GLV RX11 241 yX0_removeBinding RX0 cX0_removeBinding 2 none 1 := ⟨⟨(mT6 0 rfl rfl), (mT4 191 rfl rfl), (mT4 192 rfl rfl), (mT1 2 rfl rfl), (mT4 193 rfl rfl)⟩, by decide +kernel⟩
theorem dX11_unbind_13 : decode cX11_unbind 13 = .ok (.aload_n 0, 1) := by decide +kernel
theorem dX11_unbind_14 : decode cX11_unbind 14 = .ok (.getfield 10, 3) := by decide +kernel
theorem dX11_unbind_17 : decode cX11_unbind 17 = .ok (.getfield 91, 3) := by decide +kernel
theorem dX11_unbind_20 : decode cX11_unbind 20 = .ok (.invokevirtual 95, 3) := by decide +kernel
theorem dX11_unbind_23 : decode cX11_unbind 23 = .ok (.ireturn, 1) := by decide +kernel
set_option maxRecDepth 100000 in
set_option maxHeartbeats 4000000 in
theorem sX11_unbind_1 (l : Launch) (hl9 : l.stackTraces = false) (D : va_G) (Y : Nat → ClassId) (h0 : Nat) (h1 : Nat) (h2 : Nat) (h3 : Nat) (h4 : Nat) (h5 : Nat) (h6 : Nat) (h7 : Nat) (g0 : Nat) (g1 : Nat) (g2 : Nat) (g3 : Nat) (g4 : Nat) (g5 : Nat) (g6 : Nat) (g7 : Nat) (g8 : Nat) (g9 : Nat) (g10 : Nat) (g11 : Nat) (g12 : Nat) (g13 : Nat) (g14 : Nat) (g15 : Nat) (p0 : Int64) (p1 : Int32) (p2 : Int32) (f0 : Nat → Int32) (p3 : Int32) (f1 : Nat → Int32) (p4 : Int32) (f2 : Nat → Int64) (p5 : Int32) (sz : Nat) : vx_Met l yX11_unbind (WSm yX11_unbind cX11_unbind 2 (some .int)) (mkR 7 1 6 103) (PreX D Y [.ref h0, .int p5] [(h0, oC 12 [.ref h1, .ref g0, .ref g1, .ref g2, .ref g3, .ref g4, .ref g5, .ref g6, .ref g7, .long p0]), (h1, oC 2 [.ref g8, .ref g9, .ref g10, .ref g11, .ref g12, .ref h2, .ref h4, .ref h6, .ref g13, .ref g14, .ref g15, .int p1]), (h2, oC 3 [.ref h3, .int p2]), (h3, aI Y 80 f0), (h4, oC 3 [.ref h5, .int p3]), (h5, aI Y 80 f1), (h6, oC 7 [.ref h7, .int p4]), (h7, aJ Y 80 f2)] sz) (QI D (fun (_ : Int32) (_ : UU) => True) (fun (u : UU) => [(h0, oC 12 [.ref h1, .ref g0, .ref g1, .ref g2, .ref g3, .ref g4, .ref g5, .ref g6, .ref g7, .long p0]), (h1, oC 2 [.ref g8, .ref g9, .ref g10, .ref g11, .ref g12, .ref h2, .ref h4, .ref h6, .ref g13, .ref g14, .ref g15, .int p1]), (h2, oC 3 [.ref h3, .int (u.1 0)]), (h3, aI Y 80 (u.2.2.1 0)), (h4, oC 3 [.ref h5, .int (u.1 1)]), (h5, aI Y 80 (u.2.2.1 1)), (h6, oC 7 [.ref h7, .int (u.1 2)]), (h7, aJ Y 80 (u.2.2.2.1 0))]) (va_A [(h0, oC 12 [.ref h1, .ref g0, .ref g1, .ref g2, .ref g3, .ref g4, .ref g5, .ref g6, .ref g7, .long p0]), (h1, oC 2 [.ref g8, .ref g9, .ref g10, .ref g11, .ref g12, .ref h2, .ref h4, .ref h6, .ref g13, .ref g14, .ref g15, .int p1]), (h2, oC 3 [.ref h3, .int p2]), (h3, aI Y 80 f0), (h4, oC 3 [.ref h5, .int p3]), (h5, aI Y 80 f1), (h6, oC 7 [.ref h7, .int p4]), (h7, aJ Y 80 f2)] sz)) (XW D (fun (E : String) (_ : UU) => E = "java/lang/IndexOutOfBoundsException") (fun (u : UU) => [(h0, oC 12 [.ref h1, .ref g0, .ref g1, .ref g2, .ref g3, .ref g4, .ref g5, .ref g6, .ref g7, .long p0]), (h1, oC 2 [.ref g8, .ref g9, .ref g10, .ref g11, .ref g12, .ref h2, .ref h4, .ref h6, .ref g13, .ref g14, .ref g15, .int p1]), (h2, oC 3 [.ref h3, .int (u.1 0)]), (h3, aI Y 80 (u.2.2.1 0)), (h4, oC 3 [.ref h5, .int (u.1 1)]), (h5, aI Y 80 (u.2.2.1 1)), (h6, oC 7 [.ref h7, .int (u.1 2)]), (h7, aJ Y 80 (u.2.2.2.1 0))]) (va_A [(h0, oC 12 [.ref h1, .ref g0, .ref g1, .ref g2, .ref g3, .ref g4, .ref g5, .ref g6, .ref g7, .long p0]), (h1, oC 2 [.ref g8, .ref g9, .ref g10, .ref g11, .ref g12, .ref h2, .ref h4, .ref h6, .ref g13, .ref g14, .ref g15, .int p1]), (h2, oC 3 [.ref h3, .int p2]), (h3, aI Y 80 f0), (h4, oC 3 [.ref h5, .int p3]), (h5, aI Y 80 f1), (h6, oC 7 [.ref h7, .int p4]), (h7, aJ Y 80 f2)] sz)) 1 6 (va_A [(h0, oC 12 [.ref h1, .ref g0, .ref g1, .ref g2, .ref g3, .ref g4, .ref g5, .ref g6, .ref g7, .long p0]), (h1, oC 2 [.ref g8, .ref g9, .ref g10, .ref g11, .ref g12, .ref h2, .ref h4, .ref h6, .ref g13, .ref g14, .ref g15, .int p1]), (h2, oC 3 [.ref h3, .int p2]), (h3, aI Y 80 f0), (h4, oC 3 [.ref h5, .int p3]), (h5, aI Y 80 f1), (h6, oC 7 [.ref h7, .int p4]), (h7, aJ Y 80 f2)] sz) :=
  xmet_of (by decide +kernel) (Nat.le_of_ble_eq_true rfl) (fun p e s m args below meth c B EB hout hsz => by
    have B : VB p s m args meth c D Y (va_A [(h0, oC 12 [.ref h1, .ref g0, .ref g1, .ref g2, .ref g3, .ref g4, .ref g5, .ref g6, .ref g7, .long p0]), (h1, oC 2 [.ref g8, .ref g9, .ref g10, .ref g11, .ref g12, .ref h2, .ref h4, .ref h6, .ref g13, .ref g14, .ref g15, .int p1]), (h2, oC 3 [.ref h3, .int p2]), (h3, aI Y 80 f0), (h4, oC 3 [.ref h5, .int p3]), (h5, aI Y 80 f1), (h6, oC 7 [.ref h7, .int p4]), (h7, aJ Y 80 f2)] sz) cX11_unbind 2 RX11 (some .int) := B
    refine V_aload_n 0 B dX11_unbind_0 0 rfl ?_
    refine V_iload_n 1 B dX11_unbind_1 1 rfl ?_
    refine V_xvv 2 B EB (st := []) (As := [.int p5]) (fun sz => sX11_needBinding_1 l hl9 D Y h0 h1 h2 g0 g1 g2 g3 g4 g5 g6 g7 g8 g9 g10 g11 g12 h4 h6 g13 g14 g15 h3 p0 p1 p2 p5 sz) glV_RX11_167 ⟨rfl, rfl⟩ ⟨(Nat.le_of_ble_eq_true rfl), (Nat.le_of_ble_eq_true rfl)⟩ ⟨(Nat.le_of_ble_eq_true rfl), (Nat.le_of_ble_eq_true rfl)⟩ [0, 0, 0] rfl 12 0 rfl rfl rfl rfl (Nat.le_of_ble_eq_true rfl) rfl (fun _ _ => rfl) (fun _ _ _ => rfl) dX11_unbind_2 (fun E u1 w2 => ?_) (fun u1 w2 => ?_)
    ·
      obtain rfl := w2
      exact VX_out 2 B hout (mkU [p2, p3, p4] [] [f0, f1] [f2] []) rfl rfl (Nat.le_of_ble_eq_true rfl) (Nat.le_of_ble_eq_true rfl)
    ·
      refine V_ws [(h0, oC 12 [.ref h1, .ref g0, .ref g1, .ref g2, .ref g3, .ref g4, .ref g5, .ref g6, .ref g7, .long p0]), (h1, oC 2 [.ref g8, .ref g9, .ref g10, .ref g11, .ref g12, .ref h2, .ref h4, .ref h6, .ref g13, .ref g14, .ref g15, .int p1]), (h2, oC 3 [.ref h3, .int p2]), (h3, aI Y 80 f0), (h4, oC 3 [.ref h5, .int p3]), (h5, aI Y 80 f1), (h6, oC 7 [.ref h7, .int p4]), (h7, aJ Y 80 f2)] rfl ?_
      refine V_aload_n 5 B dX11_unbind_5 0 rfl ?_
      refine V_get 6 B gf_RX11_10 0 rfl rfl dX11_unbind_6 ?_
      refine V_iload_n 9 B dX11_unbind_9 1 rfl ?_
      refine V_gvv 10 B envX EB (st := []) (As := [.int p5]) (fun sz => sX0_removeBinding_1 l D Y h1 h2 h3 h4 h5 h6 h7 g8 g9 g10 g11 g12 g13 g14 g15 p1 p2 f0 p3 f1 p4 f2 p5 sz) glV_RX11_241 ⟨rfl, rfl⟩ ⟨(Nat.le_of_ble_eq_true rfl), (Nat.le_of_ble_eq_true rfl)⟩ ⟨(Nat.le_of_ble_eq_true rfl), (Nat.le_of_ble_eq_true rfl)⟩ [1, 0, 0, 0, 0, 0, 0] rfl 2 0 rfl rfl rfl rfl (Nat.le_of_ble_eq_true rfl) rfl (fun _ _ => rfl) dX11_unbind_10 (fun u4 w5 => ?_)
      refine V_ws [(h0, oC 12 [.ref h1, .ref g0, .ref g1, .ref g2, .ref g3, .ref g4, .ref g5, .ref g6, .ref g7, .long p0]), (h1, oC 2 [.ref g8, .ref g9, .ref g10, .ref g11, .ref g12, .ref h2, .ref h4, .ref h6, .ref g13, .ref g14, .ref g15, .int p1]), (h2, oC 3 [.ref h3, .int (u4.1 0)]), (h3, aI Y 80 (u4.2.2.1 0)), (h4, oC 3 [.ref h5, .int (u4.1 1)]), (h5, aI Y 80 (u4.2.2.1 1)), (h6, oC 7 [.ref h7, .int (u4.1 2)]), (h7, aJ Y 80 (u4.2.2.2.1 0))] rfl ?_
      refine V_aload_n 13 B dX11_unbind_13 0 rfl ?_
      refine V_get 14 B gf_RX11_10 0 rfl rfl dX11_unbind_14 ?_
      refine V_get 17 B gf_RX11_91 1 rfl rfl dX11_unbind_17 ?_
      refine V_gvi 20 B envX EB (st := []) (As := []) (fun sz => sX1_size_1 l D Y h2 h3 (u4.1 0) sz) glV_RX11_95 ⟨rfl, rfl⟩ ⟨(Nat.le_of_ble_eq_true rfl), (Nat.le_of_ble_eq_true rfl)⟩ ⟨(Nat.le_of_ble_eq_true rfl), (Nat.le_of_ble_eq_true rfl)⟩ [2] rfl 3 0 rfl rfl rfl rfl (Nat.le_of_ble_eq_true rfl) rfl (fun _ _ _ => rfl) dX11_unbind_20 (fun j6 u7 w8 => ?_)
      refine V_ws [(h0, oC 12 [.ref h1, .ref g0, .ref g1, .ref g2, .ref g3, .ref g4, .ref g5, .ref g6, .ref g7, .long p0]), (h1, oC 2 [.ref g8, .ref g9, .ref g10, .ref g11, .ref g12, .ref h2, .ref h4, .ref h6, .ref g13, .ref g14, .ref g15, .int p1]), (h2, oC 3 [.ref h3, .int (u4.1 0)]), (h3, aI Y 80 (u4.2.2.1 0)), (h4, oC 3 [.ref h5, .int (u4.1 1)]), (h5, aI Y 80 (u4.2.2.1 1)), (h6, oC 7 [.ref h7, .int (u4.1 2)]), (h7, aJ Y 80 (u4.2.2.2.1 0))] rfl ?_
      refine V_xret ?_
      refine V_widen (k := 1) (n := 6) (Nat.le_of_ble_eq_true rfl) (Nat.le_of_ble_eq_true rfl) ?_
      exact V_iret 23 B dX11_unbind_23 (mkU [(u4.1 0), (u4.1 1), (u4.1 2)] [] [(u4.2.2.1 0), (u4.2.2.1 1)] [(u4.2.2.2.1 0)] []) trivial rfl)
theorem dX11_binding_0 : decode cX11_binding 0 = .ok (.aload_n 0, 1) := by decide +kernel
theorem dX11_binding_1 : decode cX11_binding 1 = .ok (.iload_n 1, 1) := by decide +kernel
theorem dX11_binding_2 : decode cX11_binding 2 = .ok (.invokevirtual 167, 3) := by decide +kernel
theorem dX11_binding_5 : decode cX11_binding 5 = .ok (.iload_n 2, 1) := by decide +kernel
theorem dX11_binding_6 : decode cX11_binding 6 = .ok (.tableswitch 84 0 3 #[30, 42, 54, 69], 30) := by decide +kernel
theorem dX11_binding_36 : decode cX11_binding 36 = .ok (.aload_n 0, 1) := by decide +kernel
theorem dX11_binding_37 : decode cX11_binding 37 = .ok (.getfield 10, 3) := by decide +kernel
theorem dX11_binding_40 : decode cX11_binding 40 = .ok (.getfield 91, 3) := by decide +kernel
theorem dX11_binding_43 : decode cX11_binding 43 = .ok (.iload_n 1, 1) := by decide +kernel
theorem dX11_binding_44 : decode cX11_binding 44 = .ok (.invokevirtual 187, 3) := by decide +kernel
theorem dX11_binding_47 : decode cX11_binding 47 = .ok (.ireturn, 1) := by decide +kernel
theorem dX11_binding_48 : decode cX11_binding 48 = .ok (.aload_n 0, 1) := by decide +kernel
theorem dX11_binding_49 : decode cX11_binding 49 = .ok (.getfield 10, 3) := by decide +kernel
theorem dX11_binding_52 : decode cX11_binding 52 = .ok (.getfield 213, 3) := by decide +kernel
theorem dX11_binding_55 : decode cX11_binding 55 = .ok (.iload_n 1, 1) := by decide +kernel
theorem dX11_binding_56 : decode cX11_binding 56 = .ok (.invokevirtual 187, 3) := by decide +kernel
theorem dX11_binding_59 : decode cX11_binding 59 = .ok (.ireturn, 1) := by decide +kernel
theorem dX11_binding_60 : decode cX11_binding 60 = .ok (.aload_n 0, 1) := by decide +kernel
theorem dX11_binding_61 : decode cX11_binding 61 = .ok (.getfield 10, 3) := by decide +kernel
theorem dX11_binding_64 : decode cX11_binding 64 = .ok (.getfield 170, 3) := by decide +kernel
theorem dX11_binding_67 : decode cX11_binding 67 = .ok (.iload_n 1, 1) := by decide +kernel
theorem dX11_binding_68 : decode cX11_binding 68 = .ok (.invokevirtual 173, 3) := by decide +kernel
theorem dX11_binding_71 : decode cX11_binding 71 = .ok (.invokestatic 138, 3) := by decide +kernel
theorem dX11_binding_74 : decode cX11_binding 74 = .ok (.ireturn, 1) := by decide +kernel
theorem dX11_binding_75 : decode cX11_binding 75 = .ok (.aload_n 0, 1) := by decide +kernel
theorem dX11_binding_76 : decode cX11_binding 76 = .ok (.getfield 10, 3) := by decide +kernel
theorem dX11_binding_79 : decode cX11_binding 79 = .ok (.getfield 170, 3) := by decide +kernel
theorem dX11_binding_82 : decode cX11_binding 82 = .ok (.iload_n 1, 1) := by decide +kernel
theorem dX11_binding_83 : decode cX11_binding 83 = .ok (.invokevirtual 173, 3) := by decide +kernel
theorem dX11_binding_86 : decode cX11_binding 86 = .ok (.invokestatic 177, 3) := by decide +kernel
theorem dX11_binding_89 : decode cX11_binding 89 = .ok (.ireturn, 1) := by decide +kernel
theorem dX11_binding_90 : decode cX11_binding 90 = .ok (.iconst (-1), 1) := by decide +kernel
theorem dX11_binding_91 : decode cX11_binding 91 = .ok (.ireturn, 1) := by decide +kernel
set_option maxRecDepth 100000 in
set_option maxHeartbeats 4000000 in
theorem sX11_binding_1 (l : Launch) (hl9 : l.stackTraces = false) (D : va_G) (Y : Nat → ClassId) (h0 : Nat) (h1 : Nat) (h2 : Nat) (h3 : Nat) (h4 : Nat) (h5 : Nat) (h6 : Nat) (h7 : Nat) (g0 : Nat) (g1 : Nat) (g2 : Nat) (g3 : Nat) (g4 : Nat) (g5 : Nat) (g6 : Nat) (g7 : Nat) (g8 : Nat) (g9 : Nat) (g10 : Nat) (g11 : Nat) (g12 : Nat) (g13 : Nat) (g14 : Nat) (g15 : Nat) (p0 : Int64) (p1 : Int32) (p2 : Int32) (f0 : Nat → Int32) (p3 : Int32) (f1 : Nat → Int32) (p4 : Int32) (f2 : Nat → Int64) (p5 : Int32) (p6 : Int32) (sz : Nat) : vx_Met l yX11_binding (WSm yX11_binding cX11_binding 3 (some .int)) (mkR 7 1 6 103) (PreX D Y [.ref h0, .int p5, .int p6] [(h0, oC 12 [.ref h1, .ref g0, .ref g1, .ref g2, .ref g3, .ref g4, .ref g5, .ref g6, .ref g7, .long p0]), (h1, oC 2 [.ref g8, .ref g9, .ref g10, .ref g11, .ref g12, .ref h2, .ref h4, .ref h6, .ref g13, .ref g14, .ref g15, .int p1]), (h2, oC 3 [.ref h3, .int p2]), (h3, aI Y 80 f0), (h4, oC 3 [.ref h5, .int p3]), (h5, aI Y 80 f1), (h6, oC 7 [.ref h7, .int p4]), (h7, aJ Y 80 f2)] sz) (QI D (fun (_ : Int32) (_ : UU) => True) (fun (u : UU) => [(h0, oC 12 [.ref h1, .ref g0, .ref g1, .ref g2, .ref g3, .ref g4, .ref g5, .ref g6, .ref g7, .long p0]), (h1, oC 2 [.ref g8, .ref g9, .ref g10, .ref g11, .ref g12, .ref h2, .ref h4, .ref h6, .ref g13, .ref g14, .ref g15, .int p1]), (h2, oC 3 [.ref h3, .int p2]), (h3, aI Y 80 f0), (h4, oC 3 [.ref h5, .int p3]), (h5, aI Y 80 f1), (h6, oC 7 [.ref h7, .int p4]), (h7, aJ Y 80 f2)]) (va_A [(h0, oC 12 [.ref h1, .ref g0, .ref g1, .ref g2, .ref g3, .ref g4, .ref g5, .ref g6, .ref g7, .long p0]), (h1, oC 2 [.ref g8, .ref g9, .ref g10, .ref g11, .ref g12, .ref h2, .ref h4, .ref h6, .ref g13, .ref g14, .ref g15, .int p1]), (h2, oC 3 [.ref h3, .int p2]), (h3, aI Y 80 f0), (h4, oC 3 [.ref h5, .int p3]), (h5, aI Y 80 f1), (h6, oC 7 [.ref h7, .int p4]), (h7, aJ Y 80 f2)] sz)) (XW D (fun (E : String) (_ : UU) => E = "java/lang/IndexOutOfBoundsException") (fun (u : UU) => [(h0, oC 12 [.ref h1, .ref g0, .ref g1, .ref g2, .ref g3, .ref g4, .ref g5, .ref g6, .ref g7, .long p0]), (h1, oC 2 [.ref g8, .ref g9, .ref g10, .ref g11, .ref g12, .ref h2, .ref h4, .ref h6, .ref g13, .ref g14, .ref g15, .int p1]), (h2, oC 3 [.ref h3, .int p2]), (h3, aI Y 80 f0), (h4, oC 3 [.ref h5, .int p3]), (h5, aI Y 80 f1), (h6, oC 7 [.ref h7, .int p4]), (h7, aJ Y 80 f2)]) (va_A [(h0, oC 12 [.ref h1, .ref g0, .ref g1, .ref g2, .ref g3, .ref g4, .ref g5, .ref g6, .ref g7, .long p0]), (h1, oC 2 [.ref g8, .ref g9, .ref g10, .ref g11, .ref g12, .ref h2, .ref h4, .ref h6, .ref g13, .ref g14, .ref g15, .int p1]), (h2, oC 3 [.ref h3, .int p2]), (h3, aI Y 80 f0), (h4, oC 3 [.ref h5, .int p3]), (h5, aI Y 80 f1), (h6, oC 7 [.ref h7, .int p4]), (h7, aJ Y 80 f2)] sz)) 1 6 (va_A [(h0, oC 12 [.ref h1, .ref g0, .ref g1, .ref g2, .ref g3, .ref g4, .ref g5, .ref g6, .ref g7, .long p0]), (h1, oC 2 [.ref g8, .ref g9, .ref g10, .ref g11, .ref g12, .ref h2, .ref h4, .ref h6, .ref g13, .ref g14, .ref g15, .int p1]), (h2, oC 3 [.ref h3, .int p2]), (h3, aI Y 80 f0), (h4, oC 3 [.ref h5, .int p3]), (h5, aI Y 80 f1), (h6, oC 7 [.ref h7, .int p4]), (h7, aJ Y 80 f2)] sz) :=
  xmet_of (by decide +kernel) (Nat.le_of_ble_eq_true rfl) (fun p e s m args below meth c B EB hout hsz => by
    have B : VB p s m args meth c D Y (va_A [(h0, oC 12 [.ref h1, .ref g0, .ref g1, .ref g2, .ref g3, .ref g4, .ref g5, .ref g6, .ref g7, .long p0]), (h1, oC 2 [.ref g8, .ref g9, .ref g10, .ref g11, .ref g12, .ref h2, .ref h4, .ref h6, .ref g13, .ref g14, .ref g15, .int p1]), (h2, oC 3 [.ref h3, .int p2]), (h3, aI Y 80 f0), (h4, oC 3 [.ref h5, .int p3]), (h5, aI Y 80 f1), (h6, oC 7 [.ref h7, .int p4]), (h7, aJ Y 80 f2)] sz) cX11_binding 3 RX11 (some .int) := B
    refine V_aload_n 0 B dX11_binding_0 0 rfl ?_
    refine V_iload_n 1 B dX11_binding_1 1 rfl ?_
    refine V_xvv 2 B EB (st := []) (As := [.int p5]) (fun sz => sX11_needBinding_1 l hl9 D Y h0 h1 h2 g0 g1 g2 g3 g4 g5 g6 g7 g8 g9 g10 g11 g12 h4 h6 g13 g14 g15 h3 p0 p1 p2 p5 sz) glV_RX11_167 ⟨rfl, rfl⟩ ⟨(Nat.le_of_ble_eq_true rfl), (Nat.le_of_ble_eq_true rfl)⟩ ⟨(Nat.le_of_ble_eq_true rfl), (Nat.le_of_ble_eq_true rfl)⟩ [0, 0, 0] rfl 12 0 rfl rfl rfl rfl (Nat.le_of_ble_eq_true rfl) rfl (fun _ _ => rfl) (fun _ _ _ => rfl) dX11_binding_2 (fun E u1 w2 => ?_) (fun u1 w2 => ?_)
    ·
      obtain rfl := w2
      exact VX_out 2 B hout (mkU [] [] [] [] []) rfl rfl (Nat.le_of_ble_eq_true rfl) (Nat.le_of_ble_eq_true rfl)
    ·
      refine V_ws [(h0, oC 12 [.ref h1, .ref g0, .ref g1, .ref g2, .ref g3, .ref g4, .ref g5, .ref g6, .ref g7, .long p0]), (h1, oC 2 [.ref g8, .ref g9, .ref g10, .ref g11, .ref g12, .ref h2, .ref h4, .ref h6, .ref g13, .ref g14, .ref g15, .int p1]), (h2, oC 3 [.ref h3, .int p2]), (h3, aI Y 80 f0), (h4, oC 3 [.ref h5, .int p3]), (h5, aI Y 80 f1), (h6, oC 7 [.ref h7, .int p4]), (h7, aJ Y 80 f2)] rfl ?_
      refine V_iload_n 5 B dX11_binding_5 2 rfl ?_
      by_cases k3 : p6 = 0
      ·
        refine V_eqi _ 0 k3 ?_
        refine V_tableIn 6 B 36 dX11_binding_6 (by decide +kernel) (by decide +kernel) (off := 30) (by decide +kernel) (by decide) ?_
        refine V_aload_n 36 B dX11_binding_36 0 rfl ?_
        refine V_get 37 B gf_RX11_10 0 rfl rfl dX11_binding_37 ?_
        refine V_get 40 B gf_RX11_91 1 rfl rfl dX11_binding_40 ?_
        refine V_iload_n 43 B dX11_binding_43 1 rfl ?_
        refine V_gvi 44 B envX EB (st := []) (As := [.int p5]) (fun sz => sX1_at_3 l D Y h2 h3 p2 f0 p5 sz) glV_RX11_187 ⟨rfl, rfl⟩ ⟨(Nat.le_of_ble_eq_true rfl), (Nat.le_of_ble_eq_true rfl)⟩ ⟨(Nat.le_of_ble_eq_true rfl), (Nat.le_of_ble_eq_true rfl)⟩ [2, 0] rfl 3 0 rfl rfl rfl rfl (Nat.le_of_ble_eq_true rfl) rfl (fun _ _ _ => rfl) dX11_binding_44 (fun j4 u5 w6 => ?_)
        refine V_ws [(h0, oC 12 [.ref h1, .ref g0, .ref g1, .ref g2, .ref g3, .ref g4, .ref g5, .ref g6, .ref g7, .long p0]), (h1, oC 2 [.ref g8, .ref g9, .ref g10, .ref g11, .ref g12, .ref h2, .ref h4, .ref h6, .ref g13, .ref g14, .ref g15, .int p1]), (h2, oC 3 [.ref h3, .int p2]), (h3, aI Y 80 f0), (h4, oC 3 [.ref h5, .int p3]), (h5, aI Y 80 f1), (h6, oC 7 [.ref h7, .int p4]), (h7, aJ Y 80 f2)] rfl ?_
        refine V_xret ?_
        refine V_widen (k := 1) (n := 6) (Nat.le_of_ble_eq_true rfl) (Nat.le_of_ble_eq_true rfl) ?_
        exact V_iret 47 B dX11_binding_47 (mkU [] [] [] [] []) trivial rfl
      ·
        by_cases k7 : p6 = 1
        ·
          refine V_eqi _ 1 k7 ?_
          refine V_tableIn 6 B 48 dX11_binding_6 (by decide +kernel) (by decide +kernel) (off := 42) (by decide +kernel) (by decide) ?_
          refine V_aload_n 48 B dX11_binding_48 0 rfl ?_
          refine V_get 49 B gf_RX11_10 0 rfl rfl dX11_binding_49 ?_
          refine V_get 52 B gf_RX11_213 1 rfl rfl dX11_binding_52 ?_
          refine V_iload_n 55 B dX11_binding_55 1 rfl ?_
          refine V_gvi 56 B envX EB (st := []) (As := [.int p5]) (fun sz => sX1_at_3 l D Y h4 h5 p3 f1 p5 sz) glV_RX11_187 ⟨rfl, rfl⟩ ⟨(Nat.le_of_ble_eq_true rfl), (Nat.le_of_ble_eq_true rfl)⟩ ⟨(Nat.le_of_ble_eq_true rfl), (Nat.le_of_ble_eq_true rfl)⟩ [4, 0] rfl 3 0 rfl rfl rfl rfl (Nat.le_of_ble_eq_true rfl) rfl (fun _ _ _ => rfl) dX11_binding_56 (fun j8 u9 w10 => ?_)
          refine V_ws [(h0, oC 12 [.ref h1, .ref g0, .ref g1, .ref g2, .ref g3, .ref g4, .ref g5, .ref g6, .ref g7, .long p0]), (h1, oC 2 [.ref g8, .ref g9, .ref g10, .ref g11, .ref g12, .ref h2, .ref h4, .ref h6, .ref g13, .ref g14, .ref g15, .int p1]), (h2, oC 3 [.ref h3, .int p2]), (h3, aI Y 80 f0), (h4, oC 3 [.ref h5, .int p3]), (h5, aI Y 80 f1), (h6, oC 7 [.ref h7, .int p4]), (h7, aJ Y 80 f2)] rfl ?_
          refine V_xret ?_
          refine V_widen (k := 1) (n := 6) (Nat.le_of_ble_eq_true rfl) (Nat.le_of_ble_eq_true rfl) ?_
          exact V_iret 59 B dX11_binding_59 (mkU [] [] [] [] []) trivial rfl
        ·
          by_cases k11 : p6 = 2
          ·
            refine V_eqi _ 2 k11 ?_
            refine V_tableIn 6 B 60 dX11_binding_6 (by decide +kernel) (by decide +kernel) (off := 54) (by decide +kernel) (by decide) ?_
            refine V_aload_n 60 B dX11_binding_60 0 rfl ?_
            refine V_get 61 B gf_RX11_10 0 rfl rfl dX11_binding_61 ?_
            refine V_get 64 B gf_RX11_170 1 rfl rfl dX11_binding_64 ?_
            refine V_iload_n 67 B dX11_binding_67 1 rfl ?_
            refine V_gvl 68 B envX EB (st := []) (As := [.int p5]) (fun sz => sX5_at_1 l D Y h6 h7 p4 f2 p5 sz) glV_RX11_173 ⟨rfl, rfl⟩ ⟨(Nat.le_of_ble_eq_true rfl), (Nat.le_of_ble_eq_true rfl)⟩ ⟨(Nat.le_of_ble_eq_true rfl), (Nat.le_of_ble_eq_true rfl)⟩ [6, 0] rfl 7 0 rfl rfl rfl rfl (Nat.le_of_ble_eq_true rfl) rfl (fun _ _ _ => rfl) dX11_binding_68 (fun o12 u13 w14 => ?_)
            refine V_ws [(h0, oC 12 [.ref h1, .ref g0, .ref g1, .ref g2, .ref g3, .ref g4, .ref g5, .ref g6, .ref g7, .long p0]), (h1, oC 2 [.ref g8, .ref g9, .ref g10, .ref g11, .ref g12, .ref h2, .ref h4, .ref h6, .ref g13, .ref g14, .ref g15, .int p1]), (h2, oC 3 [.ref h3, .int p2]), (h3, aI Y 80 f0), (h4, oC 3 [.ref h5, .int p3]), (h5, aI Y 80 f1), (h6, oC 7 [.ref h7, .int p4]), (h7, aJ Y 80 f2)] rfl ?_
            refine V_gsi 71 B envX EB (st := []) (As := [.long o12]) (fun sz => sX6_lengthOf_1 l D Y  o12 sz) glS_RX11_138 ⟨rfl, rfl⟩ ⟨(Nat.le_of_ble_eq_true rfl), (Nat.le_of_ble_eq_true rfl)⟩ ⟨(Nat.le_of_ble_eq_true rfl), (Nat.le_of_ble_eq_true rfl)⟩ [] rfl rfl (Nat.le_of_ble_eq_true rfl) rfl (fun _ _ _ => rfl) dX11_binding_71 (fun j15 u16 w17 => ?_)
            refine V_ws [(h0, oC 12 [.ref h1, .ref g0, .ref g1, .ref g2, .ref g3, .ref g4, .ref g5, .ref g6, .ref g7, .long p0]), (h1, oC 2 [.ref g8, .ref g9, .ref g10, .ref g11, .ref g12, .ref h2, .ref h4, .ref h6, .ref g13, .ref g14, .ref g15, .int p1]), (h2, oC 3 [.ref h3, .int p2]), (h3, aI Y 80 f0), (h4, oC 3 [.ref h5, .int p3]), (h5, aI Y 80 f1), (h6, oC 7 [.ref h7, .int p4]), (h7, aJ Y 80 f2)] rfl ?_
            refine V_xret ?_
            refine V_widen (k := 1) (n := 6) (Nat.le_of_ble_eq_true rfl) (Nat.le_of_ble_eq_true rfl) ?_
            exact V_iret 74 B dX11_binding_74 (mkU [] [] [] [] []) trivial rfl
          ·
            by_cases k18 : p6 = 3
            ·
              refine V_eqi _ 3 k18 ?_
              refine V_tableIn 6 B 75 dX11_binding_6 (by decide +kernel) (by decide +kernel) (off := 69) (by decide +kernel) (by decide) ?_
              refine V_aload_n 75 B dX11_binding_75 0 rfl ?_
              refine V_get 76 B gf_RX11_10 0 rfl rfl dX11_binding_76 ?_
              refine V_get 79 B gf_RX11_170 1 rfl rfl dX11_binding_79 ?_
              refine V_iload_n 82 B dX11_binding_82 1 rfl ?_
              refine V_gvl 83 B envX EB (st := []) (As := [.int p5]) (fun sz => sX5_at_1 l D Y h6 h7 p4 f2 p5 sz) glV_RX11_173 ⟨rfl, rfl⟩ ⟨(Nat.le_of_ble_eq_true rfl), (Nat.le_of_ble_eq_true rfl)⟩ ⟨(Nat.le_of_ble_eq_true rfl), (Nat.le_of_ble_eq_true rfl)⟩ [6, 0] rfl 7 0 rfl rfl rfl rfl (Nat.le_of_ble_eq_true rfl) rfl (fun _ _ _ => rfl) dX11_binding_83 (fun o19 u20 w21 => ?_)
              refine V_ws [(h0, oC 12 [.ref h1, .ref g0, .ref g1, .ref g2, .ref g3, .ref g4, .ref g5, .ref g6, .ref g7, .long p0]), (h1, oC 2 [.ref g8, .ref g9, .ref g10, .ref g11, .ref g12, .ref h2, .ref h4, .ref h6, .ref g13, .ref g14, .ref g15, .int p1]), (h2, oC 3 [.ref h3, .int p2]), (h3, aI Y 80 f0), (h4, oC 3 [.ref h5, .int p3]), (h5, aI Y 80 f1), (h6, oC 7 [.ref h7, .int p4]), (h7, aJ Y 80 f2)] rfl ?_
              refine V_gsi 86 B envX EB (st := []) (As := [.long o19]) (fun sz => sX6_costOf_1 l D Y  o19 sz) glS_RX11_177 ⟨rfl, rfl⟩ ⟨(Nat.le_of_ble_eq_true rfl), (Nat.le_of_ble_eq_true rfl)⟩ ⟨(Nat.le_of_ble_eq_true rfl), (Nat.le_of_ble_eq_true rfl)⟩ [] rfl rfl (Nat.le_of_ble_eq_true rfl) rfl (fun _ _ _ => rfl) dX11_binding_86 (fun j22 u23 w24 => ?_)
              refine V_ws [(h0, oC 12 [.ref h1, .ref g0, .ref g1, .ref g2, .ref g3, .ref g4, .ref g5, .ref g6, .ref g7, .long p0]), (h1, oC 2 [.ref g8, .ref g9, .ref g10, .ref g11, .ref g12, .ref h2, .ref h4, .ref h6, .ref g13, .ref g14, .ref g15, .int p1]), (h2, oC 3 [.ref h3, .int p2]), (h3, aI Y 80 f0), (h4, oC 3 [.ref h5, .int p3]), (h5, aI Y 80 f1), (h6, oC 7 [.ref h7, .int p4]), (h7, aJ Y 80 f2)] rfl ?_
              refine V_xret ?_
              refine V_widen (k := 1) (n := 6) (Nat.le_of_ble_eq_true rfl) (Nat.le_of_ble_eq_true rfl) ?_
              exact V_iret 89 B dX11_binding_89 (mkU [] [] [] [] []) trivial rfl
            ·
              refine V_tableOut 6 B 90 dX11_binding_6 (sw_out_0_3 k3 k7 k11 k18) (by decide) ?_
              refine V_iconst 90 B (v := (-1)) dX11_binding_90 (by decide +kernel) ?_
              refine V_xret ?_
              refine V_widen (k := 1) (n := 6) (Nat.le_of_ble_eq_true rfl) (Nat.le_of_ble_eq_true rfl) ?_
              exact V_iret 91 B dX11_binding_91 (mkU [] [] [] [] []) trivial rfl)
theorem dX11_bindingStroke_0 : decode cX11_bindingStroke 0 = .ok (.aload_n 0, 1) := by decide +kernel
theorem dX11_bindingStroke_1 : decode cX11_bindingStroke 1 = .ok (.iload_n 1, 1) := by decide +kernel
theorem dX11_bindingStroke_2 : decode cX11_bindingStroke 2 = .ok (.invokevirtual 167, 3) := by decide +kernel
theorem dX11_bindingStroke_5 : decode cX11_bindingStroke 5 = .ok (.aload_n 0, 1) := by decide +kernel
theorem dX11_bindingStroke_6 : decode cX11_bindingStroke 6 = .ok (.getfield 10, 3) := by decide +kernel
theorem dX11_bindingStroke_9 : decode cX11_bindingStroke 9 = .ok (.getfield 170, 3) := by decide +kernel
theorem dX11_bindingStroke_12 : decode cX11_bindingStroke 12 = .ok (.iload_n 1, 1) := by decide +kernel
theorem dX11_bindingStroke_13 : decode cX11_bindingStroke 13 = .ok (.invokevirtual 173, 3) := by decide +kernel
theorem dX11_bindingStroke_16 : decode cX11_bindingStroke 16 = .ok (.iload_n 2, 1) := by decide +kernel
theorem dX11_bindingStroke_17 : decode cX11_bindingStroke 17 = .ok (.invokestatic 163, 3) := by decide +kernel
theorem dX11_bindingStroke_20 : decode cX11_bindingStroke 20 = .ok (.ireturn, 1) := by decide +kernel
set_option maxRecDepth 100000 in
set_option maxHeartbeats 4000000 in
theorem sX11_bindingStroke_1 (l : Launch) (hl9 : l.stackTraces = false) (D : va_G) (Y : Nat → ClassId) (h0 : Nat) (h1 : Nat) (h2 : Nat) (h3 : Nat) (h4 : Nat) (g0 : Nat) (g1 : Nat) (g2 : Nat) (g3 : Nat) (g4 : Nat) (g5 : Nat) (g6 : Nat) (g7 : Nat) (g8 : Nat) (g9 : Nat) (g10 : Nat) (g11 : Nat) (g12 : Nat) (g13 : Nat) (g14 : Nat) (g15 : Nat) (g16 : Nat) (g17 : Nat) (p0 : Int64) (p1 : Int32) (p2 : Int32) (p3 : Int32) (f0 : Nat → Int64) (p4 : Int32) (p5 : Int32) (sz : Nat) : vx_Met l yX11_bindingStroke (WSm yX11_bindingStroke cX11_bindingStroke 3 (some .int)) (mkR 7 1 6 103) (PreX D Y [.ref h0, .int p4, .int p5] [(h0, oC 12 [.ref h1, .ref g0, .ref g1, .ref g2, .ref g3, .ref g4, .ref g5, .ref g6, .ref g7, .long p0]), (h1, oC 2 [.ref g8, .ref g9, .ref g10, .ref g11, .ref g12, .ref h2, .ref g13, .ref h3, .ref g14, .ref g15, .ref g16, .int p1]), (h2, oC 3 [.ref g17, .int p2]), (h3, oC 7 [.ref h4, .int p3]), (h4, aJ Y 80 f0)] sz) (QI D (fun (_ : Int32) (_ : UU) => True) (fun (u : UU) => [(h0, oC 12 [.ref h1, .ref g0, .ref g1, .ref g2, .ref g3, .ref g4, .ref g5, .ref g6, .ref g7, .long p0]), (h1, oC 2 [.ref g8, .ref g9, .ref g10, .ref g11, .ref g12, .ref h2, .ref g13, .ref h3, .ref g14, .ref g15, .ref g16, .int p1]), (h2, oC 3 [.ref g17, .int p2]), (h3, oC 7 [.ref h4, .int p3]), (h4, aJ Y 80 f0)]) (va_A [(h0, oC 12 [.ref h1, .ref g0, .ref g1, .ref g2, .ref g3, .ref g4, .ref g5, .ref g6, .ref g7, .long p0]), (h1, oC 2 [.ref g8, .ref g9, .ref g10, .ref g11, .ref g12, .ref h2, .ref g13, .ref h3, .ref g14, .ref g15, .ref g16, .int p1]), (h2, oC 3 [.ref g17, .int p2]), (h3, oC 7 [.ref h4, .int p3]), (h4, aJ Y 80 f0)] sz)) (XW D (fun (E : String) (_ : UU) => E = "java/lang/IndexOutOfBoundsException") (fun (u : UU) => [(h0, oC 12 [.ref h1, .ref g0, .ref g1, .ref g2, .ref g3, .ref g4, .ref g5, .ref g6, .ref g7, .long p0]), (h1, oC 2 [.ref g8, .ref g9, .ref g10, .ref g11, .ref g12, .ref h2, .ref g13, .ref h3, .ref g14, .ref g15, .ref g16, .int p1]), (h2, oC 3 [.ref g17, .int p2]), (h3, oC 7 [.ref h4, .int p3]), (h4, aJ Y 80 f0)]) (va_A [(h0, oC 12 [.ref h1, .ref g0, .ref g1, .ref g2, .ref g3, .ref g4, .ref g5, .ref g6, .ref g7, .long p0]), (h1, oC 2 [.ref g8, .ref g9, .ref g10, .ref g11, .ref g12, .ref h2, .ref g13, .ref h3, .ref g14, .ref g15, .ref g16, .int p1]), (h2, oC 3 [.ref g17, .int p2]), (h3, oC 7 [.ref h4, .int p3]), (h4, aJ Y 80 f0)] sz)) 1 6 (va_A [(h0, oC 12 [.ref h1, .ref g0, .ref g1, .ref g2, .ref g3, .ref g4, .ref g5, .ref g6, .ref g7, .long p0]), (h1, oC 2 [.ref g8, .ref g9, .ref g10, .ref g11, .ref g12, .ref h2, .ref g13, .ref h3, .ref g14, .ref g15, .ref g16, .int p1]), (h2, oC 3 [.ref g17, .int p2]), (h3, oC 7 [.ref h4, .int p3]), (h4, aJ Y 80 f0)] sz) :=
  xmet_of (by decide +kernel) (Nat.le_of_ble_eq_true rfl) (fun p e s m args below meth c B EB hout hsz => by
    have B : VB p s m args meth c D Y (va_A [(h0, oC 12 [.ref h1, .ref g0, .ref g1, .ref g2, .ref g3, .ref g4, .ref g5, .ref g6, .ref g7, .long p0]), (h1, oC 2 [.ref g8, .ref g9, .ref g10, .ref g11, .ref g12, .ref h2, .ref g13, .ref h3, .ref g14, .ref g15, .ref g16, .int p1]), (h2, oC 3 [.ref g17, .int p2]), (h3, oC 7 [.ref h4, .int p3]), (h4, aJ Y 80 f0)] sz) cX11_bindingStroke 3 RX11 (some .int) := B
    refine V_aload_n 0 B dX11_bindingStroke_0 0 rfl ?_
    refine V_iload_n 1 B dX11_bindingStroke_1 1 rfl ?_
    refine V_xvv 2 B EB (st := []) (As := [.int p4]) (fun sz => sX11_needBinding_1 l hl9 D Y h0 h1 h2 g0 g1 g2 g3 g4 g5 g6 g7 g8 g9 g10 g11 g12 g13 h3 g14 g15 g16 g17 p0 p1 p2 p4 sz) glV_RX11_167 ⟨rfl, rfl⟩ ⟨(Nat.le_of_ble_eq_true rfl), (Nat.le_of_ble_eq_true rfl)⟩ ⟨(Nat.le_of_ble_eq_true rfl), (Nat.le_of_ble_eq_true rfl)⟩ [0, 0, 0] rfl 12 0 rfl rfl rfl rfl (Nat.le_of_ble_eq_true rfl) rfl (fun _ _ => rfl) (fun _ _ _ => rfl) dX11_bindingStroke_2 (fun E u1 w2 => ?_) (fun u1 w2 => ?_)
    ·
      obtain rfl := w2
      exact VX_out 2 B hout (mkU [] [] [] [] []) rfl rfl (Nat.le_of_ble_eq_true rfl) (Nat.le_of_ble_eq_true rfl)
    ·
      refine V_ws [(h0, oC 12 [.ref h1, .ref g0, .ref g1, .ref g2, .ref g3, .ref g4, .ref g5, .ref g6, .ref g7, .long p0]), (h1, oC 2 [.ref g8, .ref g9, .ref g10, .ref g11, .ref g12, .ref h2, .ref g13, .ref h3, .ref g14, .ref g15, .ref g16, .int p1]), (h2, oC 3 [.ref g17, .int p2]), (h3, oC 7 [.ref h4, .int p3]), (h4, aJ Y 80 f0)] rfl ?_
      refine V_aload_n 5 B dX11_bindingStroke_5 0 rfl ?_
      refine V_get 6 B gf_RX11_10 0 rfl rfl dX11_bindingStroke_6 ?_
      refine V_get 9 B gf_RX11_170 1 rfl rfl dX11_bindingStroke_9 ?_
      refine V_iload_n 12 B dX11_bindingStroke_12 1 rfl ?_
      refine V_gvl 13 B envX EB (st := []) (As := [.int p4]) (fun sz => sX5_at_1 l D Y h3 h4 p3 f0 p4 sz) glV_RX11_173 ⟨rfl, rfl⟩ ⟨(Nat.le_of_ble_eq_true rfl), (Nat.le_of_ble_eq_true rfl)⟩ ⟨(Nat.le_of_ble_eq_true rfl), (Nat.le_of_ble_eq_true rfl)⟩ [3, 0] rfl 7 0 rfl rfl rfl rfl (Nat.le_of_ble_eq_true rfl) rfl (fun _ _ _ => rfl) dX11_bindingStroke_13 (fun o3 u4 w5 => ?_)
      refine V_ws [(h0, oC 12 [.ref h1, .ref g0, .ref g1, .ref g2, .ref g3, .ref g4, .ref g5, .ref g6, .ref g7, .long p0]), (h1, oC 2 [.ref g8, .ref g9, .ref g10, .ref g11, .ref g12, .ref h2, .ref g13, .ref h3, .ref g14, .ref g15, .ref g16, .int p1]), (h2, oC 3 [.ref g17, .int p2]), (h3, oC 7 [.ref h4, .int p3]), (h4, aJ Y 80 f0)] rfl ?_
      refine V_iload_n 16 B dX11_bindingStroke_16 2 rfl ?_
      refine V_gsi 17 B envX EB (st := []) (As := [.long o3, .int p5]) (fun sz => sX6_strokeAt_1 l D Y  o3 p5 sz) glS_RX11_163 ⟨rfl, rfl⟩ ⟨(Nat.le_of_ble_eq_true rfl), (Nat.le_of_ble_eq_true rfl)⟩ ⟨(Nat.le_of_ble_eq_true rfl), (Nat.le_of_ble_eq_true rfl)⟩ [] rfl rfl (Nat.le_of_ble_eq_true rfl) rfl (fun _ _ _ => rfl) dX11_bindingStroke_17 (fun j6 u7 w8 => ?_)
      refine V_ws [(h0, oC 12 [.ref h1, .ref g0, .ref g1, .ref g2, .ref g3, .ref g4, .ref g5, .ref g6, .ref g7, .long p0]), (h1, oC 2 [.ref g8, .ref g9, .ref g10, .ref g11, .ref g12, .ref h2, .ref g13, .ref h3, .ref g14, .ref g15, .ref g16, .int p1]), (h2, oC 3 [.ref g17, .int p2]), (h3, oC 7 [.ref h4, .int p3]), (h4, aJ Y 80 f0)] rfl ?_
      refine V_xret ?_
      refine V_widen (k := 1) (n := 6) (Nat.le_of_ble_eq_true rfl) (Nat.le_of_ble_eq_true rfl) ?_
      exact V_iret 20 B dX11_bindingStroke_20 (mkU [] [] [] [] []) trivial rfl)
theorem dX11_clashing_0 : decode cX11_clashing 0 = .ok (.aload_n 0, 1) := by decide +kernel
