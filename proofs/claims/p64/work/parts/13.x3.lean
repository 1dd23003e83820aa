theorem glV_RX7_28 : GLV RX7 28 yX7_advance RX7 cX7_advance 1 none 0 := ⟨⟨(mT2 205 rfl rfl), (mT2 206 rfl rfl), (mT2 207 rfl rfl), (mT1 10 rfl rfl), (mT2 208 rfl rfl)⟩, by decide +kernel⟩
theorem dX7_begin_19 : decode cX7_begin 19 = .ok (.return_, 1) := by decide +kernel
set_option maxRecDepth 100000 in
set_option maxHeartbeats 4000000 in
theorem sX7_begin_1 (l : Launch) (D : va_G) (Y : Nat → ClassId) (h0 : Nat) (h1 : Nat) (p0 : Int32) (p1 : Int32) (p2 : Int32) (p3 : Int32) (p4 : Int32) (p5 : Int64) (p6 : Int32) (p7 : Int32) (f0 : Nat → Int32) (sz : Nat) : Met l yX7_begin (WSm yX7_begin cX7_begin 1 none) (mkR 2 0 0 41) (PreG EX D Y [.ref h0] [(h0, oC 8 [.ref h1, .int p0, .int p1, .int p2, .int p3, .int p4, .long p5, .int p6, .int p7]), (h1, aB Y 1600 f0)] sz) (QV D (fun (_ : UU) => True) (fun (u : UU) => [(h0, oC 8 [.ref h1, .int p0, .int (u.1 0), .int (u.1 1), .int (u.1 2), .int p4, .long p5, .int (u.1 3), .int (u.1 4)]), (h1, aB Y 1600 f0)]) (va_A [(h0, oC 8 [.ref h1, .int p0, .int p1, .int p2, .int p3, .int p4, .long p5, .int p6, .int p7]), (h1, aB Y 1600 f0)] sz)) 0 0 (va_A [(h0, oC 8 [.ref h1, .int p0, .int p1, .int p2, .int p3, .int p4, .long p5, .int p6, .int p7]), (h1, aB Y 1600 f0)] sz) :=
  gmet_of (by decide +kernel) (Nat.le_of_ble_eq_true rfl) (fun p e s m args below meth c B EB hsz => by
    have B : VB p s m args meth c D Y (va_A [(h0, oC 8 [.ref h1, .int p0, .int p1, .int p2, .int p3, .int p4, .long p5, .int p6, .int p7]), (h1, aB Y 1600 f0)] sz) cX7_begin 1 RX7 none := B
    refine V_aload_n 0 B dX7_begin_0 0 rfl ?_
    refine V_iconst 1 B (v := 0) dX7_begin_1 (by decide +kernel) ?_
    refine V_put 2 B gp_RX7_22 0 rfl (Nat.le_of_ble_eq_true rfl) rfl rfl dX7_begin_2 [(h0, oC 8 [.ref h1, .int p0, .int p1, .int p2, .int p3, .int p4, .long p5, .int 0, .int p7]), (h1, aB Y 1600 f0)] rfl ?_
    refine V_aload_n 5 B dX7_begin_5 0 rfl ?_
    refine V_iconst 6 B (v := (-1)) dX7_begin_6 (by decide +kernel) ?_
    refine V_put 7 B gp_RX7_15 0 rfl (Nat.le_of_ble_eq_true rfl) rfl rfl dX7_begin_7 [(h0, oC 8 [.ref h1, .int p0, .int p1, .int p2, .int p3, .int p4, .long p5, .int 0, .int (-1)]), (h1, aB Y 1600 f0)] rfl ?_
    refine V_aload_n 10 B dX7_begin_10 0 rfl ?_
    refine V_iconst 11 B (v := 0) dX7_begin_11 (by decide +kernel) ?_
    refine V_put 12 B gp_RX7_25 0 rfl (Nat.le_of_ble_eq_true rfl) rfl rfl dX7_begin_12 [(h0, oC 8 [.ref h1, .int p0, .int p1, .int p2, .int 0, .int p4, .long p5, .int 0, .int (-1)]), (h1, aB Y 1600 f0)] rfl ?_
    refine V_aload_n 15 B dX7_begin_15 0 rfl ?_
    refine V_gvv 16 B envX EB (st := []) (As := []) (fun sz => sX7_advance_1 l D Y h0 h1 p0 p1 p2 0 p4 p5 0 (-1) f0 sz) glV_RX7_28 ⟨rfl, rfl⟩ ⟨(Nat.le_of_ble_eq_true rfl), (Nat.le_of_ble_eq_true rfl)⟩ ⟨(Nat.le_of_ble_eq_true rfl), (Nat.le_of_ble_eq_true rfl)⟩ [0, 0] rfl 8 0 rfl rfl rfl rfl (Nat.le_of_ble_eq_true rfl) rfl (fun _ _ => rfl) dX7_begin_16 (fun u1 w2 => ?_)
    refine V_ws [(h0, oC 8 [.ref h1, .int p0, .int (u1.1 0), .int (u1.1 1), .int (u1.1 2), .int p4, .long p5, .int 0, .int (-1)]), (h1, aB Y 1600 f0)] rfl ?_
    exact V_vret 19 B dX7_begin_19 (mkU [(u1.1 0), (u1.1 1), (u1.1 2), 0, (-1)] [] [] [] []) trivial rfl)
theorem glV_RX3_33 : GLV RX3 33 yX7_begin RX7 cX7_begin 1 none 0 := ⟨⟨(mT2 201 rfl rfl), (mT2 202 rfl rfl), (mT2 203 rfl rfl), (mT1 10 rfl rfl), (mT2 204 rfl rfl)⟩, by decide +kernel⟩
theorem dX3_readText_14 : decode cX3_readText 14 = .ok (.iconst 0, 1) := by decide +kernel
theorem dX3_readText_15 : decode cX3_readText 15 = .ok (.istore_n 1, 1) := by decide +kernel
theorem dX3_readText_16 : decode cX3_readText 16 = .ok (.iload_n 1, 1) := by decide +kernel
theorem dX3_readText_17 : decode cX3_readText 17 = .ok (.sipush 1600, 3) := by decide +kernel
theorem dX3_readText_20 : decode cX3_readText 20 = .ok (.if_icmp .ge 28, 3) := by decide +kernel
theorem dX3_readText_48 : decode cX3_readText 48 = .ok (.iconst 0, 1) := by decide +kernel
theorem dX3_readText_49 : decode cX3_readText 49 = .ok (.istore_n 1, 1) := by decide +kernel
theorem dX3_readText_50 : decode cX3_readText 50 = .ok (.iload_n 1, 1) := by decide +kernel
theorem dX3_readText_51 : decode cX3_readText 51 = .ok (.aload_n 0, 1) := by decide +kernel
theorem dX3_readText_52 : decode cX3_readText 52 = .ok (.getfield 15, 3) := by decide +kernel
theorem dX3_readText_55 : decode cX3_readText 55 = .ok (.getfield 46, 3) := by decide +kernel
theorem gf_RX3_46 : GF RX3 46 2 2 := ⟨RX0, TX0, 12, rfl, inw_X0, Nat.le_of_ble_eq_true rfl, (mT1 168 rfl rfl)⟩
theorem dX3_readText_58 : decode cX3_readText 58 = .ok (.invokevirtual 49, 3) := by decide +kernel
theorem dX1_size_0 : decode cX1_size 0 = .ok (.aload_n 0, 1) := by decide +kernel
theorem dX1_size_1 : decode cX1_size 1 = .ok (.getfield 21, 3) := by decide +kernel
theorem dX1_size_4 : decode cX1_size 4 = .ok (.ireturn, 1) := by decide +kernel
set_option maxRecDepth 100000 in
set_option maxHeartbeats 4000000 in
theorem sX1_size_1 (l : Launch) (D : va_G) (Y : Nat → ClassId) (h0 : Nat) (g0 : Nat) (p0 : Int32) (sz : Nat) : Met l yX1_size (WSm yX1_size cX1_size 1 (some .int)) (mkR 0 0 0 0) (PreG EX D Y [.ref h0] [(h0, oC 3 [.ref g0, .int p0])] sz) (QI D (fun (_ : Int32) (_ : UU) => True) (fun (u : UU) => [(h0, oC 3 [.ref g0, .int p0])]) (va_A [(h0, oC 3 [.ref g0, .int p0])] sz)) 0 0 (va_A [(h0, oC 3 [.ref g0, .int p0])] sz) :=
  gmet_of (by decide +kernel) (Nat.le_of_ble_eq_true rfl) (fun p e s m args below meth c B EB hsz => by
    have B : VB p s m args meth c D Y (va_A [(h0, oC 3 [.ref g0, .int p0])] sz) cX1_size 1 RX1 (some .int) := B
    refine V_aload_n 0 B dX1_size_0 0 rfl ?_
    refine V_get 1 B gf_RX1_21 0 rfl rfl dX1_size_1 ?_
    exact V_iret 4 B dX1_size_4 (mkU [] [] [] [] []) trivial rfl)
theorem glV_RX3_49 : GLV RX3 49 yX1_size RX1 cX1_size 1 (some .int) 0 := ⟨⟨(mT3 46 rfl rfl), (mT3 47 rfl rfl), (mT3 48 rfl rfl), (mT1 3 rfl rfl), (mT3 49 rfl rfl)⟩, by decide +kernel⟩
theorem dX3_readText_61 : decode cX3_readText 61 = .ok (.if_icmp .ge 49, 3) := by decide +kernel
theorem dX3_readText_110 : decode cX3_readText 110 = .ok (.iconst 1, 1) := by decide +kernel
theorem dX3_readText_111 : decode cX3_readText 111 = .ok (.ireturn, 1) := by decide +kernel
theorem dX3_readText_64 : decode cX3_readText 64 = .ok (.aload_n 0, 1) := by decide +kernel
theorem dX3_readText_65 : decode cX3_readText 65 = .ok (.getfield 15, 3) := by decide +kernel
theorem dX3_readText_68 : decode cX3_readText 68 = .ok (.getfield 46, 3) := by decide +kernel
theorem dX3_readText_71 : decode cX3_readText 71 = .ok (.iload_n 1, 1) := by decide +kernel
theorem dX3_readText_72 : decode cX3_readText 72 = .ok (.invokevirtual 53, 3) := by decide +kernel
theorem dX1_at_0 : decode cX1_at 0 = .ok (.iload_n 1, 1) := by decide +kernel
theorem dX1_at_1 : decode cX1_at 1 = .ok (.ifCond .lt 29, 3) := by decide +kernel
theorem dX1_at_30 : decode cX1_at 30 = .ok (.iconst (-1), 1) := by decide +kernel
theorem dX1_at_31 : decode cX1_at 31 = .ok (.ireturn, 1) := by decide +kernel
theorem dX1_at_4 : decode cX1_at 4 = .ok (.iload_n 1, 1) := by decide +kernel
theorem dX1_at_5 : decode cX1_at 5 = .ok (.aload_n 0, 1) := by decide +kernel
theorem dX1_at_6 : decode cX1_at 6 = .ok (.getfield 21, 3) := by decide +kernel
theorem dX1_at_9 : decode cX1_at 9 = .ok (.if_icmp .ge 21, 3) := by decide +kernel
theorem dX1_at_12 : decode cX1_at 12 = .ok (.iload_n 1, 1) := by decide +kernel
theorem dX1_at_13 : decode cX1_at 13 = .ok (.aload_n 0, 1) := by decide +kernel
theorem dX1_at_14 : decode cX1_at 14 = .ok (.getfield 15, 3) := by decide +kernel
theorem dX1_at_17 : decode cX1_at 17 = .ok (.arraylength, 1) := by decide +kernel
theorem dX1_at_18 : decode cX1_at 18 = .ok (.if_icmp .ge 12, 3) := by decide +kernel
theorem dX1_at_21 : decode cX1_at 21 = .ok (.aload_n 0, 1) := by decide +kernel
theorem dX1_at_22 : decode cX1_at 22 = .ok (.getfield 15, 3) := by decide +kernel
theorem dX1_at_25 : decode cX1_at 25 = .ok (.iload_n 1, 1) := by decide +kernel
theorem dX1_at_26 : decode cX1_at 26 = .ok (.iaload, 1) := by decide +kernel
theorem dX1_at_27 : decode cX1_at 27 = .ok (.goto 4, 3) := by decide +kernel
set_option maxRecDepth 100000 in
set_option maxHeartbeats 4000000 in
theorem sX1_at_1 (l : Launch) (D : va_G) (Y : Nat → ClassId) (h0 : Nat) (h1 : Nat) (p0 : Int32) (f0 : Nat → Int32) (p1 : Int32) (sz : Nat) : Met l yX1_at (WSm yX1_at cX1_at 2 (some .int)) (mkR 0 0 0 0) (PreG EX D Y [.ref h0, .int p1] [(h0, oC 3 [.ref h1, .int p0]), (h1, aI Y 40 f0)] sz) (QI D (fun (_ : Int32) (_ : UU) => True) (fun (u : UU) => [(h0, oC 3 [.ref h1, .int p0]), (h1, aI Y 40 f0)]) (va_A [(h0, oC 3 [.ref h1, .int p0]), (h1, aI Y 40 f0)] sz)) 0 0 (va_A [(h0, oC 3 [.ref h1, .int p0]), (h1, aI Y 40 f0)] sz) :=
  gmet_of (by decide +kernel) (Nat.le_of_ble_eq_true rfl) (fun p e s m args below meth c B EB hsz => by
    have B : VB p s m args meth c D Y (va_A [(h0, oC 3 [.ref h1, .int p0]), (h1, aI Y 40 f0)] sz) cX1_at 2 RX1 (some .int) := B
    refine V_iload_n 0 B dX1_at_0 1 rfl ?_
    refine V_if_lt 1 B 30 dX1_at_1 (by decide) (fun k0 => ?_) (fun k0 => ?_)
    ·
      refine V_iconst 30 B (v := (-1)) dX1_at_30 (by decide +kernel) ?_
      exact V_iret 31 B dX1_at_31 (mkU [] [] [] [] []) trivial rfl
    ·
      refine V_iload_n 4 B dX1_at_4 1 rfl ?_
      refine V_aload_n 5 B dX1_at_5 0 rfl ?_
      refine V_get 6 B gf_RX1_21 0 rfl rfl dX1_at_6 ?_
      refine V_icmp_ge 9 B 30 dX1_at_9 (by decide) (fun k1 => ?_) (fun k1 => ?_)
      ·
        refine V_iconst 30 B (v := (-1)) dX1_at_30 (by decide +kernel) ?_
        exact V_iret 31 B dX1_at_31 (mkU [] [] [] [] []) trivial rfl
      ·
        refine V_iload_n 12 B dX1_at_12 1 rfl ?_
        refine V_aload_n 13 B dX1_at_13 0 rfl ?_
        refine V_get 14 B gf_RX1_15 0 rfl rfl dX1_at_14 ?_
        refine V_alenI 17 B (v := 40) 1 rfl (by decide +kernel) dX1_at_17 ?_
        refine V_icmp_ge 18 B 30 dX1_at_18 (by decide) (fun k2 => ?_) (fun k2 => ?_)
        ·
          refine V_iconst 30 B (v := (-1)) dX1_at_30 (by decide +kernel) ?_
          exact V_iret 31 B dX1_at_31 (mkU [] [] [] [] []) trivial rfl
        ·
          refine V_aload_n 21 B dX1_at_21 0 rfl ?_
          refine V_get 22 B gf_RX1_15 0 rfl rfl dX1_at_22 ?_
          refine V_iload_n 25 B dX1_at_25 1 rfl ?_
          refine V_iald 26 B 1 rfl (vpin_b (b_nlt k0 (n := 0) (by decide +kernel)) (b_nge k2 (n := 39) (by decide +kernel)) (by decide)) dX1_at_26 rfl ?_
          refine V_nmi (fun j3 _ => ?_)
          refine V_goto 27 B 31 dX1_at_27 (by decide) ?_
          exact V_iret 31 B dX1_at_31 (mkU [] [] [] [] []) trivial rfl)
theorem glV_RX3_53 : GLV RX3 53 yX1_at RX1 cX1_at 2 (some .int) 1 := ⟨⟨(mT3 160 rfl rfl), (mT3 134 rfl rfl), (mT3 135 rfl rfl), (mT1 3 rfl rfl), (mT3 136 rfl rfl)⟩, by decide +kernel⟩
theorem dX3_readText_75 : decode cX3_readText 75 = .ok (.aload_n 0, 1) := by decide +kernel
theorem dX3_readText_76 : decode cX3_readText 76 = .ok (.getfield 15, 3) := by decide +kernel
theorem dX3_readText_79 : decode cX3_readText 79 = .ok (.getfield 57, 3) := by decide +kernel
theorem gf_RX3_57 : GF RX3 57 2 0 := ⟨RX0, TX0, 12, rfl, inw_X0, Nat.le_of_ble_eq_true rfl, (mT1 161 rfl rfl)⟩
theorem dX3_readText_82 : decode cX3_readText 82 = .ok (.invokevirtual 49, 3) := by decide +kernel
theorem dX3_readText_85 : decode cX3_readText 85 = .ok (.if_icmp .lt 19, 3) := by decide +kernel
theorem dX3_readText_104 : decode cX3_readText 104 = .ok (.iinc 1 1, 3) := by decide +kernel
theorem dX3_readText_107 : decode cX3_readText 107 = .ok (.goto (-57), 3) := by decide +kernel
theorem dX3_readText_88 : decode cX3_readText 88 = .ok (.aload_n 0, 1) := by decide +kernel
theorem dX3_readText_89 : decode cX3_readText 89 = .ok (.getfield 9, 3) := by decide +kernel
theorem dX3_readText_92 : decode cX3_readText 92 = .ok (.iconst 5, 1) := by decide +kernel
theorem dX3_readText_93 : decode cX3_readText 93 = .ok (.aload_n 0, 1) := by decide +kernel
theorem dX3_readText_94 : decode cX3_readText 94 = .ok (.getfield 9, 3) := by decide +kernel
theorem dX3_readText_97 : decode cX3_readText 97 = .ok (.getfield 60, 3) := by decide +kernel
theorem gf_RX3_60 : GF RX3 60 8 1 := ⟨RX7, TX7, 9, rfl, inw_X7, Nat.le_of_ble_eq_true rfl, (mT2 39 rfl rfl)⟩
theorem dX3_readText_100 : decode cX3_readText 100 = .ok (.invokevirtual 63, 3) := by decide +kernel
theorem dX7_fail_0 : decode cX7_fail 0 = .ok (.aload_n 0, 1) := by decide +kernel
theorem dX7_fail_1 : decode cX7_fail 1 = .ok (.iload_n 1, 1) := by decide +kernel
theorem dX7_fail_2 : decode cX7_fail 2 = .ok (.putfield 22, 3) := by decide +kernel
theorem dX7_fail_5 : decode cX7_fail 5 = .ok (.aload_n 0, 1) := by decide +kernel
theorem dX7_fail_6 : decode cX7_fail 6 = .ok (.iload_n 2, 1) := by decide +kernel
theorem dX7_fail_7 : decode cX7_fail 7 = .ok (.putfield 15, 3) := by decide +kernel
theorem dX7_fail_10 : decode cX7_fail 10 = .ok (.iconst 0, 1) := by decide +kernel
theorem dX7_fail_11 : decode cX7_fail 11 = .ok (.ireturn, 1) := by decide +kernel
set_option maxRecDepth 100000 in
set_option maxHeartbeats 4000000 in
theorem sX7_fail_1 (l : Launch) (D : va_G) (Y : Nat → ClassId) (h0 : Nat) (g0 : Nat) (p0 : Int32) (p1 : Int32) (p2 : Int32) (p3 : Int32) (p4 : Int32) (p5 : Int64) (p6 : Int32) (p7 : Int32) (p8 : Int32) (p9 : Int32) (sz : Nat) : Met l yX7_fail (WSm yX7_fail cX7_fail 3 (some .boolean)) (mkR 0 0 0 0) (PreG EX D Y [.ref h0, .int p8, .int p9] [(h0, oC 8 [.ref g0, .int p0, .int p1, .int p2, .int p3, .int p4, .long p5, .int p6, .int p7])] sz) (QI D (fun (r : Int32) (_ : UU) => r = 0 ∨ r = 1) (fun (u : UU) => [(h0, oC 8 [.ref g0, .int p0, .int p1, .int p2, .int p3, .int p4, .long p5, .int (u.1 0), .int (u.1 1)])]) (va_A [(h0, oC 8 [.ref g0, .int p0, .int p1, .int p2, .int p3, .int p4, .long p5, .int p6, .int p7])] sz)) 0 0 (va_A [(h0, oC 8 [.ref g0, .int p0, .int p1, .int p2, .int p3, .int p4, .long p5, .int p6, .int p7])] sz) :=
  gmet_of (by decide +kernel) (Nat.le_of_ble_eq_true rfl) (fun p e s m args below meth c B EB hsz => by
    have B : VB p s m args meth c D Y (va_A [(h0, oC 8 [.ref g0, .int p0, .int p1, .int p2, .int p3, .int p4, .long p5, .int p6, .int p7])] sz) cX7_fail 3 RX7 (some .boolean) := B
    refine V_aload_n 0 B dX7_fail_0 0 rfl ?_
    refine V_iload_n 1 B dX7_fail_1 1 rfl ?_
    refine V_put 2 B gp_RX7_22 0 rfl (Nat.le_of_ble_eq_true rfl) rfl rfl dX7_fail_2 [(h0, oC 8 [.ref g0, .int p0, .int p1, .int p2, .int p3, .int p4, .long p5, .int p8, .int p7])] rfl ?_
    refine V_aload_n 5 B dX7_fail_5 0 rfl ?_
    refine V_iload_n 6 B dX7_fail_6 2 rfl ?_
    refine V_put 7 B gp_RX7_15 0 rfl (Nat.le_of_ble_eq_true rfl) rfl rfl dX7_fail_7 [(h0, oC 8 [.ref g0, .int p0, .int p1, .int p2, .int p3, .int p4, .long p5, .int p8, .int p9])] rfl ?_
    refine V_iconst 10 B (v := 0) dX7_fail_10 (by decide +kernel) ?_
    exact V_zret 11 B rfl dX7_fail_11 (mkU [p8, p9] [] [] [] []) (Or.inl rfl) rfl)
theorem glV_RX3_63 : GLV RX3 63 yX7_fail RX7 cX7_fail 3 (some .boolean) 2 := ⟨⟨(mT3 41 rfl rfl), (mT3 42 rfl rfl), (mT3 43 rfl rfl), (mT1 10 rfl rfl), (mT3 44 rfl rfl)⟩, by decide +kernel⟩
theorem dX3_readText_103 : decode cX3_readText 103 = .ok (.ireturn, 1) := by decide +kernel
theorem dX3_readText_23 : decode cX3_readText 23 = .ok (.aload_n 0, 1) := by decide +kernel
theorem dX3_readText_24 : decode cX3_readText 24 = .ok (.getfield 9, 3) := by decide +kernel
theorem dX3_readText_27 : decode cX3_readText 27 = .ok (.getfield 38, 3) := by decide +kernel
theorem gf_RX3_38 : GF RX3 38 8 2 := ⟨RX7, TX7, 9, rfl, inw_X7, Nat.le_of_ble_eq_true rfl, (mT2 40 rfl rfl)⟩
theorem dX3_readText_30 : decode cX3_readText 30 = .ok (.ifCond .eq 18, 3) := by decide +kernel
theorem dX3_readText_33 : decode cX3_readText 33 = .ok (.aload_n 0, 1) := by decide +kernel
theorem dX3_readText_34 : decode cX3_readText 34 = .ok (.invokevirtual 42, 3) := by decide +kernel
theorem dX3_readStatement_0 : decode cX3_readStatement 0 = .ok (.aload_n 0, 1) := by decide +kernel
theorem dX3_readStatement_1 : decode cX3_readStatement 1 = .ok (.getfield 9, 3) := by decide +kernel
theorem dX3_readStatement_4 : decode cX3_readStatement 4 = .ok (.ldc 67, 2) := by decide +kernel
theorem dX3_readStatement_6 : decode cX3_readStatement 6 = .ok (.invokevirtual 69, 3) := by decide +kernel
theorem dX7_isWord_0 : decode cX7_isWord 0 = .ok (.aload_n 0, 1) := by decide +kernel
theorem dX7_isWord_1 : decode cX7_isWord 1 = .ok (.getfield 38, 3) := by decide +kernel
theorem dX7_isWord_4 : decode cX7_isWord 4 = .ok (.iconst 1, 1) := by decide +kernel
theorem dX7_isWord_5 : decode cX7_isWord 5 = .ok (.if_icmp .ne 19, 3) := by decide +kernel
theorem dX7_isWord_24 : decode cX7_isWord 24 = .ok (.iconst 0, 1) := by decide +kernel
theorem dX7_isWord_25 : decode cX7_isWord 25 = .ok (.ireturn, 1) := by decide +kernel
theorem dX7_isWord_8 : decode cX7_isWord 8 = .ok (.aload_n 0, 1) := by decide +kernel
theorem dX7_isWord_9 : decode cX7_isWord 9 = .ok (.getfield 25, 3) := by decide +kernel
theorem dX7_isWord_12 : decode cX7_isWord 12 = .ok (.aload_n 0, 1) := by decide +kernel
theorem dX7_isWord_13 : decode cX7_isWord 13 = .ok (.getfield 31, 3) := by decide +kernel
theorem dX7_isWord_16 : decode cX7_isWord 16 = .ok (.isub, 1) := by decide +kernel
theorem dX7_isWord_17 : decode cX7_isWord 17 = .ok (.aload_n 1, 1) := by decide +kernel
theorem dX7_isWord_18 : decode cX7_isWord 18 = .ok (.invokevirtual 44, 3) := by decide +kernel
theorem glV_RX7_44 : GLV RX7 44 yJ0_length_8abf5 RJ0 cJ0_length_8abf5 1 (some .int) 0 := ⟨⟨(mT2 225 rfl rfl), (mT2 226 rfl rfl), (mT2 227 rfl rfl), (mT1 14 rfl rfl), (mT2 228 rfl rfl)⟩, by decide +kernel⟩
theorem dX7_isWord_21 : decode cX7_isWord 21 = .ok (.if_icmp .eq 5, 3) := by decide +kernel
theorem dX7_isWord_26 : decode cX7_isWord 26 = .ok (.iconst 0, 1) := by decide +kernel
theorem dX7_isWord_27 : decode cX7_isWord 27 = .ok (.istore_n 2, 1) := by decide +kernel
theorem dX7_isWord_28 : decode cX7_isWord 28 = .ok (.iload_n 2, 1) := by decide +kernel
theorem dX7_isWord_29 : decode cX7_isWord 29 = .ok (.aload_n 1, 1) := by decide +kernel
theorem dX7_isWord_30 : decode cX7_isWord 30 = .ok (.invokevirtual 44, 3) := by decide +kernel
theorem dX7_isWord_33 : decode cX7_isWord 33 = .ok (.if_icmp .ge 29, 3) := by decide +kernel
theorem dX7_isWord_62 : decode cX7_isWord 62 = .ok (.iconst 1, 1) := by decide +kernel
theorem dX7_isWord_63 : decode cX7_isWord 63 = .ok (.ireturn, 1) := by decide +kernel
theorem dX7_isWord_36 : decode cX7_isWord 36 = .ok (.aload_n 0, 1) := by decide +kernel
theorem dX7_isWord_37 : decode cX7_isWord 37 = .ok (.aload_n 0, 1) := by decide +kernel
theorem dX7_isWord_38 : decode cX7_isWord 38 = .ok (.getfield 31, 3) := by decide +kernel
theorem dX7_isWord_41 : decode cX7_isWord 41 = .ok (.iload_n 2, 1) := by decide +kernel
theorem dX7_isWord_42 : decode cX7_isWord 42 = .ok (.iadd, 1) := by decide +kernel
theorem dX7_isWord_43 : decode cX7_isWord 43 = .ok (.invokevirtual 34, 3) := by decide +kernel
theorem dX7_isWord_46 : decode cX7_isWord 46 = .ok (.aload_n 1, 1) := by decide +kernel
theorem dX7_isWord_47 : decode cX7_isWord 47 = .ok (.iload_n 2, 1) := by decide +kernel
theorem dX7_isWord_48 : decode cX7_isWord 48 = .ok (.invokevirtual 49, 3) := by decide +kernel
theorem glV_RX7_49 : GLV RX7 49 yJ0_charAt_5068e RJ0 cJ0_charAt_5068e 2 (some .char) 1 := ⟨⟨(mT2 235 rfl rfl), (mT2 236 rfl rfl), (mT2 237 rfl rfl), (mT1 14 rfl rfl), (mT2 238 rfl rfl)⟩, by decide +kernel⟩
theorem dX7_isWord_51 : decode cX7_isWord 51 = .ok (.if_icmp .eq 5, 3) := by decide +kernel
theorem dX7_isWord_56 : decode cX7_isWord 56 = .ok (.iinc 2 1, 3) := by decide +kernel
theorem dX7_isWord_59 : decode cX7_isWord 59 = .ok (.goto (-31), 3) := by decide +kernel
theorem dX7_isWord_54 : decode cX7_isWord 54 = .ok (.iconst 0, 1) := by decide +kernel
theorem dX7_isWord_55 : decode cX7_isWord 55 = .ok (.ireturn, 1) := by decide +kernel
set_option maxRecDepth 100000 in
set_option maxHeartbeats 4000000 in
theorem sX7_isWord_1 (l : Launch) (D : va_G) (Y : Nat → ClassId) (h0 : Nat) (h1 : Nat) (p0 : Int32) (p1 : Int32) (p2 : Int32) (p3 : Int32) (p4 : Int32) (p5 : Int64) (p6 : Int32) (p7 : Int32) (f0 : Nat → Int32) (t b n : Nat) (f : Nat → Int32) (sz : Nat) : Met l yX7_isWord (WSm yX7_isWord cX7_isWord 3 (some .boolean)) (mkR 4 0 0 85) (PreG (EXS t b n f) D Y [.ref h0, .ref t] [(h0, oC 8 [.ref h1, .int p0, .int p1, .int p2, .int p3, .int p4, .long p5, .int p6, .int p7]), (h1, aB Y 1600 f0)] sz) (QI D (fun (r : Int32) (_ : UU) => r = 0 ∨ r = 1) (fun (u : UU) => [(h0, oC 8 [.ref h1, .int p0, .int p1, .int p2, .int p3, .int p4, .long p5, .int p6, .int p7]), (h1, aB Y 1600 f0)]) (va_A [(h0, oC 8 [.ref h1, .int p0, .int p1, .int p2, .int p3, .int p4, .long p5, .int p6, .int p7]), (h1, aB Y 1600 f0)] sz)) 0 0 (va_A [(h0, oC 8 [.ref h1, .int p0, .int p1, .int p2, .int p3, .int p4, .long p5, .int p6, .int p7]), (h1, aB Y 1600 f0)] sz) :=
  gmet_of (by decide +kernel) (Nat.le_of_ble_eq_true rfl) (fun p e s m args below meth c B EB hsz => by
    have B : VB p s m args meth c D Y (va_A [(h0, oC 8 [.ref h1, .int p0, .int p1, .int p2, .int p3, .int p4, .long p5, .int p6, .int p7]), (h1, aB Y 1600 f0)] sz) cX7_isWord 3 RX7 (some .boolean) := B
    refine V_aload_n 0 B dX7_isWord_0 0 rfl ?_
    refine V_get 1 B gf_RX7_38 0 rfl rfl dX7_isWord_1 ?_
    refine V_iconst 4 B (v := 1) dX7_isWord_4 (by decide +kernel) ?_
    refine V_icmp_ne 5 B 24 dX7_isWord_5 (by decide) (fun k0 => ?_) (fun k0 => ?_)
    ·
      refine V_iconst 24 B (v := 0) dX7_isWord_24 (by decide +kernel) ?_
      exact V_zret 25 B rfl dX7_isWord_25 (mkU [] [] [] [] []) (Or.inl rfl) rfl
    ·
      obtain rfl : p1 = 1 := k0
      refine V_aload_n 8 B dX7_isWord_8 0 rfl ?_
      refine V_get 9 B gf_RX7_25 0 rfl rfl dX7_isWord_9 ?_
      refine V_aload_n 12 B dX7_isWord_12 0 rfl ?_
      refine V_get 13 B gf_RX7_31 0 rfl rfl dX7_isWord_13 ?_
      refine V_isub 16 B dX7_isWord_16 rfl ?_
      refine V_nmi (fun j1 _ => ?_)
      refine V_aload_n 17 B dX7_isWord_17 1 rfl ?_
      refine V_gri 18 B (envS t b n f) (And.intro EB.1 EB.2) (st := [.int j1]) (As := []) (fun sz => sStr_length l D Y t b n f sz) glV_RX7_44 ⟨rfl, rfl⟩ ⟨(Nat.le_of_ble_eq_true rfl), (Nat.le_of_ble_eq_true rfl)⟩ ⟨(Nat.le_of_ble_eq_true rfl), (Nat.le_of_ble_eq_true rfl)⟩ [] rfl EB.2.2.1 rfl (Nat.le_of_ble_eq_true rfl) rfl (fun _ _ _ => rfl) dX7_isWord_18 (fun j2 u3 w4 => ?_)
      refine V_ws [(h0, oC 8 [.ref h1, .int p0, .int 1, .int p2, .int p3, .int p4, .long p5, .int p6, .int p7]), (h1, aB Y 1600 f0)] rfl ?_
      obtain rfl := w4
      refine V_icmp_eq 21 B 26 dX7_isWord_21 (by decide) (fun k5 => ?_) (fun k5 => ?_)
      ·
        refine V_iconst 26 B (v := 0) dX7_isWord_26 (by decide +kernel) ?_
        refine V_istore_n 27 B (lv2 := [(2, .int 0), (0, .ref h0), (1, .ref t)]) dX7_isWord_27 (by decide) rfl ?_
        refine V_wloop (α := UU) (fun a => (2147483647 - ((a.1 0)).toInt).toNat) (fun a => 0 ≤ ((a.1 0)).toInt) (fun a => [(2, .int (a.1 0)), (0, .ref h0), (1, .ref t)]) (fun a => [(h0, oC 8 [.ref h1, .int p0, .int 1, .int p2, .int p3, .int p4, .long p5, .int p6, .int p7]), (h1, aB Y 1600 f0)]) (mkU [0] [] [] [] []) (show (0 : Int) ≤ (0 : Int32).toInt by decide +kernel) rfl rfl (fun a6 hI8 IH7 => ?_)
        refine V_lv [(2, .int (a6.1 0)), (0, .ref h0), (1, .ref t)] [0, 1, 2] rfl ?_
        refine V_ws [(h0, oC 8 [.ref h1, .int p0, .int 1, .int p2, .int p3, .int p4, .long p5, .int p6, .int p7]), (h1, aB Y 1600 f0)] rfl ?_
        refine V_iload_n 28 B dX7_isWord_28 0 rfl ?_
        refine V_aload_n 29 B dX7_isWord_29 2 rfl ?_
        refine V_gri 30 B (envS t b n f) (And.intro EB.1 EB.2) (st := [.int (a6.1 0)]) (As := []) (fun sz => sStr_length l D Y t b n f sz) glV_RX7_44 ⟨rfl, rfl⟩ ⟨(Nat.le_of_ble_eq_true rfl), (Nat.le_of_ble_eq_true rfl)⟩ ⟨(Nat.le_of_ble_eq_true rfl), (Nat.le_of_ble_eq_true rfl)⟩ [] rfl EB.2.2.1 rfl (Nat.le_of_ble_eq_true rfl) rfl (fun _ _ _ => rfl) dX7_isWord_30 (fun j9 u10 w11 => ?_)
        refine V_ws [(h0, oC 8 [.ref h1, .int p0, .int 1, .int p2, .int p3, .int p4, .long p5, .int p6, .int p7]), (h1, aB Y 1600 f0)] rfl ?_
        obtain rfl := w11
        refine V_icmp_ge 33 B 62 dX7_isWord_33 (by decide) (fun k12 => ?_) (fun k12 => ?_)
        ·
          refine V_iconst 62 B (v := 1) dX7_isWord_62 (by decide +kernel) ?_
          exact V_zret 63 B rfl dX7_isWord_63 (mkU [] [] [] [] []) (Or.inr rfl) rfl
        ·
          refine V_aload_n 36 B dX7_isWord_36 1 rfl ?_
          refine V_aload_n 37 B dX7_isWord_37 1 rfl ?_
          refine V_get 38 B gf_RX7_31 0 rfl rfl dX7_isWord_38 ?_
          refine V_iload_n 41 B dX7_isWord_41 0 rfl ?_
          refine V_iadd 42 B dX7_isWord_42 rfl ?_
          refine V_nmi (fun j13 _ => ?_)
          refine V_gvi 43 B envX EB.1 (st := []) (As := [.int j13]) (fun sz => sX7_byteAt_1 l D Y h0 h1 p0 1 p2 p3 p4 p5 p6 p7 f0 j13 sz) glV_RX7_34 ⟨rfl, rfl⟩ ⟨(Nat.le_of_ble_eq_true rfl), (Nat.le_of_ble_eq_true rfl)⟩ ⟨(Nat.le_of_ble_eq_true rfl), (Nat.le_of_ble_eq_true rfl)⟩ [0, 0] rfl 8 0 rfl rfl rfl rfl (Nat.le_of_ble_eq_true rfl) rfl (fun _ _ _ => rfl) dX7_isWord_43 (fun j14 u15 w16 => ?_)
          refine V_ws [(h0, oC 8 [.ref h1, .int p0, .int 1, .int p2, .int p3, .int p4, .long p5, .int p6, .int p7]), (h1, aB Y 1600 f0)] rfl ?_
          refine V_aload_n 46 B dX7_isWord_46 2 rfl ?_
          refine V_iload_n 47 B dX7_isWord_47 0 rfl ?_
          refine V_gri 48 B (envS t b n f) (And.intro EB.1 EB.2) (st := [.int j14]) (As := [.int (a6.1 0)]) (fun sz => sStr_charAt l D Y t b n f (a6.1 0) (q_nlt hI8 (by decide +kernel)) (o_nle k12) sz) glV_RX7_49 ⟨rfl, rfl⟩ ⟨(Nat.le_of_ble_eq_true rfl), (Nat.le_of_ble_eq_true rfl)⟩ ⟨(Nat.le_of_ble_eq_true rfl), (Nat.le_of_ble_eq_true rfl)⟩ [] rfl EB.2.2.1 rfl (Nat.le_of_ble_eq_true rfl) rfl (fun _ _ _ => rfl) dX7_isWord_48 (fun j17 u18 w19 => ?_)
          refine V_ws [(h0, oC 8 [.ref h1, .int p0, .int 1, .int p2, .int p3, .int p4, .long p5, .int p6, .int p7]), (h1, aB Y 1600 f0)] rfl ?_
          refine V_icmp_eq 51 B 56 dX7_isWord_51 (by decide) (fun k20 => ?_) (fun k20 => ?_)
          ·
            refine V_iinc 56 B (v := ((a6.1 0) + Int32.ofInt 1)) (lv2 := [(2, .int ((a6.1 0) + Int32.ofInt 1)), (0, .ref h0), (1, .ref t)]) dX7_isWord_56 0 rfl rfl (by decide) rfl ?_
            refine V_goto 59 B 28 dX7_isWord_59 (by decide) ?_
            refine V_lv [(2, .int ((a6.1 0) + Int32.ofInt 1)), (0, .ref h0), (1, .ref t)] [0, 1, 2] rfl ?_
            exact IH7 (mkU [((a6.1 0) + Int32.ofInt 1)] [] [] [] []) (Int.le_trans (by decide) (o_add_lo (c := Int32.ofInt 1) hI8 (o_lt_hi (o_nle k12) (i_hi (nI n)) (k := 2147483646) (by decide +kernel)) (by decide +kernel) (by decide +kernel) (k := 1) (by decide +kernel))) (up_dec (x := (a6.1 0)) (c := Int32.ofInt 1) (by decide +kernel) hI8 (o_lt_hi (o_nle k12) (i_hi (nI n)) (k := 2147483646) (by decide +kernel)) (by decide))
          ·
            refine V_iconst 54 B (v := 0) dX7_isWord_54 (by decide +kernel) ?_
            exact V_zret 55 B rfl dX7_isWord_55 (mkU [] [] [] [] []) (Or.inl rfl) rfl
      ·
        refine V_iconst 24 B (v := 0) dX7_isWord_24 (by decide +kernel) ?_
        exact V_zret 25 B rfl dX7_isWord_25 (mkU [] [] [] [] []) (Or.inl rfl) rfl)
theorem glV_RX3_69 : GLV RX3 69 yX7_isWord RX7 cX7_isWord 3 (some .boolean) 1 := ⟨⟨(mT2 221 rfl rfl), (mT2 222 rfl rfl), (mT2 223 rfl rfl), (mT1 10 rfl rfl), (mT2 224 rfl rfl)⟩, by decide +kernel⟩
theorem dX3_readStatement_9 : decode cX3_readStatement 9 = .ok (.ifCond .eq 8, 3) := by decide +kernel
theorem dX3_readStatement_17 : decode cX3_readStatement 17 = .ok (.aload_n 0, 1) := by decide +kernel
theorem dX3_readStatement_18 : decode cX3_readStatement 18 = .ok (.getfield 9, 3) := by decide +kernel
theorem dX3_readStatement_21 : decode cX3_readStatement 21 = .ok (.ldc 76, 2) := by decide +kernel
theorem dX3_readStatement_23 : decode cX3_readStatement 23 = .ok (.invokevirtual 69, 3) := by decide +kernel
theorem dX3_readStatement_26 : decode cX3_readStatement 26 = .ok (.ifCond .eq 9, 3) := by decide +kernel
theorem dX3_readStatement_35 : decode cX3_readStatement 35 = .ok (.aload_n 0, 1) := by decide +kernel
theorem dX3_readStatement_36 : decode cX3_readStatement 36 = .ok (.getfield 9, 3) := by decide +kernel
theorem dX3_readStatement_39 : decode cX3_readStatement 39 = .ok (.ldc 82, 2) := by decide +kernel
theorem dX3_readStatement_41 : decode cX3_readStatement 41 = .ok (.invokevirtual 69, 3) := by decide +kernel
theorem dX3_readStatement_44 : decode cX3_readStatement 44 = .ok (.ifCond .eq 9, 3) := by decide +kernel
theorem dX3_readStatement_53 : decode cX3_readStatement 53 = .ok (.aload_n 0, 1) := by decide +kernel
theorem dX3_readStatement_54 : decode cX3_readStatement 54 = .ok (.getfield 9, 3) := by decide +kernel
theorem dX3_readStatement_57 : decode cX3_readStatement 57 = .ok (.ldc 84, 2) := by decide +kernel
theorem dX3_readStatement_59 : decode cX3_readStatement 59 = .ok (.invokevirtual 69, 3) := by decide +kernel
theorem dX3_readStatement_62 : decode cX3_readStatement 62 = .ok (.ifCond .eq 9, 3) := by decide +kernel
theorem dX3_readStatement_71 : decode cX3_readStatement 71 = .ok (.aload_n 0, 1) := by decide +kernel
theorem dX3_readStatement_72 : decode cX3_readStatement 72 = .ok (.getfield 9, 3) := by decide +kernel
theorem dX3_readStatement_75 : decode cX3_readStatement 75 = .ok (.ldc 86, 2) := by decide +kernel
theorem dX3_readStatement_77 : decode cX3_readStatement 77 = .ok (.invokevirtual 69, 3) := by decide +kernel
theorem dX3_readStatement_80 : decode cX3_readStatement 80 = .ok (.ifCond .eq 8, 3) := by decide +kernel
theorem dX3_readStatement_88 : decode cX3_readStatement 88 = .ok (.aload_n 0, 1) := by decide +kernel
theorem dX3_readStatement_89 : decode cX3_readStatement 89 = .ok (.getfield 9, 3) := by decide +kernel
theorem dX3_readStatement_92 : decode cX3_readStatement 92 = .ok (.ldc 91, 2) := by decide +kernel
theorem dX3_readStatement_94 : decode cX3_readStatement 94 = .ok (.invokevirtual 69, 3) := by decide +kernel
theorem dX3_readStatement_97 : decode cX3_readStatement 97 = .ok (.ifCond .eq 8, 3) := by decide +kernel
theorem dX3_readStatement_105 : decode cX3_readStatement 105 = .ok (.aload_n 0, 1) := by decide +kernel
theorem dX3_readStatement_106 : decode cX3_readStatement 106 = .ok (.getfield 9, 3) := by decide +kernel
theorem dX3_readStatement_109 : decode cX3_readStatement 109 = .ok (.ldc 96, 2) := by decide +kernel
theorem dX3_readStatement_111 : decode cX3_readStatement 111 = .ok (.invokevirtual 69, 3) := by decide +kernel
theorem dX3_readStatement_114 : decode cX3_readStatement 114 = .ok (.ifCond .eq 8, 3) := by decide +kernel
theorem dX3_readStatement_122 : decode cX3_readStatement 122 = .ok (.aload_n 0, 1) := by decide +kernel
theorem dX3_readStatement_123 : decode cX3_readStatement 123 = .ok (.getfield 9, 3) := by decide +kernel
theorem dX3_readStatement_126 : decode cX3_readStatement 126 = .ok (.ldc 101, 2) := by decide +kernel
theorem dX3_readStatement_128 : decode cX3_readStatement 128 = .ok (.invokevirtual 69, 3) := by decide +kernel
theorem dX3_readStatement_131 : decode cX3_readStatement 131 = .ok (.ifCond .eq 8, 3) := by decide +kernel
theorem dX3_readStatement_139 : decode cX3_readStatement 139 = .ok (.aload_n 0, 1) := by decide +kernel
theorem dX3_readStatement_140 : decode cX3_readStatement 140 = .ok (.getfield 9, 3) := by decide +kernel
theorem dX3_readStatement_143 : decode cX3_readStatement 143 = .ok (.iconst 1, 1) := by decide +kernel
theorem dX3_readStatement_144 : decode cX3_readStatement 144 = .ok (.aload_n 0, 1) := by decide +kernel
theorem dX3_readStatement_145 : decode cX3_readStatement 145 = .ok (.getfield 9, 3) := by decide +kernel
theorem dX3_readStatement_148 : decode cX3_readStatement 148 = .ok (.getfield 106, 3) := by decide +kernel
theorem gf_RX3_106 : GF RX3 106 8 3 := ⟨RX7, TX7, 9, rfl, inw_X7, Nat.le_of_ble_eq_true rfl, (mT2 43 rfl rfl)⟩
theorem dX3_readStatement_151 : decode cX3_readStatement 151 = .ok (.invokevirtual 63, 3) := by decide +kernel
theorem dX3_readStatement_154 : decode cX3_readStatement 154 = .ok (.ireturn, 1) := by decide +kernel
theorem dX3_readStatement_134 : decode cX3_readStatement 134 = .ok (.aload_n 0, 1) := by decide +kernel
theorem dX3_readStatement_135 : decode cX3_readStatement 135 = .ok (.invokevirtual 103, 3) := by decide +kernel
theorem dX3_readTimeout_0 : decode cX3_readTimeout 0 = .ok (.aload_n 0, 1) := by decide +kernel
theorem dX3_readTimeout_1 : decode cX3_readTimeout 1 = .ok (.getfield 9, 3) := by decide +kernel
theorem dX3_readTimeout_4 : decode cX3_readTimeout 4 = .ok (.invokevirtual 112, 3) := by decide +kernel
theorem glV_RX3_112 : GLV RX3 112 yX7_advance RX7 cX7_advance 1 none 0 := ⟨⟨(mT3 45 rfl rfl), (mT2 206 rfl rfl), (mT2 207 rfl rfl), (mT1 10 rfl rfl), (mT2 208 rfl rfl)⟩, by decide +kernel⟩
theorem dX3_readTimeout_7 : decode cX3_readTimeout 7 = .ok (.aload_n 0, 1) := by decide +kernel
theorem dX3_readTimeout_8 : decode cX3_readTimeout 8 = .ok (.getfield 9, 3) := by decide +kernel
theorem dX3_readTimeout_11 : decode cX3_readTimeout 11 = .ok (.sipush 1000, 3) := by decide +kernel
theorem dX3_readTimeout_14 : decode cX3_readTimeout 14 = .ok (.invokevirtual 115, 3) := by decide +kernel
theorem dX7_takeNumber_0 : decode cX7_takeNumber 0 = .ok (.aload_n 0, 1) := by decide +kernel
theorem dX7_takeNumber_1 : decode cX7_takeNumber 1 = .ok (.getfield 38, 3) := by decide +kernel
theorem dX7_takeNumber_4 : decode cX7_takeNumber 4 = .ok (.iconst 2, 1) := by decide +kernel
theorem dX7_takeNumber_5 : decode cX7_takeNumber 5 = .ok (.if_icmp .eq 13, 3) := by decide +kernel
theorem dX7_takeNumber_18 : decode cX7_takeNumber 18 = .ok (.iconst 0, 1) := by decide +kernel
theorem dX7_takeNumber_19 : decode cX7_takeNumber 19 = .ok (.istore_n 2, 1) := by decide +kernel
theorem dX7_takeNumber_20 : decode cX7_takeNumber 20 = .ok (.aload_n 0, 1) := by decide +kernel
theorem dX7_takeNumber_21 : decode cX7_takeNumber 21 = .ok (.getfield 31, 3) := by decide +kernel
theorem dX7_takeNumber_24 : decode cX7_takeNumber 24 = .ok (.istore_n 3, 1) := by decide +kernel
theorem dX7_takeNumber_25 : decode cX7_takeNumber 25 = .ok (.iload_n 3, 1) := by decide +kernel
theorem dX7_takeNumber_26 : decode cX7_takeNumber 26 = .ok (.aload_n 0, 1) := by decide +kernel
theorem dX7_takeNumber_27 : decode cX7_takeNumber 27 = .ok (.getfield 25, 3) := by decide +kernel
theorem dX7_takeNumber_30 : decode cX7_takeNumber 30 = .ok (.if_icmp .ge 23, 3) := by decide +kernel
theorem dX7_takeNumber_53 : decode cX7_takeNumber 53 = .ok (.iload_n 2, 1) := by decide +kernel
theorem dX7_takeNumber_54 : decode cX7_takeNumber 54 = .ok (.iload_n 1, 1) := by decide +kernel
theorem dX7_takeNumber_55 : decode cX7_takeNumber 55 = .ok (.if_icmp .lt 13, 3) := by decide +kernel
theorem dX7_takeNumber_68 : decode cX7_takeNumber 68 = .ok (.aload_n 0, 1) := by decide +kernel
theorem dX7_takeNumber_69 : decode cX7_takeNumber 69 = .ok (.iload_n 2, 1) := by decide +kernel
theorem dX7_takeNumber_70 : decode cX7_takeNumber 70 = .ok (.putfield 57, 3) := by decide +kernel
theorem gp_RX7_57 : GP RX7 57 8 5 .int false := ⟨RX7, TX7, 9, ⟨rfl, inw_X7, Nat.le_of_ble_eq_true rfl, (mT2 49 rfl rfl)⟩, ⟨tyX7, tyX7_ok⟩, nmX7, rfl, by decide +kernel, fun h => nomatch h⟩
theorem dX7_takeNumber_73 : decode cX7_takeNumber 73 = .ok (.aload_n 0, 1) := by decide +kernel
theorem dX7_takeNumber_74 : decode cX7_takeNumber 74 = .ok (.invokevirtual 28, 3) := by decide +kernel
theorem dX7_takeNumber_77 : decode cX7_takeNumber 77 = .ok (.iconst 1, 1) := by decide +kernel
theorem dX7_takeNumber_78 : decode cX7_takeNumber 78 = .ok (.ireturn, 1) := by decide +kernel
theorem dX7_takeNumber_58 : decode cX7_takeNumber 58 = .ok (.aload_n 0, 1) := by decide +kernel
theorem dX7_takeNumber_59 : decode cX7_takeNumber 59 = .ok (.iconst 2, 1) := by decide +kernel
theorem dX7_takeNumber_60 : decode cX7_takeNumber 60 = .ok (.aload_n 0, 1) := by decide +kernel
theorem dX7_takeNumber_61 : decode cX7_takeNumber 61 = .ok (.getfield 31, 3) := by decide +kernel
theorem dX7_takeNumber_64 : decode cX7_takeNumber 64 = .ok (.invokevirtual 53, 3) := by decide +kernel
theorem glV_RX7_53 : GLV RX7 53 yX7_fail RX7 cX7_fail 3 (some .boolean) 2 := ⟨⟨(mT3 54 rfl rfl), (mT3 42 rfl rfl), (mT3 43 rfl rfl), (mT1 10 rfl rfl), (mT3 44 rfl rfl)⟩, by decide +kernel⟩
theorem dX7_takeNumber_67 : decode cX7_takeNumber 67 = .ok (.ireturn, 1) := by decide +kernel
theorem dX7_takeNumber_33 : decode cX7_takeNumber 33 = .ok (.bipush 10, 2) := by decide +kernel
theorem dX7_takeNumber_35 : decode cX7_takeNumber 35 = .ok (.iload_n 2, 1) := by decide +kernel
theorem dX7_takeNumber_36 : decode cX7_takeNumber 36 = .ok (.imul, 1) := by decide +kernel
theorem dX7_takeNumber_37 : decode cX7_takeNumber 37 = .ok (.aload_n 0, 1) := by decide +kernel
theorem dX7_takeNumber_38 : decode cX7_takeNumber 38 = .ok (.iload_n 3, 1) := by decide +kernel
theorem dX7_takeNumber_39 : decode cX7_takeNumber 39 = .ok (.invokevirtual 34, 3) := by decide +kernel
theorem dX7_takeNumber_42 : decode cX7_takeNumber 42 = .ok (.iadd, 1) := by decide +kernel
theorem dX7_takeNumber_43 : decode cX7_takeNumber 43 = .ok (.bipush 48, 2) := by decide +kernel
theorem dX7_takeNumber_45 : decode cX7_takeNumber 45 = .ok (.isub, 1) := by decide +kernel
theorem dX7_takeNumber_46 : decode cX7_takeNumber 46 = .ok (.istore_n 2, 1) := by decide +kernel
theorem dX7_takeNumber_47 : decode cX7_takeNumber 47 = .ok (.iinc 3 1, 3) := by decide +kernel
theorem dX7_takeNumber_50 : decode cX7_takeNumber 50 = .ok (.goto (-25), 3) := by decide +kernel
theorem dX7_takeNumber_8 : decode cX7_takeNumber 8 = .ok (.aload_n 0, 1) := by decide +kernel
theorem dX7_takeNumber_9 : decode cX7_takeNumber 9 = .ok (.iconst 1, 1) := by decide +kernel
theorem dX7_takeNumber_10 : decode cX7_takeNumber 10 = .ok (.aload_n 0, 1) := by decide +kernel
theorem dX7_takeNumber_11 : decode cX7_takeNumber 11 = .ok (.getfield 31, 3) := by decide +kernel
theorem dX7_takeNumber_14 : decode cX7_takeNumber 14 = .ok (.invokevirtual 53, 3) := by decide +kernel
theorem dX7_takeNumber_17 : decode cX7_takeNumber 17 = .ok (.ireturn, 1) := by decide +kernel
set_option maxRecDepth 100000 in
set_option maxHeartbeats 4000000 in
theorem sX7_takeNumber_1 (l : Launch) (D : va_G) (Y : Nat → ClassId) (h0 : Nat) (h1 : Nat) (p0 : Int32) (p1 : Int32) (p2 : Int32) (p3 : Int32) (p4 : Int32) (p5 : Int64) (p6 : Int32) (p7 : Int32) (f0 : Nat → Int32) (p8 : Int32) (sz : Nat) : Met l yX7_takeNumber (WSm yX7_takeNumber cX7_takeNumber 4 (some .boolean)) (mkR 2 0 0 41) (PreG EX D Y [.ref h0, .int p8] [(h0, oC 8 [.ref h1, .int p0, .int p1, .int p2, .int p3, .int p4, .long p5, .int p6, .int p7]), (h1, aB Y 1600 f0)] sz) (QI D (fun (r : Int32) (_ : UU) => r = 0 ∨ r = 1) (fun (u : UU) => [(h0, oC 8 [.ref h1, .int p0, .int (u.1 0), .int (u.1 1), .int (u.1 2), .int (u.1 3), .long p5, .int (u.1 4), .int (u.1 5)]), (h1, aB Y 1600 f0)]) (va_A [(h0, oC 8 [.ref h1, .int p0, .int p1, .int p2, .int p3, .int p4, .long p5, .int p6, .int p7]), (h1, aB Y 1600 f0)] sz)) 0 0 (va_A [(h0, oC 8 [.ref h1, .int p0, .int p1, .int p2, .int p3, .int p4, .long p5, .int p6, .int p7]), (h1, aB Y 1600 f0)] sz) :=
  gmet_of (by decide +kernel) (Nat.le_of_ble_eq_true rfl) (fun p e s m args below meth c B EB hsz => by
    have B : VB p s m args meth c D Y (va_A [(h0, oC 8 [.ref h1, .int p0, .int p1, .int p2, .int p3, .int p4, .long p5, .int p6, .int p7]), (h1, aB Y 1600 f0)] sz) cX7_takeNumber 4 RX7 (some .boolean) := B
    refine V_aload_n 0 B dX7_takeNumber_0 0 rfl ?_
    refine V_get 1 B gf_RX7_38 0 rfl rfl dX7_takeNumber_1 ?_
    refine V_iconst 4 B (v := 2) dX7_takeNumber_4 (by decide +kernel) ?_
    refine V_icmp_eq 5 B 18 dX7_takeNumber_5 (by decide) (fun k0 => ?_) (fun k0 => ?_)
    ·
      obtain rfl : p1 = 2 := k0
      refine V_iconst 18 B (v := 0) dX7_takeNumber_18 (by decide +kernel) ?_
      refine V_istore_n 19 B (lv2 := [(2, .int 0), (0, .ref h0), (1, .int p8)]) dX7_takeNumber_19 (by decide) rfl ?_
      refine V_aload_n 20 B dX7_takeNumber_20 1 rfl ?_
      refine V_get 21 B gf_RX7_31 0 rfl rfl dX7_takeNumber_21 ?_
      refine V_istore_n 24 B (lv2 := [(3, .int p2), (2, .int 0), (0, .ref h0), (1, .int p8)]) dX7_takeNumber_24 (by decide) rfl ?_
      refine V_wloop (α := UU) (fun a => (2147483647 - ((a.1 0)).toInt).toNat) (fun a => True) (fun a => [(3, .int (a.1 0)), (2, .int (a.1 1)), (0, .ref h0), (1, .int p8)]) (fun a => [(h0, oC 8 [.ref h1, .int p0, .int (a.1 2), .int (a.1 3), .int (a.1 4), .int (a.1 5), .long p5, .int (a.1 6), .int (a.1 7)]), (h1, aB Y 1600 f0)]) (mkU [p2, 0, 2, p2, p3, p4, p6, p7] [] [] [] []) trivial rfl rfl (fun a1 hI3 IH2 => ?_)
      refine V_lv [(3, .int (a1.1 0)), (2, .int (a1.1 1)), (0, .ref h0), (1, .int p8)] [0, 1, 2, 3] rfl ?_
      refine V_ws [(h0, oC 8 [.ref h1, .int p0, .int (a1.1 2), .int (a1.1 3), .int (a1.1 4), .int (a1.1 5), .long p5, .int (a1.1 6), .int (a1.1 7)]), (h1, aB Y 1600 f0)] rfl ?_
      refine V_iload_n 25 B dX7_takeNumber_25 0 rfl ?_
      refine V_aload_n 26 B dX7_takeNumber_26 2 rfl ?_
      refine V_get 27 B gf_RX7_25 0 rfl rfl dX7_takeNumber_27 ?_
      refine V_icmp_ge 30 B 53 dX7_takeNumber_30 (by decide) (fun k4 => ?_) (fun k4 => ?_)
      ·
        refine V_iload_n 53 B dX7_takeNumber_53 1 rfl ?_
        refine V_iload_n 54 B dX7_takeNumber_54 3 rfl ?_
        refine V_icmp_lt 55 B 68 dX7_takeNumber_55 (by decide) (fun k5 => ?_) (fun k5 => ?_)
        ·
          refine V_aload_n 68 B dX7_takeNumber_68 2 rfl ?_
          refine V_iload_n 69 B dX7_takeNumber_69 1 rfl ?_
          refine V_put 70 B gp_RX7_57 0 rfl (Nat.le_of_ble_eq_true rfl) rfl rfl dX7_takeNumber_70 [(h0, oC 8 [.ref h1, .int p0, .int (a1.1 2), .int (a1.1 3), .int (a1.1 4), .int (a1.1 1), .long p5, .int (a1.1 6), .int (a1.1 7)]), (h1, aB Y 1600 f0)] rfl ?_
          refine V_aload_n 73 B dX7_takeNumber_73 2 rfl ?_
          refine V_gvv 74 B envX EB (st := []) (As := []) (fun sz => sX7_advance_1 l D Y h0 h1 p0 (a1.1 2) (a1.1 3) (a1.1 4) (a1.1 1) p5 (a1.1 6) (a1.1 7) f0 sz) glV_RX7_28 ⟨rfl, rfl⟩ ⟨(Nat.le_of_ble_eq_true rfl), (Nat.le_of_ble_eq_true rfl)⟩ ⟨(Nat.le_of_ble_eq_true rfl), (Nat.le_of_ble_eq_true rfl)⟩ [0, 0] rfl 8 0 rfl rfl rfl rfl (Nat.le_of_ble_eq_true rfl) rfl (fun _ _ => rfl) dX7_takeNumber_74 (fun u7 w8 => ?_)
          refine V_ws [(h0, oC 8 [.ref h1, .int p0, .int (u7.1 0), .int (u7.1 1), .int (u7.1 2), .int (a1.1 1), .long p5, .int (a1.1 6), .int (a1.1 7)]), (h1, aB Y 1600 f0)] rfl ?_
          refine V_iconst 77 B (v := 1) dX7_takeNumber_77 (by decide +kernel) ?_
          exact V_zret 78 B rfl dX7_takeNumber_78 (mkU [(u7.1 0), (u7.1 1), (u7.1 2), (a1.1 1), (a1.1 6), (a1.1 7)] [] [] [] []) (Or.inr rfl) rfl
        ·
          refine V_aload_n 58 B dX7_takeNumber_58 2 rfl ?_
          refine V_iconst 59 B (v := 2) dX7_takeNumber_59 (by decide +kernel) ?_
          refine V_aload_n 60 B dX7_takeNumber_60 2 rfl ?_
          refine V_get 61 B gf_RX7_31 0 rfl rfl dX7_takeNumber_61 ?_
          refine V_gvi 64 B envX EB (st := []) (As := [.int 2, .int (a1.1 3)]) (fun sz => sX7_fail_1 l D Y h0 h1 p0 (a1.1 2) (a1.1 3) (a1.1 4) (a1.1 5) p5 (a1.1 6) (a1.1 7) 2 (a1.1 3) sz) glV_RX7_53 ⟨rfl, rfl⟩ ⟨(Nat.le_of_ble_eq_true rfl), (Nat.le_of_ble_eq_true rfl)⟩ ⟨(Nat.le_of_ble_eq_true rfl), (Nat.le_of_ble_eq_true rfl)⟩ [0] rfl 8 0 rfl rfl rfl rfl (Nat.le_of_ble_eq_true rfl) rfl (fun _ _ _ => rfl) dX7_takeNumber_64 (fun j9 u10 w11 => ?_)
          refine V_ws [(h0, oC 8 [.ref h1, .int p0, .int (a1.1 2), .int (a1.1 3), .int (a1.1 4), .int (a1.1 5), .long p5, .int (u10.1 0), .int (u10.1 1)]), (h1, aB Y 1600 f0)] rfl ?_
          rcases w11 with rfl | rfl
          ·
            exact V_zret 67 B rfl dX7_takeNumber_67 (mkU [(a1.1 2), (a1.1 3), (a1.1 4), (a1.1 5), (u10.1 0), (u10.1 1)] [] [] [] []) (Or.inl rfl) rfl
          ·
            exact V_zret 67 B rfl dX7_takeNumber_67 (mkU [(a1.1 2), (a1.1 3), (a1.1 4), (a1.1 5), (u10.1 0), (u10.1 1)] [] [] [] []) (Or.inr rfl) rfl
      ·
        refine V_bipush 33 B (v := 10) dX7_takeNumber_33 (by decide +kernel) ?_
        refine V_iload_n 35 B dX7_takeNumber_35 1 rfl ?_
        refine V_imul 36 B dX7_takeNumber_36 rfl ?_
        refine V_nmi (fun j12 _ => ?_)
        refine V_aload_n 37 B dX7_takeNumber_37 2 rfl ?_
        refine V_iload_n 38 B dX7_takeNumber_38 0 rfl ?_
        refine V_gvi 39 B envX EB (st := [.int j12]) (As := [.int (a1.1 0)]) (fun sz => sX7_byteAt_1 l D Y h0 h1 p0 (a1.1 2) (a1.1 3) (a1.1 4) (a1.1 5) p5 (a1.1 6) (a1.1 7) f0 (a1.1 0) sz) glV_RX7_34 ⟨rfl, rfl⟩ ⟨(Nat.le_of_ble_eq_true rfl), (Nat.le_of_ble_eq_true rfl)⟩ ⟨(Nat.le_of_ble_eq_true rfl), (Nat.le_of_ble_eq_true rfl)⟩ [0, 0] rfl 8 0 rfl rfl rfl rfl (Nat.le_of_ble_eq_true rfl) rfl (fun _ _ _ => rfl) dX7_takeNumber_39 (fun j13 u14 w15 => ?_)
        refine V_ws [(h0, oC 8 [.ref h1, .int p0, .int (a1.1 2), .int (a1.1 3), .int (a1.1 4), .int (a1.1 5), .long p5, .int (a1.1 6), .int (a1.1 7)]), (h1, aB Y 1600 f0)] rfl ?_
        refine V_iadd 42 B dX7_takeNumber_42 rfl ?_
        refine V_nmi (fun j16 _ => ?_)
        refine V_bipush 43 B (v := 48) dX7_takeNumber_43 (by decide +kernel) ?_
        refine V_isub 45 B dX7_takeNumber_45 rfl ?_
        refine V_nmi (fun j17 _ => ?_)
        refine V_istore_n 46 B (lv2 := [(2, .int j17), (3, .int (a1.1 0)), (0, .ref h0), (1, .int p8)]) dX7_takeNumber_46 (by decide) rfl ?_
        refine V_iinc 47 B (v := ((a1.1 0) + Int32.ofInt 1)) (lv2 := [(3, .int ((a1.1 0) + Int32.ofInt 1)), (2, .int j17), (0, .ref h0), (1, .int p8)]) dX7_takeNumber_47 1 rfl rfl (by decide) rfl ?_
        refine V_goto 50 B 25 dX7_takeNumber_50 (by decide) ?_
        refine V_lv [(3, .int ((a1.1 0) + Int32.ofInt 1)), (2, .int j17), (0, .ref h0), (1, .int p8)] [0, 1, 2, 3] rfl ?_
        exact IH2 (mkU [((a1.1 0) + Int32.ofInt 1), j17, (a1.1 2), (a1.1 3), (a1.1 4), (a1.1 5), (a1.1 6), (a1.1 7)] [] [] [] []) trivial (up_dec (x := (a1.1 0)) (c := Int32.ofInt 1) (by decide +kernel) (i_lo (a1.1 0)) (o_lt_hi (o_nle k4) (i_hi (a1.1 4)) (k := 2147483646) (by decide +kernel)) (by decide))
    ·
      refine V_aload_n 8 B dX7_takeNumber_8 0 rfl ?_
      refine V_iconst 9 B (v := 1) dX7_takeNumber_9 (by decide +kernel) ?_
      refine V_aload_n 10 B dX7_takeNumber_10 0 rfl ?_
      refine V_get 11 B gf_RX7_31 0 rfl rfl dX7_takeNumber_11 ?_
      refine V_gvi 14 B envX EB (st := []) (As := [.int 1, .int p2]) (fun sz => sX7_fail_1 l D Y h0 h1 p0 p1 p2 p3 p4 p5 p6 p7 1 p2 sz) glV_RX7_53 ⟨rfl, rfl⟩ ⟨(Nat.le_of_ble_eq_true rfl), (Nat.le_of_ble_eq_true rfl)⟩ ⟨(Nat.le_of_ble_eq_true rfl), (Nat.le_of_ble_eq_true rfl)⟩ [0] rfl 8 0 rfl rfl rfl rfl (Nat.le_of_ble_eq_true rfl) rfl (fun _ _ _ => rfl) dX7_takeNumber_14 (fun j18 u19 w20 => ?_)
      refine V_ws [(h0, oC 8 [.ref h1, .int p0, .int p1, .int p2, .int p3, .int p4, .long p5, .int (u19.1 0), .int (u19.1 1)]), (h1, aB Y 1600 f0)] rfl ?_
      rcases w20 with rfl | rfl
      ·
        exact V_zret 17 B rfl dX7_takeNumber_17 (mkU [p1, p2, p3, p4, (u19.1 0), (u19.1 1)] [] [] [] []) (Or.inl rfl) rfl
      ·
        exact V_zret 17 B rfl dX7_takeNumber_17 (mkU [p1, p2, p3, p4, (u19.1 0), (u19.1 1)] [] [] [] []) (Or.inr rfl) rfl)
theorem glV_RX3_115 : GLV RX3 115 yX7_takeNumber RX7 cX7_takeNumber 4 (some .boolean) 1 := ⟨⟨(mT3 50 rfl rfl), (mT3 51 rfl rfl), (mT3 52 rfl rfl), (mT1 10 rfl rfl), (mT3 53 rfl rfl)⟩, by decide +kernel⟩
theorem dX3_readTimeout_17 : decode cX3_readTimeout 17 = .ok (.ifCond .eq 13, 3) := by decide +kernel
theorem dX3_readTimeout_30 : decode cX3_readTimeout 30 = .ok (.iconst 0, 1) := by decide +kernel
theorem dX3_readTimeout_31 : decode cX3_readTimeout 31 = .ok (.ireturn, 1) := by decide +kernel
theorem dX3_readTimeout_20 : decode cX3_readTimeout 20 = .ok (.aload_n 0, 1) := by decide +kernel
theorem dX3_readTimeout_21 : decode cX3_readTimeout 21 = .ok (.getfield 9, 3) := by decide +kernel
theorem dX3_readTimeout_24 : decode cX3_readTimeout 24 = .ok (.invokevirtual 118, 3) := by decide +kernel
theorem dX7_takeSemicolon_0 : decode cX7_takeSemicolon 0 = .ok (.aload_n 0, 1) := by decide +kernel
theorem dX7_takeSemicolon_1 : decode cX7_takeSemicolon 1 = .ok (.getfield 38, 3) := by decide +kernel
theorem dX7_takeSemicolon_4 : decode cX7_takeSemicolon 4 = .ok (.iconst 3, 1) := by decide +kernel
theorem dX7_takeSemicolon_5 : decode cX7_takeSemicolon 5 = .ok (.if_icmp .eq 13, 3) := by decide +kernel
theorem dX7_takeSemicolon_18 : decode cX7_takeSemicolon 18 = .ok (.aload_n 0, 1) := by decide +kernel
theorem dX7_takeSemicolon_19 : decode cX7_takeSemicolon 19 = .ok (.invokevirtual 28, 3) := by decide +kernel
theorem dX7_takeSemicolon_22 : decode cX7_takeSemicolon 22 = .ok (.iconst 1, 1) := by decide +kernel
theorem dX7_takeSemicolon_23 : decode cX7_takeSemicolon 23 = .ok (.ireturn, 1) := by decide +kernel
theorem dX7_takeSemicolon_8 : decode cX7_takeSemicolon 8 = .ok (.aload_n 0, 1) := by decide +kernel
theorem dX7_takeSemicolon_9 : decode cX7_takeSemicolon 9 = .ok (.iconst 1, 1) := by decide +kernel
theorem dX7_takeSemicolon_10 : decode cX7_takeSemicolon 10 = .ok (.aload_n 0, 1) := by decide +kernel
theorem dX7_takeSemicolon_11 : decode cX7_takeSemicolon 11 = .ok (.getfield 31, 3) := by decide +kernel
theorem dX7_takeSemicolon_14 : decode cX7_takeSemicolon 14 = .ok (.invokevirtual 53, 3) := by decide +kernel
theorem dX7_takeSemicolon_17 : decode cX7_takeSemicolon 17 = .ok (.ireturn, 1) := by decide +kernel
set_option maxRecDepth 100000 in
set_option maxHeartbeats 4000000 in
theorem sX7_takeSemicolon_1 (l : Launch) (D : va_G) (Y : Nat → ClassId) (h0 : Nat) (h1 : Nat) (p0 : Int32) (p1 : Int32) (p2 : Int32) (p3 : Int32) (p4 : Int32) (p5 : Int64) (p6 : Int32) (p7 : Int32) (f0 : Nat → Int32) (sz : Nat) : Met l yX7_takeSemicolon (WSm yX7_takeSemicolon cX7_takeSemicolon 1 (some .boolean)) (mkR 2 0 0 41) (PreG EX D Y [.ref h0] [(h0, oC 8 [.ref h1, .int p0, .int p1, .int p2, .int p3, .int p4, .long p5, .int p6, .int p7]), (h1, aB Y 1600 f0)] sz) (QI D (fun (r : Int32) (_ : UU) => r = 0 ∨ r = 1) (fun (u : UU) => [(h0, oC 8 [.ref h1, .int p0, .int (u.1 0), .int (u.1 1), .int (u.1 2), .int p4, .long p5, .int (u.1 3), .int (u.1 4)]), (h1, aB Y 1600 f0)]) (va_A [(h0, oC 8 [.ref h1, .int p0, .int p1, .int p2, .int p3, .int p4, .long p5, .int p6, .int p7]), (h1, aB Y 1600 f0)] sz)) 0 0 (va_A [(h0, oC 8 [.ref h1, .int p0, .int p1, .int p2, .int p3, .int p4, .long p5, .int p6, .int p7]), (h1, aB Y 1600 f0)] sz) :=
  gmet_of (by decide +kernel) (Nat.le_of_ble_eq_true rfl) (fun p e s m args below meth c B EB hsz => by
    have B : VB p s m args meth c D Y (va_A [(h0, oC 8 [.ref h1, .int p0, .int p1, .int p2, .int p3, .int p4, .long p5, .int p6, .int p7]), (h1, aB Y 1600 f0)] sz) cX7_takeSemicolon 1 RX7 (some .boolean) := B
    refine V_aload_n 0 B dX7_takeSemicolon_0 0 rfl ?_
    refine V_get 1 B gf_RX7_38 0 rfl rfl dX7_takeSemicolon_1 ?_
    refine V_iconst 4 B (v := 3) dX7_takeSemicolon_4 (by decide +kernel) ?_
    refine V_icmp_eq 5 B 18 dX7_takeSemicolon_5 (by decide) (fun k0 => ?_) (fun k0 => ?_)
    ·
      obtain rfl : p1 = 3 := k0
      refine V_aload_n 18 B dX7_takeSemicolon_18 0 rfl ?_
      refine V_gvv 19 B envX EB (st := []) (As := []) (fun sz => sX7_advance_1 l D Y h0 h1 p0 3 p2 p3 p4 p5 p6 p7 f0 sz) glV_RX7_28 ⟨rfl, rfl⟩ ⟨(Nat.le_of_ble_eq_true rfl), (Nat.le_of_ble_eq_true rfl)⟩ ⟨(Nat.le_of_ble_eq_true rfl), (Nat.le_of_ble_eq_true rfl)⟩ [0, 0] rfl 8 0 rfl rfl rfl rfl (Nat.le_of_ble_eq_true rfl) rfl (fun _ _ => rfl) dX7_takeSemicolon_19 (fun u2 w3 => ?_)
      refine V_ws [(h0, oC 8 [.ref h1, .int p0, .int (u2.1 0), .int (u2.1 1), .int (u2.1 2), .int p4, .long p5, .int p6, .int p7]), (h1, aB Y 1600 f0)] rfl ?_
      refine V_iconst 22 B (v := 1) dX7_takeSemicolon_22 (by decide +kernel) ?_
      exact V_zret 23 B rfl dX7_takeSemicolon_23 (mkU [(u2.1 0), (u2.1 1), (u2.1 2), p6, p7] [] [] [] []) (Or.inr rfl) rfl
    ·
      refine V_aload_n 8 B dX7_takeSemicolon_8 0 rfl ?_
      refine V_iconst 9 B (v := 1) dX7_takeSemicolon_9 (by decide +kernel) ?_
      refine V_aload_n 10 B dX7_takeSemicolon_10 0 rfl ?_
      refine V_get 11 B gf_RX7_31 0 rfl rfl dX7_takeSemicolon_11 ?_
      refine V_gvi 14 B envX EB (st := []) (As := [.int 1, .int p2]) (fun sz => sX7_fail_1 l D Y h0 h1 p0 p1 p2 p3 p4 p5 p6 p7 1 p2 sz) glV_RX7_53 ⟨rfl, rfl⟩ ⟨(Nat.le_of_ble_eq_true rfl), (Nat.le_of_ble_eq_true rfl)⟩ ⟨(Nat.le_of_ble_eq_true rfl), (Nat.le_of_ble_eq_true rfl)⟩ [0] rfl 8 0 rfl rfl rfl rfl (Nat.le_of_ble_eq_true rfl) rfl (fun _ _ _ => rfl) dX7_takeSemicolon_14 (fun j4 u5 w6 => ?_)
      refine V_ws [(h0, oC 8 [.ref h1, .int p0, .int p1, .int p2, .int p3, .int p4, .long p5, .int (u5.1 0), .int (u5.1 1)]), (h1, aB Y 1600 f0)] rfl ?_
      rcases w6 with rfl | rfl
      ·
        exact V_zret 17 B rfl dX7_takeSemicolon_17 (mkU [p1, p2, p3, (u5.1 0), (u5.1 1)] [] [] [] []) (Or.inl rfl) rfl
      ·
        exact V_zret 17 B rfl dX7_takeSemicolon_17 (mkU [p1, p2, p3, (u5.1 0), (u5.1 1)] [] [] [] []) (Or.inr rfl) rfl)
theorem glV_RX3_118 : GLV RX3 118 yX7_takeSemicolon RX7 cX7_takeSemicolon 1 (some .boolean) 0 := ⟨⟨(mT3 55 rfl rfl), (mT3 56 rfl rfl), (mT3 57 rfl rfl), (mT1 10 rfl rfl), (mT3 58 rfl rfl)⟩, by decide +kernel⟩
theorem dX3_readTimeout_27 : decode cX3_readTimeout 27 = .ok (.ifCond .ne 5, 3) := by decide +kernel
theorem dX3_readTimeout_32 : decode cX3_readTimeout 32 = .ok (.aload_n 0, 1) := by decide +kernel
theorem dX3_readTimeout_33 : decode cX3_readTimeout 33 = .ok (.getfield 15, 3) := by decide +kernel
theorem dX3_readTimeout_36 : decode cX3_readTimeout 36 = .ok (.getfield 193, 3) := by decide +kernel
theorem gf_RX3_193 : GF RX3 193 2 10 := ⟨RX0, TX0, 12, rfl, inw_X0, Nat.le_of_ble_eq_true rfl, (mT1 202 rfl rfl)⟩
theorem dX3_readTimeout_39 : decode cX3_readTimeout 39 = .ok (.aload_n 0, 1) := by decide +kernel
theorem dX3_readTimeout_40 : decode cX3_readTimeout 40 = .ok (.getfield 9, 3) := by decide +kernel
theorem dX3_readTimeout_43 : decode cX3_readTimeout 43 = .ok (.getfield 121, 3) := by decide +kernel
theorem gf_RX3_121 : GF RX3 121 8 5 := ⟨RX7, TX7, 9, rfl, inw_X7, Nat.le_of_ble_eq_true rfl, (mT2 47 rfl rfl)⟩
theorem dX3_readTimeout_46 : decode cX3_readTimeout 46 = .ok (.putfield 197, 3) := by decide +kernel
theorem gp_RX3_197 : GP RX3 197 9 8 .int false := ⟨RX8, TX8, 9, ⟨rfl, inw_X8, Nat.le_of_ble_eq_true rfl, (mT1 135 rfl rfl)⟩, ⟨tyX8, tyX8_ok⟩, nmX8, rfl, by decide +kernel, fun h => nomatch h⟩
theorem dX3_readTimeout_49 : decode cX3_readTimeout 49 = .ok (.iconst 1, 1) := by decide +kernel
theorem dX3_readTimeout_50 : decode cX3_readTimeout 50 = .ok (.ireturn, 1) := by decide +kernel
set_option maxRecDepth 100000 in
set_option maxHeartbeats 4000000 in
theorem sX3_readTimeout_1 (l : Launch) (D : va_G) (Y : Nat → ClassId) (h0 : Nat) (h1 : Nat) (h2 : Nat) (h3 : Nat) (h4 : Nat) (g0 : Nat) (g1 : Nat) (g2 : Nat) (g3 : Nat) (g4 : Nat) (g5 : Nat) (g6 : Nat) (g7 : Nat) (g8 : Nat) (g9 : Nat) (g10 : Nat) (g11 : Nat) (p0 : Int32) (p1 : Int32) (p2 : Int64) (p3 : Int32) (p4 : Int32) (p5 : Int32) (p6 : Int32) (p7 : Int32) (p8 : Int32) (p9 : Int32) (p10 : Int32) (p11 : Int32) (p12 : Int32) (p13 : Int32) (p14 : Int64) (p15 : Int32) (p16 : Int32) (f0 : Nat → Int32) (sz : Nat) : Met l yX3_readTimeout (WSm yX3_readTimeout cX3_readTimeout 1 (some .boolean)) (mkR 3 0 0 64) (PreG EX D Y [.ref h4] [(h0, oC 2 [.ref g0, .ref g1, .ref g2, .ref g3, .ref g4, .ref g5, .ref g6, .ref g7, .ref g8, .ref g9, .ref h1, .int p0]), (h1, oC 9 [.ref g10, .int p1, .long p2, .int p3, .int p4, .int p5, .int p6, .int p7, .int p8]), (h2, oC 8 [.ref h3, .int p9, .int p10, .int p11, .int p12, .int p13, .long p14, .int p15, .int p16]), (h3, aB Y 1600 f0), (h4, oC 5 [.ref h2, .ref h0, .ref g11])] sz) (QI D (fun (r : Int32) (_ : UU) => r = 0 ∨ r = 1) (fun (u : UU) => [(h0, oC 2 [.ref g0, .ref g1, .ref g2, .ref g3, .ref g4, .ref g5, .ref g6, .ref g7, .ref g8, .ref g9, .ref h1, .int p0]), (h1, oC 9 [.ref g10, .int p1, .long p2, .int p3, .int p4, .int p5, .int p6, .int p7, .int (u.1 0)]), (h2, oC 8 [.ref h3, .int p9, .int (u.1 1), .int (u.1 2), .int (u.1 3), .int (u.1 4), .long p14, .int (u.1 5), .int (u.1 6)]), (h3, aB Y 1600 f0), (h4, oC 5 [.ref h2, .ref h0, .ref g11])]) (va_A [(h0, oC 2 [.ref g0, .ref g1, .ref g2, .ref g3, .ref g4, .ref g5, .ref g6, .ref g7, .ref g8, .ref g9, .ref h1, .int p0]), (h1, oC 9 [.ref g10, .int p1, .long p2, .int p3, .int p4, .int p5, .int p6, .int p7, .int p8]), (h2, oC 8 [.ref h3, .int p9, .int p10, .int p11, .int p12, .int p13, .long p14, .int p15, .int p16]), (h3, aB Y 1600 f0), (h4, oC 5 [.ref h2, .ref h0, .ref g11])] sz)) 0 0 (va_A [(h0, oC 2 [.ref g0, .ref g1, .ref g2, .ref g3, .ref g4, .ref g5, .ref g6, .ref g7, .ref g8, .ref g9, .ref h1, .int p0]), (h1, oC 9 [.ref g10, .int p1, .long p2, .int p3, .int p4, .int p5, .int p6, .int p7, .int p8]), (h2, oC 8 [.ref h3, .int p9, .int p10, .int p11, .int p12, .int p13, .long p14, .int p15, .int p16]), (h3, aB Y 1600 f0), (h4, oC 5 [.ref h2, .ref h0, .ref g11])] sz) :=
  gmet_of (by decide +kernel) (Nat.le_of_ble_eq_true rfl) (fun p e s m args below meth c B EB hsz => by
    have B : VB p s m args meth c D Y (va_A [(h0, oC 2 [.ref g0, .ref g1, .ref g2, .ref g3, .ref g4, .ref g5, .ref g6, .ref g7, .ref g8, .ref g9, .ref h1, .int p0]), (h1, oC 9 [.ref g10, .int p1, .long p2, .int p3, .int p4, .int p5, .int p6, .int p7, .int p8]), (h2, oC 8 [.ref h3, .int p9, .int p10, .int p11, .int p12, .int p13, .long p14, .int p15, .int p16]), (h3, aB Y 1600 f0), (h4, oC 5 [.ref h2, .ref h0, .ref g11])] sz) cX3_readTimeout 1 RX3 (some .boolean) := B
    refine V_aload_n 0 B dX3_readTimeout_0 0 rfl ?_
    refine V_get 1 B gf_RX3_9 4 rfl rfl dX3_readTimeout_1 ?_
    refine V_gvv 4 B envX EB (st := []) (As := []) (fun sz => sX7_advance_1 l D Y h2 h3 p9 p10 p11 p12 p13 p14 p15 p16 f0 sz) glV_RX3_112 ⟨rfl, rfl⟩ ⟨(Nat.le_of_ble_eq_true rfl), (Nat.le_of_ble_eq_true rfl)⟩ ⟨(Nat.le_of_ble_eq_true rfl), (Nat.le_of_ble_eq_true rfl)⟩ [2, 0] rfl 8 0 rfl rfl rfl rfl (Nat.le_of_ble_eq_true rfl) rfl (fun _ _ => rfl) dX3_readTimeout_4 (fun u1 w2 => ?_)
    refine V_ws [(h0, oC 2 [.ref g0, .ref g1, .ref g2, .ref g3, .ref g4, .ref g5, .ref g6, .ref g7, .ref g8, .ref g9, .ref h1, .int p0]), (h1, oC 9 [.ref g10, .int p1, .long p2, .int p3, .int p4, .int p5, .int p6, .int p7, .int p8]), (h2, oC 8 [.ref h3, .int p9, .int (u1.1 0), .int (u1.1 1), .int (u1.1 2), .int p13, .long p14, .int p15, .int p16]), (h3, aB Y 1600 f0), (h4, oC 5 [.ref h2, .ref h0, .ref g11])] rfl ?_
    refine V_aload_n 7 B dX3_readTimeout_7 0 rfl ?_
    refine V_get 8 B gf_RX3_9 4 rfl rfl dX3_readTimeout_8 ?_
    refine V_sipush 11 B (v := 1000) dX3_readTimeout_11 (by decide +kernel) ?_
    refine V_gvi 14 B envX EB (st := []) (As := [.int 1000]) (fun sz => sX7_takeNumber_1 l D Y h2 h3 p9 (u1.1 0) (u1.1 1) (u1.1 2) p13 p14 p15 p16 f0 1000 sz) glV_RX3_115 ⟨rfl, rfl⟩ ⟨(Nat.le_of_ble_eq_true rfl), (Nat.le_of_ble_eq_true rfl)⟩ ⟨(Nat.le_of_ble_eq_true rfl), (Nat.le_of_ble_eq_true rfl)⟩ [2, 0] rfl 8 0 rfl rfl rfl rfl (Nat.le_of_ble_eq_true rfl) rfl (fun _ _ _ => rfl) dX3_readTimeout_14 (fun j3 u4 w5 => ?_)
    refine V_ws [(h0, oC 2 [.ref g0, .ref g1, .ref g2, .ref g3, .ref g4, .ref g5, .ref g6, .ref g7, .ref g8, .ref g9, .ref h1, .int p0]), (h1, oC 9 [.ref g10, .int p1, .long p2, .int p3, .int p4, .int p5, .int p6, .int p7, .int p8]), (h2, oC 8 [.ref h3, .int p9, .int (u4.1 0), .int (u4.1 1), .int (u4.1 2), .int (u4.1 3), .long p14, .int (u4.1 4), .int (u4.1 5)]), (h3, aB Y 1600 f0), (h4, oC 5 [.ref h2, .ref h0, .ref g11])] rfl ?_
    rcases w5 with rfl | rfl
    ·
      refine V_if_eq_t 17 B 30 dX3_readTimeout_17 (by decide) (by decide +kernel) ?_
      refine V_iconst 30 B (v := 0) dX3_readTimeout_30 (by decide +kernel) ?_
      exact V_zret 31 B rfl dX3_readTimeout_31 (mkU [p8, (u4.1 0), (u4.1 1), (u4.1 2), (u4.1 3), (u4.1 4), (u4.1 5)] [] [] [] []) (Or.inl rfl) rfl
    ·
      refine V_if_eq_f 17 B 30 dX3_readTimeout_17 (by decide) (by decide +kernel) ?_
      refine V_aload_n 20 B dX3_readTimeout_20 0 rfl ?_
      refine V_get 21 B gf_RX3_9 4 rfl rfl dX3_readTimeout_21 ?_
      refine V_gvi 24 B envX EB (st := []) (As := []) (fun sz => sX7_takeSemicolon_1 l D Y h2 h3 p9 (u4.1 0) (u4.1 1) (u4.1 2) (u4.1 3) p14 (u4.1 4) (u4.1 5) f0 sz) glV_RX3_118 ⟨rfl, rfl⟩ ⟨(Nat.le_of_ble_eq_true rfl), (Nat.le_of_ble_eq_true rfl)⟩ ⟨(Nat.le_of_ble_eq_true rfl), (Nat.le_of_ble_eq_true rfl)⟩ [2, 0] rfl 8 0 rfl rfl rfl rfl (Nat.le_of_ble_eq_true rfl) rfl (fun _ _ _ => rfl) dX3_readTimeout_24 (fun j6 u7 w8 => ?_)
      refine V_ws [(h0, oC 2 [.ref g0, .ref g1, .ref g2, .ref g3, .ref g4, .ref g5, .ref g6, .ref g7, .ref g8, .ref g9, .ref h1, .int p0]), (h1, oC 9 [.ref g10, .int p1, .long p2, .int p3, .int p4, .int p5, .int p6, .int p7, .int p8]), (h2, oC 8 [.ref h3, .int p9, .int (u7.1 0), .int (u7.1 1), .int (u7.1 2), .int (u4.1 3), .long p14, .int (u7.1 3), .int (u7.1 4)]), (h3, aB Y 1600 f0), (h4, oC 5 [.ref h2, .ref h0, .ref g11])] rfl ?_
      rcases w8 with rfl | rfl
      ·
        refine V_if_ne_f 27 B 32 dX3_readTimeout_27 (by decide) (by decide +kernel) ?_
        refine V_iconst 30 B (v := 0) dX3_readTimeout_30 (by decide +kernel) ?_
        exact V_zret 31 B rfl dX3_readTimeout_31 (mkU [p8, (u7.1 0), (u7.1 1), (u7.1 2), (u4.1 3), (u7.1 3), (u7.1 4)] [] [] [] []) (Or.inl rfl) rfl
      ·
        refine V_if_ne_t 27 B 32 dX3_readTimeout_27 (by decide) (by decide +kernel) ?_
        refine V_aload_n 32 B dX3_readTimeout_32 0 rfl ?_
        refine V_get 33 B gf_RX3_15 4 rfl rfl dX3_readTimeout_33 ?_
        refine V_get 36 B gf_RX3_193 0 rfl rfl dX3_readTimeout_36 ?_
        refine V_aload_n 39 B dX3_readTimeout_39 0 rfl ?_
        refine V_get 40 B gf_RX3_9 4 rfl rfl dX3_readTimeout_40 ?_
        refine V_get 43 B gf_RX3_121 2 rfl rfl dX3_readTimeout_43 ?_
        refine V_put 46 B gp_RX3_197 1 rfl (Nat.le_of_ble_eq_true rfl) rfl rfl dX3_readTimeout_46 [(h0, oC 2 [.ref g0, .ref g1, .ref g2, .ref g3, .ref g4, .ref g5, .ref g6, .ref g7, .ref g8, .ref g9, .ref h1, .int p0]), (h1, oC 9 [.ref g10, .int p1, .long p2, .int p3, .int p4, .int p5, .int p6, .int p7, .int (u4.1 3)]), (h2, oC 8 [.ref h3, .int p9, .int (u7.1 0), .int (u7.1 1), .int (u7.1 2), .int (u4.1 3), .long p14, .int (u7.1 3), .int (u7.1 4)]), (h3, aB Y 1600 f0), (h4, oC 5 [.ref h2, .ref h0, .ref g11])] rfl ?_
        refine V_iconst 49 B (v := 1) dX3_readTimeout_49 (by decide +kernel) ?_
        exact V_zret 50 B rfl dX3_readTimeout_50 (mkU [(u4.1 3), (u7.1 0), (u7.1 1), (u7.1 2), (u4.1 3), (u7.1 3), (u7.1 4)] [] [] [] []) (Or.inr rfl) rfl)
theorem glV_RX3_103 : GLV RX3 103 yX3_readTimeout RX3 cX3_readTimeout 1 (some .boolean) 0 := ⟨⟨(mT3 176 rfl rfl), (mT3 178 rfl rfl), (mTs 10 rfl rfl), (mT1 11 rfl rfl), (mT3 179 rfl rfl)⟩, by decide +kernel⟩
theorem dX3_readStatement_138 : decode cX3_readStatement 138 = .ok (.ireturn, 1) := by decide +kernel
theorem dX3_readStatement_117 : decode cX3_readStatement 117 = .ok (.aload_n 0, 1) := by decide +kernel
theorem dX3_readStatement_118 : decode cX3_readStatement 118 = .ok (.invokevirtual 98, 3) := by decide +kernel
theorem dX3_readLayer_0 : decode cX3_readLayer 0 = .ok (.aload_n 0, 1) := by decide +kernel
theorem dX3_readLayer_1 : decode cX3_readLayer 1 = .ok (.getfield 9, 3) := by decide +kernel
theorem dX3_readLayer_4 : decode cX3_readLayer 4 = .ok (.getfield 106, 3) := by decide +kernel
theorem dX3_readLayer_7 : decode cX3_readLayer 7 = .ok (.istore_n 1, 1) := by decide +kernel
theorem dX3_readLayer_8 : decode cX3_readLayer 8 = .ok (.aload_n 0, 1) := by decide +kernel
theorem dX3_readLayer_9 : decode cX3_readLayer 9 = .ok (.getfield 15, 3) := by decide +kernel
theorem dX3_readLayer_12 : decode cX3_readLayer 12 = .ok (.getfield 168, 3) := by decide +kernel
theorem gf_RX3_168 : GF RX3 168 2 9 := ⟨RX0, TX0, 12, rfl, inw_X0, Nat.le_of_ble_eq_true rfl, (mT1 197 rfl rfl)⟩
theorem dX3_readLayer_15 : decode cX3_readLayer 15 = .ok (.getfield 172, 3) := by decide +kernel
theorem gf_RX3_172 : GF RX3 172 4 0 := ⟨RX2, TX2, 4, rfl, inw_X2, Nat.le_of_ble_eq_true rfl, (mT1 85 rfl rfl)⟩
theorem dX3_readLayer_18 : decode cX3_readLayer 18 = .ok (.invokevirtual 109, 3) := by decide +kernel
theorem dX1_isFull_0 : decode cX1_isFull 0 = .ok (.aload_n 0, 1) := by decide +kernel
theorem dX1_isFull_1 : decode cX1_isFull 1 = .ok (.getfield 21, 3) := by decide +kernel
theorem dX1_isFull_4 : decode cX1_isFull 4 = .ok (.aload_n 0, 1) := by decide +kernel
theorem dX1_isFull_5 : decode cX1_isFull 5 = .ok (.getfield 15, 3) := by decide +kernel
theorem dX1_isFull_8 : decode cX1_isFull 8 = .ok (.arraylength, 1) := by decide +kernel
theorem dX1_isFull_9 : decode cX1_isFull 9 = .ok (.if_icmp .lt 7, 3) := by decide +kernel
theorem dX1_isFull_16 : decode cX1_isFull 16 = .ok (.iconst 0, 1) := by decide +kernel
theorem dX1_isFull_17 : decode cX1_isFull 17 = .ok (.ireturn, 1) := by decide +kernel
theorem dX1_isFull_12 : decode cX1_isFull 12 = .ok (.iconst 1, 1) := by decide +kernel
theorem dX1_isFull_13 : decode cX1_isFull 13 = .ok (.goto 4, 3) := by decide +kernel
set_option maxRecDepth 100000 in
set_option maxHeartbeats 4000000 in
theorem sX1_isFull_1 (l : Launch) (D : va_G) (Y : Nat → ClassId) (h0 : Nat) (h1 : Nat) (p0 : Int32) (f0 : Nat → Int32) (sz : Nat) : Met l yX1_isFull (WSm yX1_isFull cX1_isFull 1 (some .boolean)) (mkR 0 0 0 0) (PreG EX D Y [.ref h0] [(h0, oC 3 [.ref h1, .int p0]), (h1, aI Y 4 f0)] sz) (QI D (fun (r : Int32) (_ : UU) => r = 0 ∨ r = 1) (fun (u : UU) => [(h0, oC 3 [.ref h1, .int p0]), (h1, aI Y 4 f0)]) (va_A [(h0, oC 3 [.ref h1, .int p0]), (h1, aI Y 4 f0)] sz)) 0 0 (va_A [(h0, oC 3 [.ref h1, .int p0]), (h1, aI Y 4 f0)] sz) :=
  gmet_of (by decide +kernel) (Nat.le_of_ble_eq_true rfl) (fun p e s m args below meth c B EB hsz => by
    have B : VB p s m args meth c D Y (va_A [(h0, oC 3 [.ref h1, .int p0]), (h1, aI Y 4 f0)] sz) cX1_isFull 1 RX1 (some .boolean) := B
    refine V_aload_n 0 B dX1_isFull_0 0 rfl ?_
    refine V_get 1 B gf_RX1_21 0 rfl rfl dX1_isFull_1 ?_
    refine V_aload_n 4 B dX1_isFull_4 0 rfl ?_
    refine V_get 5 B gf_RX1_15 0 rfl rfl dX1_isFull_5 ?_
    refine V_alenI 8 B (v := 4) 1 rfl (by decide +kernel) dX1_isFull_8 ?_
    refine V_icmp_lt 9 B 16 dX1_isFull_9 (by decide) (fun k0 => ?_) (fun k0 => ?_)
    ·
      refine V_iconst 16 B (v := 0) dX1_isFull_16 (by decide +kernel) ?_
      exact V_zret 17 B rfl dX1_isFull_17 (mkU [] [] [] [] []) (Or.inl rfl) rfl
    ·
      refine V_iconst 12 B (v := 1) dX1_isFull_12 (by decide +kernel) ?_
      refine V_goto 13 B 17 dX1_isFull_13 (by decide) ?_
      exact V_zret 17 B rfl dX1_isFull_17 (mkU [] [] [] [] []) (Or.inr rfl) rfl)
theorem glV_RX3_109 : GLV RX3 109 yX1_isFull RX1 cX1_isFull 1 (some .boolean) 0 := ⟨⟨(mT3 37 rfl rfl), (mT3 38 rfl rfl), (mT3 39 rfl rfl), (mT1 3 rfl rfl), (mT3 40 rfl rfl)⟩, by decide +kernel⟩
theorem dX3_readLayer_21 : decode cX3_readLayer 21 = .ok (.ifCond .eq 13, 3) := by decide +kernel
theorem dX3_readLayer_34 : decode cX3_readLayer 34 = .ok (.aload_n 0, 1) := by decide +kernel
theorem dX3_readLayer_35 : decode cX3_readLayer 35 = .ok (.getfield 9, 3) := by decide +kernel
theorem dX3_readLayer_38 : decode cX3_readLayer 38 = .ok (.invokevirtual 112, 3) := by decide +kernel
theorem dX3_readLayer_41 : decode cX3_readLayer 41 = .ok (.aload_n 0, 1) := by decide +kernel
theorem dX3_readLayer_42 : decode cX3_readLayer 42 = .ok (.getfield 9, 3) := by decide +kernel
theorem dX3_readLayer_45 : decode cX3_readLayer 45 = .ok (.invokevirtual 177, 3) := by decide +kernel
theorem dX7_takeKey_0 : decode cX7_takeKey 0 = .ok (.aload_n 0, 1) := by decide +kernel
theorem dX7_takeKey_1 : decode cX7_takeKey 1 = .ok (.aload_n 0, 1) := by decide +kernel
theorem dX7_takeKey_2 : decode cX7_takeKey 2 = .ok (.getfield 31, 3) := by decide +kernel
theorem dX7_takeKey_5 : decode cX7_takeKey 5 = .ok (.invokevirtual 60, 3) := by decide +kernel
theorem dX7_keyAt_0 : decode cX7_keyAt 0 = .ok (.aload_n 0, 1) := by decide +kernel
theorem dX7_keyAt_1 : decode cX7_keyAt 1 = .ok (.iload_n 1, 1) := by decide +kernel
theorem dX7_keyAt_2 : decode cX7_keyAt 2 = .ok (.invokevirtual 34, 3) := by decide +kernel
theorem dX7_keyAt_5 : decode cX7_keyAt 5 = .ok (.istore_n 2, 1) := by decide +kernel
theorem dX7_keyAt_6 : decode cX7_keyAt 6 = .ok (.iload_n 2, 1) := by decide +kernel
theorem dX7_keyAt_7 : decode cX7_keyAt 7 = .ok (.bipush 97, 2) := by decide +kernel
theorem dX7_keyAt_9 : decode cX7_keyAt 9 = .ok (.if_icmp .lt 16, 3) := by decide +kernel
theorem dX7_keyAt_25 : decode cX7_keyAt 25 = .ok (.iconst (-1), 1) := by decide +kernel
theorem dX7_keyAt_26 : decode cX7_keyAt 26 = .ok (.ireturn, 1) := by decide +kernel
theorem dX7_keyAt_12 : decode cX7_keyAt 12 = .ok (.iload_n 2, 1) := by decide +kernel
theorem dX7_keyAt_13 : decode cX7_keyAt 13 = .ok (.bipush 122, 2) := by decide +kernel
theorem dX7_keyAt_15 : decode cX7_keyAt 15 = .ok (.if_icmp .gt 10, 3) := by decide +kernel
theorem dX7_keyAt_18 : decode cX7_keyAt 18 = .ok (.iload_n 2, 1) := by decide +kernel
theorem dX7_keyAt_19 : decode cX7_keyAt 19 = .ok (.bipush 97, 2) := by decide +kernel
theorem dX7_keyAt_21 : decode cX7_keyAt 21 = .ok (.isub, 1) := by decide +kernel
theorem dX7_keyAt_22 : decode cX7_keyAt 22 = .ok (.goto 4, 3) := by decide +kernel
set_option maxRecDepth 100000 in
set_option maxHeartbeats 4000000 in
theorem sX7_keyAt_1 (l : Launch) (D : va_G) (Y : Nat → ClassId) (h0 : Nat) (h1 : Nat) (p0 : Int32) (p1 : Int32) (p2 : Int32) (p3 : Int32) (p4 : Int32) (p5 : Int64) (p6 : Int32) (p7 : Int32) (f0 : Nat → Int32) (p8 : Int32) (sz : Nat) : Met l yX7_keyAt (WSm yX7_keyAt cX7_keyAt 3 (some .int)) (mkR 1 0 0 21) (PreG EX D Y [.ref h0, .int p8] [(h0, oC 8 [.ref h1, .int p0, .int p1, .int p2, .int p3, .int p4, .long p5, .int p6, .int p7]), (h1, aB Y 1600 f0)] sz) (QI D (fun (_ : Int32) (_ : UU) => True) (fun (u : UU) => [(h0, oC 8 [.ref h1, .int p0, .int p1, .int p2, .int p3, .int p4, .long p5, .int p6, .int p7]), (h1, aB Y 1600 f0)]) (va_A [(h0, oC 8 [.ref h1, .int p0, .int p1, .int p2, .int p3, .int p4, .long p5, .int p6, .int p7]), (h1, aB Y 1600 f0)] sz)) 0 0 (va_A [(h0, oC 8 [.ref h1, .int p0, .int p1, .int p2, .int p3, .int p4, .long p5, .int p6, .int p7]), (h1, aB Y 1600 f0)] sz) :=
  gmet_of (by decide +kernel) (Nat.le_of_ble_eq_true rfl) (fun p e s m args below meth c B EB hsz => by
    have B : VB p s m args meth c D Y (va_A [(h0, oC 8 [.ref h1, .int p0, .int p1, .int p2, .int p3, .int p4, .long p5, .int p6, .int p7]), (h1, aB Y 1600 f0)] sz) cX7_keyAt 3 RX7 (some .int) := B
    refine V_aload_n 0 B dX7_keyAt_0 0 rfl ?_
    refine V_iload_n 1 B dX7_keyAt_1 1 rfl ?_
    refine V_gvi 2 B envX EB (st := []) (As := [.int p8]) (fun sz => sX7_byteAt_1 l D Y h0 h1 p0 p1 p2 p3 p4 p5 p6 p7 f0 p8 sz) glV_RX7_34 ⟨rfl, rfl⟩ ⟨(Nat.le_of_ble_eq_true rfl), (Nat.le_of_ble_eq_true rfl)⟩ ⟨(Nat.le_of_ble_eq_true rfl), (Nat.le_of_ble_eq_true rfl)⟩ [0, 0] rfl 8 0 rfl rfl rfl rfl (Nat.le_of_ble_eq_true rfl) rfl (fun _ _ _ => rfl) dX7_keyAt_2 (fun j0 u1 w2 => ?_)
    refine V_ws [(h0, oC 8 [.ref h1, .int p0, .int p1, .int p2, .int p3, .int p4, .long p5, .int p6, .int p7]), (h1, aB Y 1600 f0)] rfl ?_
    refine V_istore_n 5 B (lv2 := [(2, .int j0), (0, .ref h0), (1, .int p8)]) dX7_keyAt_5 (by decide) rfl ?_
    refine V_iload_n 6 B dX7_keyAt_6 0 rfl ?_
    refine V_bipush 7 B (v := 97) dX7_keyAt_7 (by decide +kernel) ?_
    refine V_icmp_lt 9 B 25 dX7_keyAt_9 (by decide) (fun k3 => ?_) (fun k3 => ?_)
    ·
      refine V_iconst 25 B (v := (-1)) dX7_keyAt_25 (by decide +kernel) ?_
      exact V_iret 26 B dX7_keyAt_26 (mkU [] [] [] [] []) trivial rfl
    ·
      refine V_iload_n 12 B dX7_keyAt_12 0 rfl ?_
      refine V_bipush 13 B (v := 122) dX7_keyAt_13 (by decide +kernel) ?_
      refine V_icmp_gt 15 B 25 dX7_keyAt_15 (by decide) (fun k4 => ?_) (fun k4 => ?_)
      ·
        refine V_iconst 25 B (v := (-1)) dX7_keyAt_25 (by decide +kernel) ?_
        exact V_iret 26 B dX7_keyAt_26 (mkU [] [] [] [] []) trivial rfl
      ·
        refine V_iload_n 18 B dX7_keyAt_18 0 rfl ?_
        refine V_bipush 19 B (v := 97) dX7_keyAt_19 (by decide +kernel) ?_
        refine V_isub 21 B dX7_keyAt_21 rfl ?_
        refine V_goto 22 B 26 dX7_keyAt_22 (by decide) ?_
        exact V_iret 26 B dX7_keyAt_26 (mkU [] [] [] [] []) trivial rfl)
theorem glV_RX7_60 : GLV RX7 60 yX7_keyAt RX7 cX7_keyAt 3 (some .int) 1 := ⟨⟨(mT3 88 rfl rfl), (mT3 90 rfl rfl), (mTs 6 rfl rfl), (mT1 10 rfl rfl), (mT3 91 rfl rfl)⟩, by decide +kernel⟩
theorem dX7_takeKey_8 : decode cX7_takeKey 8 = .ok (.istore_n 1, 1) := by decide +kernel
theorem dX7_takeKey_9 : decode cX7_takeKey 9 = .ok (.aload_n 0, 1) := by decide +kernel
theorem dX7_takeKey_10 : decode cX7_takeKey 10 = .ok (.getfield 38, 3) := by decide +kernel
theorem dX7_takeKey_13 : decode cX7_takeKey 13 = .ok (.iconst 1, 1) := by decide +kernel
theorem dX7_takeKey_14 : decode cX7_takeKey 14 = .ok (.if_icmp .ne 21, 3) := by decide +kernel
theorem dX7_takeKey_35 : decode cX7_takeKey 35 = .ok (.aload_n 0, 1) := by decide +kernel
theorem dX7_takeKey_36 : decode cX7_takeKey 36 = .ok (.iconst 1, 1) := by decide +kernel
theorem dX7_takeKey_37 : decode cX7_takeKey 37 = .ok (.aload_n 0, 1) := by decide +kernel
theorem dX7_takeKey_38 : decode cX7_takeKey 38 = .ok (.getfield 31, 3) := by decide +kernel
theorem dX7_takeKey_41 : decode cX7_takeKey 41 = .ok (.invokevirtual 53, 3) := by decide +kernel
theorem dX7_takeKey_44 : decode cX7_takeKey 44 = .ok (.ireturn, 1) := by decide +kernel
theorem dX7_takeKey_17 : decode cX7_takeKey 17 = .ok (.aload_n 0, 1) := by decide +kernel
theorem dX7_takeKey_18 : decode cX7_takeKey 18 = .ok (.getfield 25, 3) := by decide +kernel
theorem dX7_takeKey_21 : decode cX7_takeKey 21 = .ok (.aload_n 0, 1) := by decide +kernel
theorem dX7_takeKey_22 : decode cX7_takeKey 22 = .ok (.getfield 31, 3) := by decide +kernel
theorem dX7_takeKey_25 : decode cX7_takeKey 25 = .ok (.isub, 1) := by decide +kernel
theorem dX7_takeKey_26 : decode cX7_takeKey 26 = .ok (.iconst 1, 1) := by decide +kernel
theorem dX7_takeKey_27 : decode cX7_takeKey 27 = .ok (.if_icmp .ne 8, 3) := by decide +kernel
theorem dX7_takeKey_30 : decode cX7_takeKey 30 = .ok (.iload_n 1, 1) := by decide +kernel
theorem dX7_takeKey_31 : decode cX7_takeKey 31 = .ok (.iconst (-1), 1) := by decide +kernel
theorem dX7_takeKey_32 : decode cX7_takeKey 32 = .ok (.if_icmp .ne 13, 3) := by decide +kernel
theorem dX7_takeKey_45 : decode cX7_takeKey 45 = .ok (.aload_n 0, 1) := by decide +kernel
theorem dX7_takeKey_46 : decode cX7_takeKey 46 = .ok (.iload_n 1, 1) := by decide +kernel
theorem dX7_takeKey_47 : decode cX7_takeKey 47 = .ok (.putfield 57, 3) := by decide +kernel
theorem dX7_takeKey_50 : decode cX7_takeKey 50 = .ok (.aload_n 0, 1) := by decide +kernel
theorem dX7_takeKey_51 : decode cX7_takeKey 51 = .ok (.invokevirtual 28, 3) := by decide +kernel
theorem dX7_takeKey_54 : decode cX7_takeKey 54 = .ok (.iconst 1, 1) := by decide +kernel
theorem dX7_takeKey_55 : decode cX7_takeKey 55 = .ok (.ireturn, 1) := by decide +kernel
set_option maxRecDepth 100000 in
set_option maxHeartbeats 4000000 in
theorem sX7_takeKey_1 (l : Launch) (D : va_G) (Y : Nat → ClassId) (h0 : Nat) (h1 : Nat) (p0 : Int32) (p1 : Int32) (p2 : Int32) (p3 : Int32) (p4 : Int32) (p5 : Int64) (p6 : Int32) (p7 : Int32) (f0 : Nat → Int32) (sz : Nat) : Met l yX7_takeKey (WSm yX7_takeKey cX7_takeKey 2 (some .boolean)) (mkR 2 0 0 43) (PreG EX D Y [.ref h0] [(h0, oC 8 [.ref h1, .int p0, .int p1, .int p2, .int p3, .int p4, .long p5, .int p6, .int p7]), (h1, aB Y 1600 f0)] sz) (QI D (fun (r : Int32) (_ : UU) => r = 0 ∨ r = 1) (fun (u : UU) => [(h0, oC 8 [.ref h1, .int p0, .int (u.1 0), .int (u.1 1), .int (u.1 2), .int (u.1 3), .long p5, .int (u.1 4), .int (u.1 5)]), (h1, aB Y 1600 f0)]) (va_A [(h0, oC 8 [.ref h1, .int p0, .int p1, .int p2, .int p3, .int p4, .long p5, .int p6, .int p7]), (h1, aB Y 1600 f0)] sz)) 0 0 (va_A [(h0, oC 8 [.ref h1, .int p0, .int p1, .int p2, .int p3, .int p4, .long p5, .int p6, .int p7]), (h1, aB Y 1600 f0)] sz) :=
  gmet_of (by decide +kernel) (Nat.le_of_ble_eq_true rfl) (fun p e s m args below meth c B EB hsz => by
    have B : VB p s m args meth c D Y (va_A [(h0, oC 8 [.ref h1, .int p0, .int p1, .int p2, .int p3, .int p4, .long p5, .int p6, .int p7]), (h1, aB Y 1600 f0)] sz) cX7_takeKey 2 RX7 (some .boolean) := B
    refine V_aload_n 0 B dX7_takeKey_0 0 rfl ?_
    refine V_aload_n 1 B dX7_takeKey_1 0 rfl ?_
    refine V_get 2 B gf_RX7_31 0 rfl rfl dX7_takeKey_2 ?_
    refine V_gvi 5 B envX EB (st := []) (As := [.int p2]) (fun sz => sX7_keyAt_1 l D Y h0 h1 p0 p1 p2 p3 p4 p5 p6 p7 f0 p2 sz) glV_RX7_60 ⟨rfl, rfl⟩ ⟨(Nat.le_of_ble_eq_true rfl), (Nat.le_of_ble_eq_true rfl)⟩ ⟨(Nat.le_of_ble_eq_true rfl), (Nat.le_of_ble_eq_true rfl)⟩ [0, 0] rfl 8 0 rfl rfl rfl rfl (Nat.le_of_ble_eq_true rfl) rfl (fun _ _ _ => rfl) dX7_takeKey_5 (fun j0 u1 w2 => ?_)
    refine V_ws [(h0, oC 8 [.ref h1, .int p0, .int p1, .int p2, .int p3, .int p4, .long p5, .int p6, .int p7]), (h1, aB Y 1600 f0)] rfl ?_
    refine V_istore_n 8 B (lv2 := [(1, .int j0), (0, .ref h0)]) dX7_takeKey_8 (by decide) rfl ?_
    refine V_aload_n 9 B dX7_takeKey_9 1 rfl ?_
    refine V_get 10 B gf_RX7_38 0 rfl rfl dX7_takeKey_10 ?_
    refine V_iconst 13 B (v := 1) dX7_takeKey_13 (by decide +kernel) ?_
    refine V_icmp_ne 14 B 35 dX7_takeKey_14 (by decide) (fun k3 => ?_) (fun k3 => ?_)
    ·
      refine V_aload_n 35 B dX7_takeKey_35 1 rfl ?_
      refine V_iconst 36 B (v := 1) dX7_takeKey_36 (by decide +kernel) ?_
      refine V_aload_n 37 B dX7_takeKey_37 1 rfl ?_
      refine V_get 38 B gf_RX7_31 0 rfl rfl dX7_takeKey_38 ?_
      refine V_gvi 41 B envX EB (st := []) (As := [.int 1, .int p2]) (fun sz => sX7_fail_1 l D Y h0 h1 p0 p1 p2 p3 p4 p5 p6 p7 1 p2 sz) glV_RX7_53 ⟨rfl, rfl⟩ ⟨(Nat.le_of_ble_eq_true rfl), (Nat.le_of_ble_eq_true rfl)⟩ ⟨(Nat.le_of_ble_eq_true rfl), (Nat.le_of_ble_eq_true rfl)⟩ [0] rfl 8 0 rfl rfl rfl rfl (Nat.le_of_ble_eq_true rfl) rfl (fun _ _ _ => rfl) dX7_takeKey_41 (fun j4 u5 w6 => ?_)
      refine V_ws [(h0, oC 8 [.ref h1, .int p0, .int p1, .int p2, .int p3, .int p4, .long p5, .int (u5.1 0), .int (u5.1 1)]), (h1, aB Y 1600 f0)] rfl ?_
      rcases w6 with rfl | rfl
      ·
        exact V_zret 44 B rfl dX7_takeKey_44 (mkU [p1, p2, p3, p4, (u5.1 0), (u5.1 1)] [] [] [] []) (Or.inl rfl) rfl
      ·
        exact V_zret 44 B rfl dX7_takeKey_44 (mkU [p1, p2, p3, p4, (u5.1 0), (u5.1 1)] [] [] [] []) (Or.inr rfl) rfl
    ·
      obtain rfl : p1 = 1 := k3
      refine V_aload_n 17 B dX7_takeKey_17 1 rfl ?_
      refine V_get 18 B gf_RX7_25 0 rfl rfl dX7_takeKey_18 ?_
      refine V_aload_n 21 B dX7_takeKey_21 1 rfl ?_
      refine V_get 22 B gf_RX7_31 0 rfl rfl dX7_takeKey_22 ?_
      refine V_isub 25 B dX7_takeKey_25 rfl ?_
      refine V_nmi (fun j7 _ => ?_)
      refine V_iconst 26 B (v := 1) dX7_takeKey_26 (by decide +kernel) ?_
      refine V_icmp_ne 27 B 35 dX7_takeKey_27 (by decide) (fun k8 => ?_) (fun k8 => ?_)
      ·
        refine V_aload_n 35 B dX7_takeKey_35 1 rfl ?_
        refine V_iconst 36 B (v := 1) dX7_takeKey_36 (by decide +kernel) ?_
        refine V_aload_n 37 B dX7_takeKey_37 1 rfl ?_
        refine V_get 38 B gf_RX7_31 0 rfl rfl dX7_takeKey_38 ?_
        refine V_gvi 41 B envX EB (st := []) (As := [.int 1, .int p2]) (fun sz => sX7_fail_1 l D Y h0 h1 p0 1 p2 p3 p4 p5 p6 p7 1 p2 sz) glV_RX7_53 ⟨rfl, rfl⟩ ⟨(Nat.le_of_ble_eq_true rfl), (Nat.le_of_ble_eq_true rfl)⟩ ⟨(Nat.le_of_ble_eq_true rfl), (Nat.le_of_ble_eq_true rfl)⟩ [0] rfl 8 0 rfl rfl rfl rfl (Nat.le_of_ble_eq_true rfl) rfl (fun _ _ _ => rfl) dX7_takeKey_41 (fun j9 u10 w11 => ?_)
        refine V_ws [(h0, oC 8 [.ref h1, .int p0, .int 1, .int p2, .int p3, .int p4, .long p5, .int (u10.1 0), .int (u10.1 1)]), (h1, aB Y 1600 f0)] rfl ?_
        rcases w11 with rfl | rfl
        ·
          exact V_zret 44 B rfl dX7_takeKey_44 (mkU [1, p2, p3, p4, (u10.1 0), (u10.1 1)] [] [] [] []) (Or.inl rfl) rfl
        ·
          exact V_zret 44 B rfl dX7_takeKey_44 (mkU [1, p2, p3, p4, (u10.1 0), (u10.1 1)] [] [] [] []) (Or.inr rfl) rfl
      ·
        obtain rfl : j7 = 1 := k8
        refine V_iload_n 30 B dX7_takeKey_30 0 rfl ?_
        refine V_iconst 31 B (v := (-1)) dX7_takeKey_31 (by decide +kernel) ?_
        refine V_icmp_ne 32 B 45 dX7_takeKey_32 (by decide) (fun k12 => ?_) (fun k12 => ?_)
        ·
          refine V_aload_n 45 B dX7_takeKey_45 1 rfl ?_
          refine V_iload_n 46 B dX7_takeKey_46 0 rfl ?_
          refine V_put 47 B gp_RX7_57 0 rfl (Nat.le_of_ble_eq_true rfl) rfl rfl dX7_takeKey_47 [(h0, oC 8 [.ref h1, .int p0, .int 1, .int p2, .int p3, .int j0, .long p5, .int p6, .int p7]), (h1, aB Y 1600 f0)] rfl ?_
          refine V_aload_n 50 B dX7_takeKey_50 1 rfl ?_
          refine V_gvv 51 B envX EB (st := []) (As := []) (fun sz => sX7_advance_1 l D Y h0 h1 p0 1 p2 p3 j0 p5 p6 p7 f0 sz) glV_RX7_28 ⟨rfl, rfl⟩ ⟨(Nat.le_of_ble_eq_true rfl), (Nat.le_of_ble_eq_true rfl)⟩ ⟨(Nat.le_of_ble_eq_true rfl), (Nat.le_of_ble_eq_true rfl)⟩ [0, 0] rfl 8 0 rfl rfl rfl rfl (Nat.le_of_ble_eq_true rfl) rfl (fun _ _ => rfl) dX7_takeKey_51 (fun u14 w15 => ?_)
          refine V_ws [(h0, oC 8 [.ref h1, .int p0, .int (u14.1 0), .int (u14.1 1), .int (u14.1 2), .int j0, .long p5, .int p6, .int p7]), (h1, aB Y 1600 f0)] rfl ?_
          refine V_iconst 54 B (v := 1) dX7_takeKey_54 (by decide +kernel) ?_
          exact V_zret 55 B rfl dX7_takeKey_55 (mkU [(u14.1 0), (u14.1 1), (u14.1 2), j0, p6, p7] [] [] [] []) (Or.inr rfl) rfl
        ·
          obtain rfl : j0 = (-1) := k12
          refine V_aload_n 35 B dX7_takeKey_35 1 rfl ?_
          refine V_iconst 36 B (v := 1) dX7_takeKey_36 (by decide +kernel) ?_
          refine V_aload_n 37 B dX7_takeKey_37 1 rfl ?_
          refine V_get 38 B gf_RX7_31 0 rfl rfl dX7_takeKey_38 ?_
          refine V_gvi 41 B envX EB (st := []) (As := [.int 1, .int p2]) (fun sz => sX7_fail_1 l D Y h0 h1 p0 1 p2 p3 p4 p5 p6 p7 1 p2 sz) glV_RX7_53 ⟨rfl, rfl⟩ ⟨(Nat.le_of_ble_eq_true rfl), (Nat.le_of_ble_eq_true rfl)⟩ ⟨(Nat.le_of_ble_eq_true rfl), (Nat.le_of_ble_eq_true rfl)⟩ [0] rfl 8 0 rfl rfl rfl rfl (Nat.le_of_ble_eq_true rfl) rfl (fun _ _ _ => rfl) dX7_takeKey_41 (fun j16 u17 w18 => ?_)
          refine V_ws [(h0, oC 8 [.ref h1, .int p0, .int 1, .int p2, .int p3, .int p4, .long p5, .int (u17.1 0), .int (u17.1 1)]), (h1, aB Y 1600 f0)] rfl ?_
          rcases w18 with rfl | rfl
          ·
            exact V_zret 44 B rfl dX7_takeKey_44 (mkU [1, p2, p3, p4, (u17.1 0), (u17.1 1)] [] [] [] []) (Or.inl rfl) rfl
          ·
            exact V_zret 44 B rfl dX7_takeKey_44 (mkU [1, p2, p3, p4, (u17.1 0), (u17.1 1)] [] [] [] []) (Or.inr rfl) rfl)
theorem glV_RX3_177 : GLV RX3 177 yX7_takeKey RX7 cX7_takeKey 2 (some .boolean) 0 := ⟨⟨(mT3 152 rfl rfl), (mT3 153 rfl rfl), (mT3 154 rfl rfl), (mT1 10 rfl rfl), (mT3 155 rfl rfl)⟩, by decide +kernel⟩
theorem dX3_readLayer_48 : decode cX3_readLayer 48 = .ok (.ifCond .ne 5, 3) := by decide +kernel
theorem dX3_readLayer_51 : decode cX3_readLayer 51 = .ok (.iconst 0, 1) := by decide +kernel
theorem dX3_readLayer_52 : decode cX3_readLayer 52 = .ok (.ireturn, 1) := by decide +kernel
theorem dX3_readLayer_53 : decode cX3_readLayer 53 = .ok (.aload_n 0, 1) := by decide +kernel
theorem dX3_readLayer_54 : decode cX3_readLayer 54 = .ok (.getfield 9, 3) := by decide +kernel
theorem dX3_readLayer_57 : decode cX3_readLayer 57 = .ok (.getfield 121, 3) := by decide +kernel
theorem dX3_readLayer_60 : decode cX3_readLayer 60 = .ok (.istore_n 2, 1) := by decide +kernel
theorem dX3_readLayer_61 : decode cX3_readLayer 61 = .ok (.iconst 0, 1) := by decide +kernel
theorem dX3_readLayer_62 : decode cX3_readLayer 62 = .ok (.istore_n 3, 1) := by decide +kernel
theorem dX3_readLayer_63 : decode cX3_readLayer 63 = .ok (.aload_n 0, 1) := by decide +kernel
theorem dX3_readLayer_64 : decode cX3_readLayer 64 = .ok (.getfield 24, 3) := by decide +kernel
theorem gf_RX3_24 : GF RX3 24 5 2 := ⟨RX3, TX3, 3, rfl, inw_X3, Nat.le_of_ble_eq_true rfl, (mT2 87 rfl rfl)⟩
theorem dX3_readLayer_67 : decode cX3_readLayer 67 = .ok (.iconst (-1), 1) := by decide +kernel
theorem dX3_readLayer_68 : decode cX3_readLayer 68 = .ok (.bipush 26, 2) := by decide +kernel
theorem dX3_readLayer_70 : decode cX3_readLayer 70 = .ok (.invokevirtual 180, 3) := by decide +kernel
theorem dX1_refill_0 : decode cX1_refill 0 = .ok (.aload_n 0, 1) := by decide +kernel
theorem dX1_refill_1 : decode cX1_refill 1 = .ok (.iconst 0, 1) := by decide +kernel
theorem dX1_refill_2 : decode cX1_refill 2 = .ok (.putfield 21, 3) := by decide +kernel
theorem dX1_refill_5 : decode cX1_refill 5 = .ok (.iconst 0, 1) := by decide +kernel
theorem dX1_refill_6 : decode cX1_refill 6 = .ok (.istore_n 3, 1) := by decide +kernel
theorem dX1_refill_7 : decode cX1_refill 7 = .ok (.iload_n 3, 1) := by decide +kernel
theorem dX1_refill_8 : decode cX1_refill 8 = .ok (.iload_n 2, 1) := by decide +kernel
theorem dX1_refill_9 : decode cX1_refill 9 = .ok (.if_icmp .ge 35, 3) := by decide +kernel
theorem dX1_refill_44 : decode cX1_refill 44 = .ok (.return_, 1) := by decide +kernel
theorem dX1_refill_12 : decode cX1_refill 12 = .ok (.iload_n 3, 1) := by decide +kernel
theorem dX1_refill_13 : decode cX1_refill 13 = .ok (.aload_n 0, 1) := by decide +kernel
theorem dX1_refill_14 : decode cX1_refill 14 = .ok (.getfield 15, 3) := by decide +kernel
theorem dX1_refill_17 : decode cX1_refill 17 = .ok (.arraylength, 1) := by decide +kernel
theorem dX1_refill_18 : decode cX1_refill 18 = .ok (.if_icmp .ge 26, 3) := by decide +kernel
theorem dX1_refill_21 : decode cX1_refill 21 = .ok (.aload_n 0, 1) := by decide +kernel
theorem dX1_refill_22 : decode cX1_refill 22 = .ok (.getfield 15, 3) := by decide +kernel
theorem dX1_refill_25 : decode cX1_refill 25 = .ok (.iload_n 3, 1) := by decide +kernel
theorem dX1_refill_26 : decode cX1_refill 26 = .ok (.iload_n 1, 1) := by decide +kernel
theorem dX1_refill_27 : decode cX1_refill 27 = .ok (.iastore, 1) := by decide +kernel
theorem dX1_refill_28 : decode cX1_refill 28 = .ok (.aload_n 0, 1) := by decide +kernel
theorem dX1_refill_29 : decode cX1_refill 29 = .ok (.dup, 1) := by decide +kernel
theorem dX1_refill_30 : decode cX1_refill 30 = .ok (.getfield 21, 3) := by decide +kernel
theorem dX1_refill_33 : decode cX1_refill 33 = .ok (.iconst 1, 1) := by decide +kernel
theorem dX1_refill_34 : decode cX1_refill 34 = .ok (.iadd, 1) := by decide +kernel
theorem dX1_refill_35 : decode cX1_refill 35 = .ok (.putfield 21, 3) := by decide +kernel
theorem dX1_refill_38 : decode cX1_refill 38 = .ok (.iinc 3 1, 3) := by decide +kernel
theorem dX1_refill_41 : decode cX1_refill 41 = .ok (.goto (-34), 3) := by decide +kernel
set_option maxRecDepth 100000 in
set_option maxHeartbeats 4000000 in
theorem sX1_refill_1 (l : Launch) (D : va_G) (Y : Nat → ClassId) (h0 : Nat) (h1 : Nat) (p0 : Int32) (f0 : Nat → Int32) (p1 : Int32) (p2 : Int32) (sz : Nat) : Met l yX1_refill (WSm yX1_refill cX1_refill 4 none) (mkR 0 0 0 0) (PreG EX D Y [.ref h0, .int p1, .int p2] [(h0, oC 3 [.ref h1, .int p0]), (h1, aI Y 26 f0)] sz) (QV D (fun (_ : UU) => True) (fun (u : UU) => [(h0, oC 3 [.ref h1, .int (u.1 0)]), (h1, aI Y 26 (u.2.2.1 0))]) (va_A [(h0, oC 3 [.ref h1, .int p0]), (h1, aI Y 26 f0)] sz)) 0 0 (va_A [(h0, oC 3 [.ref h1, .int p0]), (h1, aI Y 26 f0)] sz) :=
  gmet_of (by decide +kernel) (Nat.le_of_ble_eq_true rfl) (fun p e s m args below meth c B EB hsz => by
    have B : VB p s m args meth c D Y (va_A [(h0, oC 3 [.ref h1, .int p0]), (h1, aI Y 26 f0)] sz) cX1_refill 4 RX1 none := B
    refine V_aload_n 0 B dX1_refill_0 0 rfl ?_
    refine V_iconst 1 B (v := 0) dX1_refill_1 (by decide +kernel) ?_
    refine V_put 2 B gp_RX1_21 0 rfl (Nat.le_of_ble_eq_true rfl) rfl rfl dX1_refill_2 [(h0, oC 3 [.ref h1, .int 0]), (h1, aI Y 26 f0)] rfl ?_
    refine V_iconst 5 B (v := 0) dX1_refill_5 (by decide +kernel) ?_
    refine V_istore_n 6 B (lv2 := [(3, .int 0), (0, .ref h0), (1, .int p1), (2, .int p2)]) dX1_refill_6 (by decide) rfl ?_
    refine V_wloop (α := UU) (fun a => (2147483647 - ((a.1 0)).toInt).toNat) (fun a => 0 ≤ ((a.1 0)).toInt) (fun a => [(3, .int (a.1 0)), (0, .ref h0), (1, .int p1), (2, .int p2)]) (fun a => [(h0, oC 3 [.ref h1, .int (a.1 1)]), (h1, aI Y 26 (a.2.2.1 0))]) (mkU [0, 0] [] [f0] [] []) (show (0 : Int) ≤ (0 : Int32).toInt by decide +kernel) rfl rfl (fun a0 hI2 IH1 => ?_)
    refine V_lv [(3, .int (a0.1 0)), (0, .ref h0), (1, .int p1), (2, .int p2)] [0, 1, 2, 3] rfl ?_
    refine V_ws [(h0, oC 3 [.ref h1, .int (a0.1 1)]), (h1, aI Y 26 (a0.2.2.1 0))] rfl ?_
    refine V_iload_n 7 B dX1_refill_7 0 rfl ?_
    refine V_iload_n 8 B dX1_refill_8 3 rfl ?_
    refine V_icmp_ge 9 B 44 dX1_refill_9 (by decide) (fun k3 => ?_) (fun k3 => ?_)
    ·
      exact V_vret 44 B dX1_refill_44 (mkU [(a0.1 1)] [] [(a0.2.2.1 0)] [] []) trivial rfl
    ·
      refine V_iload_n 12 B dX1_refill_12 0 rfl ?_
      refine V_aload_n 13 B dX1_refill_13 1 rfl ?_
      refine V_get 14 B gf_RX1_15 0 rfl rfl dX1_refill_14 ?_
      refine V_alenI 17 B (v := 26) 1 rfl (by decide +kernel) dX1_refill_17 ?_
      refine V_icmp_ge 18 B 44 dX1_refill_18 (by decide) (fun k4 => ?_) (fun k4 => ?_)
      ·
        exact V_vret 44 B dX1_refill_44 (mkU [(a0.1 1)] [] [(a0.2.2.1 0)] [] []) trivial rfl
      ·
        refine V_aload_n 21 B dX1_refill_21 1 rfl ?_
        refine V_get 22 B gf_RX1_15 0 rfl rfl dX1_refill_22 ?_
        refine V_iload_n 25 B dX1_refill_25 0 rfl ?_
        refine V_iload_n 26 B dX1_refill_26 2 rfl ?_
        refine V_iast 27 B 1 rfl (vpin_b hI2 (b_nge k4 (n := 25) (by decide +kernel)) (by decide)) dX1_refill_27 [(h0, oC 3 [.ref h1, .int (a0.1 1)]), (h1, aI Y 26 (upd (a0.2.2.1 0) ((a0.1 0) : Int32).toNatClampNeg p1))] rfl ?_
        refine V_aload_n 28 B dX1_refill_28 1 rfl ?_
        refine V_dup 29 B dX1_refill_29 rfl ?_
        refine V_get 30 B gf_RX1_21 0 rfl rfl dX1_refill_30 ?_
        refine V_iconst 33 B (v := 1) dX1_refill_33 (by decide +kernel) ?_
        refine V_iadd 34 B dX1_refill_34 rfl ?_
        refine V_nmi (fun j5 _ => ?_)
        refine V_put 35 B gp_RX1_21 0 rfl (Nat.le_of_ble_eq_true rfl) rfl rfl dX1_refill_35 [(h0, oC 3 [.ref h1, .int j5]), (h1, aI Y 26 (upd (a0.2.2.1 0) ((a0.1 0) : Int32).toNatClampNeg p1))] rfl ?_
        refine V_iinc 38 B (v := ((a0.1 0) + Int32.ofInt 1)) (lv2 := [(3, .int ((a0.1 0) + Int32.ofInt 1)), (0, .ref h0), (1, .int p1), (2, .int p2)]) dX1_refill_38 0 rfl rfl (by decide) rfl ?_
        refine V_goto 41 B 7 dX1_refill_41 (by decide) ?_
        refine V_lv [(3, .int ((a0.1 0) + Int32.ofInt 1)), (0, .ref h0), (1, .int p1), (2, .int p2)] [0, 1, 2, 3] rfl ?_
        exact IH1 (mkU [((a0.1 0) + Int32.ofInt 1), j5] [] [(upd (a0.2.2.1 0) ((a0.1 0) : Int32).toNatClampNeg p1)] [] []) (Int.le_trans (by decide) (o_add_lo (c := Int32.ofInt 1) hI2 (b_nge k4 (n := 25) (by decide +kernel)) (by decide +kernel) (by decide +kernel) (k := 1) (by decide +kernel))) (up_dec (x := (a0.1 0)) (c := Int32.ofInt 1) (by decide +kernel) hI2 (Int.le_trans (b_nge k4 (n := 25) (by decide +kernel)) (by decide)) (by decide)))
theorem glV_RX3_180 : GLV RX3 180 yX1_refill RX1 cX1_refill 4 none 2 := ⟨⟨(mT3 156 rfl rfl), (mT3 157 rfl rfl), (mT3 158 rfl rfl), (mT1 3 rfl rfl), (mT3 159 rfl rfl)⟩, by decide +kernel⟩
theorem dX3_readLayer_73 : decode cX3_readLayer 73 = .ok (.iconst 0, 1) := by decide +kernel
theorem dX3_readLayer_74 : decode cX3_readLayer 74 = .ok (.istore 4, 2) := by decide +kernel
theorem dX3_readLayer_76 : decode cX3_readLayer 76 = .ok (.iload 4, 2) := by decide +kernel
theorem dX3_readLayer_78 : decode cX3_readLayer 78 = .ok (.sipush 1600, 3) := by decide +kernel
theorem dX3_readLayer_81 : decode cX3_readLayer 81 = .ok (.if_icmp .ge 92, 3) := by decide +kernel
theorem dX3_readLayer_173 : decode cX3_readLayer 173 = .ok (.aload_n 0, 1) := by decide +kernel
theorem dX3_readLayer_174 : decode cX3_readLayer 174 = .ok (.getfield 9, 3) := by decide +kernel
theorem dX3_readLayer_177 : decode cX3_readLayer 177 = .ok (.invokevirtual 118, 3) := by decide +kernel
theorem dX3_readLayer_180 : decode cX3_readLayer 180 = .ok (.ifCond .ne 5, 3) := by decide +kernel
theorem dX3_readLayer_183 : decode cX3_readLayer 183 = .ok (.iconst 0, 1) := by decide +kernel
theorem dX3_readLayer_184 : decode cX3_readLayer 184 = .ok (.ireturn, 1) := by decide +kernel
theorem dX3_readLayer_185 : decode cX3_readLayer 185 = .ok (.iload_n 3, 1) := by decide +kernel
theorem dX3_readLayer_186 : decode cX3_readLayer 186 = .ok (.ifCond .ne 21, 3) := by decide +kernel
theorem dX3_readLayer_207 : decode cX3_readLayer 207 = .ok (.aload_n 0, 1) := by decide +kernel
theorem dX3_readLayer_208 : decode cX3_readLayer 208 = .ok (.getfield 9, 3) := by decide +kernel
theorem dX3_readLayer_211 : decode cX3_readLayer 211 = .ok (.iconst 4, 1) := by decide +kernel
theorem dX3_readLayer_212 : decode cX3_readLayer 212 = .ok (.iload_n 1, 1) := by decide +kernel
theorem dX3_readLayer_213 : decode cX3_readLayer 213 = .ok (.invokevirtual 63, 3) := by decide +kernel
theorem dX3_readLayer_216 : decode cX3_readLayer 216 = .ok (.ireturn, 1) := by decide +kernel
theorem dX3_readLayer_189 : decode cX3_readLayer 189 = .ok (.aload_n 0, 1) := by decide +kernel
theorem dX3_readLayer_190 : decode cX3_readLayer 190 = .ok (.getfield 15, 3) := by decide +kernel
theorem dX3_readLayer_193 : decode cX3_readLayer 193 = .ok (.getfield 168, 3) := by decide +kernel
theorem dX3_readLayer_196 : decode cX3_readLayer 196 = .ok (.getfield 172, 3) := by decide +kernel
theorem dX3_readLayer_199 : decode cX3_readLayer 199 = .ok (.iload_n 2, 1) := by decide +kernel
theorem dX3_readLayer_200 : decode cX3_readLayer 200 = .ok (.invokevirtual 186, 3) := by decide +kernel
theorem dX1_indexOf_0 : decode cX1_indexOf 0 = .ok (.iconst 0, 1) := by decide +kernel
theorem dX1_indexOf_1 : decode cX1_indexOf 1 = .ok (.istore_n 2, 1) := by decide +kernel
theorem dX1_indexOf_2 : decode cX1_indexOf 2 = .ok (.iload_n 2, 1) := by decide +kernel
theorem dX1_indexOf_3 : decode cX1_indexOf 3 = .ok (.aload_n 0, 1) := by decide +kernel
theorem dX1_indexOf_4 : decode cX1_indexOf 4 = .ok (.getfield 21, 3) := by decide +kernel
theorem dX1_indexOf_7 : decode cX1_indexOf 7 = .ok (.if_icmp .ge 30, 3) := by decide +kernel
theorem dX1_indexOf_37 : decode cX1_indexOf 37 = .ok (.iconst (-1), 1) := by decide +kernel
theorem dX1_indexOf_38 : decode cX1_indexOf 38 = .ok (.ireturn, 1) := by decide +kernel
theorem dX1_indexOf_10 : decode cX1_indexOf 10 = .ok (.iload_n 2, 1) := by decide +kernel
theorem dX1_indexOf_11 : decode cX1_indexOf 11 = .ok (.aload_n 0, 1) := by decide +kernel
theorem dX1_indexOf_12 : decode cX1_indexOf 12 = .ok (.getfield 15, 3) := by decide +kernel
theorem dX1_indexOf_15 : decode cX1_indexOf 15 = .ok (.arraylength, 1) := by decide +kernel
theorem dX1_indexOf_16 : decode cX1_indexOf 16 = .ok (.if_icmp .ge 21, 3) := by decide +kernel
theorem dX1_indexOf_19 : decode cX1_indexOf 19 = .ok (.aload_n 0, 1) := by decide +kernel
theorem dX1_indexOf_20 : decode cX1_indexOf 20 = .ok (.getfield 15, 3) := by decide +kernel
theorem dX1_indexOf_23 : decode cX1_indexOf 23 = .ok (.iload_n 2, 1) := by decide +kernel
theorem dX1_indexOf_24 : decode cX1_indexOf 24 = .ok (.iaload, 1) := by decide +kernel
theorem dX1_indexOf_25 : decode cX1_indexOf 25 = .ok (.iload_n 1, 1) := by decide +kernel
theorem dX1_indexOf_26 : decode cX1_indexOf 26 = .ok (.if_icmp .ne 5, 3) := by decide +kernel
theorem dX1_indexOf_31 : decode cX1_indexOf 31 = .ok (.iinc 2 1, 3) := by decide +kernel
theorem dX1_indexOf_34 : decode cX1_indexOf 34 = .ok (.goto (-32), 3) := by decide +kernel
theorem dX1_indexOf_29 : decode cX1_indexOf 29 = .ok (.iload_n 2, 1) := by decide +kernel
theorem dX1_indexOf_30 : decode cX1_indexOf 30 = .ok (.ireturn, 1) := by decide +kernel
set_option maxRecDepth 100000 in
set_option maxHeartbeats 4000000 in
theorem sX1_indexOf_1 (l : Launch) (D : va_G) (Y : Nat → ClassId) (h0 : Nat) (h1 : Nat) (p0 : Int32) (f0 : Nat → Int32) (p1 : Int32) (sz : Nat) : Met l yX1_indexOf (WSm yX1_indexOf cX1_indexOf 3 (some .int)) (mkR 0 0 0 0) (PreG EX D Y [.ref h0, .int p1] [(h0, oC 3 [.ref h1, .int p0]), (h1, aI Y 4 f0)] sz) (QI D (fun (_ : Int32) (_ : UU) => True) (fun (u : UU) => [(h0, oC 3 [.ref h1, .int p0]), (h1, aI Y 4 f0)]) (va_A [(h0, oC 3 [.ref h1, .int p0]), (h1, aI Y 4 f0)] sz)) 0 0 (va_A [(h0, oC 3 [.ref h1, .int p0]), (h1, aI Y 4 f0)] sz) :=
  gmet_of (by decide +kernel) (Nat.le_of_ble_eq_true rfl) (fun p e s m args below meth c B EB hsz => by
    have B : VB p s m args meth c D Y (va_A [(h0, oC 3 [.ref h1, .int p0]), (h1, aI Y 4 f0)] sz) cX1_indexOf 3 RX1 (some .int) := B
    refine V_iconst 0 B (v := 0) dX1_indexOf_0 (by decide +kernel) ?_
    refine V_istore_n 1 B (lv2 := [(2, .int 0), (0, .ref h0), (1, .int p1)]) dX1_indexOf_1 (by decide) rfl ?_
    refine V_wloop (α := UU) (fun a => (2147483647 - ((a.1 0)).toInt).toNat) (fun a => 0 ≤ ((a.1 0)).toInt) (fun a => [(2, .int (a.1 0)), (0, .ref h0), (1, .int p1)]) (fun a => [(h0, oC 3 [.ref h1, .int p0]), (h1, aI Y 4 f0)]) (mkU [0] [] [] [] []) (show (0 : Int) ≤ (0 : Int32).toInt by decide +kernel) rfl rfl (fun a0 hI2 IH1 => ?_)
    refine V_lv [(2, .int (a0.1 0)), (0, .ref h0), (1, .int p1)] [0, 1, 2] rfl ?_
    refine V_ws [(h0, oC 3 [.ref h1, .int p0]), (h1, aI Y 4 f0)] rfl ?_
    refine V_iload_n 2 B dX1_indexOf_2 0 rfl ?_
    refine V_aload_n 3 B dX1_indexOf_3 1 rfl ?_
    refine V_get 4 B gf_RX1_21 0 rfl rfl dX1_indexOf_4 ?_
    refine V_icmp_ge 7 B 37 dX1_indexOf_7 (by decide) (fun k3 => ?_) (fun k3 => ?_)
    ·
      refine V_iconst 37 B (v := (-1)) dX1_indexOf_37 (by decide +kernel) ?_
      exact V_iret 38 B dX1_indexOf_38 (mkU [] [] [] [] []) trivial rfl
    ·
      refine V_iload_n 10 B dX1_indexOf_10 0 rfl ?_
      refine V_aload_n 11 B dX1_indexOf_11 1 rfl ?_
      refine V_get 12 B gf_RX1_15 0 rfl rfl dX1_indexOf_12 ?_
      refine V_alenI 15 B (v := 4) 1 rfl (by decide +kernel) dX1_indexOf_15 ?_
      refine V_icmp_ge 16 B 37 dX1_indexOf_16 (by decide) (fun k4 => ?_) (fun k4 => ?_)
      ·
        refine V_iconst 37 B (v := (-1)) dX1_indexOf_37 (by decide +kernel) ?_
        exact V_iret 38 B dX1_indexOf_38 (mkU [] [] [] [] []) trivial rfl
      ·
        refine V_aload_n 19 B dX1_indexOf_19 1 rfl ?_
        refine V_get 20 B gf_RX1_15 0 rfl rfl dX1_indexOf_20 ?_
        refine V_iload_n 23 B dX1_indexOf_23 0 rfl ?_
        refine V_iald 24 B 1 rfl (vpin_b hI2 (b_nge k4 (n := 3) (by decide +kernel)) (by decide)) dX1_indexOf_24 rfl ?_
        refine V_nmi (fun j5 _ => ?_)
        refine V_iload_n 25 B dX1_indexOf_25 2 rfl ?_
        refine V_icmp_ne 26 B 31 dX1_indexOf_26 (by decide) (fun k6 => ?_) (fun k6 => ?_)
        ·
          refine V_iinc 31 B (v := ((a0.1 0) + Int32.ofInt 1)) (lv2 := [(2, .int ((a0.1 0) + Int32.ofInt 1)), (0, .ref h0), (1, .int p1)]) dX1_indexOf_31 0 rfl rfl (by decide) rfl ?_
          refine V_goto 34 B 2 dX1_indexOf_34 (by decide) ?_
          refine V_lv [(2, .int ((a0.1 0) + Int32.ofInt 1)), (0, .ref h0), (1, .int p1)] [0, 1, 2] rfl ?_
          exact IH1 (mkU [((a0.1 0) + Int32.ofInt 1)] [] [] [] []) (Int.le_trans (by decide) (o_add_lo (c := Int32.ofInt 1) hI2 (b_nge k4 (n := 3) (by decide +kernel)) (by decide +kernel) (by decide +kernel) (k := 1) (by decide +kernel))) (up_dec (x := (a0.1 0)) (c := Int32.ofInt 1) (by decide +kernel) hI2 (Int.le_trans (b_nge k4 (n := 3) (by decide +kernel)) (by decide)) (by decide))
        ·
          refine V_iload_n 29 B dX1_indexOf_29 0 rfl ?_
          exact V_iret 30 B dX1_indexOf_30 (mkU [] [] [] [] []) trivial rfl)
theorem glV_RX3_186 : GLV RX3 186 yX1_indexOf RX1 cX1_indexOf 3 (some .int) 1 := ⟨⟨(mT3 165 rfl rfl), (mT3 166 rfl rfl), (mT3 167 rfl rfl), (mT1 3 rfl rfl), (mT3 168 rfl rfl)⟩, by decide +kernel⟩
theorem dX3_readLayer_203 : decode cX3_readLayer 203 = .ok (.iconst (-1), 1) := by decide +kernel
theorem dX3_readLayer_204 : decode cX3_readLayer 204 = .ok (.if_icmp .eq 13, 3) := by decide +kernel
theorem dX3_readLayer_217 : decode cX3_readLayer 217 = .ok (.aload_n 0, 1) := by decide +kernel
theorem dX3_readLayer_218 : decode cX3_readLayer 218 = .ok (.getfield 15, 3) := by decide +kernel
theorem dX3_readLayer_221 : decode cX3_readLayer 221 = .ok (.getfield 168, 3) := by decide +kernel
theorem dX3_readLayer_224 : decode cX3_readLayer 224 = .ok (.iload_n 2, 1) := by decide +kernel
theorem dX3_readLayer_225 : decode cX3_readLayer 225 = .ok (.aload_n 0, 1) := by decide +kernel
theorem dX3_readLayer_226 : decode cX3_readLayer 226 = .ok (.getfield 24, 3) := by decide +kernel
theorem dX3_readLayer_229 : decode cX3_readLayer 229 = .ok (.invokevirtual 189, 3) := by decide +kernel
theorem dX2_appendLayer_0 : decode cX2_appendLayer 0 = .ok (.aload_n 0, 1) := by decide +kernel
theorem dX2_appendLayer_1 : decode cX2_appendLayer 1 = .ok (.getfield 14, 3) := by decide +kernel
theorem dX2_appendLayer_4 : decode cX2_appendLayer 4 = .ok (.iload_n 1, 1) := by decide +kernel
theorem dX2_appendLayer_5 : decode cX2_appendLayer 5 = .ok (.invokevirtual 37, 3) := by decide +kernel
set_option maxRecDepth 100000 in
set_option maxHeartbeats 4000000 in
theorem sX1_push_2 (l : Launch) (D : va_G) (Y : Nat → ClassId) (h0 : Nat) (h1 : Nat) (p0 : Int32) (f0 : Nat → Int32) (p1 : Int32) (sz : Nat) : Met l yX1_push (WSm yX1_push cX1_push 2 (some .boolean)) (mkR 0 0 0 0) (PreG EX D Y [.ref h0, .int p1] [(h0, oC 3 [.ref h1, .int p0]), (h1, aI Y 4 f0)] sz) (QI D (fun (r : Int32) (_ : UU) => r = 0 ∨ r = 1) (fun (u : UU) => [(h0, oC 3 [.ref h1, .int (u.1 0)]), (h1, aI Y 4 (u.2.2.1 0))]) (va_A [(h0, oC 3 [.ref h1, .int p0]), (h1, aI Y 4 f0)] sz)) 0 0 (va_A [(h0, oC 3 [.ref h1, .int p0]), (h1, aI Y 4 f0)] sz) :=
  gmet_of (by decide +kernel) (Nat.le_of_ble_eq_true rfl) (fun p e s m args below meth c B EB hsz => by
    have B : VB p s m args meth c D Y (va_A [(h0, oC 3 [.ref h1, .int p0]), (h1, aI Y 4 f0)] sz) cX1_push 2 RX1 (some .boolean) := B
    refine V_aload_n 0 B dX1_push_0 0 rfl ?_
    refine V_get 1 B gf_RX1_21 0 rfl rfl dX1_push_1 ?_
    refine V_if_lt 4 B 19 dX1_push_4 (by decide) (fun k0 => ?_) (fun k0 => ?_)
    ·
      refine V_iconst 19 B (v := 0) dX1_push_19 (by decide +kernel) ?_
      exact V_zret 20 B rfl dX1_push_20 (mkU [p0] [] [f0] [] []) (Or.inl rfl) rfl
    ·
      refine V_aload_n 7 B dX1_push_7 0 rfl ?_
      refine V_get 8 B gf_RX1_21 0 rfl rfl dX1_push_8 ?_
      refine V_aload_n 11 B dX1_push_11 0 rfl ?_
      refine V_get 12 B gf_RX1_15 0 rfl rfl dX1_push_12 ?_
      refine V_alenI 15 B (v := 4) 1 rfl (by decide +kernel) dX1_push_15 ?_
      refine V_icmp_lt 16 B 21 dX1_push_16 (by decide) (fun k1 => ?_) (fun k1 => ?_)
      ·
        refine V_aload_n 21 B dX1_push_21 0 rfl ?_
        refine V_get 22 B gf_RX1_15 0 rfl rfl dX1_push_22 ?_
        refine V_aload_n 25 B dX1_push_25 0 rfl ?_
        refine V_get 26 B gf_RX1_21 0 rfl rfl dX1_push_26 ?_
        refine V_iload_n 29 B dX1_push_29 1 rfl ?_
        refine V_iast 30 B 1 rfl (vpin_b (b_nlt k0 (n := 0) (by decide +kernel)) (b_lt k1 (n := 3) (by decide +kernel)) (by decide)) dX1_push_30 [(h0, oC 3 [.ref h1, .int p0]), (h1, aI Y 4 (upd f0 (p0 : Int32).toNatClampNeg p1))] rfl ?_
        refine V_aload_n 31 B dX1_push_31 0 rfl ?_
        refine V_dup 32 B dX1_push_32 rfl ?_
        refine V_get 33 B gf_RX1_21 0 rfl rfl dX1_push_33 ?_
        refine V_iconst 36 B (v := 1) dX1_push_36 (by decide +kernel) ?_
        refine V_iadd 37 B dX1_push_37 rfl ?_
        refine V_put 38 B gp_RX1_21 0 rfl (Nat.le_of_ble_eq_true rfl) rfl rfl dX1_push_38 [(h0, oC 3 [.ref h1, .int (p0 + 1)]), (h1, aI Y 4 (upd f0 (p0 : Int32).toNatClampNeg p1))] rfl ?_
        refine V_iconst 41 B (v := 1) dX1_push_41 (by decide +kernel) ?_
        exact V_zret 42 B rfl dX1_push_42 (mkU [(p0 + 1)] [] [(upd f0 (p0 : Int32).toNatClampNeg p1)] [] []) (Or.inr rfl) rfl
      ·
        refine V_iconst 19 B (v := 0) dX1_push_19 (by decide +kernel) ?_
        exact V_zret 20 B rfl dX1_push_20 (mkU [p0] [] [f0] [] []) (Or.inl rfl) rfl)
theorem glV_RX2_37 : GLV RX2 37 yX1_push RX1 cX1_push 2 (some .boolean) 1 := ⟨⟨(mT3 173 rfl rfl), (mT1 156 rfl rfl), (mT1 157 rfl rfl), (mT1 3 rfl rfl), (mT1 158 rfl rfl)⟩, by decide +kernel⟩
theorem dX2_appendLayer_8 : decode cX2_appendLayer 8 = .ok (.pop, 1) := by decide +kernel
theorem dX2_appendLayer_9 : decode cX2_appendLayer 9 = .ok (.aload_n 0, 1) := by decide +kernel
theorem dX2_appendLayer_10 : decode cX2_appendLayer 10 = .ok (.getfield 20, 3) := by decide +kernel
theorem dX2_appendLayer_13 : decode cX2_appendLayer 13 = .ok (.iconst 0, 1) := by decide +kernel
theorem dX2_appendLayer_14 : decode cX2_appendLayer 14 = .ok (.invokevirtual 37, 3) := by decide +kernel
theorem dX2_appendLayer_17 : decode cX2_appendLayer 17 = .ok (.pop, 1) := by decide +kernel
theorem dX2_appendLayer_18 : decode cX2_appendLayer 18 = .ok (.iconst 0, 1) := by decide +kernel
theorem dX2_appendLayer_19 : decode cX2_appendLayer 19 = .ok (.istore_n 3, 1) := by decide +kernel
theorem dX2_appendLayer_20 : decode cX2_appendLayer 20 = .ok (.iload_n 3, 1) := by decide +kernel
theorem dX2_appendLayer_21 : decode cX2_appendLayer 21 = .ok (.bipush 26, 2) := by decide +kernel
theorem dX2_appendLayer_23 : decode cX2_appendLayer 23 = .ok (.if_icmp .ge 22, 3) := by decide +kernel
theorem dX2_appendLayer_45 : decode cX2_appendLayer 45 = .ok (.return_, 1) := by decide +kernel
theorem dX2_appendLayer_26 : decode cX2_appendLayer 26 = .ok (.aload_n 0, 1) := by decide +kernel
theorem dX2_appendLayer_27 : decode cX2_appendLayer 27 = .ok (.getfield 23, 3) := by decide +kernel
theorem dX2_appendLayer_30 : decode cX2_appendLayer 30 = .ok (.aload_n 2, 1) := by decide +kernel
theorem dX2_appendLayer_31 : decode cX2_appendLayer 31 = .ok (.iload_n 3, 1) := by decide +kernel
theorem dX2_appendLayer_32 : decode cX2_appendLayer 32 = .ok (.invokevirtual 41, 3) := by decide +kernel
set_option maxRecDepth 100000 in
set_option maxHeartbeats 4000000 in
theorem sX1_at_2 (l : Launch) (D : va_G) (Y : Nat → ClassId) (h0 : Nat) (h1 : Nat) (p0 : Int32) (f0 : Nat → Int32) (p1 : Int32) (sz : Nat) : Met l yX1_at (WSm yX1_at cX1_at 2 (some .int)) (mkR 0 0 0 0) (PreG EX D Y [.ref h0, .int p1] [(h0, oC 3 [.ref h1, .int p0]), (h1, aI Y 26 f0)] sz) (QI D (fun (_ : Int32) (_ : UU) => True) (fun (u : UU) => [(h0, oC 3 [.ref h1, .int p0]), (h1, aI Y 26 f0)]) (va_A [(h0, oC 3 [.ref h1, .int p0]), (h1, aI Y 26 f0)] sz)) 0 0 (va_A [(h0, oC 3 [.ref h1, .int p0]), (h1, aI Y 26 f0)] sz) :=
  gmet_of (by decide +kernel) (Nat.le_of_ble_eq_true rfl) (fun p e s m args below meth c B EB hsz => by
    have B : VB p s m args meth c D Y (va_A [(h0, oC 3 [.ref h1, .int p0]), (h1, aI Y 26 f0)] sz) cX1_at 2 RX1 (some .int) := B
    refine V_iload_n 0 B dX1_at_0 1 rfl ?_
    refine V_if_lt 1 B 30 dX1_at_1 (by decide) (fun k0 => ?_) (fun k0 => ?_)
    ·
      refine V_iconst 30 B (v := (-1)) dX1_at_30 (by decide +kernel) ?_
      exact V_iret 31 B dX1_at_31 (mkU [] [] [] [] []) trivial rfl
    ·
      refine V_iload_n 4 B dX1_at_4 1 rfl ?_
      refine V_aload_n 5 B dX1_at_5 0 rfl ?_
      refine V_get 6 B gf_RX1_21 0 rfl rfl dX1_at_6 ?_
      refine V_icmp_ge 9 B 30 dX1_at_9 (by decide) (fun k1 => ?_) (fun k1 => ?_)
      ·
        refine V_iconst 30 B (v := (-1)) dX1_at_30 (by decide +kernel) ?_
        exact V_iret 31 B dX1_at_31 (mkU [] [] [] [] []) trivial rfl
      ·
        refine V_iload_n 12 B dX1_at_12 1 rfl ?_
        refine V_aload_n 13 B dX1_at_13 0 rfl ?_
        refine V_get 14 B gf_RX1_15 0 rfl rfl dX1_at_14 ?_
        refine V_alenI 17 B (v := 26) 1 rfl (by decide +kernel) dX1_at_17 ?_
        refine V_icmp_ge 18 B 30 dX1_at_18 (by decide) (fun k2 => ?_) (fun k2 => ?_)
        ·
          refine V_iconst 30 B (v := (-1)) dX1_at_30 (by decide +kernel) ?_
          exact V_iret 31 B dX1_at_31 (mkU [] [] [] [] []) trivial rfl
        ·
          refine V_aload_n 21 B dX1_at_21 0 rfl ?_
          refine V_get 22 B gf_RX1_15 0 rfl rfl dX1_at_22 ?_
          refine V_iload_n 25 B dX1_at_25 1 rfl ?_
          refine V_iald 26 B 1 rfl (vpin_b (b_nlt k0 (n := 0) (by decide +kernel)) (b_nge k2 (n := 25) (by decide +kernel)) (by decide)) dX1_at_26 rfl ?_
          refine V_nmi (fun j3 _ => ?_)
          refine V_goto 27 B 31 dX1_at_27 (by decide) ?_
          exact V_iret 31 B dX1_at_31 (mkU [] [] [] [] []) trivial rfl)
theorem glV_RX2_41 : GLV RX2 41 yX1_at RX1 cX1_at 2 (some .int) 1 := ⟨⟨(mT3 174 rfl rfl), (mT3 134 rfl rfl), (mT3 135 rfl rfl), (mT1 3 rfl rfl), (mT3 136 rfl rfl)⟩, by decide +kernel⟩
theorem dX2_appendLayer_35 : decode cX2_appendLayer 35 = .ok (.invokevirtual 37, 3) := by decide +kernel
set_option maxRecDepth 100000 in
set_option maxHeartbeats 4000000 in
theorem sX1_push_3 (l : Launch) (D : va_G) (Y : Nat → ClassId) (h0 : Nat) (h1 : Nat) (p0 : Int32) (f0 : Nat → Int32) (p1 : Int32) (sz : Nat) : Met l yX1_push (WSm yX1_push cX1_push 2 (some .boolean)) (mkR 0 0 0 0) (PreG EX D Y [.ref h0, .int p1] [(h0, oC 3 [.ref h1, .int p0]), (h1, aI Y 104 f0)] sz) (QI D (fun (r : Int32) (_ : UU) => r = 0 ∨ r = 1) (fun (u : UU) => [(h0, oC 3 [.ref h1, .int (u.1 0)]), (h1, aI Y 104 (u.2.2.1 0))]) (va_A [(h0, oC 3 [.ref h1, .int p0]), (h1, aI Y 104 f0)] sz)) 0 0 (va_A [(h0, oC 3 [.ref h1, .int p0]), (h1, aI Y 104 f0)] sz) :=
  gmet_of (by decide +kernel) (Nat.le_of_ble_eq_true rfl) (fun p e s m args below meth c B EB hsz => by
    have B : VB p s m args meth c D Y (va_A [(h0, oC 3 [.ref h1, .int p0]), (h1, aI Y 104 f0)] sz) cX1_push 2 RX1 (some .boolean) := B
    refine V_aload_n 0 B dX1_push_0 0 rfl ?_
    refine V_get 1 B gf_RX1_21 0 rfl rfl dX1_push_1 ?_
    refine V_if_lt 4 B 19 dX1_push_4 (by decide) (fun k0 => ?_) (fun k0 => ?_)
    ·
      refine V_iconst 19 B (v := 0) dX1_push_19 (by decide +kernel) ?_
      exact V_zret 20 B rfl dX1_push_20 (mkU [p0] [] [f0] [] []) (Or.inl rfl) rfl
    ·
      refine V_aload_n 7 B dX1_push_7 0 rfl ?_
      refine V_get 8 B gf_RX1_21 0 rfl rfl dX1_push_8 ?_
      refine V_aload_n 11 B dX1_push_11 0 rfl ?_
      refine V_get 12 B gf_RX1_15 0 rfl rfl dX1_push_12 ?_
      refine V_alenI 15 B (v := 104) 1 rfl (by decide +kernel) dX1_push_15 ?_
      refine V_icmp_lt 16 B 21 dX1_push_16 (by decide) (fun k1 => ?_) (fun k1 => ?_)
      ·
        refine V_aload_n 21 B dX1_push_21 0 rfl ?_
        refine V_get 22 B gf_RX1_15 0 rfl rfl dX1_push_22 ?_
        refine V_aload_n 25 B dX1_push_25 0 rfl ?_
        refine V_get 26 B gf_RX1_21 0 rfl rfl dX1_push_26 ?_
        refine V_iload_n 29 B dX1_push_29 1 rfl ?_
        refine V_iast 30 B 1 rfl (vpin_b (b_nlt k0 (n := 0) (by decide +kernel)) (b_lt k1 (n := 103) (by decide +kernel)) (by decide)) dX1_push_30 [(h0, oC 3 [.ref h1, .int p0]), (h1, aI Y 104 (upd f0 (p0 : Int32).toNatClampNeg p1))] rfl ?_
        refine V_aload_n 31 B dX1_push_31 0 rfl ?_
        refine V_dup 32 B dX1_push_32 rfl ?_
        refine V_get 33 B gf_RX1_21 0 rfl rfl dX1_push_33 ?_
        refine V_iconst 36 B (v := 1) dX1_push_36 (by decide +kernel) ?_
        refine V_iadd 37 B dX1_push_37 rfl ?_
        refine V_put 38 B gp_RX1_21 0 rfl (Nat.le_of_ble_eq_true rfl) rfl rfl dX1_push_38 [(h0, oC 3 [.ref h1, .int (p0 + 1)]), (h1, aI Y 104 (upd f0 (p0 : Int32).toNatClampNeg p1))] rfl ?_
        refine V_iconst 41 B (v := 1) dX1_push_41 (by decide +kernel) ?_
        exact V_zret 42 B rfl dX1_push_42 (mkU [(p0 + 1)] [] [(upd f0 (p0 : Int32).toNatClampNeg p1)] [] []) (Or.inr rfl) rfl
      ·
        refine V_iconst 19 B (v := 0) dX1_push_19 (by decide +kernel) ?_
        exact V_zret 20 B rfl dX1_push_20 (mkU [p0] [] [f0] [] []) (Or.inl rfl) rfl)
theorem dX2_appendLayer_38 : decode cX2_appendLayer 38 = .ok (.pop, 1) := by decide +kernel
theorem dX2_appendLayer_39 : decode cX2_appendLayer 39 = .ok (.iinc 3 1, 3) := by decide +kernel
theorem dX2_appendLayer_42 : decode cX2_appendLayer 42 = .ok (.goto (-22), 3) := by decide +kernel
set_option maxRecDepth 100000 in
set_option maxHeartbeats 4000000 in
theorem sX2_appendLayer_1 (l : Launch) (D : va_G) (Y : Nat → ClassId) (h0 : Nat) (h1 : Nat) (h2 : Nat) (h3 : Nat) (h4 : Nat) (h5 : Nat) (h6 : Nat) (h7 : Nat) (h8 : Nat) (p0 : Int32) (p1 : Int32) (f0 : Nat → Int32) (p2 : Int32) (f1 : Nat → Int32) (p3 : Int32) (f2 : Nat → Int32) (p4 : Int32) (f3 : Nat → Int32) (p5 : Int32) (sz : Nat) : Met l yX2_appendLayer (WSm yX2_appendLayer cX2_appendLayer 4 none) (mkR 1 0 0 21) (PreG EX D Y [.ref h0, .int p5, .ref h7] [(h0, oC 4 [.ref h1, .ref h3, .ref h5, .int p0]), (h1, oC 3 [.ref h2, .int p1]), (h2, aI Y 4 f0), (h3, oC 3 [.ref h4, .int p2]), (h4, aI Y 4 f1), (h5, oC 3 [.ref h6, .int p3]), (h6, aI Y 104 f2), (h7, oC 3 [.ref h8, .int p4]), (h8, aI Y 26 f3)] sz) (QV D (fun (_ : UU) => True) (fun (u : UU) => [(h0, oC 4 [.ref h1, .ref h3, .ref h5, .int p0]), (h1, oC 3 [.ref h2, .int (u.1 0)]), (h2, aI Y 4 (u.2.2.1 0)), (h3, oC 3 [.ref h4, .int (u.1 1)]), (h4, aI Y 4 (u.2.2.1 1)), (h5, oC 3 [.ref h6, .int (u.1 2)]), (h6, aI Y 104 (u.2.2.1 2)), (h7, oC 3 [.ref h8, .int p4]), (h8, aI Y 26 f3)]) (va_A [(h0, oC 4 [.ref h1, .ref h3, .ref h5, .int p0]), (h1, oC 3 [.ref h2, .int p1]), (h2, aI Y 4 f0), (h3, oC 3 [.ref h4, .int p2]), (h4, aI Y 4 f1), (h5, oC 3 [.ref h6, .int p3]), (h6, aI Y 104 f2), (h7, oC 3 [.ref h8, .int p4]), (h8, aI Y 26 f3)] sz)) 0 0 (va_A [(h0, oC 4 [.ref h1, .ref h3, .ref h5, .int p0]), (h1, oC 3 [.ref h2, .int p1]), (h2, aI Y 4 f0), (h3, oC 3 [.ref h4, .int p2]), (h4, aI Y 4 f1), (h5, oC 3 [.ref h6, .int p3]), (h6, aI Y 104 f2), (h7, oC 3 [.ref h8, .int p4]), (h8, aI Y 26 f3)] sz) :=
  gmet_of (by decide +kernel) (Nat.le_of_ble_eq_true rfl) (fun p e s m args below meth c B EB hsz => by
    have B : VB p s m args meth c D Y (va_A [(h0, oC 4 [.ref h1, .ref h3, .ref h5, .int p0]), (h1, oC 3 [.ref h2, .int p1]), (h2, aI Y 4 f0), (h3, oC 3 [.ref h4, .int p2]), (h4, aI Y 4 f1), (h5, oC 3 [.ref h6, .int p3]), (h6, aI Y 104 f2), (h7, oC 3 [.ref h8, .int p4]), (h8, aI Y 26 f3)] sz) cX2_appendLayer 4 RX2 none := B
    refine V_aload_n 0 B dX2_appendLayer_0 0 rfl ?_
    refine V_get 1 B gf_RX2_14 0 rfl rfl dX2_appendLayer_1 ?_
    refine V_iload_n 4 B dX2_appendLayer_4 1 rfl ?_
    refine V_gvi 5 B envX EB (st := []) (As := [.int p5]) (fun sz => sX1_push_2 l D Y h1 h2 p1 f0 p5 sz) glV_RX2_37 ⟨rfl, rfl⟩ ⟨(Nat.le_of_ble_eq_true rfl), (Nat.le_of_ble_eq_true rfl)⟩ ⟨(Nat.le_of_ble_eq_true rfl), (Nat.le_of_ble_eq_true rfl)⟩ [1, 0] rfl 3 0 rfl rfl rfl rfl (Nat.le_of_ble_eq_true rfl) rfl (fun _ _ _ => rfl) dX2_appendLayer_5 (fun j0 u1 w2 => ?_)
    refine V_ws [(h0, oC 4 [.ref h1, .ref h3, .ref h5, .int p0]), (h1, oC 3 [.ref h2, .int (u1.1 0)]), (h2, aI Y 4 (u1.2.2.1 0)), (h3, oC 3 [.ref h4, .int p2]), (h4, aI Y 4 f1), (h5, oC 3 [.ref h6, .int p3]), (h6, aI Y 104 f2), (h7, oC 3 [.ref h8, .int p4]), (h8, aI Y 26 f3)] rfl ?_
    rcases w2 with rfl | rfl
    ·
      refine V_pop 8 B dX2_appendLayer_8 rfl ?_
      refine V_aload_n 9 B dX2_appendLayer_9 0 rfl ?_
      refine V_get 10 B gf_RX2_20 0 rfl rfl dX2_appendLayer_10 ?_
      refine V_iconst 13 B (v := 0) dX2_appendLayer_13 (by decide +kernel) ?_
      refine V_gvi 14 B envX EB (st := []) (As := [.int 0]) (fun sz => sX1_push_2 l D Y h3 h4 p2 f1 0 sz) glV_RX2_37 ⟨rfl, rfl⟩ ⟨(Nat.le_of_ble_eq_true rfl), (Nat.le_of_ble_eq_true rfl)⟩ ⟨(Nat.le_of_ble_eq_true rfl), (Nat.le_of_ble_eq_true rfl)⟩ [3, 0] rfl 3 0 rfl rfl rfl rfl (Nat.le_of_ble_eq_true rfl) rfl (fun _ _ _ => rfl) dX2_appendLayer_14 (fun j3 u4 w5 => ?_)
      refine V_ws [(h0, oC 4 [.ref h1, .ref h3, .ref h5, .int p0]), (h1, oC 3 [.ref h2, .int (u1.1 0)]), (h2, aI Y 4 (u1.2.2.1 0)), (h3, oC 3 [.ref h4, .int (u4.1 0)]), (h4, aI Y 4 (u4.2.2.1 0)), (h5, oC 3 [.ref h6, .int p3]), (h6, aI Y 104 f2), (h7, oC 3 [.ref h8, .int p4]), (h8, aI Y 26 f3)] rfl ?_
      rcases w5 with rfl | rfl
      ·
        refine V_pop 17 B dX2_appendLayer_17 rfl ?_
        refine V_iconst 18 B (v := 0) dX2_appendLayer_18 (by decide +kernel) ?_
        refine V_istore_n 19 B (lv2 := [(3, .int 0), (0, .ref h0), (1, .int p5), (2, .ref h7)]) dX2_appendLayer_19 (by decide) rfl ?_
        refine V_wloop (α := UU) (fun a => (2147483647 - ((a.1 0)).toInt).toNat) (fun a => 0 ≤ ((a.1 0)).toInt) (fun a => [(3, .int (a.1 0)), (0, .ref h0), (1, .int p5), (2, .ref h7)]) (fun a => [(h0, oC 4 [.ref h1, .ref h3, .ref h5, .int p0]), (h1, oC 3 [.ref h2, .int (a.1 1)]), (h2, aI Y 4 (a.2.2.1 0)), (h3, oC 3 [.ref h4, .int (a.1 2)]), (h4, aI Y 4 (a.2.2.1 1)), (h5, oC 3 [.ref h6, .int (a.1 3)]), (h6, aI Y 104 (a.2.2.1 2)), (h7, oC 3 [.ref h8, .int p4]), (h8, aI Y 26 f3)]) (mkU [0, (u1.1 0), (u4.1 0), p3] [] [(u1.2.2.1 0), (u4.2.2.1 0), f2] [] []) (show (0 : Int) ≤ (0 : Int32).toInt by decide +kernel) rfl rfl (fun a6 hI8 IH7 => ?_)
        refine V_lv [(3, .int (a6.1 0)), (0, .ref h0), (1, .int p5), (2, .ref h7)] [0, 1, 2, 3] rfl ?_
        refine V_ws [(h0, oC 4 [.ref h1, .ref h3, .ref h5, .int p0]), (h1, oC 3 [.ref h2, .int (a6.1 1)]), (h2, aI Y 4 (a6.2.2.1 0)), (h3, oC 3 [.ref h4, .int (a6.1 2)]), (h4, aI Y 4 (a6.2.2.1 1)), (h5, oC 3 [.ref h6, .int (a6.1 3)]), (h6, aI Y 104 (a6.2.2.1 2)), (h7, oC 3 [.ref h8, .int p4]), (h8, aI Y 26 f3)] rfl ?_
        refine V_iload_n 20 B dX2_appendLayer_20 0 rfl ?_
        refine V_bipush 21 B (v := 26) dX2_appendLayer_21 (by decide +kernel) ?_
        refine V_icmp_ge 23 B 45 dX2_appendLayer_23 (by decide) (fun k9 => ?_) (fun k9 => ?_)
        ·
          exact V_vret 45 B dX2_appendLayer_45 (mkU [(a6.1 1), (a6.1 2), (a6.1 3)] [] [(a6.2.2.1 0), (a6.2.2.1 1), (a6.2.2.1 2)] [] []) trivial rfl
        ·
          refine V_aload_n 26 B dX2_appendLayer_26 1 rfl ?_
          refine V_get 27 B gf_RX2_23 0 rfl rfl dX2_appendLayer_27 ?_
          refine V_aload_n 30 B dX2_appendLayer_30 3 rfl ?_
          refine V_iload_n 31 B dX2_appendLayer_31 0 rfl ?_
          refine V_gvi 32 B envX EB (st := [.ref h5]) (As := [.int (a6.1 0)]) (fun sz => sX1_at_2 l D Y h7 h8 p4 f3 (a6.1 0) sz) glV_RX2_41 ⟨rfl, rfl⟩ ⟨(Nat.le_of_ble_eq_true rfl), (Nat.le_of_ble_eq_true rfl)⟩ ⟨(Nat.le_of_ble_eq_true rfl), (Nat.le_of_ble_eq_true rfl)⟩ [7, 0] rfl 3 0 rfl rfl rfl rfl (Nat.le_of_ble_eq_true rfl) rfl (fun _ _ _ => rfl) dX2_appendLayer_32 (fun j10 u11 w12 => ?_)
          refine V_ws [(h0, oC 4 [.ref h1, .ref h3, .ref h5, .int p0]), (h1, oC 3 [.ref h2, .int (a6.1 1)]), (h2, aI Y 4 (a6.2.2.1 0)), (h3, oC 3 [.ref h4, .int (a6.1 2)]), (h4, aI Y 4 (a6.2.2.1 1)), (h5, oC 3 [.ref h6, .int (a6.1 3)]), (h6, aI Y 104 (a6.2.2.1 2)), (h7, oC 3 [.ref h8, .int p4]), (h8, aI Y 26 f3)] rfl ?_
          refine V_gvi 35 B envX EB (st := []) (As := [.int j10]) (fun sz => sX1_push_3 l D Y h5 h6 (a6.1 3) (a6.2.2.1 2) j10 sz) glV_RX2_37 ⟨rfl, rfl⟩ ⟨(Nat.le_of_ble_eq_true rfl), (Nat.le_of_ble_eq_true rfl)⟩ ⟨(Nat.le_of_ble_eq_true rfl), (Nat.le_of_ble_eq_true rfl)⟩ [5, 0] rfl 3 0 rfl rfl rfl rfl (Nat.le_of_ble_eq_true rfl) rfl (fun _ _ _ => rfl) dX2_appendLayer_35 (fun j13 u14 w15 => ?_)
          refine V_ws [(h0, oC 4 [.ref h1, .ref h3, .ref h5, .int p0]), (h1, oC 3 [.ref h2, .int (a6.1 1)]), (h2, aI Y 4 (a6.2.2.1 0)), (h3, oC 3 [.ref h4, .int (a6.1 2)]), (h4, aI Y 4 (a6.2.2.1 1)), (h5, oC 3 [.ref h6, .int (u14.1 0)]), (h6, aI Y 104 (u14.2.2.1 0)), (h7, oC 3 [.ref h8, .int p4]), (h8, aI Y 26 f3)] rfl ?_
          rcases w15 with rfl | rfl
          ·
            refine V_pop 38 B dX2_appendLayer_38 rfl ?_
            refine V_iinc 39 B (v := ((a6.1 0) + Int32.ofInt 1)) (lv2 := [(3, .int ((a6.1 0) + Int32.ofInt 1)), (0, .ref h0), (1, .int p5), (2, .ref h7)]) dX2_appendLayer_39 0 rfl rfl (by decide) rfl ?_
            refine V_goto 42 B 20 dX2_appendLayer_42 (by decide) ?_
            refine V_lv [(3, .int ((a6.1 0) + Int32.ofInt 1)), (0, .ref h0), (1, .int p5), (2, .ref h7)] [0, 1, 2, 3] rfl ?_
            exact IH7 (mkU [((a6.1 0) + Int32.ofInt 1), (a6.1 1), (a6.1 2), (u14.1 0)] [] [(a6.2.2.1 0), (a6.2.2.1 1), (u14.2.2.1 0)] [] []) (Int.le_trans (by decide) (o_add_lo (c := Int32.ofInt 1) hI8 (b_nge k9 (n := 25) (by decide +kernel)) (by decide +kernel) (by decide +kernel) (k := 1) (by decide +kernel))) (up_dec (x := (a6.1 0)) (c := Int32.ofInt 1) (by decide +kernel) hI8 (Int.le_trans (b_nge k9 (n := 25) (by decide +kernel)) (by decide)) (by decide))
          ·
            refine V_pop 38 B dX2_appendLayer_38 rfl ?_
            refine V_iinc 39 B (v := ((a6.1 0) + Int32.ofInt 1)) (lv2 := [(3, .int ((a6.1 0) + Int32.ofInt 1)), (0, .ref h0), (1, .int p5), (2, .ref h7)]) dX2_appendLayer_39 0 rfl rfl (by decide) rfl ?_
            refine V_goto 42 B 20 dX2_appendLayer_42 (by decide) ?_
            refine V_lv [(3, .int ((a6.1 0) + Int32.ofInt 1)), (0, .ref h0), (1, .int p5), (2, .ref h7)] [0, 1, 2, 3] rfl ?_
            exact IH7 (mkU [((a6.1 0) + Int32.ofInt 1), (a6.1 1), (a6.1 2), (u14.1 0)] [] [(a6.2.2.1 0), (a6.2.2.1 1), (u14.2.2.1 0)] [] []) (Int.le_trans (by decide) (o_add_lo (c := Int32.ofInt 1) hI8 (b_nge k9 (n := 25) (by decide +kernel)) (by decide +kernel) (by decide +kernel) (k := 1) (by decide +kernel))) (up_dec (x := (a6.1 0)) (c := Int32.ofInt 1) (by decide +kernel) hI8 (Int.le_trans (b_nge k9 (n := 25) (by decide +kernel)) (by decide)) (by decide))
      ·
        refine V_pop 17 B dX2_appendLayer_17 rfl ?_
        refine V_iconst 18 B (v := 0) dX2_appendLayer_18 (by decide +kernel) ?_
        refine V_istore_n 19 B (lv2 := [(3, .int 0), (0, .ref h0), (1, .int p5), (2, .ref h7)]) dX2_appendLayer_19 (by decide) rfl ?_
        refine V_wloop (α := UU) (fun a => (2147483647 - ((a.1 0)).toInt).toNat) (fun a => 0 ≤ ((a.1 0)).toInt) (fun a => [(3, .int (a.1 0)), (0, .ref h0), (1, .int p5), (2, .ref h7)]) (fun a => [(h0, oC 4 [.ref h1, .ref h3, .ref h5, .int p0]), (h1, oC 3 [.ref h2, .int (a.1 1)]), (h2, aI Y 4 (a.2.2.1 0)), (h3, oC 3 [.ref h4, .int (a.1 2)]), (h4, aI Y 4 (a.2.2.1 1)), (h5, oC 3 [.ref h6, .int (a.1 3)]), (h6, aI Y 104 (a.2.2.1 2)), (h7, oC 3 [.ref h8, .int p4]), (h8, aI Y 26 f3)]) (mkU [0, (u1.1 0), (u4.1 0), p3] [] [(u1.2.2.1 0), (u4.2.2.1 0), f2] [] []) (show (0 : Int) ≤ (0 : Int32).toInt by decide +kernel) rfl rfl (fun a16 hI18 IH17 => ?_)
        refine V_lv [(3, .int (a16.1 0)), (0, .ref h0), (1, .int p5), (2, .ref h7)] [0, 1, 2, 3] rfl ?_
        refine V_ws [(h0, oC 4 [.ref h1, .ref h3, .ref h5, .int p0]), (h1, oC 3 [.ref h2, .int (a16.1 1)]), (h2, aI Y 4 (a16.2.2.1 0)), (h3, oC 3 [.ref h4, .int (a16.1 2)]), (h4, aI Y 4 (a16.2.2.1 1)), (h5, oC 3 [.ref h6, .int (a16.1 3)]), (h6, aI Y 104 (a16.2.2.1 2)), (h7, oC 3 [.ref h8, .int p4]), (h8, aI Y 26 f3)] rfl ?_
        refine V_iload_n 20 B dX2_appendLayer_20 0 rfl ?_
        refine V_bipush 21 B (v := 26) dX2_appendLayer_21 (by decide +kernel) ?_
        refine V_icmp_ge 23 B 45 dX2_appendLayer_23 (by decide) (fun k19 => ?_) (fun k19 => ?_)
        ·
          exact V_vret 45 B dX2_appendLayer_45 (mkU [(a16.1 1), (a16.1 2), (a16.1 3)] [] [(a16.2.2.1 0), (a16.2.2.1 1), (a16.2.2.1 2)] [] []) trivial rfl
        ·
          refine V_aload_n 26 B dX2_appendLayer_26 1 rfl ?_
          refine V_get 27 B gf_RX2_23 0 rfl rfl dX2_appendLayer_27 ?_
          refine V_aload_n 30 B dX2_appendLayer_30 3 rfl ?_
          refine V_iload_n 31 B dX2_appendLayer_31 0 rfl ?_
          refine V_gvi 32 B envX EB (st := [.ref h5]) (As := [.int (a16.1 0)]) (fun sz => sX1_at_2 l D Y h7 h8 p4 f3 (a16.1 0) sz) glV_RX2_41 ⟨rfl, rfl⟩ ⟨(Nat.le_of_ble_eq_true rfl), (Nat.le_of_ble_eq_true rfl)⟩ ⟨(Nat.le_of_ble_eq_true rfl), (Nat.le_of_ble_eq_true rfl)⟩ [7, 0] rfl 3 0 rfl rfl rfl rfl (Nat.le_of_ble_eq_true rfl) rfl (fun _ _ _ => rfl) dX2_appendLayer_32 (fun j20 u21 w22 => ?_)
          refine V_ws [(h0, oC 4 [.ref h1, .ref h3, .ref h5, .int p0]), (h1, oC 3 [.ref h2, .int (a16.1 1)]), (h2, aI Y 4 (a16.2.2.1 0)), (h3, oC 3 [.ref h4, .int (a16.1 2)]), (h4, aI Y 4 (a16.2.2.1 1)), (h5, oC 3 [.ref h6, .int (a16.1 3)]), (h6, aI Y 104 (a16.2.2.1 2)), (h7, oC 3 [.ref h8, .int p4]), (h8, aI Y 26 f3)] rfl ?_
          refine V_gvi 35 B envX EB (st := []) (As := [.int j20]) (fun sz => sX1_push_3 l D Y h5 h6 (a16.1 3) (a16.2.2.1 2) j20 sz) glV_RX2_37 ⟨rfl, rfl⟩ ⟨(Nat.le_of_ble_eq_true rfl), (Nat.le_of_ble_eq_true rfl)⟩ ⟨(Nat.le_of_ble_eq_true rfl), (Nat.le_of_ble_eq_true rfl)⟩ [5, 0] rfl 3 0 rfl rfl rfl rfl (Nat.le_of_ble_eq_true rfl) rfl (fun _ _ _ => rfl) dX2_appendLayer_35 (fun j23 u24 w25 => ?_)
          refine V_ws [(h0, oC 4 [.ref h1, .ref h3, .ref h5, .int p0]), (h1, oC 3 [.ref h2, .int (a16.1 1)]), (h2, aI Y 4 (a16.2.2.1 0)), (h3, oC 3 [.ref h4, .int (a16.1 2)]), (h4, aI Y 4 (a16.2.2.1 1)), (h5, oC 3 [.ref h6, .int (u24.1 0)]), (h6, aI Y 104 (u24.2.2.1 0)), (h7, oC 3 [.ref h8, .int p4]), (h8, aI Y 26 f3)] rfl ?_
          rcases w25 with rfl | rfl
          ·
            refine V_pop 38 B dX2_appendLayer_38 rfl ?_
            refine V_iinc 39 B (v := ((a16.1 0) + Int32.ofInt 1)) (lv2 := [(3, .int ((a16.1 0) + Int32.ofInt 1)), (0, .ref h0), (1, .int p5), (2, .ref h7)]) dX2_appendLayer_39 0 rfl rfl (by decide) rfl ?_
            refine V_goto 42 B 20 dX2_appendLayer_42 (by decide) ?_
            refine V_lv [(3, .int ((a16.1 0) + Int32.ofInt 1)), (0, .ref h0), (1, .int p5), (2, .ref h7)] [0, 1, 2, 3] rfl ?_
            exact IH17 (mkU [((a16.1 0) + Int32.ofInt 1), (a16.1 1), (a16.1 2), (u24.1 0)] [] [(a16.2.2.1 0), (a16.2.2.1 1), (u24.2.2.1 0)] [] []) (Int.le_trans (by decide) (o_add_lo (c := Int32.ofInt 1) hI18 (b_nge k19 (n := 25) (by decide +kernel)) (by decide +kernel) (by decide +kernel) (k := 1) (by decide +kernel))) (up_dec (x := (a16.1 0)) (c := Int32.ofInt 1) (by decide +kernel) hI18 (Int.le_trans (b_nge k19 (n := 25) (by decide +kernel)) (by decide)) (by decide))
          ·
            refine V_pop 38 B dX2_appendLayer_38 rfl ?_
            refine V_iinc 39 B (v := ((a16.1 0) + Int32.ofInt 1)) (lv2 := [(3, .int ((a16.1 0) + Int32.ofInt 1)), (0, .ref h0), (1, .int p5), (2, .ref h7)]) dX2_appendLayer_39 0 rfl rfl (by decide) rfl ?_
            refine V_goto 42 B 20 dX2_appendLayer_42 (by decide) ?_
            refine V_lv [(3, .int ((a16.1 0) + Int32.ofInt 1)), (0, .ref h0), (1, .int p5), (2, .ref h7)] [0, 1, 2, 3] rfl ?_
            exact IH17 (mkU [((a16.1 0) + Int32.ofInt 1), (a16.1 1), (a16.1 2), (u24.1 0)] [] [(a16.2.2.1 0), (a16.2.2.1 1), (u24.2.2.1 0)] [] []) (Int.le_trans (by decide) (o_add_lo (c := Int32.ofInt 1) hI18 (b_nge k19 (n := 25) (by decide +kernel)) (by decide +kernel) (by decide +kernel) (k := 1) (by decide +kernel))) (up_dec (x := (a16.1 0)) (c := Int32.ofInt 1) (by decide +kernel) hI18 (Int.le_trans (b_nge k19 (n := 25) (by decide +kernel)) (by decide)) (by decide))
    ·
      refine V_pop 8 B dX2_appendLayer_8 rfl ?_
      refine V_aload_n 9 B dX2_appendLayer_9 0 rfl ?_
      refine V_get 10 B gf_RX2_20 0 rfl rfl dX2_appendLayer_10 ?_
      refine V_iconst 13 B (v := 0) dX2_appendLayer_13 (by decide +kernel) ?_
      refine V_gvi 14 B envX EB (st := []) (As := [.int 0]) (fun sz => sX1_push_2 l D Y h3 h4 p2 f1 0 sz) glV_RX2_37 ⟨rfl, rfl⟩ ⟨(Nat.le_of_ble_eq_true rfl), (Nat.le_of_ble_eq_true rfl)⟩ ⟨(Nat.le_of_ble_eq_true rfl), (Nat.le_of_ble_eq_true rfl)⟩ [3, 0] rfl 3 0 rfl rfl rfl rfl (Nat.le_of_ble_eq_true rfl) rfl (fun _ _ _ => rfl) dX2_appendLayer_14 (fun j26 u27 w28 => ?_)
      refine V_ws [(h0, oC 4 [.ref h1, .ref h3, .ref h5, .int p0]), (h1, oC 3 [.ref h2, .int (u1.1 0)]), (h2, aI Y 4 (u1.2.2.1 0)), (h3, oC 3 [.ref h4, .int (u27.1 0)]), (h4, aI Y 4 (u27.2.2.1 0)), (h5, oC 3 [.ref h6, .int p3]), (h6, aI Y 104 f2), (h7, oC 3 [.ref h8, .int p4]), (h8, aI Y 26 f3)] rfl ?_
      rcases w28 with rfl | rfl
      ·
        refine V_pop 17 B dX2_appendLayer_17 rfl ?_
        refine V_iconst 18 B (v := 0) dX2_appendLayer_18 (by decide +kernel) ?_
        refine V_istore_n 19 B (lv2 := [(3, .int 0), (0, .ref h0), (1, .int p5), (2, .ref h7)]) dX2_appendLayer_19 (by decide) rfl ?_
        refine V_wloop (α := UU) (fun a => (2147483647 - ((a.1 0)).toInt).toNat) (fun a => 0 ≤ ((a.1 0)).toInt) (fun a => [(3, .int (a.1 0)), (0, .ref h0), (1, .int p5), (2, .ref h7)]) (fun a => [(h0, oC 4 [.ref h1, .ref h3, .ref h5, .int p0]), (h1, oC 3 [.ref h2, .int (a.1 1)]), (h2, aI Y 4 (a.2.2.1 0)), (h3, oC 3 [.ref h4, .int (a.1 2)]), (h4, aI Y 4 (a.2.2.1 1)), (h5, oC 3 [.ref h6, .int (a.1 3)]), (h6, aI Y 104 (a.2.2.1 2)), (h7, oC 3 [.ref h8, .int p4]), (h8, aI Y 26 f3)]) (mkU [0, (u1.1 0), (u27.1 0), p3] [] [(u1.2.2.1 0), (u27.2.2.1 0), f2] [] []) (show (0 : Int) ≤ (0 : Int32).toInt by decide +kernel) rfl rfl (fun a29 hI31 IH30 => ?_)
        refine V_lv [(3, .int (a29.1 0)), (0, .ref h0), (1, .int p5), (2, .ref h7)] [0, 1, 2, 3] rfl ?_
        refine V_ws [(h0, oC 4 [.ref h1, .ref h3, .ref h5, .int p0]), (h1, oC 3 [.ref h2, .int (a29.1 1)]), (h2, aI Y 4 (a29.2.2.1 0)), (h3, oC 3 [.ref h4, .int (a29.1 2)]), (h4, aI Y 4 (a29.2.2.1 1)), (h5, oC 3 [.ref h6, .int (a29.1 3)]), (h6, aI Y 104 (a29.2.2.1 2)), (h7, oC 3 [.ref h8, .int p4]), (h8, aI Y 26 f3)] rfl ?_
        refine V_iload_n 20 B dX2_appendLayer_20 0 rfl ?_
        refine V_bipush 21 B (v := 26) dX2_appendLayer_21 (by decide +kernel) ?_
        refine V_icmp_ge 23 B 45 dX2_appendLayer_23 (by decide) (fun k32 => ?_) (fun k32 => ?_)
        ·
          exact V_vret 45 B dX2_appendLayer_45 (mkU [(a29.1 1), (a29.1 2), (a29.1 3)] [] [(a29.2.2.1 0), (a29.2.2.1 1), (a29.2.2.1 2)] [] []) trivial rfl
        ·
          refine V_aload_n 26 B dX2_appendLayer_26 1 rfl ?_
          refine V_get 27 B gf_RX2_23 0 rfl rfl dX2_appendLayer_27 ?_
          refine V_aload_n 30 B dX2_appendLayer_30 3 rfl ?_
          refine V_iload_n 31 B dX2_appendLayer_31 0 rfl ?_
          refine V_gvi 32 B envX EB (st := [.ref h5]) (As := [.int (a29.1 0)]) (fun sz => sX1_at_2 l D Y h7 h8 p4 f3 (a29.1 0) sz) glV_RX2_41 ⟨rfl, rfl⟩ ⟨(Nat.le_of_ble_eq_true rfl), (Nat.le_of_ble_eq_true rfl)⟩ ⟨(Nat.le_of_ble_eq_true rfl), (Nat.le_of_ble_eq_true rfl)⟩ [7, 0] rfl 3 0 rfl rfl rfl rfl (Nat.le_of_ble_eq_true rfl) rfl (fun _ _ _ => rfl) dX2_appendLayer_32 (fun j33 u34 w35 => ?_)
          refine V_ws [(h0, oC 4 [.ref h1, .ref h3, .ref h5, .int p0]), (h1, oC 3 [.ref h2, .int (a29.1 1)]), (h2, aI Y 4 (a29.2.2.1 0)), (h3, oC 3 [.ref h4, .int (a29.1 2)]), (h4, aI Y 4 (a29.2.2.1 1)), (h5, oC 3 [.ref h6, .int (a29.1 3)]), (h6, aI Y 104 (a29.2.2.1 2)), (h7, oC 3 [.ref h8, .int p4]), (h8, aI Y 26 f3)] rfl ?_
          refine V_gvi 35 B envX EB (st := []) (As := [.int j33]) (fun sz => sX1_push_3 l D Y h5 h6 (a29.1 3) (a29.2.2.1 2) j33 sz) glV_RX2_37 ⟨rfl, rfl⟩ ⟨(Nat.le_of_ble_eq_true rfl), (Nat.le_of_ble_eq_true rfl)⟩ ⟨(Nat.le_of_ble_eq_true rfl), (Nat.le_of_ble_eq_true rfl)⟩ [5, 0] rfl 3 0 rfl rfl rfl rfl (Nat.le_of_ble_eq_true rfl) rfl (fun _ _ _ => rfl) dX2_appendLayer_35 (fun j36 u37 w38 => ?_)
          refine V_ws [(h0, oC 4 [.ref h1, .ref h3, .ref h5, .int p0]), (h1, oC 3 [.ref h2, .int (a29.1 1)]), (h2, aI Y 4 (a29.2.2.1 0)), (h3, oC 3 [.ref h4, .int (a29.1 2)]), (h4, aI Y 4 (a29.2.2.1 1)), (h5, oC 3 [.ref h6, .int (u37.1 0)]), (h6, aI Y 104 (u37.2.2.1 0)), (h7, oC 3 [.ref h8, .int p4]), (h8, aI Y 26 f3)] rfl ?_
          rcases w38 with rfl | rfl
          ·
            refine V_pop 38 B dX2_appendLayer_38 rfl ?_
            refine V_iinc 39 B (v := ((a29.1 0) + Int32.ofInt 1)) (lv2 := [(3, .int ((a29.1 0) + Int32.ofInt 1)), (0, .ref h0), (1, .int p5), (2, .ref h7)]) dX2_appendLayer_39 0 rfl rfl (by decide) rfl ?_
            refine V_goto 42 B 20 dX2_appendLayer_42 (by decide) ?_
            refine V_lv [(3, .int ((a29.1 0) + Int32.ofInt 1)), (0, .ref h0), (1, .int p5), (2, .ref h7)] [0, 1, 2, 3] rfl ?_
            exact IH30 (mkU [((a29.1 0) + Int32.ofInt 1), (a29.1 1), (a29.1 2), (u37.1 0)] [] [(a29.2.2.1 0), (a29.2.2.1 1), (u37.2.2.1 0)] [] []) (Int.le_trans (by decide) (o_add_lo (c := Int32.ofInt 1) hI31 (b_nge k32 (n := 25) (by decide +kernel)) (by decide +kernel) (by decide +kernel) (k := 1) (by decide +kernel))) (up_dec (x := (a29.1 0)) (c := Int32.ofInt 1) (by decide +kernel) hI31 (Int.le_trans (b_nge k32 (n := 25) (by decide +kernel)) (by decide)) (by decide))
          ·
            refine V_pop 38 B dX2_appendLayer_38 rfl ?_
            refine V_iinc 39 B (v := ((a29.1 0) + Int32.ofInt 1)) (lv2 := [(3, .int ((a29.1 0) + Int32.ofInt 1)), (0, .ref h0), (1, .int p5), (2, .ref h7)]) dX2_appendLayer_39 0 rfl rfl (by decide) rfl ?_
            refine V_goto 42 B 20 dX2_appendLayer_42 (by decide) ?_
            refine V_lv [(3, .int ((a29.1 0) + Int32.ofInt 1)), (0, .ref h0), (1, .int p5), (2, .ref h7)] [0, 1, 2, 3] rfl ?_
            exact IH30 (mkU [((a29.1 0) + Int32.ofInt 1), (a29.1 1), (a29.1 2), (u37.1 0)] [] [(a29.2.2.1 0), (a29.2.2.1 1), (u37.2.2.1 0)] [] []) (Int.le_trans (by decide) (o_add_lo (c := Int32.ofInt 1) hI31 (b_nge k32 (n := 25) (by decide +kernel)) (by decide +kernel) (by decide +kernel) (k := 1) (by decide +kernel))) (up_dec (x := (a29.1 0)) (c := Int32.ofInt 1) (by decide +kernel) hI31 (Int.le_trans (b_nge k32 (n := 25) (by decide +kernel)) (by decide)) (by decide))
      ·
        refine V_pop 17 B dX2_appendLayer_17 rfl ?_
        refine V_iconst 18 B (v := 0) dX2_appendLayer_18 (by decide +kernel) ?_
        refine V_istore_n 19 B (lv2 := [(3, .int 0), (0, .ref h0), (1, .int p5), (2, .ref h7)]) dX2_appendLayer_19 (by decide) rfl ?_
        refine V_wloop (α := UU) (fun a => (2147483647 - ((a.1 0)).toInt).toNat) (fun a => 0 ≤ ((a.1 0)).toInt) (fun a => [(3, .int (a.1 0)), (0, .ref h0), (1, .int p5), (2, .ref h7)]) (fun a => [(h0, oC 4 [.ref h1, .ref h3, .ref h5, .int p0]), (h1, oC 3 [.ref h2, .int (a.1 1)]), (h2, aI Y 4 (a.2.2.1 0)), (h3, oC 3 [.ref h4, .int (a.1 2)]), (h4, aI Y 4 (a.2.2.1 1)), (h5, oC 3 [.ref h6, .int (a.1 3)]), (h6, aI Y 104 (a.2.2.1 2)), (h7, oC 3 [.ref h8, .int p4]), (h8, aI Y 26 f3)]) (mkU [0, (u1.1 0), (u27.1 0), p3] [] [(u1.2.2.1 0), (u27.2.2.1 0), f2] [] []) (show (0 : Int) ≤ (0 : Int32).toInt by decide +kernel) rfl rfl (fun a39 hI41 IH40 => ?_)
        refine V_lv [(3, .int (a39.1 0)), (0, .ref h0), (1, .int p5), (2, .ref h7)] [0, 1, 2, 3] rfl ?_
        refine V_ws [(h0, oC 4 [.ref h1, .ref h3, .ref h5, .int p0]), (h1, oC 3 [.ref h2, .int (a39.1 1)]), (h2, aI Y 4 (a39.2.2.1 0)), (h3, oC 3 [.ref h4, .int (a39.1 2)]), (h4, aI Y 4 (a39.2.2.1 1)), (h5, oC 3 [.ref h6, .int (a39.1 3)]), (h6, aI Y 104 (a39.2.2.1 2)), (h7, oC 3 [.ref h8, .int p4]), (h8, aI Y 26 f3)] rfl ?_
        refine V_iload_n 20 B dX2_appendLayer_20 0 rfl ?_
        refine V_bipush 21 B (v := 26) dX2_appendLayer_21 (by decide +kernel) ?_
        refine V_icmp_ge 23 B 45 dX2_appendLayer_23 (by decide) (fun k42 => ?_) (fun k42 => ?_)
        ·
          exact V_vret 45 B dX2_appendLayer_45 (mkU [(a39.1 1), (a39.1 2), (a39.1 3)] [] [(a39.2.2.1 0), (a39.2.2.1 1), (a39.2.2.1 2)] [] []) trivial rfl
        ·
          refine V_aload_n 26 B dX2_appendLayer_26 1 rfl ?_
          refine V_get 27 B gf_RX2_23 0 rfl rfl dX2_appendLayer_27 ?_
          refine V_aload_n 30 B dX2_appendLayer_30 3 rfl ?_
          refine V_iload_n 31 B dX2_appendLayer_31 0 rfl ?_
          refine V_gvi 32 B envX EB (st := [.ref h5]) (As := [.int (a39.1 0)]) (fun sz => sX1_at_2 l D Y h7 h8 p4 f3 (a39.1 0) sz) glV_RX2_41 ⟨rfl, rfl⟩ ⟨(Nat.le_of_ble_eq_true rfl), (Nat.le_of_ble_eq_true rfl)⟩ ⟨(Nat.le_of_ble_eq_true rfl), (Nat.le_of_ble_eq_true rfl)⟩ [7, 0] rfl 3 0 rfl rfl rfl rfl (Nat.le_of_ble_eq_true rfl) rfl (fun _ _ _ => rfl) dX2_appendLayer_32 (fun j43 u44 w45 => ?_)
          refine V_ws [(h0, oC 4 [.ref h1, .ref h3, .ref h5, .int p0]), (h1, oC 3 [.ref h2, .int (a39.1 1)]), (h2, aI Y 4 (a39.2.2.1 0)), (h3, oC 3 [.ref h4, .int (a39.1 2)]), (h4, aI Y 4 (a39.2.2.1 1)), (h5, oC 3 [.ref h6, .int (a39.1 3)]), (h6, aI Y 104 (a39.2.2.1 2)), (h7, oC 3 [.ref h8, .int p4]), (h8, aI Y 26 f3)] rfl ?_
          refine V_gvi 35 B envX EB (st := []) (As := [.int j43]) (fun sz => sX1_push_3 l D Y h5 h6 (a39.1 3) (a39.2.2.1 2) j43 sz) glV_RX2_37 ⟨rfl, rfl⟩ ⟨(Nat.le_of_ble_eq_true rfl), (Nat.le_of_ble_eq_true rfl)⟩ ⟨(Nat.le_of_ble_eq_true rfl), (Nat.le_of_ble_eq_true rfl)⟩ [5, 0] rfl 3 0 rfl rfl rfl rfl (Nat.le_of_ble_eq_true rfl) rfl (fun _ _ _ => rfl) dX2_appendLayer_35 (fun j46 u47 w48 => ?_)
          refine V_ws [(h0, oC 4 [.ref h1, .ref h3, .ref h5, .int p0]), (h1, oC 3 [.ref h2, .int (a39.1 1)]), (h2, aI Y 4 (a39.2.2.1 0)), (h3, oC 3 [.ref h4, .int (a39.1 2)]), (h4, aI Y 4 (a39.2.2.1 1)), (h5, oC 3 [.ref h6, .int (u47.1 0)]), (h6, aI Y 104 (u47.2.2.1 0)), (h7, oC 3 [.ref h8, .int p4]), (h8, aI Y 26 f3)] rfl ?_
          rcases w48 with rfl | rfl
          ·
            refine V_pop 38 B dX2_appendLayer_38 rfl ?_
            refine V_iinc 39 B (v := ((a39.1 0) + Int32.ofInt 1)) (lv2 := [(3, .int ((a39.1 0) + Int32.ofInt 1)), (0, .ref h0), (1, .int p5), (2, .ref h7)]) dX2_appendLayer_39 0 rfl rfl (by decide) rfl ?_
            refine V_goto 42 B 20 dX2_appendLayer_42 (by decide) ?_
            refine V_lv [(3, .int ((a39.1 0) + Int32.ofInt 1)), (0, .ref h0), (1, .int p5), (2, .ref h7)] [0, 1, 2, 3] rfl ?_
            exact IH40 (mkU [((a39.1 0) + Int32.ofInt 1), (a39.1 1), (a39.1 2), (u47.1 0)] [] [(a39.2.2.1 0), (a39.2.2.1 1), (u47.2.2.1 0)] [] []) (Int.le_trans (by decide) (o_add_lo (c := Int32.ofInt 1) hI41 (b_nge k42 (n := 25) (by decide +kernel)) (by decide +kernel) (by decide +kernel) (k := 1) (by decide +kernel))) (up_dec (x := (a39.1 0)) (c := Int32.ofInt 1) (by decide +kernel) hI41 (Int.le_trans (b_nge k42 (n := 25) (by decide +kernel)) (by decide)) (by decide))
          ·
            refine V_pop 38 B dX2_appendLayer_38 rfl ?_
            refine V_iinc 39 B (v := ((a39.1 0) + Int32.ofInt 1)) (lv2 := [(3, .int ((a39.1 0) + Int32.ofInt 1)), (0, .ref h0), (1, .int p5), (2, .ref h7)]) dX2_appendLayer_39 0 rfl rfl (by decide) rfl ?_
            refine V_goto 42 B 20 dX2_appendLayer_42 (by decide) ?_
            refine V_lv [(3, .int ((a39.1 0) + Int32.ofInt 1)), (0, .ref h0), (1, .int p5), (2, .ref h7)] [0, 1, 2, 3] rfl ?_
            exact IH40 (mkU [((a39.1 0) + Int32.ofInt 1), (a39.1 1), (a39.1 2), (u47.1 0)] [] [(a39.2.2.1 0), (a39.2.2.1 1), (u47.2.2.1 0)] [] []) (Int.le_trans (by decide) (o_add_lo (c := Int32.ofInt 1) hI41 (b_nge k42 (n := 25) (by decide +kernel)) (by decide +kernel) (by decide +kernel) (k := 1) (by decide +kernel))) (up_dec (x := (a39.1 0)) (c := Int32.ofInt 1) (by decide +kernel) hI41 (Int.le_trans (b_nge k42 (n := 25) (by decide +kernel)) (by decide)) (by decide)))
