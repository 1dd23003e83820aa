theorem glV_RX3_189 : GLV RX3 189 yX2_appendLayer RX2 cX2_appendLayer 4 none 2 := ⟨⟨(mT3 169 rfl rfl), (mT3 170 rfl rfl), (mT3 171 rfl rfl), (mT1 6 rfl rfl), (mT3 172 rfl rfl)⟩, by decide +kernel⟩
theorem dX3_readLayer_232 : decode cX3_readLayer 232 = .ok (.iconst 1, 1) := by decide +kernel
theorem dX3_readLayer_233 : decode cX3_readLayer 233 = .ok (.ireturn, 1) := by decide +kernel
theorem dX3_readLayer_84 : decode cX3_readLayer 84 = .ok (.aload_n 0, 1) := by decide +kernel
theorem dX3_readLayer_85 : decode cX3_readLayer 85 = .ok (.getfield 9, 3) := by decide +kernel
theorem dX3_readLayer_88 : decode cX3_readLayer 88 = .ok (.getfield 38, 3) := by decide +kernel
theorem dX3_readLayer_91 : decode cX3_readLayer 91 = .ok (.iconst 3, 1) := by decide +kernel
theorem dX3_readLayer_92 : decode cX3_readLayer 92 = .ok (.if_icmp .eq 81, 3) := by decide +kernel
theorem dX3_readLayer_95 : decode cX3_readLayer 95 = .ok (.aload_n 0, 1) := by decide +kernel
theorem dX3_readLayer_96 : decode cX3_readLayer 96 = .ok (.getfield 9, 3) := by decide +kernel
theorem dX3_readLayer_99 : decode cX3_readLayer 99 = .ok (.invokevirtual 177, 3) := by decide +kernel
theorem dX3_readLayer_102 : decode cX3_readLayer 102 = .ok (.ifCond .ne 5, 3) := by decide +kernel
theorem dX3_readLayer_105 : decode cX3_readLayer 105 = .ok (.iconst 0, 1) := by decide +kernel
theorem dX3_readLayer_106 : decode cX3_readLayer 106 = .ok (.ireturn, 1) := by decide +kernel
theorem dX3_readLayer_107 : decode cX3_readLayer 107 = .ok (.aload_n 0, 1) := by decide +kernel
theorem dX3_readLayer_108 : decode cX3_readLayer 108 = .ok (.getfield 9, 3) := by decide +kernel
theorem dX3_readLayer_111 : decode cX3_readLayer 111 = .ok (.getfield 121, 3) := by decide +kernel
theorem dX3_readLayer_114 : decode cX3_readLayer 114 = .ok (.istore 5, 2) := by decide +kernel
theorem dX3_readLayer_116 : decode cX3_readLayer 116 = .ok (.aload_n 0, 1) := by decide +kernel
theorem dX3_readLayer_117 : decode cX3_readLayer 117 = .ok (.getfield 9, 3) := by decide +kernel
theorem dX3_readLayer_120 : decode cX3_readLayer 120 = .ok (.invokevirtual 177, 3) := by decide +kernel
theorem dX3_readLayer_123 : decode cX3_readLayer 123 = .ok (.ifCond .ne 5, 3) := by decide +kernel
theorem dX3_readLayer_126 : decode cX3_readLayer 126 = .ok (.iconst 0, 1) := by decide +kernel
theorem dX3_readLayer_127 : decode cX3_readLayer 127 = .ok (.ireturn, 1) := by decide +kernel
theorem dX3_readLayer_128 : decode cX3_readLayer 128 = .ok (.iload_n 3, 1) := by decide +kernel
theorem dX3_readLayer_129 : decode cX3_readLayer 129 = .ok (.ifCond .ne 16, 3) := by decide +kernel
theorem dX3_readLayer_145 : decode cX3_readLayer 145 = .ok (.iconst 1, 1) := by decide +kernel
theorem dX3_readLayer_146 : decode cX3_readLayer 146 = .ok (.goto 4, 3) := by decide +kernel
theorem dX3_readLayer_150 : decode cX3_readLayer 150 = .ok (.istore_n 3, 1) := by decide +kernel
theorem dX3_readLayer_151 : decode cX3_readLayer 151 = .ok (.aload_n 0, 1) := by decide +kernel
theorem dX3_readLayer_152 : decode cX3_readLayer 152 = .ok (.getfield 24, 3) := by decide +kernel
theorem dX3_readLayer_155 : decode cX3_readLayer 155 = .ok (.iload 5, 2) := by decide +kernel
theorem dX3_readLayer_157 : decode cX3_readLayer 157 = .ok (.aload_n 0, 1) := by decide +kernel
theorem dX3_readLayer_158 : decode cX3_readLayer 158 = .ok (.getfield 9, 3) := by decide +kernel
theorem dX3_readLayer_161 : decode cX3_readLayer 161 = .ok (.getfield 121, 3) := by decide +kernel
theorem dX3_readLayer_164 : decode cX3_readLayer 164 = .ok (.invokevirtual 183, 3) := by decide +kernel
theorem dX1_put_0 : decode cX1_put 0 = .ok (.iload_n 1, 1) := by decide +kernel
theorem dX1_put_1 : decode cX1_put 1 = .ok (.ifCond .lt 27, 3) := by decide +kernel
theorem dX1_put_28 : decode cX1_put 28 = .ok (.return_, 1) := by decide +kernel
theorem dX1_put_4 : decode cX1_put 4 = .ok (.iload_n 1, 1) := by decide +kernel
theorem dX1_put_5 : decode cX1_put 5 = .ok (.aload_n 0, 1) := by decide +kernel
theorem dX1_put_6 : decode cX1_put 6 = .ok (.getfield 21, 3) := by decide +kernel
theorem dX1_put_9 : decode cX1_put 9 = .ok (.if_icmp .ge 19, 3) := by decide +kernel
theorem dX1_put_12 : decode cX1_put 12 = .ok (.iload_n 1, 1) := by decide +kernel
theorem dX1_put_13 : decode cX1_put 13 = .ok (.aload_n 0, 1) := by decide +kernel
theorem dX1_put_14 : decode cX1_put 14 = .ok (.getfield 15, 3) := by decide +kernel
theorem dX1_put_17 : decode cX1_put 17 = .ok (.arraylength, 1) := by decide +kernel
theorem dX1_put_18 : decode cX1_put 18 = .ok (.if_icmp .ge 10, 3) := by decide +kernel
theorem dX1_put_21 : decode cX1_put 21 = .ok (.aload_n 0, 1) := by decide +kernel
theorem dX1_put_22 : decode cX1_put 22 = .ok (.getfield 15, 3) := by decide +kernel
theorem dX1_put_25 : decode cX1_put 25 = .ok (.iload_n 1, 1) := by decide +kernel
theorem dX1_put_26 : decode cX1_put 26 = .ok (.iload_n 2, 1) := by decide +kernel
theorem dX1_put_27 : decode cX1_put 27 = .ok (.iastore, 1) := by decide +kernel
set_option maxRecDepth 100000 in
set_option maxHeartbeats 4000000 in
theorem sX1_put_1 (l : Launch) (D : va_G) (Y : Nat → ClassId) (h0 : Nat) (h1 : Nat) (p0 : Int32) (f0 : Nat → Int32) (p1 : Int32) (p2 : Int32) (sz : Nat) : Met l yX1_put (WSm yX1_put cX1_put 3 none) (mkR 0 0 0 0) (PreG EX D Y [.ref h0, .int p1, .int p2] [(h0, oC 3 [.ref h1, .int p0]), (h1, aI Y 26 f0)] sz) (QV D (fun (_ : UU) => True) (fun (u : UU) => [(h0, oC 3 [.ref h1, .int p0]), (h1, aI Y 26 (u.2.2.1 0))]) (va_A [(h0, oC 3 [.ref h1, .int p0]), (h1, aI Y 26 f0)] sz)) 0 0 (va_A [(h0, oC 3 [.ref h1, .int p0]), (h1, aI Y 26 f0)] sz) :=
  gmet_of (by decide +kernel) (Nat.le_of_ble_eq_true rfl) (fun p e s m args below meth c B EB hsz => by
    have B : VB p s m args meth c D Y (va_A [(h0, oC 3 [.ref h1, .int p0]), (h1, aI Y 26 f0)] sz) cX1_put 3 RX1 none := B
    refine V_iload_n 0 B dX1_put_0 1 rfl ?_
    refine V_if_lt 1 B 28 dX1_put_1 (by decide) (fun k0 => ?_) (fun k0 => ?_)
    ·
      exact V_vret 28 B dX1_put_28 (mkU [] [] [f0] [] []) trivial rfl
    ·
      refine V_iload_n 4 B dX1_put_4 1 rfl ?_
      refine V_aload_n 5 B dX1_put_5 0 rfl ?_
      refine V_get 6 B gf_RX1_21 0 rfl rfl dX1_put_6 ?_
      refine V_icmp_ge 9 B 28 dX1_put_9 (by decide) (fun k1 => ?_) (fun k1 => ?_)
      ·
        exact V_vret 28 B dX1_put_28 (mkU [] [] [f0] [] []) trivial rfl
      ·
        refine V_iload_n 12 B dX1_put_12 1 rfl ?_
        refine V_aload_n 13 B dX1_put_13 0 rfl ?_
        refine V_get 14 B gf_RX1_15 0 rfl rfl dX1_put_14 ?_
        refine V_alenI 17 B (v := 26) 1 rfl (by decide +kernel) dX1_put_17 ?_
        refine V_icmp_ge 18 B 28 dX1_put_18 (by decide) (fun k2 => ?_) (fun k2 => ?_)
        ·
          exact V_vret 28 B dX1_put_28 (mkU [] [] [f0] [] []) trivial rfl
        ·
          refine V_aload_n 21 B dX1_put_21 0 rfl ?_
          refine V_get 22 B gf_RX1_15 0 rfl rfl dX1_put_22 ?_
          refine V_iload_n 25 B dX1_put_25 1 rfl ?_
          refine V_iload_n 26 B dX1_put_26 2 rfl ?_
          refine V_iast 27 B 1 rfl (vpin_b (b_nlt k0 (n := 0) (by decide +kernel)) (b_nge k2 (n := 25) (by decide +kernel)) (by decide)) dX1_put_27 [(h0, oC 3 [.ref h1, .int p0]), (h1, aI Y 26 (upd f0 (p1 : Int32).toNatClampNeg p2))] rfl ?_
          exact V_vret 28 B dX1_put_28 (mkU [] [] [(upd f0 (p1 : Int32).toNatClampNeg p2)] [] []) trivial rfl)
theorem glV_RX3_183 : GLV RX3 183 yX1_put RX1 cX1_put 3 none 2 := ⟨⟨(mT3 161 rfl rfl), (mT3 162 rfl rfl), (mT3 163 rfl rfl), (mT1 3 rfl rfl), (mT3 164 rfl rfl)⟩, by decide +kernel⟩
theorem dX3_readLayer_167 : decode cX3_readLayer 167 = .ok (.iinc 4 1, 3) := by decide +kernel
theorem dX3_readLayer_170 : decode cX3_readLayer 170 = .ok (.goto (-94), 3) := by decide +kernel
theorem dX3_readLayer_132 : decode cX3_readLayer 132 = .ok (.aload_n 0, 1) := by decide +kernel
theorem dX3_readLayer_133 : decode cX3_readLayer 133 = .ok (.getfield 24, 3) := by decide +kernel
theorem dX3_readLayer_136 : decode cX3_readLayer 136 = .ok (.iload 5, 2) := by decide +kernel
theorem dX3_readLayer_138 : decode cX3_readLayer 138 = .ok (.invokevirtual 53, 3) := by decide +kernel
theorem dX3_readLayer_141 : decode cX3_readLayer 141 = .ok (.iconst (-1), 1) := by decide +kernel
theorem dX3_readLayer_142 : decode cX3_readLayer 142 = .ok (.if_icmp .eq 7, 3) := by decide +kernel
theorem dX3_readLayer_149 : decode cX3_readLayer 149 = .ok (.iconst 0, 1) := by decide +kernel
theorem dX3_readLayer_24 : decode cX3_readLayer 24 = .ok (.aload_n 0, 1) := by decide +kernel
theorem dX3_readLayer_25 : decode cX3_readLayer 25 = .ok (.getfield 9, 3) := by decide +kernel
theorem dX3_readLayer_28 : decode cX3_readLayer 28 = .ok (.iconst 3, 1) := by decide +kernel
theorem dX3_readLayer_29 : decode cX3_readLayer 29 = .ok (.iload_n 1, 1) := by decide +kernel
theorem dX3_readLayer_30 : decode cX3_readLayer 30 = .ok (.invokevirtual 63, 3) := by decide +kernel
theorem dX3_readLayer_33 : decode cX3_readLayer 33 = .ok (.ireturn, 1) := by decide +kernel
set_option maxRecDepth 100000 in
set_option maxHeartbeats 4000000 in
theorem sX3_readLayer_1 (l : Launch) (D : va_G) (Y : Nat → ClassId) (h0 : Nat) (h1 : Nat) (h2 : Nat) (h3 : Nat) (h4 : Nat) (h5 : Nat) (h6 : Nat) (h7 : Nat) (h8 : Nat) (h9 : Nat) (h10 : Nat) (h11 : Nat) (h12 : Nat) (g0 : Nat) (g1 : Nat) (g2 : Nat) (g3 : Nat) (g4 : Nat) (g5 : Nat) (g6 : Nat) (g7 : Nat) (g8 : Nat) (g9 : Nat) (p0 : Int32) (p1 : Int32) (p2 : Int32) (f0 : Nat → Int32) (p3 : Int32) (f1 : Nat → Int32) (p4 : Int32) (f2 : Nat → Int32) (p5 : Int32) (p6 : Int32) (p7 : Int32) (p8 : Int32) (p9 : Int32) (p10 : Int64) (p11 : Int32) (p12 : Int32) (f3 : Nat → Int32) (p13 : Int32) (f4 : Nat → Int32) (sz : Nat) : Met l yX3_readLayer (WSm yX3_readLayer cX3_readLayer 6 (some .boolean)) (mkR 3 0 0 64) (PreG EX D Y [.ref h10] [(h0, oC 2 [.ref g0, .ref g1, .ref g2, .ref g3, .ref g4, .ref g5, .ref g6, .ref g7, .ref g8, .ref h1, .ref g9, .int p0]), (h1, oC 4 [.ref h2, .ref h4, .ref h6, .int p1]), (h2, oC 3 [.ref h3, .int p2]), (h3, aI Y 4 f0), (h4, oC 3 [.ref h5, .int p3]), (h5, aI Y 4 f1), (h6, oC 3 [.ref h7, .int p4]), (h7, aI Y 104 f2), (h8, oC 8 [.ref h9, .int p5, .int p6, .int p7, .int p8, .int p9, .long p10, .int p11, .int p12]), (h9, aB Y 1600 f3), (h10, oC 5 [.ref h8, .ref h0, .ref h11]), (h11, oC 3 [.ref h12, .int p13]), (h12, aI Y 26 f4)] sz) (QI D (fun (r : Int32) (_ : UU) => r = 0 ∨ r = 1) (fun (u : UU) => [(h0, oC 2 [.ref g0, .ref g1, .ref g2, .ref g3, .ref g4, .ref g5, .ref g6, .ref g7, .ref g8, .ref h1, .ref g9, .int p0]), (h1, oC 4 [.ref h2, .ref h4, .ref h6, .int p1]), (h2, oC 3 [.ref h3, .int (u.1 0)]), (h3, aI Y 4 (u.2.2.1 0)), (h4, oC 3 [.ref h5, .int (u.1 1)]), (h5, aI Y 4 (u.2.2.1 1)), (h6, oC 3 [.ref h7, .int (u.1 2)]), (h7, aI Y 104 (u.2.2.1 2)), (h8, oC 8 [.ref h9, .int p5, .int (u.1 3), .int (u.1 4), .int (u.1 5), .int (u.1 6), .long p10, .int (u.1 7), .int (u.1 8)]), (h9, aB Y 1600 f3), (h10, oC 5 [.ref h8, .ref h0, .ref h11]), (h11, oC 3 [.ref h12, .int (u.1 9)]), (h12, aI Y 26 (u.2.2.1 3))]) (va_A [(h0, oC 2 [.ref g0, .ref g1, .ref g2, .ref g3, .ref g4, .ref g5, .ref g6, .ref g7, .ref g8, .ref h1, .ref g9, .int p0]), (h1, oC 4 [.ref h2, .ref h4, .ref h6, .int p1]), (h2, oC 3 [.ref h3, .int p2]), (h3, aI Y 4 f0), (h4, oC 3 [.ref h5, .int p3]), (h5, aI Y 4 f1), (h6, oC 3 [.ref h7, .int p4]), (h7, aI Y 104 f2), (h8, oC 8 [.ref h9, .int p5, .int p6, .int p7, .int p8, .int p9, .long p10, .int p11, .int p12]), (h9, aB Y 1600 f3), (h10, oC 5 [.ref h8, .ref h0, .ref h11]), (h11, oC 3 [.ref h12, .int p13]), (h12, aI Y 26 f4)] sz)) 0 0 (va_A [(h0, oC 2 [.ref g0, .ref g1, .ref g2, .ref g3, .ref g4, .ref g5, .ref g6, .ref g7, .ref g8, .ref h1, .ref g9, .int p0]), (h1, oC 4 [.ref h2, .ref h4, .ref h6, .int p1]), (h2, oC 3 [.ref h3, .int p2]), (h3, aI Y 4 f0), (h4, oC 3 [.ref h5, .int p3]), (h5, aI Y 4 f1), (h6, oC 3 [.ref h7, .int p4]), (h7, aI Y 104 f2), (h8, oC 8 [.ref h9, .int p5, .int p6, .int p7, .int p8, .int p9, .long p10, .int p11, .int p12]), (h9, aB Y 1600 f3), (h10, oC 5 [.ref h8, .ref h0, .ref h11]), (h11, oC 3 [.ref h12, .int p13]), (h12, aI Y 26 f4)] sz) :=
  gmet_of (by decide +kernel) (Nat.le_of_ble_eq_true rfl) (fun p e s m args below meth c B EB hsz => by
    have B : VB p s m args meth c D Y (va_A [(h0, oC 2 [.ref g0, .ref g1, .ref g2, .ref g3, .ref g4, .ref g5, .ref g6, .ref g7, .ref g8, .ref h1, .ref g9, .int p0]), (h1, oC 4 [.ref h2, .ref h4, .ref h6, .int p1]), (h2, oC 3 [.ref h3, .int p2]), (h3, aI Y 4 f0), (h4, oC 3 [.ref h5, .int p3]), (h5, aI Y 4 f1), (h6, oC 3 [.ref h7, .int p4]), (h7, aI Y 104 f2), (h8, oC 8 [.ref h9, .int p5, .int p6, .int p7, .int p8, .int p9, .long p10, .int p11, .int p12]), (h9, aB Y 1600 f3), (h10, oC 5 [.ref h8, .ref h0, .ref h11]), (h11, oC 3 [.ref h12, .int p13]), (h12, aI Y 26 f4)] sz) cX3_readLayer 6 RX3 (some .boolean) := B
    refine V_aload_n 0 B dX3_readLayer_0 0 rfl ?_
    refine V_get 1 B gf_RX3_9 10 rfl rfl dX3_readLayer_1 ?_
    refine V_get 4 B gf_RX3_106 8 rfl rfl dX3_readLayer_4 ?_
    refine V_istore_n 7 B (lv2 := [(1, .int p7), (0, .ref h10)]) dX3_readLayer_7 (by decide) rfl ?_
    refine V_aload_n 8 B dX3_readLayer_8 1 rfl ?_
    refine V_get 9 B gf_RX3_15 10 rfl rfl dX3_readLayer_9 ?_
    refine V_get 12 B gf_RX3_168 0 rfl rfl dX3_readLayer_12 ?_
    refine V_get 15 B gf_RX3_172 1 rfl rfl dX3_readLayer_15 ?_
    refine V_gvi 18 B envX EB (st := []) (As := []) (fun sz => sX1_isFull_1 l D Y h2 h3 p2 f0 sz) glV_RX3_109 ⟨rfl, rfl⟩ ⟨(Nat.le_of_ble_eq_true rfl), (Nat.le_of_ble_eq_true rfl)⟩ ⟨(Nat.le_of_ble_eq_true rfl), (Nat.le_of_ble_eq_true rfl)⟩ [2, 0] rfl 3 0 rfl rfl rfl rfl (Nat.le_of_ble_eq_true rfl) rfl (fun _ _ _ => rfl) dX3_readLayer_18 (fun j0 u1 w2 => ?_)
    refine V_ws [(h0, oC 2 [.ref g0, .ref g1, .ref g2, .ref g3, .ref g4, .ref g5, .ref g6, .ref g7, .ref g8, .ref h1, .ref g9, .int p0]), (h1, oC 4 [.ref h2, .ref h4, .ref h6, .int p1]), (h2, oC 3 [.ref h3, .int p2]), (h3, aI Y 4 f0), (h4, oC 3 [.ref h5, .int p3]), (h5, aI Y 4 f1), (h6, oC 3 [.ref h7, .int p4]), (h7, aI Y 104 f2), (h8, oC 8 [.ref h9, .int p5, .int p6, .int p7, .int p8, .int p9, .long p10, .int p11, .int p12]), (h9, aB Y 1600 f3), (h10, oC 5 [.ref h8, .ref h0, .ref h11]), (h11, oC 3 [.ref h12, .int p13]), (h12, aI Y 26 f4)] rfl ?_
    rcases w2 with rfl | rfl
    ·
      refine V_if_eq_t 21 B 34 dX3_readLayer_21 (by decide) (by decide +kernel) ?_
      refine V_aload_n 34 B dX3_readLayer_34 1 rfl ?_
      refine V_get 35 B gf_RX3_9 10 rfl rfl dX3_readLayer_35 ?_
      refine V_gvv 38 B envX EB (st := []) (As := []) (fun sz => sX7_advance_1 l D Y h8 h9 p5 p6 p7 p8 p9 p10 p11 p12 f3 sz) glV_RX3_112 ⟨rfl, rfl⟩ ⟨(Nat.le_of_ble_eq_true rfl), (Nat.le_of_ble_eq_true rfl)⟩ ⟨(Nat.le_of_ble_eq_true rfl), (Nat.le_of_ble_eq_true rfl)⟩ [8, 0] rfl 8 0 rfl rfl rfl rfl (Nat.le_of_ble_eq_true rfl) rfl (fun _ _ => rfl) dX3_readLayer_38 (fun u4 w5 => ?_)
      refine V_ws [(h0, oC 2 [.ref g0, .ref g1, .ref g2, .ref g3, .ref g4, .ref g5, .ref g6, .ref g7, .ref g8, .ref h1, .ref g9, .int p0]), (h1, oC 4 [.ref h2, .ref h4, .ref h6, .int p1]), (h2, oC 3 [.ref h3, .int p2]), (h3, aI Y 4 f0), (h4, oC 3 [.ref h5, .int p3]), (h5, aI Y 4 f1), (h6, oC 3 [.ref h7, .int p4]), (h7, aI Y 104 f2), (h8, oC 8 [.ref h9, .int p5, .int (u4.1 0), .int (u4.1 1), .int (u4.1 2), .int p9, .long p10, .int p11, .int p12]), (h9, aB Y 1600 f3), (h10, oC 5 [.ref h8, .ref h0, .ref h11]), (h11, oC 3 [.ref h12, .int p13]), (h12, aI Y 26 f4)] rfl ?_
      refine V_aload_n 41 B dX3_readLayer_41 1 rfl ?_
      refine V_get 42 B gf_RX3_9 10 rfl rfl dX3_readLayer_42 ?_
      refine V_gvi 45 B envX EB (st := []) (As := []) (fun sz => sX7_takeKey_1 l D Y h8 h9 p5 (u4.1 0) (u4.1 1) (u4.1 2) p9 p10 p11 p12 f3 sz) glV_RX3_177 ⟨rfl, rfl⟩ ⟨(Nat.le_of_ble_eq_true rfl), (Nat.le_of_ble_eq_true rfl)⟩ ⟨(Nat.le_of_ble_eq_true rfl), (Nat.le_of_ble_eq_true rfl)⟩ [8, 0] rfl 8 0 rfl rfl rfl rfl (Nat.le_of_ble_eq_true rfl) rfl (fun _ _ _ => rfl) dX3_readLayer_45 (fun j6 u7 w8 => ?_)
      refine V_ws [(h0, oC 2 [.ref g0, .ref g1, .ref g2, .ref g3, .ref g4, .ref g5, .ref g6, .ref g7, .ref g8, .ref h1, .ref g9, .int p0]), (h1, oC 4 [.ref h2, .ref h4, .ref h6, .int p1]), (h2, oC 3 [.ref h3, .int p2]), (h3, aI Y 4 f0), (h4, oC 3 [.ref h5, .int p3]), (h5, aI Y 4 f1), (h6, oC 3 [.ref h7, .int p4]), (h7, aI Y 104 f2), (h8, oC 8 [.ref h9, .int p5, .int (u7.1 0), .int (u7.1 1), .int (u7.1 2), .int (u7.1 3), .long p10, .int (u7.1 4), .int (u7.1 5)]), (h9, aB Y 1600 f3), (h10, oC 5 [.ref h8, .ref h0, .ref h11]), (h11, oC 3 [.ref h12, .int p13]), (h12, aI Y 26 f4)] rfl ?_
      rcases w8 with rfl | rfl
      ·
        refine V_if_ne_f 48 B 53 dX3_readLayer_48 (by decide) (by decide +kernel) ?_
        refine V_iconst 51 B (v := 0) dX3_readLayer_51 (by decide +kernel) ?_
        exact V_zret 52 B rfl dX3_readLayer_52 (mkU [p2, p3, p4, (u7.1 0), (u7.1 1), (u7.1 2), (u7.1 3), (u7.1 4), (u7.1 5), p13] [] [f0, f1, f2, f4] [] []) (Or.inl rfl) rfl
      ·
        refine V_if_ne_t 48 B 53 dX3_readLayer_48 (by decide) (by decide +kernel) ?_
        refine V_aload_n 53 B dX3_readLayer_53 1 rfl ?_
        refine V_get 54 B gf_RX3_9 10 rfl rfl dX3_readLayer_54 ?_
        refine V_get 57 B gf_RX3_121 8 rfl rfl dX3_readLayer_57 ?_
        refine V_istore_n 60 B (lv2 := [(2, .int (u7.1 3)), (1, .int p7), (0, .ref h10)]) dX3_readLayer_60 (by decide) rfl ?_
        refine V_iconst 61 B (v := 0) dX3_readLayer_61 (by decide +kernel) ?_
        refine V_istore_n 62 B (lv2 := [(3, .int 0), (2, .int (u7.1 3)), (1, .int p7), (0, .ref h10)]) dX3_readLayer_62 (by decide) rfl ?_
        refine V_aload_n 63 B dX3_readLayer_63 3 rfl ?_
        refine V_get 64 B gf_RX3_24 10 rfl rfl dX3_readLayer_64 ?_
        refine V_iconst 67 B (v := (-1)) dX3_readLayer_67 (by decide +kernel) ?_
        refine V_bipush 68 B (v := 26) dX3_readLayer_68 (by decide +kernel) ?_
        refine V_gvv 70 B envX EB (st := []) (As := [.int (-1), .int 26]) (fun sz => sX1_refill_1 l D Y h11 h12 p13 f4 (-1) 26 sz) glV_RX3_180 ⟨rfl, rfl⟩ ⟨(Nat.le_of_ble_eq_true rfl), (Nat.le_of_ble_eq_true rfl)⟩ ⟨(Nat.le_of_ble_eq_true rfl), (Nat.le_of_ble_eq_true rfl)⟩ [11, 0] rfl 3 0 rfl rfl rfl rfl (Nat.le_of_ble_eq_true rfl) rfl (fun _ _ => rfl) dX3_readLayer_70 (fun u10 w11 => ?_)
        refine V_ws [(h0, oC 2 [.ref g0, .ref g1, .ref g2, .ref g3, .ref g4, .ref g5, .ref g6, .ref g7, .ref g8, .ref h1, .ref g9, .int p0]), (h1, oC 4 [.ref h2, .ref h4, .ref h6, .int p1]), (h2, oC 3 [.ref h3, .int p2]), (h3, aI Y 4 f0), (h4, oC 3 [.ref h5, .int p3]), (h5, aI Y 4 f1), (h6, oC 3 [.ref h7, .int p4]), (h7, aI Y 104 f2), (h8, oC 8 [.ref h9, .int p5, .int (u7.1 0), .int (u7.1 1), .int (u7.1 2), .int (u7.1 3), .long p10, .int (u7.1 4), .int (u7.1 5)]), (h9, aB Y 1600 f3), (h10, oC 5 [.ref h8, .ref h0, .ref h11]), (h11, oC 3 [.ref h12, .int (u10.1 0)]), (h12, aI Y 26 (u10.2.2.1 0))] rfl ?_
        refine V_iconst 73 B (v := 0) dX3_readLayer_73 (by decide +kernel) ?_
        refine V_istore 74 B (lv2 := [(4, .int 0), (3, .int 0), (2, .int (u7.1 3)), (1, .int p7), (0, .ref h10)]) dX3_readLayer_74 (by decide) rfl ?_
        refine V_wloop (α := UU) (fun a => (2147483647 - ((a.1 0)).toInt).toNat) (fun a => 0 ≤ ((a.1 0)).toInt) (fun a => [(4, .int (a.1 0)), (3, .int (a.1 1)), (2, .int (u7.1 3)), (1, .int p7), (0, .ref h10)]) (fun a => [(h0, oC 2 [.ref g0, .ref g1, .ref g2, .ref g3, .ref g4, .ref g5, .ref g6, .ref g7, .ref g8, .ref h1, .ref g9, .int p0]), (h1, oC 4 [.ref h2, .ref h4, .ref h6, .int p1]), (h2, oC 3 [.ref h3, .int (a.1 2)]), (h3, aI Y 4 (a.2.2.1 0)), (h4, oC 3 [.ref h5, .int (a.1 3)]), (h5, aI Y 4 (a.2.2.1 1)), (h6, oC 3 [.ref h7, .int (a.1 4)]), (h7, aI Y 104 (a.2.2.1 2)), (h8, oC 8 [.ref h9, .int p5, .int (a.1 5), .int (a.1 6), .int (a.1 7), .int (a.1 8), .long p10, .int (a.1 9), .int (a.1 10)]), (h9, aB Y 1600 f3), (h10, oC 5 [.ref h8, .ref h0, .ref h11]), (h11, oC 3 [.ref h12, .int (a.1 11)]), (h12, aI Y 26 (a.2.2.1 3))]) (mkU [0, 0, p2, p3, p4, (u7.1 0), (u7.1 1), (u7.1 2), (u7.1 3), (u7.1 4), (u7.1 5), (u10.1 0)] [] [f0, f1, f2, (u10.2.2.1 0)] [] []) (show (0 : Int) ≤ (0 : Int32).toInt by decide +kernel) rfl rfl (fun a12 hI14 IH13 => ?_)
        refine V_lv [(4, .int (a12.1 0)), (3, .int (a12.1 1)), (2, .int (u7.1 3)), (1, .int p7), (0, .ref h10)] [0, 1, 2, 3, 4] rfl ?_
        refine V_ws [(h0, oC 2 [.ref g0, .ref g1, .ref g2, .ref g3, .ref g4, .ref g5, .ref g6, .ref g7, .ref g8, .ref h1, .ref g9, .int p0]), (h1, oC 4 [.ref h2, .ref h4, .ref h6, .int p1]), (h2, oC 3 [.ref h3, .int (a12.1 2)]), (h3, aI Y 4 (a12.2.2.1 0)), (h4, oC 3 [.ref h5, .int (a12.1 3)]), (h5, aI Y 4 (a12.2.2.1 1)), (h6, oC 3 [.ref h7, .int (a12.1 4)]), (h7, aI Y 104 (a12.2.2.1 2)), (h8, oC 8 [.ref h9, .int p5, .int (a12.1 5), .int (a12.1 6), .int (a12.1 7), .int (a12.1 8), .long p10, .int (a12.1 9), .int (a12.1 10)]), (h9, aB Y 1600 f3), (h10, oC 5 [.ref h8, .ref h0, .ref h11]), (h11, oC 3 [.ref h12, .int (a12.1 11)]), (h12, aI Y 26 (a12.2.2.1 3))] rfl ?_
        refine V_iload 76 B dX3_readLayer_76 0 rfl ?_
        refine V_sipush 78 B (v := 1600) dX3_readLayer_78 (by decide +kernel) ?_
        refine V_icmp_ge 81 B 173 dX3_readLayer_81 (by decide) (fun k15 => ?_) (fun k15 => ?_)
        ·
          refine V_aload_n 173 B dX3_readLayer_173 4 rfl ?_
          refine V_get 174 B gf_RX3_9 10 rfl rfl dX3_readLayer_174 ?_
          refine V_gvi 177 B envX EB (st := []) (As := []) (fun sz => sX7_takeSemicolon_1 l D Y h8 h9 p5 (a12.1 5) (a12.1 6) (a12.1 7) (a12.1 8) p10 (a12.1 9) (a12.1 10) f3 sz) glV_RX3_118 ⟨rfl, rfl⟩ ⟨(Nat.le_of_ble_eq_true rfl), (Nat.le_of_ble_eq_true rfl)⟩ ⟨(Nat.le_of_ble_eq_true rfl), (Nat.le_of_ble_eq_true rfl)⟩ [8, 0] rfl 8 0 rfl rfl rfl rfl (Nat.le_of_ble_eq_true rfl) rfl (fun _ _ _ => rfl) dX3_readLayer_177 (fun j16 u17 w18 => ?_)
          refine V_ws [(h0, oC 2 [.ref g0, .ref g1, .ref g2, .ref g3, .ref g4, .ref g5, .ref g6, .ref g7, .ref g8, .ref h1, .ref g9, .int p0]), (h1, oC 4 [.ref h2, .ref h4, .ref h6, .int p1]), (h2, oC 3 [.ref h3, .int (a12.1 2)]), (h3, aI Y 4 (a12.2.2.1 0)), (h4, oC 3 [.ref h5, .int (a12.1 3)]), (h5, aI Y 4 (a12.2.2.1 1)), (h6, oC 3 [.ref h7, .int (a12.1 4)]), (h7, aI Y 104 (a12.2.2.1 2)), (h8, oC 8 [.ref h9, .int p5, .int (u17.1 0), .int (u17.1 1), .int (u17.1 2), .int (a12.1 8), .long p10, .int (u17.1 3), .int (u17.1 4)]), (h9, aB Y 1600 f3), (h10, oC 5 [.ref h8, .ref h0, .ref h11]), (h11, oC 3 [.ref h12, .int (a12.1 11)]), (h12, aI Y 26 (a12.2.2.1 3))] rfl ?_
          rcases w18 with rfl | rfl
          ·
            refine V_if_ne_f 180 B 185 dX3_readLayer_180 (by decide) (by decide +kernel) ?_
            refine V_iconst 183 B (v := 0) dX3_readLayer_183 (by decide +kernel) ?_
            exact V_zret 184 B rfl dX3_readLayer_184 (mkU [(a12.1 2), (a12.1 3), (a12.1 4), (u17.1 0), (u17.1 1), (u17.1 2), (a12.1 8), (u17.1 3), (u17.1 4), (a12.1 11)] [] [(a12.2.2.1 0), (a12.2.2.1 1), (a12.2.2.1 2), (a12.2.2.1 3)] [] []) (Or.inl rfl) rfl
          ·
            refine V_if_ne_t 180 B 185 dX3_readLayer_180 (by decide) (by decide +kernel) ?_
            refine V_iload_n 185 B dX3_readLayer_185 1 rfl ?_
            refine V_if_ne 186 B 207 dX3_readLayer_186 (by decide) (fun k19 => ?_) (fun k19 => ?_)
            ·
              refine V_aload_n 207 B dX3_readLayer_207 4 rfl ?_
              refine V_get 208 B gf_RX3_9 10 rfl rfl dX3_readLayer_208 ?_
              refine V_iconst 211 B (v := 4) dX3_readLayer_211 (by decide +kernel) ?_
              refine V_iload_n 212 B dX3_readLayer_212 3 rfl ?_
              refine V_gvi 213 B envX EB (st := []) (As := [.int 4, .int p7]) (fun sz => sX7_fail_1 l D Y h8 h9 p5 (u17.1 0) (u17.1 1) (u17.1 2) (a12.1 8) p10 (u17.1 3) (u17.1 4) 4 p7 sz) glV_RX3_63 ⟨rfl, rfl⟩ ⟨(Nat.le_of_ble_eq_true rfl), (Nat.le_of_ble_eq_true rfl)⟩ ⟨(Nat.le_of_ble_eq_true rfl), (Nat.le_of_ble_eq_true rfl)⟩ [8] rfl 8 0 rfl rfl rfl rfl (Nat.le_of_ble_eq_true rfl) rfl (fun _ _ _ => rfl) dX3_readLayer_213 (fun j20 u21 w22 => ?_)
              refine V_ws [(h0, oC 2 [.ref g0, .ref g1, .ref g2, .ref g3, .ref g4, .ref g5, .ref g6, .ref g7, .ref g8, .ref h1, .ref g9, .int p0]), (h1, oC 4 [.ref h2, .ref h4, .ref h6, .int p1]), (h2, oC 3 [.ref h3, .int (a12.1 2)]), (h3, aI Y 4 (a12.2.2.1 0)), (h4, oC 3 [.ref h5, .int (a12.1 3)]), (h5, aI Y 4 (a12.2.2.1 1)), (h6, oC 3 [.ref h7, .int (a12.1 4)]), (h7, aI Y 104 (a12.2.2.1 2)), (h8, oC 8 [.ref h9, .int p5, .int (u17.1 0), .int (u17.1 1), .int (u17.1 2), .int (a12.1 8), .long p10, .int (u21.1 0), .int (u21.1 1)]), (h9, aB Y 1600 f3), (h10, oC 5 [.ref h8, .ref h0, .ref h11]), (h11, oC 3 [.ref h12, .int (a12.1 11)]), (h12, aI Y 26 (a12.2.2.1 3))] rfl ?_
              rcases w22 with rfl | rfl
              ·
                exact V_zret 216 B rfl dX3_readLayer_216 (mkU [(a12.1 2), (a12.1 3), (a12.1 4), (u17.1 0), (u17.1 1), (u17.1 2), (a12.1 8), (u21.1 0), (u21.1 1), (a12.1 11)] [] [(a12.2.2.1 0), (a12.2.2.1 1), (a12.2.2.1 2), (a12.2.2.1 3)] [] []) (Or.inl rfl) rfl
              ·
                exact V_zret 216 B rfl dX3_readLayer_216 (mkU [(a12.1 2), (a12.1 3), (a12.1 4), (u17.1 0), (u17.1 1), (u17.1 2), (a12.1 8), (u21.1 0), (u21.1 1), (a12.1 11)] [] [(a12.2.2.1 0), (a12.2.2.1 1), (a12.2.2.1 2), (a12.2.2.1 3)] [] []) (Or.inr rfl) rfl
            ·
              refine V_aload_n 189 B dX3_readLayer_189 4 rfl ?_
              refine V_get 190 B gf_RX3_15 10 rfl rfl dX3_readLayer_190 ?_
              refine V_get 193 B gf_RX3_168 0 rfl rfl dX3_readLayer_193 ?_
              refine V_get 196 B gf_RX3_172 1 rfl rfl dX3_readLayer_196 ?_
              refine V_iload_n 199 B dX3_readLayer_199 2 rfl ?_
              refine V_gvi 200 B envX EB (st := []) (As := [.int (u7.1 3)]) (fun sz => sX1_indexOf_1 l D Y h2 h3 (a12.1 2) (a12.2.2.1 0) (u7.1 3) sz) glV_RX3_186 ⟨rfl, rfl⟩ ⟨(Nat.le_of_ble_eq_true rfl), (Nat.le_of_ble_eq_true rfl)⟩ ⟨(Nat.le_of_ble_eq_true rfl), (Nat.le_of_ble_eq_true rfl)⟩ [2, 0] rfl 3 0 rfl rfl rfl rfl (Nat.le_of_ble_eq_true rfl) rfl (fun _ _ _ => rfl) dX3_readLayer_200 (fun j23 u24 w25 => ?_)
              refine V_ws [(h0, oC 2 [.ref g0, .ref g1, .ref g2, .ref g3, .ref g4, .ref g5, .ref g6, .ref g7, .ref g8, .ref h1, .ref g9, .int p0]), (h1, oC 4 [.ref h2, .ref h4, .ref h6, .int p1]), (h2, oC 3 [.ref h3, .int (a12.1 2)]), (h3, aI Y 4 (a12.2.2.1 0)), (h4, oC 3 [.ref h5, .int (a12.1 3)]), (h5, aI Y 4 (a12.2.2.1 1)), (h6, oC 3 [.ref h7, .int (a12.1 4)]), (h7, aI Y 104 (a12.2.2.1 2)), (h8, oC 8 [.ref h9, .int p5, .int (u17.1 0), .int (u17.1 1), .int (u17.1 2), .int (a12.1 8), .long p10, .int (u17.1 3), .int (u17.1 4)]), (h9, aB Y 1600 f3), (h10, oC 5 [.ref h8, .ref h0, .ref h11]), (h11, oC 3 [.ref h12, .int (a12.1 11)]), (h12, aI Y 26 (a12.2.2.1 3))] rfl ?_
              refine V_iconst 203 B (v := (-1)) dX3_readLayer_203 (by decide +kernel) ?_
              refine V_icmp_eq 204 B 217 dX3_readLayer_204 (by decide) (fun k26 => ?_) (fun k26 => ?_)
              ·
                obtain rfl : j23 = (-1) := k26
                refine V_aload_n 217 B dX3_readLayer_217 4 rfl ?_
                refine V_get 218 B gf_RX3_15 10 rfl rfl dX3_readLayer_218 ?_
                refine V_get 221 B gf_RX3_168 0 rfl rfl dX3_readLayer_221 ?_
                refine V_iload_n 224 B dX3_readLayer_224 2 rfl ?_
                refine V_aload_n 225 B dX3_readLayer_225 4 rfl ?_
                refine V_get 226 B gf_RX3_24 10 rfl rfl dX3_readLayer_226 ?_
                refine V_gvv 229 B envX EB (st := []) (As := [.int (u7.1 3), .ref h11]) (fun sz => sX2_appendLayer_1 l D Y h1 h2 h3 h4 h5 h6 h7 h11 h12 p1 (a12.1 2) (a12.2.2.1 0) (a12.1 3) (a12.2.2.1 1) (a12.1 4) (a12.2.2.1 2) (a12.1 11) (a12.2.2.1 3) (u7.1 3) sz) glV_RX3_189 ⟨rfl, rfl⟩ ⟨(Nat.le_of_ble_eq_true rfl), (Nat.le_of_ble_eq_true rfl)⟩ ⟨(Nat.le_of_ble_eq_true rfl), (Nat.le_of_ble_eq_true rfl)⟩ [1, 0, 0, 0, 0, 0, 0, 3, 0] rfl 4 0 rfl rfl rfl rfl (Nat.le_of_ble_eq_true rfl) rfl (fun _ _ => rfl) dX3_readLayer_229 (fun u28 w29 => ?_)
                refine V_ws [(h0, oC 2 [.ref g0, .ref g1, .ref g2, .ref g3, .ref g4, .ref g5, .ref g6, .ref g7, .ref g8, .ref h1, .ref g9, .int p0]), (h1, oC 4 [.ref h2, .ref h4, .ref h6, .int p1]), (h2, oC 3 [.ref h3, .int (u28.1 0)]), (h3, aI Y 4 (u28.2.2.1 0)), (h4, oC 3 [.ref h5, .int (u28.1 1)]), (h5, aI Y 4 (u28.2.2.1 1)), (h6, oC 3 [.ref h7, .int (u28.1 2)]), (h7, aI Y 104 (u28.2.2.1 2)), (h8, oC 8 [.ref h9, .int p5, .int (u17.1 0), .int (u17.1 1), .int (u17.1 2), .int (a12.1 8), .long p10, .int (u17.1 3), .int (u17.1 4)]), (h9, aB Y 1600 f3), (h10, oC 5 [.ref h8, .ref h0, .ref h11]), (h11, oC 3 [.ref h12, .int (a12.1 11)]), (h12, aI Y 26 (a12.2.2.1 3))] rfl ?_
                refine V_iconst 232 B (v := 1) dX3_readLayer_232 (by decide +kernel) ?_
                exact V_zret 233 B rfl dX3_readLayer_233 (mkU [(u28.1 0), (u28.1 1), (u28.1 2), (u17.1 0), (u17.1 1), (u17.1 2), (a12.1 8), (u17.1 3), (u17.1 4), (a12.1 11)] [] [(u28.2.2.1 0), (u28.2.2.1 1), (u28.2.2.1 2), (a12.2.2.1 3)] [] []) (Or.inr rfl) rfl
              ·
                refine V_aload_n 207 B dX3_readLayer_207 4 rfl ?_
                refine V_get 208 B gf_RX3_9 10 rfl rfl dX3_readLayer_208 ?_
                refine V_iconst 211 B (v := 4) dX3_readLayer_211 (by decide +kernel) ?_
                refine V_iload_n 212 B dX3_readLayer_212 3 rfl ?_
                refine V_gvi 213 B envX EB (st := []) (As := [.int 4, .int p7]) (fun sz => sX7_fail_1 l D Y h8 h9 p5 (u17.1 0) (u17.1 1) (u17.1 2) (a12.1 8) p10 (u17.1 3) (u17.1 4) 4 p7 sz) glV_RX3_63 ⟨rfl, rfl⟩ ⟨(Nat.le_of_ble_eq_true rfl), (Nat.le_of_ble_eq_true rfl)⟩ ⟨(Nat.le_of_ble_eq_true rfl), (Nat.le_of_ble_eq_true rfl)⟩ [8] rfl 8 0 rfl rfl rfl rfl (Nat.le_of_ble_eq_true rfl) rfl (fun _ _ _ => rfl) dX3_readLayer_213 (fun j30 u31 w32 => ?_)
                refine V_ws [(h0, oC 2 [.ref g0, .ref g1, .ref g2, .ref g3, .ref g4, .ref g5, .ref g6, .ref g7, .ref g8, .ref h1, .ref g9, .int p0]), (h1, oC 4 [.ref h2, .ref h4, .ref h6, .int p1]), (h2, oC 3 [.ref h3, .int (a12.1 2)]), (h3, aI Y 4 (a12.2.2.1 0)), (h4, oC 3 [.ref h5, .int (a12.1 3)]), (h5, aI Y 4 (a12.2.2.1 1)), (h6, oC 3 [.ref h7, .int (a12.1 4)]), (h7, aI Y 104 (a12.2.2.1 2)), (h8, oC 8 [.ref h9, .int p5, .int (u17.1 0), .int (u17.1 1), .int (u17.1 2), .int (a12.1 8), .long p10, .int (u31.1 0), .int (u31.1 1)]), (h9, aB Y 1600 f3), (h10, oC 5 [.ref h8, .ref h0, .ref h11]), (h11, oC 3 [.ref h12, .int (a12.1 11)]), (h12, aI Y 26 (a12.2.2.1 3))] rfl ?_
                rcases w32 with rfl | rfl
                ·
                  exact V_zret 216 B rfl dX3_readLayer_216 (mkU [(a12.1 2), (a12.1 3), (a12.1 4), (u17.1 0), (u17.1 1), (u17.1 2), (a12.1 8), (u31.1 0), (u31.1 1), (a12.1 11)] [] [(a12.2.2.1 0), (a12.2.2.1 1), (a12.2.2.1 2), (a12.2.2.1 3)] [] []) (Or.inl rfl) rfl
                ·
                  exact V_zret 216 B rfl dX3_readLayer_216 (mkU [(a12.1 2), (a12.1 3), (a12.1 4), (u17.1 0), (u17.1 1), (u17.1 2), (a12.1 8), (u31.1 0), (u31.1 1), (a12.1 11)] [] [(a12.2.2.1 0), (a12.2.2.1 1), (a12.2.2.1 2), (a12.2.2.1 3)] [] []) (Or.inr rfl) rfl
        ·
          refine V_aload_n 84 B dX3_readLayer_84 4 rfl ?_
          refine V_get 85 B gf_RX3_9 10 rfl rfl dX3_readLayer_85 ?_
          refine V_get 88 B gf_RX3_38 8 rfl rfl dX3_readLayer_88 ?_
          refine V_iconst 91 B (v := 3) dX3_readLayer_91 (by decide +kernel) ?_
          refine V_icmp_eq 92 B 173 dX3_readLayer_92 (by decide) (fun k33 => ?_) (fun k33 => ?_)
          ·
            refine V_aload_n 173 B dX3_readLayer_173 4 rfl ?_
            refine V_get 174 B gf_RX3_9 10 rfl rfl dX3_readLayer_174 ?_
            refine V_gvi 177 B envX EB (st := []) (As := []) (fun sz => sX7_takeSemicolon_1 l D Y h8 h9 p5 (a12.1 5) (a12.1 6) (a12.1 7) (a12.1 8) p10 (a12.1 9) (a12.1 10) f3 sz) glV_RX3_118 ⟨rfl, rfl⟩ ⟨(Nat.le_of_ble_eq_true rfl), (Nat.le_of_ble_eq_true rfl)⟩ ⟨(Nat.le_of_ble_eq_true rfl), (Nat.le_of_ble_eq_true rfl)⟩ [8, 0] rfl 8 0 rfl rfl rfl rfl (Nat.le_of_ble_eq_true rfl) rfl (fun _ _ _ => rfl) dX3_readLayer_177 (fun j34 u35 w36 => ?_)
            refine V_ws [(h0, oC 2 [.ref g0, .ref g1, .ref g2, .ref g3, .ref g4, .ref g5, .ref g6, .ref g7, .ref g8, .ref h1, .ref g9, .int p0]), (h1, oC 4 [.ref h2, .ref h4, .ref h6, .int p1]), (h2, oC 3 [.ref h3, .int (a12.1 2)]), (h3, aI Y 4 (a12.2.2.1 0)), (h4, oC 3 [.ref h5, .int (a12.1 3)]), (h5, aI Y 4 (a12.2.2.1 1)), (h6, oC 3 [.ref h7, .int (a12.1 4)]), (h7, aI Y 104 (a12.2.2.1 2)), (h8, oC 8 [.ref h9, .int p5, .int (u35.1 0), .int (u35.1 1), .int (u35.1 2), .int (a12.1 8), .long p10, .int (u35.1 3), .int (u35.1 4)]), (h9, aB Y 1600 f3), (h10, oC 5 [.ref h8, .ref h0, .ref h11]), (h11, oC 3 [.ref h12, .int (a12.1 11)]), (h12, aI Y 26 (a12.2.2.1 3))] rfl ?_
            rcases w36 with rfl | rfl
            ·
              refine V_if_ne_f 180 B 185 dX3_readLayer_180 (by decide) (by decide +kernel) ?_
              refine V_iconst 183 B (v := 0) dX3_readLayer_183 (by decide +kernel) ?_
              exact V_zret 184 B rfl dX3_readLayer_184 (mkU [(a12.1 2), (a12.1 3), (a12.1 4), (u35.1 0), (u35.1 1), (u35.1 2), (a12.1 8), (u35.1 3), (u35.1 4), (a12.1 11)] [] [(a12.2.2.1 0), (a12.2.2.1 1), (a12.2.2.1 2), (a12.2.2.1 3)] [] []) (Or.inl rfl) rfl
            ·
              refine V_if_ne_t 180 B 185 dX3_readLayer_180 (by decide) (by decide +kernel) ?_
              refine V_iload_n 185 B dX3_readLayer_185 1 rfl ?_
              refine V_if_ne 186 B 207 dX3_readLayer_186 (by decide) (fun k37 => ?_) (fun k37 => ?_)
              ·
                refine V_aload_n 207 B dX3_readLayer_207 4 rfl ?_
                refine V_get 208 B gf_RX3_9 10 rfl rfl dX3_readLayer_208 ?_
                refine V_iconst 211 B (v := 4) dX3_readLayer_211 (by decide +kernel) ?_
                refine V_iload_n 212 B dX3_readLayer_212 3 rfl ?_
                refine V_gvi 213 B envX EB (st := []) (As := [.int 4, .int p7]) (fun sz => sX7_fail_1 l D Y h8 h9 p5 (u35.1 0) (u35.1 1) (u35.1 2) (a12.1 8) p10 (u35.1 3) (u35.1 4) 4 p7 sz) glV_RX3_63 ⟨rfl, rfl⟩ ⟨(Nat.le_of_ble_eq_true rfl), (Nat.le_of_ble_eq_true rfl)⟩ ⟨(Nat.le_of_ble_eq_true rfl), (Nat.le_of_ble_eq_true rfl)⟩ [8] rfl 8 0 rfl rfl rfl rfl (Nat.le_of_ble_eq_true rfl) rfl (fun _ _ _ => rfl) dX3_readLayer_213 (fun j38 u39 w40 => ?_)
                refine V_ws [(h0, oC 2 [.ref g0, .ref g1, .ref g2, .ref g3, .ref g4, .ref g5, .ref g6, .ref g7, .ref g8, .ref h1, .ref g9, .int p0]), (h1, oC 4 [.ref h2, .ref h4, .ref h6, .int p1]), (h2, oC 3 [.ref h3, .int (a12.1 2)]), (h3, aI Y 4 (a12.2.2.1 0)), (h4, oC 3 [.ref h5, .int (a12.1 3)]), (h5, aI Y 4 (a12.2.2.1 1)), (h6, oC 3 [.ref h7, .int (a12.1 4)]), (h7, aI Y 104 (a12.2.2.1 2)), (h8, oC 8 [.ref h9, .int p5, .int (u35.1 0), .int (u35.1 1), .int (u35.1 2), .int (a12.1 8), .long p10, .int (u39.1 0), .int (u39.1 1)]), (h9, aB Y 1600 f3), (h10, oC 5 [.ref h8, .ref h0, .ref h11]), (h11, oC 3 [.ref h12, .int (a12.1 11)]), (h12, aI Y 26 (a12.2.2.1 3))] rfl ?_
                rcases w40 with rfl | rfl
                ·
                  exact V_zret 216 B rfl dX3_readLayer_216 (mkU [(a12.1 2), (a12.1 3), (a12.1 4), (u35.1 0), (u35.1 1), (u35.1 2), (a12.1 8), (u39.1 0), (u39.1 1), (a12.1 11)] [] [(a12.2.2.1 0), (a12.2.2.1 1), (a12.2.2.1 2), (a12.2.2.1 3)] [] []) (Or.inl rfl) rfl
                ·
                  exact V_zret 216 B rfl dX3_readLayer_216 (mkU [(a12.1 2), (a12.1 3), (a12.1 4), (u35.1 0), (u35.1 1), (u35.1 2), (a12.1 8), (u39.1 0), (u39.1 1), (a12.1 11)] [] [(a12.2.2.1 0), (a12.2.2.1 1), (a12.2.2.1 2), (a12.2.2.1 3)] [] []) (Or.inr rfl) rfl
              ·
                refine V_aload_n 189 B dX3_readLayer_189 4 rfl ?_
                refine V_get 190 B gf_RX3_15 10 rfl rfl dX3_readLayer_190 ?_
                refine V_get 193 B gf_RX3_168 0 rfl rfl dX3_readLayer_193 ?_
                refine V_get 196 B gf_RX3_172 1 rfl rfl dX3_readLayer_196 ?_
                refine V_iload_n 199 B dX3_readLayer_199 2 rfl ?_
                refine V_gvi 200 B envX EB (st := []) (As := [.int (u7.1 3)]) (fun sz => sX1_indexOf_1 l D Y h2 h3 (a12.1 2) (a12.2.2.1 0) (u7.1 3) sz) glV_RX3_186 ⟨rfl, rfl⟩ ⟨(Nat.le_of_ble_eq_true rfl), (Nat.le_of_ble_eq_true rfl)⟩ ⟨(Nat.le_of_ble_eq_true rfl), (Nat.le_of_ble_eq_true rfl)⟩ [2, 0] rfl 3 0 rfl rfl rfl rfl (Nat.le_of_ble_eq_true rfl) rfl (fun _ _ _ => rfl) dX3_readLayer_200 (fun j41 u42 w43 => ?_)
                refine V_ws [(h0, oC 2 [.ref g0, .ref g1, .ref g2, .ref g3, .ref g4, .ref g5, .ref g6, .ref g7, .ref g8, .ref h1, .ref g9, .int p0]), (h1, oC 4 [.ref h2, .ref h4, .ref h6, .int p1]), (h2, oC 3 [.ref h3, .int (a12.1 2)]), (h3, aI Y 4 (a12.2.2.1 0)), (h4, oC 3 [.ref h5, .int (a12.1 3)]), (h5, aI Y 4 (a12.2.2.1 1)), (h6, oC 3 [.ref h7, .int (a12.1 4)]), (h7, aI Y 104 (a12.2.2.1 2)), (h8, oC 8 [.ref h9, .int p5, .int (u35.1 0), .int (u35.1 1), .int (u35.1 2), .int (a12.1 8), .long p10, .int (u35.1 3), .int (u35.1 4)]), (h9, aB Y 1600 f3), (h10, oC 5 [.ref h8, .ref h0, .ref h11]), (h11, oC 3 [.ref h12, .int (a12.1 11)]), (h12, aI Y 26 (a12.2.2.1 3))] rfl ?_
                refine V_iconst 203 B (v := (-1)) dX3_readLayer_203 (by decide +kernel) ?_
                refine V_icmp_eq 204 B 217 dX3_readLayer_204 (by decide) (fun k44 => ?_) (fun k44 => ?_)
                ·
                  obtain rfl : j41 = (-1) := k44
                  refine V_aload_n 217 B dX3_readLayer_217 4 rfl ?_
                  refine V_get 218 B gf_RX3_15 10 rfl rfl dX3_readLayer_218 ?_
                  refine V_get 221 B gf_RX3_168 0 rfl rfl dX3_readLayer_221 ?_
                  refine V_iload_n 224 B dX3_readLayer_224 2 rfl ?_
                  refine V_aload_n 225 B dX3_readLayer_225 4 rfl ?_
                  refine V_get 226 B gf_RX3_24 10 rfl rfl dX3_readLayer_226 ?_
                  refine V_gvv 229 B envX EB (st := []) (As := [.int (u7.1 3), .ref h11]) (fun sz => sX2_appendLayer_1 l D Y h1 h2 h3 h4 h5 h6 h7 h11 h12 p1 (a12.1 2) (a12.2.2.1 0) (a12.1 3) (a12.2.2.1 1) (a12.1 4) (a12.2.2.1 2) (a12.1 11) (a12.2.2.1 3) (u7.1 3) sz) glV_RX3_189 ⟨rfl, rfl⟩ ⟨(Nat.le_of_ble_eq_true rfl), (Nat.le_of_ble_eq_true rfl)⟩ ⟨(Nat.le_of_ble_eq_true rfl), (Nat.le_of_ble_eq_true rfl)⟩ [1, 0, 0, 0, 0, 0, 0, 3, 0] rfl 4 0 rfl rfl rfl rfl (Nat.le_of_ble_eq_true rfl) rfl (fun _ _ => rfl) dX3_readLayer_229 (fun u46 w47 => ?_)
                  refine V_ws [(h0, oC 2 [.ref g0, .ref g1, .ref g2, .ref g3, .ref g4, .ref g5, .ref g6, .ref g7, .ref g8, .ref h1, .ref g9, .int p0]), (h1, oC 4 [.ref h2, .ref h4, .ref h6, .int p1]), (h2, oC 3 [.ref h3, .int (u46.1 0)]), (h3, aI Y 4 (u46.2.2.1 0)), (h4, oC 3 [.ref h5, .int (u46.1 1)]), (h5, aI Y 4 (u46.2.2.1 1)), (h6, oC 3 [.ref h7, .int (u46.1 2)]), (h7, aI Y 104 (u46.2.2.1 2)), (h8, oC 8 [.ref h9, .int p5, .int (u35.1 0), .int (u35.1 1), .int (u35.1 2), .int (a12.1 8), .long p10, .int (u35.1 3), .int (u35.1 4)]), (h9, aB Y 1600 f3), (h10, oC 5 [.ref h8, .ref h0, .ref h11]), (h11, oC 3 [.ref h12, .int (a12.1 11)]), (h12, aI Y 26 (a12.2.2.1 3))] rfl ?_
                  refine V_iconst 232 B (v := 1) dX3_readLayer_232 (by decide +kernel) ?_
                  exact V_zret 233 B rfl dX3_readLayer_233 (mkU [(u46.1 0), (u46.1 1), (u46.1 2), (u35.1 0), (u35.1 1), (u35.1 2), (a12.1 8), (u35.1 3), (u35.1 4), (a12.1 11)] [] [(u46.2.2.1 0), (u46.2.2.1 1), (u46.2.2.1 2), (a12.2.2.1 3)] [] []) (Or.inr rfl) rfl
                ·
                  refine V_aload_n 207 B dX3_readLayer_207 4 rfl ?_
                  refine V_get 208 B gf_RX3_9 10 rfl rfl dX3_readLayer_208 ?_
                  refine V_iconst 211 B (v := 4) dX3_readLayer_211 (by decide +kernel) ?_
                  refine V_iload_n 212 B dX3_readLayer_212 3 rfl ?_
                  refine V_gvi 213 B envX EB (st := []) (As := [.int 4, .int p7]) (fun sz => sX7_fail_1 l D Y h8 h9 p5 (u35.1 0) (u35.1 1) (u35.1 2) (a12.1 8) p10 (u35.1 3) (u35.1 4) 4 p7 sz) glV_RX3_63 ⟨rfl, rfl⟩ ⟨(Nat.le_of_ble_eq_true rfl), (Nat.le_of_ble_eq_true rfl)⟩ ⟨(Nat.le_of_ble_eq_true rfl), (Nat.le_of_ble_eq_true rfl)⟩ [8] rfl 8 0 rfl rfl rfl rfl (Nat.le_of_ble_eq_true rfl) rfl (fun _ _ _ => rfl) dX3_readLayer_213 (fun j48 u49 w50 => ?_)
                  refine V_ws [(h0, oC 2 [.ref g0, .ref g1, .ref g2, .ref g3, .ref g4, .ref g5, .ref g6, .ref g7, .ref g8, .ref h1, .ref g9, .int p0]), (h1, oC 4 [.ref h2, .ref h4, .ref h6, .int p1]), (h2, oC 3 [.ref h3, .int (a12.1 2)]), (h3, aI Y 4 (a12.2.2.1 0)), (h4, oC 3 [.ref h5, .int (a12.1 3)]), (h5, aI Y 4 (a12.2.2.1 1)), (h6, oC 3 [.ref h7, .int (a12.1 4)]), (h7, aI Y 104 (a12.2.2.1 2)), (h8, oC 8 [.ref h9, .int p5, .int (u35.1 0), .int (u35.1 1), .int (u35.1 2), .int (a12.1 8), .long p10, .int (u49.1 0), .int (u49.1 1)]), (h9, aB Y 1600 f3), (h10, oC 5 [.ref h8, .ref h0, .ref h11]), (h11, oC 3 [.ref h12, .int (a12.1 11)]), (h12, aI Y 26 (a12.2.2.1 3))] rfl ?_
                  rcases w50 with rfl | rfl
                  ·
                    exact V_zret 216 B rfl dX3_readLayer_216 (mkU [(a12.1 2), (a12.1 3), (a12.1 4), (u35.1 0), (u35.1 1), (u35.1 2), (a12.1 8), (u49.1 0), (u49.1 1), (a12.1 11)] [] [(a12.2.2.1 0), (a12.2.2.1 1), (a12.2.2.1 2), (a12.2.2.1 3)] [] []) (Or.inl rfl) rfl
                  ·
                    exact V_zret 216 B rfl dX3_readLayer_216 (mkU [(a12.1 2), (a12.1 3), (a12.1 4), (u35.1 0), (u35.1 1), (u35.1 2), (a12.1 8), (u49.1 0), (u49.1 1), (a12.1 11)] [] [(a12.2.2.1 0), (a12.2.2.1 1), (a12.2.2.1 2), (a12.2.2.1 3)] [] []) (Or.inr rfl) rfl
          ·
            refine V_aload_n 95 B dX3_readLayer_95 4 rfl ?_
            refine V_get 96 B gf_RX3_9 10 rfl rfl dX3_readLayer_96 ?_
            refine V_gvi 99 B envX EB (st := []) (As := []) (fun sz => sX7_takeKey_1 l D Y h8 h9 p5 (a12.1 5) (a12.1 6) (a12.1 7) (a12.1 8) p10 (a12.1 9) (a12.1 10) f3 sz) glV_RX3_177 ⟨rfl, rfl⟩ ⟨(Nat.le_of_ble_eq_true rfl), (Nat.le_of_ble_eq_true rfl)⟩ ⟨(Nat.le_of_ble_eq_true rfl), (Nat.le_of_ble_eq_true rfl)⟩ [8, 0] rfl 8 0 rfl rfl rfl rfl (Nat.le_of_ble_eq_true rfl) rfl (fun _ _ _ => rfl) dX3_readLayer_99 (fun j51 u52 w53 => ?_)
            refine V_ws [(h0, oC 2 [.ref g0, .ref g1, .ref g2, .ref g3, .ref g4, .ref g5, .ref g6, .ref g7, .ref g8, .ref h1, .ref g9, .int p0]), (h1, oC 4 [.ref h2, .ref h4, .ref h6, .int p1]), (h2, oC 3 [.ref h3, .int (a12.1 2)]), (h3, aI Y 4 (a12.2.2.1 0)), (h4, oC 3 [.ref h5, .int (a12.1 3)]), (h5, aI Y 4 (a12.2.2.1 1)), (h6, oC 3 [.ref h7, .int (a12.1 4)]), (h7, aI Y 104 (a12.2.2.1 2)), (h8, oC 8 [.ref h9, .int p5, .int (u52.1 0), .int (u52.1 1), .int (u52.1 2), .int (u52.1 3), .long p10, .int (u52.1 4), .int (u52.1 5)]), (h9, aB Y 1600 f3), (h10, oC 5 [.ref h8, .ref h0, .ref h11]), (h11, oC 3 [.ref h12, .int (a12.1 11)]), (h12, aI Y 26 (a12.2.2.1 3))] rfl ?_
            rcases w53 with rfl | rfl
            ·
              refine V_if_ne_f 102 B 107 dX3_readLayer_102 (by decide) (by decide +kernel) ?_
              refine V_iconst 105 B (v := 0) dX3_readLayer_105 (by decide +kernel) ?_
              exact V_zret 106 B rfl dX3_readLayer_106 (mkU [(a12.1 2), (a12.1 3), (a12.1 4), (u52.1 0), (u52.1 1), (u52.1 2), (u52.1 3), (u52.1 4), (u52.1 5), (a12.1 11)] [] [(a12.2.2.1 0), (a12.2.2.1 1), (a12.2.2.1 2), (a12.2.2.1 3)] [] []) (Or.inl rfl) rfl
            ·
              refine V_if_ne_t 102 B 107 dX3_readLayer_102 (by decide) (by decide +kernel) ?_
              refine V_aload_n 107 B dX3_readLayer_107 4 rfl ?_
              refine V_get 108 B gf_RX3_9 10 rfl rfl dX3_readLayer_108 ?_
              refine V_get 111 B gf_RX3_121 8 rfl rfl dX3_readLayer_111 ?_
              refine V_istore 114 B (lv2 := [(5, .int (u52.1 3)), (4, .int (a12.1 0)), (3, .int (a12.1 1)), (2, .int (u7.1 3)), (1, .int p7), (0, .ref h10)]) dX3_readLayer_114 (by decide) rfl ?_
              refine V_aload_n 116 B dX3_readLayer_116 5 rfl ?_
              refine V_get 117 B gf_RX3_9 10 rfl rfl dX3_readLayer_117 ?_
              refine V_gvi 120 B envX EB (st := []) (As := []) (fun sz => sX7_takeKey_1 l D Y h8 h9 p5 (u52.1 0) (u52.1 1) (u52.1 2) (u52.1 3) p10 (u52.1 4) (u52.1 5) f3 sz) glV_RX3_177 ⟨rfl, rfl⟩ ⟨(Nat.le_of_ble_eq_true rfl), (Nat.le_of_ble_eq_true rfl)⟩ ⟨(Nat.le_of_ble_eq_true rfl), (Nat.le_of_ble_eq_true rfl)⟩ [8, 0] rfl 8 0 rfl rfl rfl rfl (Nat.le_of_ble_eq_true rfl) rfl (fun _ _ _ => rfl) dX3_readLayer_120 (fun j54 u55 w56 => ?_)
              refine V_ws [(h0, oC 2 [.ref g0, .ref g1, .ref g2, .ref g3, .ref g4, .ref g5, .ref g6, .ref g7, .ref g8, .ref h1, .ref g9, .int p0]), (h1, oC 4 [.ref h2, .ref h4, .ref h6, .int p1]), (h2, oC 3 [.ref h3, .int (a12.1 2)]), (h3, aI Y 4 (a12.2.2.1 0)), (h4, oC 3 [.ref h5, .int (a12.1 3)]), (h5, aI Y 4 (a12.2.2.1 1)), (h6, oC 3 [.ref h7, .int (a12.1 4)]), (h7, aI Y 104 (a12.2.2.1 2)), (h8, oC 8 [.ref h9, .int p5, .int (u55.1 0), .int (u55.1 1), .int (u55.1 2), .int (u55.1 3), .long p10, .int (u55.1 4), .int (u55.1 5)]), (h9, aB Y 1600 f3), (h10, oC 5 [.ref h8, .ref h0, .ref h11]), (h11, oC 3 [.ref h12, .int (a12.1 11)]), (h12, aI Y 26 (a12.2.2.1 3))] rfl ?_
              rcases w56 with rfl | rfl
              ·
                refine V_if_ne_f 123 B 128 dX3_readLayer_123 (by decide) (by decide +kernel) ?_
                refine V_iconst 126 B (v := 0) dX3_readLayer_126 (by decide +kernel) ?_
                exact V_zret 127 B rfl dX3_readLayer_127 (mkU [(a12.1 2), (a12.1 3), (a12.1 4), (u55.1 0), (u55.1 1), (u55.1 2), (u55.1 3), (u55.1 4), (u55.1 5), (a12.1 11)] [] [(a12.2.2.1 0), (a12.2.2.1 1), (a12.2.2.1 2), (a12.2.2.1 3)] [] []) (Or.inl rfl) rfl
              ·
                refine V_if_ne_t 123 B 128 dX3_readLayer_123 (by decide) (by decide +kernel) ?_
                refine V_iload_n 128 B dX3_readLayer_128 2 rfl ?_
                refine V_if_ne 129 B 145 dX3_readLayer_129 (by decide) (fun k57 => ?_) (fun k57 => ?_)
                ·
                  refine V_iconst 145 B (v := 1) dX3_readLayer_145 (by decide +kernel) ?_
                  refine V_goto 146 B 150 dX3_readLayer_146 (by decide) ?_
                  refine V_istore_n 150 B (lv2 := [(3, .int 1), (5, .int (u52.1 3)), (4, .int (a12.1 0)), (2, .int (u7.1 3)), (1, .int p7), (0, .ref h10)]) dX3_readLayer_150 (by decide) rfl ?_
                  refine V_aload_n 151 B dX3_readLayer_151 5 rfl ?_
                  refine V_get 152 B gf_RX3_24 10 rfl rfl dX3_readLayer_152 ?_
                  refine V_iload 155 B dX3_readLayer_155 1 rfl ?_
                  refine V_aload_n 157 B dX3_readLayer_157 5 rfl ?_
                  refine V_get 158 B gf_RX3_9 10 rfl rfl dX3_readLayer_158 ?_
                  refine V_get 161 B gf_RX3_121 8 rfl rfl dX3_readLayer_161 ?_
                  refine V_gvv 164 B envX EB (st := []) (As := [.int (u52.1 3), .int (u55.1 3)]) (fun sz => sX1_put_1 l D Y h11 h12 (a12.1 11) (a12.2.2.1 3) (u52.1 3) (u55.1 3) sz) glV_RX3_183 ⟨rfl, rfl⟩ ⟨(Nat.le_of_ble_eq_true rfl), (Nat.le_of_ble_eq_true rfl)⟩ ⟨(Nat.le_of_ble_eq_true rfl), (Nat.le_of_ble_eq_true rfl)⟩ [11, 0] rfl 3 0 rfl rfl rfl rfl (Nat.le_of_ble_eq_true rfl) rfl (fun _ _ => rfl) dX3_readLayer_164 (fun u59 w60 => ?_)
                  refine V_ws [(h0, oC 2 [.ref g0, .ref g1, .ref g2, .ref g3, .ref g4, .ref g5, .ref g6, .ref g7, .ref g8, .ref h1, .ref g9, .int p0]), (h1, oC 4 [.ref h2, .ref h4, .ref h6, .int p1]), (h2, oC 3 [.ref h3, .int (a12.1 2)]), (h3, aI Y 4 (a12.2.2.1 0)), (h4, oC 3 [.ref h5, .int (a12.1 3)]), (h5, aI Y 4 (a12.2.2.1 1)), (h6, oC 3 [.ref h7, .int (a12.1 4)]), (h7, aI Y 104 (a12.2.2.1 2)), (h8, oC 8 [.ref h9, .int p5, .int (u55.1 0), .int (u55.1 1), .int (u55.1 2), .int (u55.1 3), .long p10, .int (u55.1 4), .int (u55.1 5)]), (h9, aB Y 1600 f3), (h10, oC 5 [.ref h8, .ref h0, .ref h11]), (h11, oC 3 [.ref h12, .int (a12.1 11)]), (h12, aI Y 26 (u59.2.2.1 0))] rfl ?_
                  refine V_iinc 167 B (v := ((a12.1 0) + Int32.ofInt 1)) (lv2 := [(4, .int ((a12.1 0) + Int32.ofInt 1)), (3, .int 1), (5, .int (u52.1 3)), (2, .int (u7.1 3)), (1, .int p7), (0, .ref h10)]) dX3_readLayer_167 2 rfl rfl (by decide) rfl ?_
                  refine V_goto 170 B 76 dX3_readLayer_170 (by decide) ?_
                  refine V_lv [(4, .int ((a12.1 0) + Int32.ofInt 1)), (3, .int 1), (2, .int (u7.1 3)), (1, .int p7), (0, .ref h10)] [0, 1, 3, 4, 5] rfl ?_
                  exact IH13 (mkU [((a12.1 0) + Int32.ofInt 1), 1, (a12.1 2), (a12.1 3), (a12.1 4), (u55.1 0), (u55.1 1), (u55.1 2), (u55.1 3), (u55.1 4), (u55.1 5), (a12.1 11)] [] [(a12.2.2.1 0), (a12.2.2.1 1), (a12.2.2.1 2), (u59.2.2.1 0)] [] []) (Int.le_trans (by decide) (o_add_lo (c := Int32.ofInt 1) hI14 (b_nge k15 (n := 1599) (by decide +kernel)) (by decide +kernel) (by decide +kernel) (k := 1) (by decide +kernel))) (up_dec (x := (a12.1 0)) (c := Int32.ofInt 1) (by decide +kernel) hI14 (Int.le_trans (b_nge k15 (n := 1599) (by decide +kernel)) (by decide)) (by decide))
                ·
                  refine V_aload_n 132 B dX3_readLayer_132 5 rfl ?_
                  refine V_get 133 B gf_RX3_24 10 rfl rfl dX3_readLayer_133 ?_
                  refine V_iload 136 B dX3_readLayer_136 0 rfl ?_
                  refine V_gvi 138 B envX EB (st := []) (As := [.int (u52.1 3)]) (fun sz => sX1_at_2 l D Y h11 h12 (a12.1 11) (a12.2.2.1 3) (u52.1 3) sz) glV_RX3_53 ⟨rfl, rfl⟩ ⟨(Nat.le_of_ble_eq_true rfl), (Nat.le_of_ble_eq_true rfl)⟩ ⟨(Nat.le_of_ble_eq_true rfl), (Nat.le_of_ble_eq_true rfl)⟩ [11, 0] rfl 3 0 rfl rfl rfl rfl (Nat.le_of_ble_eq_true rfl) rfl (fun _ _ _ => rfl) dX3_readLayer_138 (fun j61 u62 w63 => ?_)
                  refine V_ws [(h0, oC 2 [.ref g0, .ref g1, .ref g2, .ref g3, .ref g4, .ref g5, .ref g6, .ref g7, .ref g8, .ref h1, .ref g9, .int p0]), (h1, oC 4 [.ref h2, .ref h4, .ref h6, .int p1]), (h2, oC 3 [.ref h3, .int (a12.1 2)]), (h3, aI Y 4 (a12.2.2.1 0)), (h4, oC 3 [.ref h5, .int (a12.1 3)]), (h5, aI Y 4 (a12.2.2.1 1)), (h6, oC 3 [.ref h7, .int (a12.1 4)]), (h7, aI Y 104 (a12.2.2.1 2)), (h8, oC 8 [.ref h9, .int p5, .int (u55.1 0), .int (u55.1 1), .int (u55.1 2), .int (u55.1 3), .long p10, .int (u55.1 4), .int (u55.1 5)]), (h9, aB Y 1600 f3), (h10, oC 5 [.ref h8, .ref h0, .ref h11]), (h11, oC 3 [.ref h12, .int (a12.1 11)]), (h12, aI Y 26 (a12.2.2.1 3))] rfl ?_
                  refine V_iconst 141 B (v := (-1)) dX3_readLayer_141 (by decide +kernel) ?_
                  refine V_icmp_eq 142 B 149 dX3_readLayer_142 (by decide) (fun k64 => ?_) (fun k64 => ?_)
                  ·
                    obtain rfl : j61 = (-1) := k64
                    refine V_iconst 149 B (v := 0) dX3_readLayer_149 (by decide +kernel) ?_
                    refine V_istore_n 150 B (lv2 := [(3, .int 0), (5, .int (u52.1 3)), (4, .int (a12.1 0)), (2, .int (u7.1 3)), (1, .int p7), (0, .ref h10)]) dX3_readLayer_150 (by decide) rfl ?_
                    refine V_aload_n 151 B dX3_readLayer_151 5 rfl ?_
                    refine V_get 152 B gf_RX3_24 10 rfl rfl dX3_readLayer_152 ?_
                    refine V_iload 155 B dX3_readLayer_155 1 rfl ?_
                    refine V_aload_n 157 B dX3_readLayer_157 5 rfl ?_
                    refine V_get 158 B gf_RX3_9 10 rfl rfl dX3_readLayer_158 ?_
                    refine V_get 161 B gf_RX3_121 8 rfl rfl dX3_readLayer_161 ?_
                    refine V_gvv 164 B envX EB (st := []) (As := [.int (u52.1 3), .int (u55.1 3)]) (fun sz => sX1_put_1 l D Y h11 h12 (a12.1 11) (a12.2.2.1 3) (u52.1 3) (u55.1 3) sz) glV_RX3_183 ⟨rfl, rfl⟩ ⟨(Nat.le_of_ble_eq_true rfl), (Nat.le_of_ble_eq_true rfl)⟩ ⟨(Nat.le_of_ble_eq_true rfl), (Nat.le_of_ble_eq_true rfl)⟩ [11, 0] rfl 3 0 rfl rfl rfl rfl (Nat.le_of_ble_eq_true rfl) rfl (fun _ _ => rfl) dX3_readLayer_164 (fun u66 w67 => ?_)
                    refine V_ws [(h0, oC 2 [.ref g0, .ref g1, .ref g2, .ref g3, .ref g4, .ref g5, .ref g6, .ref g7, .ref g8, .ref h1, .ref g9, .int p0]), (h1, oC 4 [.ref h2, .ref h4, .ref h6, .int p1]), (h2, oC 3 [.ref h3, .int (a12.1 2)]), (h3, aI Y 4 (a12.2.2.1 0)), (h4, oC 3 [.ref h5, .int (a12.1 3)]), (h5, aI Y 4 (a12.2.2.1 1)), (h6, oC 3 [.ref h7, .int (a12.1 4)]), (h7, aI Y 104 (a12.2.2.1 2)), (h8, oC 8 [.ref h9, .int p5, .int (u55.1 0), .int (u55.1 1), .int (u55.1 2), .int (u55.1 3), .long p10, .int (u55.1 4), .int (u55.1 5)]), (h9, aB Y 1600 f3), (h10, oC 5 [.ref h8, .ref h0, .ref h11]), (h11, oC 3 [.ref h12, .int (a12.1 11)]), (h12, aI Y 26 (u66.2.2.1 0))] rfl ?_
                    refine V_iinc 167 B (v := ((a12.1 0) + Int32.ofInt 1)) (lv2 := [(4, .int ((a12.1 0) + Int32.ofInt 1)), (3, .int 0), (5, .int (u52.1 3)), (2, .int (u7.1 3)), (1, .int p7), (0, .ref h10)]) dX3_readLayer_167 2 rfl rfl (by decide) rfl ?_
                    refine V_goto 170 B 76 dX3_readLayer_170 (by decide) ?_
                    refine V_lv [(4, .int ((a12.1 0) + Int32.ofInt 1)), (3, .int 0), (2, .int (u7.1 3)), (1, .int p7), (0, .ref h10)] [0, 1, 3, 4, 5] rfl ?_
                    exact IH13 (mkU [((a12.1 0) + Int32.ofInt 1), 0, (a12.1 2), (a12.1 3), (a12.1 4), (u55.1 0), (u55.1 1), (u55.1 2), (u55.1 3), (u55.1 4), (u55.1 5), (a12.1 11)] [] [(a12.2.2.1 0), (a12.2.2.1 1), (a12.2.2.1 2), (u66.2.2.1 0)] [] []) (Int.le_trans (by decide) (o_add_lo (c := Int32.ofInt 1) hI14 (b_nge k15 (n := 1599) (by decide +kernel)) (by decide +kernel) (by decide +kernel) (k := 1) (by decide +kernel))) (up_dec (x := (a12.1 0)) (c := Int32.ofInt 1) (by decide +kernel) hI14 (Int.le_trans (b_nge k15 (n := 1599) (by decide +kernel)) (by decide)) (by decide))
                  ·
                    refine V_iconst 145 B (v := 1) dX3_readLayer_145 (by decide +kernel) ?_
                    refine V_goto 146 B 150 dX3_readLayer_146 (by decide) ?_
                    refine V_istore_n 150 B (lv2 := [(3, .int 1), (5, .int (u52.1 3)), (4, .int (a12.1 0)), (2, .int (u7.1 3)), (1, .int p7), (0, .ref h10)]) dX3_readLayer_150 (by decide) rfl ?_
                    refine V_aload_n 151 B dX3_readLayer_151 5 rfl ?_
                    refine V_get 152 B gf_RX3_24 10 rfl rfl dX3_readLayer_152 ?_
                    refine V_iload 155 B dX3_readLayer_155 1 rfl ?_
                    refine V_aload_n 157 B dX3_readLayer_157 5 rfl ?_
                    refine V_get 158 B gf_RX3_9 10 rfl rfl dX3_readLayer_158 ?_
                    refine V_get 161 B gf_RX3_121 8 rfl rfl dX3_readLayer_161 ?_
                    refine V_gvv 164 B envX EB (st := []) (As := [.int (u52.1 3), .int (u55.1 3)]) (fun sz => sX1_put_1 l D Y h11 h12 (a12.1 11) (a12.2.2.1 3) (u52.1 3) (u55.1 3) sz) glV_RX3_183 ⟨rfl, rfl⟩ ⟨(Nat.le_of_ble_eq_true rfl), (Nat.le_of_ble_eq_true rfl)⟩ ⟨(Nat.le_of_ble_eq_true rfl), (Nat.le_of_ble_eq_true rfl)⟩ [11, 0] rfl 3 0 rfl rfl rfl rfl (Nat.le_of_ble_eq_true rfl) rfl (fun _ _ => rfl) dX3_readLayer_164 (fun u69 w70 => ?_)
                    refine V_ws [(h0, oC 2 [.ref g0, .ref g1, .ref g2, .ref g3, .ref g4, .ref g5, .ref g6, .ref g7, .ref g8, .ref h1, .ref g9, .int p0]), (h1, oC 4 [.ref h2, .ref h4, .ref h6, .int p1]), (h2, oC 3 [.ref h3, .int (a12.1 2)]), (h3, aI Y 4 (a12.2.2.1 0)), (h4, oC 3 [.ref h5, .int (a12.1 3)]), (h5, aI Y 4 (a12.2.2.1 1)), (h6, oC 3 [.ref h7, .int (a12.1 4)]), (h7, aI Y 104 (a12.2.2.1 2)), (h8, oC 8 [.ref h9, .int p5, .int (u55.1 0), .int (u55.1 1), .int (u55.1 2), .int (u55.1 3), .long p10, .int (u55.1 4), .int (u55.1 5)]), (h9, aB Y 1600 f3), (h10, oC 5 [.ref h8, .ref h0, .ref h11]), (h11, oC 3 [.ref h12, .int (a12.1 11)]), (h12, aI Y 26 (u69.2.2.1 0))] rfl ?_
                    refine V_iinc 167 B (v := ((a12.1 0) + Int32.ofInt 1)) (lv2 := [(4, .int ((a12.1 0) + Int32.ofInt 1)), (3, .int 1), (5, .int (u52.1 3)), (2, .int (u7.1 3)), (1, .int p7), (0, .ref h10)]) dX3_readLayer_167 2 rfl rfl (by decide) rfl ?_
                    refine V_goto 170 B 76 dX3_readLayer_170 (by decide) ?_
                    refine V_lv [(4, .int ((a12.1 0) + Int32.ofInt 1)), (3, .int 1), (2, .int (u7.1 3)), (1, .int p7), (0, .ref h10)] [0, 1, 3, 4, 5] rfl ?_
                    exact IH13 (mkU [((a12.1 0) + Int32.ofInt 1), 1, (a12.1 2), (a12.1 3), (a12.1 4), (u55.1 0), (u55.1 1), (u55.1 2), (u55.1 3), (u55.1 4), (u55.1 5), (a12.1 11)] [] [(a12.2.2.1 0), (a12.2.2.1 1), (a12.2.2.1 2), (u69.2.2.1 0)] [] []) (Int.le_trans (by decide) (o_add_lo (c := Int32.ofInt 1) hI14 (b_nge k15 (n := 1599) (by decide +kernel)) (by decide +kernel) (by decide +kernel) (k := 1) (by decide +kernel))) (up_dec (x := (a12.1 0)) (c := Int32.ofInt 1) (by decide +kernel) hI14 (Int.le_trans (b_nge k15 (n := 1599) (by decide +kernel)) (by decide)) (by decide))
    ·
      refine V_if_eq_f 21 B 34 dX3_readLayer_21 (by decide) (by decide +kernel) ?_
      refine V_aload_n 24 B dX3_readLayer_24 1 rfl ?_
      refine V_get 25 B gf_RX3_9 10 rfl rfl dX3_readLayer_25 ?_
      refine V_iconst 28 B (v := 3) dX3_readLayer_28 (by decide +kernel) ?_
      refine V_iload_n 29 B dX3_readLayer_29 0 rfl ?_
      refine V_gvi 30 B envX EB (st := []) (As := [.int 3, .int p7]) (fun sz => sX7_fail_1 l D Y h8 h9 p5 p6 p7 p8 p9 p10 p11 p12 3 p7 sz) glV_RX3_63 ⟨rfl, rfl⟩ ⟨(Nat.le_of_ble_eq_true rfl), (Nat.le_of_ble_eq_true rfl)⟩ ⟨(Nat.le_of_ble_eq_true rfl), (Nat.le_of_ble_eq_true rfl)⟩ [8] rfl 8 0 rfl rfl rfl rfl (Nat.le_of_ble_eq_true rfl) rfl (fun _ _ _ => rfl) dX3_readLayer_30 (fun j71 u72 w73 => ?_)
      refine V_ws [(h0, oC 2 [.ref g0, .ref g1, .ref g2, .ref g3, .ref g4, .ref g5, .ref g6, .ref g7, .ref g8, .ref h1, .ref g9, .int p0]), (h1, oC 4 [.ref h2, .ref h4, .ref h6, .int p1]), (h2, oC 3 [.ref h3, .int p2]), (h3, aI Y 4 f0), (h4, oC 3 [.ref h5, .int p3]), (h5, aI Y 4 f1), (h6, oC 3 [.ref h7, .int p4]), (h7, aI Y 104 f2), (h8, oC 8 [.ref h9, .int p5, .int p6, .int p7, .int p8, .int p9, .long p10, .int (u72.1 0), .int (u72.1 1)]), (h9, aB Y 1600 f3), (h10, oC 5 [.ref h8, .ref h0, .ref h11]), (h11, oC 3 [.ref h12, .int p13]), (h12, aI Y 26 f4)] rfl ?_
      rcases w73 with rfl | rfl
      ·
        exact V_zret 33 B rfl dX3_readLayer_33 (mkU [p2, p3, p4, p6, p7, p8, p9, (u72.1 0), (u72.1 1), p13] [] [f0, f1, f2, f4] [] []) (Or.inl rfl) rfl
      ·
        exact V_zret 33 B rfl dX3_readLayer_33 (mkU [p2, p3, p4, p6, p7, p8, p9, (u72.1 0), (u72.1 1), p13] [] [f0, f1, f2, f4] [] []) (Or.inr rfl) rfl)
theorem glV_RX3_98 : GLV RX3 98 yX3_readLayer RX3 cX3_readLayer 6 (some .boolean) 0 := ⟨⟨(mT3 148 rfl rfl), (mT3 150 rfl rfl), (mTs 9 rfl rfl), (mT1 11 rfl rfl), (mT3 151 rfl rfl)⟩, by decide +kernel⟩
theorem dX3_readStatement_121 : decode cX3_readStatement 121 = .ok (.ireturn, 1) := by decide +kernel
theorem dX3_readStatement_100 : decode cX3_readStatement 100 = .ok (.aload_n 0, 1) := by decide +kernel
theorem dX3_readStatement_101 : decode cX3_readStatement 101 = .ok (.invokevirtual 93, 3) := by decide +kernel
theorem dX3_readBinding_0 : decode cX3_readBinding 0 = .ok (.aload_n 0, 1) := by decide +kernel
theorem dX3_readBinding_1 : decode cX3_readBinding 1 = .ok (.getfield 9, 3) := by decide +kernel
theorem dX3_readBinding_4 : decode cX3_readBinding 4 = .ok (.getfield 106, 3) := by decide +kernel
theorem dX3_readBinding_7 : decode cX3_readBinding 7 = .ok (.istore_n 1, 1) := by decide +kernel
theorem dX3_readBinding_8 : decode cX3_readBinding 8 = .ok (.aload_n 0, 1) := by decide +kernel
theorem dX3_readBinding_9 : decode cX3_readBinding 9 = .ok (.getfield 15, 3) := by decide +kernel
theorem dX3_readBinding_12 : decode cX3_readBinding 12 = .ok (.getfield 157, 3) := by decide +kernel
theorem gf_RX3_157 : GF RX3 157 2 5 := ⟨RX0, TX0, 12, rfl, inw_X0, Nat.le_of_ble_eq_true rfl, (mT1 181 rfl rfl)⟩
theorem dX3_readBinding_15 : decode cX3_readBinding 15 = .ok (.invokevirtual 109, 3) := by decide +kernel
set_option maxRecDepth 100000 in
set_option maxHeartbeats 4000000 in
theorem sX1_isFull_2 (l : Launch) (D : va_G) (Y : Nat → ClassId) (h0 : Nat) (h1 : Nat) (p0 : Int32) (f0 : Nat → Int32) (sz : Nat) : Met l yX1_isFull (WSm yX1_isFull cX1_isFull 1 (some .boolean)) (mkR 0 0 0 0) (PreG EX D Y [.ref h0] [(h0, oC 3 [.ref h1, .int p0]), (h1, aI Y 80 f0)] sz) (QI D (fun (r : Int32) (_ : UU) => r = 0 ∨ r = 1) (fun (u : UU) => [(h0, oC 3 [.ref h1, .int p0]), (h1, aI Y 80 f0)]) (va_A [(h0, oC 3 [.ref h1, .int p0]), (h1, aI Y 80 f0)] sz)) 0 0 (va_A [(h0, oC 3 [.ref h1, .int p0]), (h1, aI Y 80 f0)] sz) :=
  gmet_of (by decide +kernel) (Nat.le_of_ble_eq_true rfl) (fun p e s m args below meth c B EB hsz => by
    have B : VB p s m args meth c D Y (va_A [(h0, oC 3 [.ref h1, .int p0]), (h1, aI Y 80 f0)] sz) cX1_isFull 1 RX1 (some .boolean) := B
    refine V_aload_n 0 B dX1_isFull_0 0 rfl ?_
    refine V_get 1 B gf_RX1_21 0 rfl rfl dX1_isFull_1 ?_
    refine V_aload_n 4 B dX1_isFull_4 0 rfl ?_
    refine V_get 5 B gf_RX1_15 0 rfl rfl dX1_isFull_5 ?_
    refine V_alenI 8 B (v := 80) 1 rfl (by decide +kernel) dX1_isFull_8 ?_
    refine V_icmp_lt 9 B 16 dX1_isFull_9 (by decide) (fun k0 => ?_) (fun k0 => ?_)
    ·
      refine V_iconst 16 B (v := 0) dX1_isFull_16 (by decide +kernel) ?_
      exact V_zret 17 B rfl dX1_isFull_17 (mkU [] [] [] [] []) (Or.inl rfl) rfl
    ·
      refine V_iconst 12 B (v := 1) dX1_isFull_12 (by decide +kernel) ?_
      refine V_goto 13 B 17 dX1_isFull_13 (by decide) ?_
      exact V_zret 17 B rfl dX1_isFull_17 (mkU [] [] [] [] []) (Or.inr rfl) rfl)
theorem dX3_readBinding_18 : decode cX3_readBinding 18 = .ok (.ifCond .eq 13, 3) := by decide +kernel
theorem dX3_readBinding_31 : decode cX3_readBinding 31 = .ok (.aload_n 0, 1) := by decide +kernel
theorem dX3_readBinding_32 : decode cX3_readBinding 32 = .ok (.getfield 9, 3) := by decide +kernel
theorem dX3_readBinding_35 : decode cX3_readBinding 35 = .ok (.invokevirtual 112, 3) := by decide +kernel
theorem dX3_readBinding_38 : decode cX3_readBinding 38 = .ok (.aload_n 0, 1) := by decide +kernel
theorem dX3_readBinding_39 : decode cX3_readBinding 39 = .ok (.getfield 9, 3) := by decide +kernel
theorem dX3_readBinding_42 : decode cX3_readBinding 42 = .ok (.aload_n 0, 1) := by decide +kernel
theorem dX3_readBinding_43 : decode cX3_readBinding 43 = .ok (.getfield 15, 3) := by decide +kernel
theorem dX3_readBinding_46 : decode cX3_readBinding 46 = .ok (.getfield 57, 3) := by decide +kernel
theorem dX3_readBinding_49 : decode cX3_readBinding 49 = .ok (.invokevirtual 49, 3) := by decide +kernel
theorem dX3_readBinding_52 : decode cX3_readBinding 52 = .ok (.invokevirtual 115, 3) := by decide +kernel
theorem dX3_readBinding_55 : decode cX3_readBinding 55 = .ok (.ifCond .ne 5, 3) := by decide +kernel
theorem dX3_readBinding_58 : decode cX3_readBinding 58 = .ok (.iconst 0, 1) := by decide +kernel
theorem dX3_readBinding_59 : decode cX3_readBinding 59 = .ok (.ireturn, 1) := by decide +kernel
theorem dX3_readBinding_60 : decode cX3_readBinding 60 = .ok (.aload_n 0, 1) := by decide +kernel
theorem dX3_readBinding_61 : decode cX3_readBinding 61 = .ok (.getfield 9, 3) := by decide +kernel
theorem dX3_readBinding_64 : decode cX3_readBinding 64 = .ok (.getfield 121, 3) := by decide +kernel
theorem dX3_readBinding_67 : decode cX3_readBinding 67 = .ok (.istore_n 2, 1) := by decide +kernel
theorem dX3_readBinding_68 : decode cX3_readBinding 68 = .ok (.aload_n 0, 1) := by decide +kernel
theorem dX3_readBinding_69 : decode cX3_readBinding 69 = .ok (.getfield 9, 3) := by decide +kernel
theorem dX3_readBinding_72 : decode cX3_readBinding 72 = .ok (.aload_n 0, 1) := by decide +kernel
theorem dX3_readBinding_73 : decode cX3_readBinding 73 = .ok (.getfield 15, 3) := by decide +kernel
theorem dX3_readBinding_76 : decode cX3_readBinding 76 = .ok (.getfield 127, 3) := by decide +kernel
theorem gf_RX3_127 : GF RX3 127 2 1 := ⟨RX0, TX0, 12, rfl, inw_X0, Nat.le_of_ble_eq_true rfl, (mT1 164 rfl rfl)⟩
theorem dX3_readBinding_79 : decode cX3_readBinding 79 = .ok (.invokevirtual 49, 3) := by decide +kernel
theorem dX3_readBinding_82 : decode cX3_readBinding 82 = .ok (.invokevirtual 115, 3) := by decide +kernel
theorem dX3_readBinding_85 : decode cX3_readBinding 85 = .ok (.ifCond .ne 5, 3) := by decide +kernel
theorem dX3_readBinding_88 : decode cX3_readBinding 88 = .ok (.iconst 0, 1) := by decide +kernel
theorem dX3_readBinding_89 : decode cX3_readBinding 89 = .ok (.ireturn, 1) := by decide +kernel
theorem dX3_readBinding_90 : decode cX3_readBinding 90 = .ok (.aload_n 0, 1) := by decide +kernel
theorem dX3_readBinding_91 : decode cX3_readBinding 91 = .ok (.getfield 9, 3) := by decide +kernel
theorem dX3_readBinding_94 : decode cX3_readBinding 94 = .ok (.getfield 121, 3) := by decide +kernel
theorem dX3_readBinding_97 : decode cX3_readBinding 97 = .ok (.istore_n 3, 1) := by decide +kernel
theorem dX3_readBinding_98 : decode cX3_readBinding 98 = .ok (.aload_n 0, 1) := by decide +kernel
theorem dX3_readBinding_99 : decode cX3_readBinding 99 = .ok (.getfield 9, 3) := by decide +kernel
theorem dX3_readBinding_102 : decode cX3_readBinding 102 = .ok (.invokevirtual 141, 3) := by decide +kernel
theorem dX7_takeSequence_0 : decode cX7_takeSequence 0 = .ok (.lconst 0, 1) := by decide +kernel
theorem dX7_takeSequence_1 : decode cX7_takeSequence 1 = .ok (.lstore_n 1, 1) := by decide +kernel
theorem dX7_takeSequence_2 : decode cX7_takeSequence 2 = .ok (.iconst 0, 1) := by decide +kernel
theorem dX7_takeSequence_3 : decode cX7_takeSequence 3 = .ok (.istore_n 3, 1) := by decide +kernel
theorem dX7_takeSequence_4 : decode cX7_takeSequence 4 = .ok (.iload_n 3, 1) := by decide +kernel
theorem dX7_takeSequence_5 : decode cX7_takeSequence 5 = .ok (.iconst 4, 1) := by decide +kernel
theorem dX7_takeSequence_6 : decode cX7_takeSequence 6 = .ok (.if_icmp .gt 69, 3) := by decide +kernel
theorem dX7_takeSequence_75 : decode cX7_takeSequence 75 = .ok (.aload_n 0, 1) := by decide +kernel
theorem dX7_takeSequence_76 : decode cX7_takeSequence 76 = .ok (.lload_n 1, 1) := by decide +kernel
theorem dX7_takeSequence_77 : decode cX7_takeSequence 77 = .ok (.putfield 72, 3) := by decide +kernel
theorem gp_RX7_72 : GP RX7 72 8 6 .long false := ⟨RX7, TX7, 9, ⟨rfl, inw_X7, Nat.le_of_ble_eq_true rfl, (mT2 52 rfl rfl)⟩, ⟨tyX7, tyX7_ok⟩, nmX7, rfl, by decide +kernel, fun h => nomatch h⟩
theorem dX7_takeSequence_80 : decode cX7_takeSequence 80 = .ok (.aload_n 0, 1) := by decide +kernel
theorem dX7_takeSequence_81 : decode cX7_takeSequence 81 = .ok (.invokevirtual 76, 3) := by decide +kernel
theorem glV_RX7_76 : GLV RX7 76 yX7_takeSemicolon RX7 cX7_takeSemicolon 1 (some .boolean) 0 := ⟨⟨(mT3 102 rfl rfl), (mT3 56 rfl rfl), (mT3 57 rfl rfl), (mT1 10 rfl rfl), (mT3 58 rfl rfl)⟩, by decide +kernel⟩
theorem dX7_takeSequence_84 : decode cX7_takeSequence 84 = .ok (.ireturn, 1) := by decide +kernel
theorem dX7_takeSequence_9 : decode cX7_takeSequence 9 = .ok (.iload_n 3, 1) := by decide +kernel
theorem dX7_takeSequence_10 : decode cX7_takeSequence 10 = .ok (.ifCond .eq 11, 3) := by decide +kernel
theorem dX7_takeSequence_21 : decode cX7_takeSequence 21 = .ok (.aload_n 0, 1) := by decide +kernel
theorem dX7_takeSequence_22 : decode cX7_takeSequence 22 = .ok (.invokevirtual 65, 3) := by decide +kernel
theorem dX7_strokeOfWord_0 : decode cX7_strokeOfWord 0 = .ok (.aload_n 0, 1) := by decide +kernel
theorem dX7_strokeOfWord_1 : decode cX7_strokeOfWord 1 = .ok (.aload_n 0, 1) := by decide +kernel
theorem dX7_strokeOfWord_2 : decode cX7_strokeOfWord 2 = .ok (.getfield 25, 3) := by decide +kernel
theorem dX7_strokeOfWord_5 : decode cX7_strokeOfWord 5 = .ok (.iconst 1, 1) := by decide +kernel
theorem dX7_strokeOfWord_6 : decode cX7_strokeOfWord 6 = .ok (.isub, 1) := by decide +kernel
theorem dX7_strokeOfWord_7 : decode cX7_strokeOfWord 7 = .ok (.invokevirtual 60, 3) := by decide +kernel
theorem dX7_strokeOfWord_10 : decode cX7_strokeOfWord 10 = .ok (.istore_n 1, 1) := by decide +kernel
theorem dX7_strokeOfWord_11 : decode cX7_strokeOfWord 11 = .ok (.aload_n 0, 1) := by decide +kernel
theorem dX7_strokeOfWord_12 : decode cX7_strokeOfWord 12 = .ok (.getfield 38, 3) := by decide +kernel
theorem dX7_strokeOfWord_15 : decode cX7_strokeOfWord 15 = .ok (.iconst 1, 1) := by decide +kernel
theorem dX7_strokeOfWord_16 : decode cX7_strokeOfWord 16 = .ok (.if_icmp .ne 8, 3) := by decide +kernel
theorem dX7_strokeOfWord_24 : decode cX7_strokeOfWord 24 = .ok (.iconst (-1), 1) := by decide +kernel
theorem dX7_strokeOfWord_25 : decode cX7_strokeOfWord 25 = .ok (.ireturn, 1) := by decide +kernel
theorem dX7_strokeOfWord_19 : decode cX7_strokeOfWord 19 = .ok (.iload_n 1, 1) := by decide +kernel
theorem dX7_strokeOfWord_20 : decode cX7_strokeOfWord 20 = .ok (.iconst (-1), 1) := by decide +kernel
theorem dX7_strokeOfWord_21 : decode cX7_strokeOfWord 21 = .ok (.if_icmp .ne 5, 3) := by decide +kernel
theorem dX7_strokeOfWord_26 : decode cX7_strokeOfWord 26 = .ok (.iconst 0, 1) := by decide +kernel
theorem dX7_strokeOfWord_27 : decode cX7_strokeOfWord 27 = .ok (.istore_n 2, 1) := by decide +kernel
theorem dX7_strokeOfWord_28 : decode cX7_strokeOfWord 28 = .ok (.aload_n 0, 1) := by decide +kernel
theorem dX7_strokeOfWord_29 : decode cX7_strokeOfWord 29 = .ok (.getfield 31, 3) := by decide +kernel
theorem dX7_strokeOfWord_32 : decode cX7_strokeOfWord 32 = .ok (.istore_n 3, 1) := by decide +kernel
theorem dX7_strokeOfWord_33 : decode cX7_strokeOfWord 33 = .ok (.iload_n 3, 1) := by decide +kernel
theorem dX7_strokeOfWord_34 : decode cX7_strokeOfWord 34 = .ok (.aload_n 0, 1) := by decide +kernel
theorem dX7_strokeOfWord_35 : decode cX7_strokeOfWord 35 = .ok (.getfield 25, 3) := by decide +kernel
theorem dX7_strokeOfWord_38 : decode cX7_strokeOfWord 38 = .ok (.iconst 1, 1) := by decide +kernel
theorem dX7_strokeOfWord_39 : decode cX7_strokeOfWord 39 = .ok (.isub, 1) := by decide +kernel
theorem dX7_strokeOfWord_40 : decode cX7_strokeOfWord 40 = .ok (.if_icmp .ge 38, 3) := by decide +kernel
theorem dX7_strokeOfWord_78 : decode cX7_strokeOfWord 78 = .ok (.bipush 32, 2) := by decide +kernel
theorem dX7_strokeOfWord_80 : decode cX7_strokeOfWord 80 = .ok (.iload_n 2, 1) := by decide +kernel
theorem dX7_strokeOfWord_81 : decode cX7_strokeOfWord 81 = .ok (.imul, 1) := by decide +kernel
theorem dX7_strokeOfWord_82 : decode cX7_strokeOfWord 82 = .ok (.iload_n 1, 1) := by decide +kernel
theorem dX7_strokeOfWord_83 : decode cX7_strokeOfWord 83 = .ok (.iadd, 1) := by decide +kernel
theorem dX7_strokeOfWord_84 : decode cX7_strokeOfWord 84 = .ok (.ireturn, 1) := by decide +kernel
theorem dX7_strokeOfWord_43 : decode cX7_strokeOfWord 43 = .ok (.aload_n 0, 1) := by decide +kernel
theorem dX7_strokeOfWord_44 : decode cX7_strokeOfWord 44 = .ok (.iload_n 3, 1) := by decide +kernel
theorem dX7_strokeOfWord_45 : decode cX7_strokeOfWord 45 = .ok (.invokevirtual 34, 3) := by decide +kernel
theorem dX7_strokeOfWord_48 : decode cX7_strokeOfWord 48 = .ok (.invokestatic 80, 3) := by decide +kernel
theorem dX7_modifierOf_0 : decode cX7_modifierOf 0 = .ok (.iload_n 0, 1) := by decide +kernel
theorem dX7_modifierOf_1 : decode cX7_modifierOf 1 = .ok (.lookupswitch 52 #[(65, 47), (67, 43), (77, 49), (83, 45)], 43) := by decide +kernel
theorem dX7_modifierOf_48 : decode cX7_modifierOf 48 = .ok (.iconst 4, 1) := by decide +kernel
theorem dX7_modifierOf_49 : decode cX7_modifierOf 49 = .ok (.ireturn, 1) := by decide +kernel
theorem dX7_modifierOf_44 : decode cX7_modifierOf 44 = .ok (.iconst 1, 1) := by decide +kernel
theorem dX7_modifierOf_45 : decode cX7_modifierOf 45 = .ok (.ireturn, 1) := by decide +kernel
theorem dX7_modifierOf_50 : decode cX7_modifierOf 50 = .ok (.bipush 8, 2) := by decide +kernel
theorem dX7_modifierOf_52 : decode cX7_modifierOf 52 = .ok (.ireturn, 1) := by decide +kernel
theorem dX7_modifierOf_46 : decode cX7_modifierOf 46 = .ok (.iconst 2, 1) := by decide +kernel
theorem dX7_modifierOf_47 : decode cX7_modifierOf 47 = .ok (.ireturn, 1) := by decide +kernel
theorem dX7_modifierOf_53 : decode cX7_modifierOf 53 = .ok (.iconst 0, 1) := by decide +kernel
theorem dX7_modifierOf_54 : decode cX7_modifierOf 54 = .ok (.ireturn, 1) := by decide +kernel
set_option maxRecDepth 100000 in
set_option maxHeartbeats 4000000 in
theorem sX7_modifierOf_1 (l : Launch) (D : va_G) (Y : Nat → ClassId) (p0 : Int32) (sz : Nat) : Met l yX7_modifierOf (WSm yX7_modifierOf cX7_modifierOf 1 (some .int)) (mkR 0 0 0 0) (PreG EX D Y [.int p0] [] sz) (QI D (fun (_ : Int32) (_ : UU) => True) (fun (u : UU) => []) (va_A [] sz)) 0 0 (va_A [] sz) :=
  gmet_of (by decide +kernel) (Nat.le_of_ble_eq_true rfl) (fun p e s m args below meth c B EB hsz => by
    have B : VB p s m args meth c D Y (va_A [] sz) cX7_modifierOf 1 RX7 (some .int) := B
    refine V_iload_n 0 B dX7_modifierOf_0 0 rfl ?_
    by_cases k0 : p0 = 65
    ·
      refine V_eqi _ 65 k0 ?_
      refine V_lookup 1 B 48 dX7_modifierOf_1 (by decide +kernel) (off := 47) (by decide +kernel) (by decide) ?_
      refine V_iconst 48 B (v := 4) dX7_modifierOf_48 (by decide +kernel) ?_
      exact V_iret 49 B dX7_modifierOf_49 (mkU [] [] [] [] []) trivial rfl
    ·
      by_cases k1 : p0 = 67
      ·
        refine V_eqi _ 67 k1 ?_
        refine V_lookup 1 B 44 dX7_modifierOf_1 (by decide +kernel) (off := 43) (by decide +kernel) (by decide) ?_
        refine V_iconst 44 B (v := 1) dX7_modifierOf_44 (by decide +kernel) ?_
        exact V_iret 45 B dX7_modifierOf_45 (mkU [] [] [] [] []) trivial rfl
      ·
        by_cases k2 : p0 = 77
        ·
          refine V_eqi _ 77 k2 ?_
          refine V_lookup 1 B 50 dX7_modifierOf_1 (by decide +kernel) (off := 49) (by decide +kernel) (by decide) ?_
          refine V_bipush 50 B (v := 8) dX7_modifierOf_50 (by decide +kernel) ?_
          exact V_iret 52 B dX7_modifierOf_52 (mkU [] [] [] [] []) trivial rfl
        ·
          by_cases k3 : p0 = 83
          ·
            refine V_eqi _ 83 k3 ?_
            refine V_lookup 1 B 46 dX7_modifierOf_1 (by decide +kernel) (off := 45) (by decide +kernel) (by decide) ?_
            refine V_iconst 46 B (v := 2) dX7_modifierOf_46 (by decide +kernel) ?_
            exact V_iret 47 B dX7_modifierOf_47 (mkU [] [] [] [] []) trivial rfl
          ·
            refine V_lookup 1 B 53 dX7_modifierOf_1 (by decide +kernel) (lsw_out k0 k1 k2 k3) (by decide) ?_
            refine V_iconst 53 B (v := 0) dX7_modifierOf_53 (by decide +kernel) ?_
            exact V_iret 54 B dX7_modifierOf_54 (mkU [] [] [] [] []) trivial rfl)
theorem glS_RX7_80 : GLS RX7 80 yX7_modifierOf cX7_modifierOf 1 (some .int) 1 := ⟨⟨(mT3 92 rfl rfl), (mT3 93 rfl rfl), (mT1 10 rfl rfl), (mT3 94 rfl rfl)⟩, by decide +kernel⟩
theorem dX7_strokeOfWord_51 : decode cX7_strokeOfWord 51 = .ok (.istore 4, 2) := by decide +kernel
theorem dX7_strokeOfWord_53 : decode cX7_strokeOfWord 53 = .ok (.iload 4, 2) := by decide +kernel
theorem dX7_strokeOfWord_55 : decode cX7_strokeOfWord 55 = .ok (.ifCond .eq 10, 3) := by decide +kernel
theorem dX7_strokeOfWord_65 : decode cX7_strokeOfWord 65 = .ok (.iconst (-1), 1) := by decide +kernel
theorem dX7_strokeOfWord_66 : decode cX7_strokeOfWord 66 = .ok (.ireturn, 1) := by decide +kernel
theorem dX7_strokeOfWord_58 : decode cX7_strokeOfWord 58 = .ok (.iload_n 2, 1) := by decide +kernel
theorem dX7_strokeOfWord_59 : decode cX7_strokeOfWord 59 = .ok (.iload 4, 2) := by decide +kernel
theorem dX7_strokeOfWord_61 : decode cX7_strokeOfWord 61 = .ok (.iand, 1) := by decide +kernel
theorem dX7_strokeOfWord_62 : decode cX7_strokeOfWord 62 = .ok (.ifCond .eq 5, 3) := by decide +kernel
theorem dX7_strokeOfWord_67 : decode cX7_strokeOfWord 67 = .ok (.iload_n 2, 1) := by decide +kernel
theorem dX7_strokeOfWord_68 : decode cX7_strokeOfWord 68 = .ok (.iload 4, 2) := by decide +kernel
theorem dX7_strokeOfWord_70 : decode cX7_strokeOfWord 70 = .ok (.ior, 1) := by decide +kernel
theorem dX7_strokeOfWord_71 : decode cX7_strokeOfWord 71 = .ok (.istore_n 2, 1) := by decide +kernel
theorem dX7_strokeOfWord_72 : decode cX7_strokeOfWord 72 = .ok (.iinc 3 1, 3) := by decide +kernel
theorem dX7_strokeOfWord_75 : decode cX7_strokeOfWord 75 = .ok (.goto (-42), 3) := by decide +kernel
set_option maxRecDepth 100000 in
set_option maxHeartbeats 4000000 in
theorem sX7_strokeOfWord_1 (l : Launch) (D : va_G) (Y : Nat → ClassId) (h0 : Nat) (h1 : Nat) (p0 : Int32) (p1 : Int32) (p2 : Int32) (p3 : Int32) (p4 : Int32) (p5 : Int64) (p6 : Int32) (p7 : Int32) (f0 : Nat → Int32) (sz : Nat) : Met l yX7_strokeOfWord (WSm yX7_strokeOfWord cX7_strokeOfWord 5 (some .int)) (mkR 2 0 0 43) (PreG EX D Y [.ref h0] [(h0, oC 8 [.ref h1, .int p0, .int p1, .int p2, .int p3, .int p4, .long p5, .int p6, .int p7]), (h1, aB Y 1600 f0)] sz) (QI D (fun (_ : Int32) (_ : UU) => True) (fun (u : UU) => [(h0, oC 8 [.ref h1, .int p0, .int p1, .int p2, .int p3, .int p4, .long p5, .int p6, .int p7]), (h1, aB Y 1600 f0)]) (va_A [(h0, oC 8 [.ref h1, .int p0, .int p1, .int p2, .int p3, .int p4, .long p5, .int p6, .int p7]), (h1, aB Y 1600 f0)] sz)) 0 0 (va_A [(h0, oC 8 [.ref h1, .int p0, .int p1, .int p2, .int p3, .int p4, .long p5, .int p6, .int p7]), (h1, aB Y 1600 f0)] sz) :=
  gmet_of (by decide +kernel) (Nat.le_of_ble_eq_true rfl) (fun p e s m args below meth c B EB hsz => by
    have B : VB p s m args meth c D Y (va_A [(h0, oC 8 [.ref h1, .int p0, .int p1, .int p2, .int p3, .int p4, .long p5, .int p6, .int p7]), (h1, aB Y 1600 f0)] sz) cX7_strokeOfWord 5 RX7 (some .int) := B
    refine V_aload_n 0 B dX7_strokeOfWord_0 0 rfl ?_
    refine V_aload_n 1 B dX7_strokeOfWord_1 0 rfl ?_
    refine V_get 2 B gf_RX7_25 0 rfl rfl dX7_strokeOfWord_2 ?_
    refine V_iconst 5 B (v := 1) dX7_strokeOfWord_5 (by decide +kernel) ?_
    refine V_isub 6 B dX7_strokeOfWord_6 rfl ?_
    refine V_nmi (fun j0 _ => ?_)
    refine V_gvi 7 B envX EB (st := []) (As := [.int j0]) (fun sz => sX7_keyAt_1 l D Y h0 h1 p0 p1 p2 p3 p4 p5 p6 p7 f0 j0 sz) glV_RX7_60 ⟨rfl, rfl⟩ ⟨(Nat.le_of_ble_eq_true rfl), (Nat.le_of_ble_eq_true rfl)⟩ ⟨(Nat.le_of_ble_eq_true rfl), (Nat.le_of_ble_eq_true rfl)⟩ [0, 0] rfl 8 0 rfl rfl rfl rfl (Nat.le_of_ble_eq_true rfl) rfl (fun _ _ _ => rfl) dX7_strokeOfWord_7 (fun j1 u2 w3 => ?_)
    refine V_ws [(h0, oC 8 [.ref h1, .int p0, .int p1, .int p2, .int p3, .int p4, .long p5, .int p6, .int p7]), (h1, aB Y 1600 f0)] rfl ?_
    refine V_istore_n 10 B (lv2 := [(1, .int j1), (0, .ref h0)]) dX7_strokeOfWord_10 (by decide) rfl ?_
    refine V_aload_n 11 B dX7_strokeOfWord_11 1 rfl ?_
    refine V_get 12 B gf_RX7_38 0 rfl rfl dX7_strokeOfWord_12 ?_
    refine V_iconst 15 B (v := 1) dX7_strokeOfWord_15 (by decide +kernel) ?_
    refine V_icmp_ne 16 B 24 dX7_strokeOfWord_16 (by decide) (fun k4 => ?_) (fun k4 => ?_)
    ·
      refine V_iconst 24 B (v := (-1)) dX7_strokeOfWord_24 (by decide +kernel) ?_
      exact V_iret 25 B dX7_strokeOfWord_25 (mkU [] [] [] [] []) trivial rfl
    ·
      obtain rfl : p1 = 1 := k4
      refine V_iload_n 19 B dX7_strokeOfWord_19 0 rfl ?_
      refine V_iconst 20 B (v := (-1)) dX7_strokeOfWord_20 (by decide +kernel) ?_
      refine V_icmp_ne 21 B 26 dX7_strokeOfWord_21 (by decide) (fun k5 => ?_) (fun k5 => ?_)
      ·
        refine V_iconst 26 B (v := 0) dX7_strokeOfWord_26 (by decide +kernel) ?_
        refine V_istore_n 27 B (lv2 := [(2, .int 0), (1, .int j1), (0, .ref h0)]) dX7_strokeOfWord_27 (by decide) rfl ?_
        refine V_aload_n 28 B dX7_strokeOfWord_28 2 rfl ?_
        refine V_get 29 B gf_RX7_31 0 rfl rfl dX7_strokeOfWord_29 ?_
        refine V_istore_n 32 B (lv2 := [(3, .int p2), (2, .int 0), (1, .int j1), (0, .ref h0)]) dX7_strokeOfWord_32 (by decide) rfl ?_
        refine V_wloop (α := UU) (fun a => (2147483647 - ((a.1 0)).toInt).toNat) (fun a => True) (fun a => [(3, .int (a.1 0)), (2, .int (a.1 1)), (1, .int j1), (0, .ref h0)]) (fun a => [(h0, oC 8 [.ref h1, .int p0, .int 1, .int p2, .int p3, .int p4, .long p5, .int p6, .int p7]), (h1, aB Y 1600 f0)]) (mkU [p2, 0] [] [] [] []) trivial rfl rfl (fun a6 hI8 IH7 => ?_)
        refine V_lv [(3, .int (a6.1 0)), (2, .int (a6.1 1)), (1, .int j1), (0, .ref h0)] [0, 1, 2, 3] rfl ?_
        refine V_ws [(h0, oC 8 [.ref h1, .int p0, .int 1, .int p2, .int p3, .int p4, .long p5, .int p6, .int p7]), (h1, aB Y 1600 f0)] rfl ?_
        refine V_iload_n 33 B dX7_strokeOfWord_33 0 rfl ?_
        refine V_aload_n 34 B dX7_strokeOfWord_34 3 rfl ?_
        refine V_get 35 B gf_RX7_25 0 rfl rfl dX7_strokeOfWord_35 ?_
        refine V_iconst 38 B (v := 1) dX7_strokeOfWord_38 (by decide +kernel) ?_
        refine V_isub 39 B dX7_strokeOfWord_39 rfl ?_
        refine V_nmi (fun j9 _ => ?_)
        refine V_icmp_ge 40 B 78 dX7_strokeOfWord_40 (by decide) (fun k10 => ?_) (fun k10 => ?_)
        ·
          refine V_bipush 78 B (v := 32) dX7_strokeOfWord_78 (by decide +kernel) ?_
          refine V_iload_n 80 B dX7_strokeOfWord_80 1 rfl ?_
          refine V_imul 81 B dX7_strokeOfWord_81 rfl ?_
          refine V_nmi (fun j11 _ => ?_)
          refine V_iload_n 82 B dX7_strokeOfWord_82 2 rfl ?_
          refine V_iadd 83 B dX7_strokeOfWord_83 rfl ?_
          refine V_nmi (fun j12 _ => ?_)
          exact V_iret 84 B dX7_strokeOfWord_84 (mkU [] [] [] [] []) trivial rfl
        ·
          refine V_aload_n 43 B dX7_strokeOfWord_43 3 rfl ?_
          refine V_iload_n 44 B dX7_strokeOfWord_44 0 rfl ?_
          refine V_gvi 45 B envX EB (st := []) (As := [.int (a6.1 0)]) (fun sz => sX7_byteAt_1 l D Y h0 h1 p0 1 p2 p3 p4 p5 p6 p7 f0 (a6.1 0) sz) glV_RX7_34 ⟨rfl, rfl⟩ ⟨(Nat.le_of_ble_eq_true rfl), (Nat.le_of_ble_eq_true rfl)⟩ ⟨(Nat.le_of_ble_eq_true rfl), (Nat.le_of_ble_eq_true rfl)⟩ [0, 0] rfl 8 0 rfl rfl rfl rfl (Nat.le_of_ble_eq_true rfl) rfl (fun _ _ _ => rfl) dX7_strokeOfWord_45 (fun j13 u14 w15 => ?_)
          refine V_ws [(h0, oC 8 [.ref h1, .int p0, .int 1, .int p2, .int p3, .int p4, .long p5, .int p6, .int p7]), (h1, aB Y 1600 f0)] rfl ?_
          refine V_gsi 48 B envX EB (st := []) (As := [.int j13]) (fun sz => sX7_modifierOf_1 l D Y  j13 sz) glS_RX7_80 ⟨rfl, rfl⟩ ⟨(Nat.le_of_ble_eq_true rfl), (Nat.le_of_ble_eq_true rfl)⟩ ⟨(Nat.le_of_ble_eq_true rfl), (Nat.le_of_ble_eq_true rfl)⟩ [] rfl rfl (Nat.le_of_ble_eq_true rfl) rfl (fun _ _ _ => rfl) dX7_strokeOfWord_48 (fun j16 u17 w18 => ?_)
          refine V_ws [(h0, oC 8 [.ref h1, .int p0, .int 1, .int p2, .int p3, .int p4, .long p5, .int p6, .int p7]), (h1, aB Y 1600 f0)] rfl ?_
          refine V_istore 51 B (lv2 := [(4, .int j16), (3, .int (a6.1 0)), (2, .int (a6.1 1)), (1, .int j1), (0, .ref h0)]) dX7_strokeOfWord_51 (by decide) rfl ?_
          refine V_iload 53 B dX7_strokeOfWord_53 0 rfl ?_
          refine V_if_eq 55 B 65 dX7_strokeOfWord_55 (by decide) (fun k19 => ?_) (fun k19 => ?_)
          ·
            obtain rfl : j16 = 0 := k19
            refine V_iconst 65 B (v := (-1)) dX7_strokeOfWord_65 (by decide +kernel) ?_
            exact V_iret 66 B dX7_strokeOfWord_66 (mkU [] [] [] [] []) trivial rfl
          ·
            refine V_iload_n 58 B dX7_strokeOfWord_58 2 rfl ?_
            refine V_iload 59 B dX7_strokeOfWord_59 0 rfl ?_
            refine V_iand 61 B dX7_strokeOfWord_61 rfl ?_
            refine V_nmi (fun j20 _ => ?_)
            refine V_if_eq 62 B 67 dX7_strokeOfWord_62 (by decide) (fun k21 => ?_) (fun k21 => ?_)
            ·
              obtain rfl : j20 = 0 := k21
              refine V_iload_n 67 B dX7_strokeOfWord_67 2 rfl ?_
              refine V_iload 68 B dX7_strokeOfWord_68 0 rfl ?_
              refine V_ior 70 B dX7_strokeOfWord_70 rfl ?_
              refine V_nmi (fun j22 _ => ?_)
              refine V_istore_n 71 B (lv2 := [(2, .int j22), (4, .int j16), (3, .int (a6.1 0)), (1, .int j1), (0, .ref h0)]) dX7_strokeOfWord_71 (by decide) rfl ?_
              refine V_iinc 72 B (v := ((a6.1 0) + Int32.ofInt 1)) (lv2 := [(3, .int ((a6.1 0) + Int32.ofInt 1)), (2, .int j22), (4, .int j16), (1, .int j1), (0, .ref h0)]) dX7_strokeOfWord_72 2 rfl rfl (by decide) rfl ?_
              refine V_goto 75 B 33 dX7_strokeOfWord_75 (by decide) ?_
              refine V_lv [(3, .int ((a6.1 0) + Int32.ofInt 1)), (2, .int j22), (1, .int j1), (0, .ref h0)] [0, 1, 3, 4] rfl ?_
              exact IH7 (mkU [((a6.1 0) + Int32.ofInt 1), j22] [] [] [] []) trivial (up_dec (x := (a6.1 0)) (c := Int32.ofInt 1) (by decide +kernel) (i_lo (a6.1 0)) (o_lt_hi (o_nle k10) (i_hi j9) (k := 2147483646) (by decide +kernel)) (by decide))
            ·
              refine V_iconst 65 B (v := (-1)) dX7_strokeOfWord_65 (by decide +kernel) ?_
              exact V_iret 66 B dX7_strokeOfWord_66 (mkU [] [] [] [] []) trivial rfl
      ·
        obtain rfl : j1 = (-1) := k5
        refine V_iconst 24 B (v := (-1)) dX7_strokeOfWord_24 (by decide +kernel) ?_
        exact V_iret 25 B dX7_strokeOfWord_25 (mkU [] [] [] [] []) trivial rfl)
theorem glV_RX7_65 : GLV RX7 65 yX7_strokeOfWord RX7 cX7_strokeOfWord 5 (some .int) 0 := ⟨⟨(mT3 84 rfl rfl), (mT3 86 rfl rfl), (mTs 5 rfl rfl), (mT1 10 rfl rfl), (mT3 87 rfl rfl)⟩, by decide +kernel⟩
theorem dX7_takeSequence_25 : decode cX7_takeSequence 25 = .ok (.istore 4, 2) := by decide +kernel
theorem dX7_takeSequence_27 : decode cX7_takeSequence 27 = .ok (.iload 4, 2) := by decide +kernel
theorem dX7_takeSequence_29 : decode cX7_takeSequence 29 = .ok (.iconst (-1), 1) := by decide +kernel
theorem dX7_takeSequence_30 : decode cX7_takeSequence 30 = .ok (.if_icmp .ne 13, 3) := by decide +kernel
theorem dX7_takeSequence_43 : decode cX7_takeSequence 43 = .ok (.iload_n 3, 1) := by decide +kernel
theorem dX7_takeSequence_44 : decode cX7_takeSequence 44 = .ok (.iconst 4, 1) := by decide +kernel
theorem dX7_takeSequence_45 : decode cX7_takeSequence 45 = .ok (.if_icmp .ne 13, 3) := by decide +kernel
theorem dX7_takeSequence_58 : decode cX7_takeSequence 58 = .ok (.lload_n 1, 1) := by decide +kernel
theorem dX7_takeSequence_59 : decode cX7_takeSequence 59 = .ok (.iload 4, 2) := by decide +kernel
theorem dX7_takeSequence_61 : decode cX7_takeSequence 61 = .ok (.invokestatic 68, 3) := by decide +kernel
theorem dX6_extended_0 : decode cX6_extended 0 = .ok (.lload_n 0, 1) := by decide +kernel
theorem dX6_extended_1 : decode cX6_extended 1 = .ok (.invokestatic 13, 3) := by decide +kernel
theorem dX6_lengthOf_0 : decode cX6_lengthOf 0 = .ok (.lload_n 0, 1) := by decide +kernel
theorem dX6_lengthOf_1 : decode cX6_lengthOf 1 = .ok (.ldc2_w 11, 3) := by decide +kernel
theorem dX6_lengthOf_4 : decode cX6_lengthOf 4 = .ok (.land, 1) := by decide +kernel
theorem dX6_lengthOf_5 : decode cX6_lengthOf 5 = .ok (.lconst 0, 1) := by decide +kernel
theorem dX6_lengthOf_6 : decode cX6_lengthOf 6 = .ok (.lcmp, 1) := by decide +kernel
theorem dX6_lengthOf_7 : decode cX6_lengthOf 7 = .ok (.ifCond .eq 5, 3) := by decide +kernel
theorem dX6_lengthOf_12 : decode cX6_lengthOf 12 = .ok (.lload_n 0, 1) := by decide +kernel
theorem dX6_lengthOf_13 : decode cX6_lengthOf 13 = .ok (.bipush 9, 2) := by decide +kernel
theorem dX6_lengthOf_15 : decode cX6_lengthOf 15 = .ok (.lshr, 1) := by decide +kernel
theorem dX6_lengthOf_16 : decode cX6_lengthOf 16 = .ok (.ldc2_w 11, 3) := by decide +kernel
theorem dX6_lengthOf_19 : decode cX6_lengthOf 19 = .ok (.land, 1) := by decide +kernel
theorem dX6_lengthOf_20 : decode cX6_lengthOf 20 = .ok (.lconst 0, 1) := by decide +kernel
theorem dX6_lengthOf_21 : decode cX6_lengthOf 21 = .ok (.lcmp, 1) := by decide +kernel
theorem dX6_lengthOf_22 : decode cX6_lengthOf 22 = .ok (.ifCond .eq 5, 3) := by decide +kernel
theorem dX6_lengthOf_27 : decode cX6_lengthOf 27 = .ok (.lload_n 0, 1) := by decide +kernel
theorem dX6_lengthOf_28 : decode cX6_lengthOf 28 = .ok (.bipush 18, 2) := by decide +kernel
theorem dX6_lengthOf_30 : decode cX6_lengthOf 30 = .ok (.lshr, 1) := by decide +kernel
theorem dX6_lengthOf_31 : decode cX6_lengthOf 31 = .ok (.ldc2_w 11, 3) := by decide +kernel
theorem dX6_lengthOf_34 : decode cX6_lengthOf 34 = .ok (.land, 1) := by decide +kernel
theorem dX6_lengthOf_35 : decode cX6_lengthOf 35 = .ok (.lconst 0, 1) := by decide +kernel
theorem dX6_lengthOf_36 : decode cX6_lengthOf 36 = .ok (.lcmp, 1) := by decide +kernel
theorem dX6_lengthOf_37 : decode cX6_lengthOf 37 = .ok (.ifCond .eq 5, 3) := by decide +kernel
theorem dX6_lengthOf_42 : decode cX6_lengthOf 42 = .ok (.lload_n 0, 1) := by decide +kernel
theorem dX6_lengthOf_43 : decode cX6_lengthOf 43 = .ok (.lconst 0, 1) := by decide +kernel
theorem dX6_lengthOf_44 : decode cX6_lengthOf 44 = .ok (.lcmp, 1) := by decide +kernel
theorem dX6_lengthOf_45 : decode cX6_lengthOf 45 = .ok (.ifCond .eq 7, 3) := by decide +kernel
theorem dX6_lengthOf_52 : decode cX6_lengthOf 52 = .ok (.iconst 0, 1) := by decide +kernel
theorem dX6_lengthOf_53 : decode cX6_lengthOf 53 = .ok (.ireturn, 1) := by decide +kernel
theorem dX6_lengthOf_48 : decode cX6_lengthOf 48 = .ok (.iconst 1, 1) := by decide +kernel
theorem dX6_lengthOf_49 : decode cX6_lengthOf 49 = .ok (.goto 4, 3) := by decide +kernel
theorem dX6_lengthOf_40 : decode cX6_lengthOf 40 = .ok (.iconst 2, 1) := by decide +kernel
theorem dX6_lengthOf_41 : decode cX6_lengthOf 41 = .ok (.ireturn, 1) := by decide +kernel
theorem dX6_lengthOf_25 : decode cX6_lengthOf 25 = .ok (.iconst 3, 1) := by decide +kernel
theorem dX6_lengthOf_26 : decode cX6_lengthOf 26 = .ok (.ireturn, 1) := by decide +kernel
theorem dX6_lengthOf_10 : decode cX6_lengthOf 10 = .ok (.iconst 4, 1) := by decide +kernel
theorem dX6_lengthOf_11 : decode cX6_lengthOf 11 = .ok (.ireturn, 1) := by decide +kernel
set_option maxRecDepth 100000 in
set_option maxHeartbeats 4000000 in
theorem sX6_lengthOf_1 (l : Launch) (D : va_G) (Y : Nat → ClassId) (p0 : Int64) (sz : Nat) : Met l yX6_lengthOf (WSm yX6_lengthOf cX6_lengthOf 2 (some .int)) (mkR 0 0 0 0) (PreG EX D Y [.long p0] [] sz) (QI D (fun (_ : Int32) (_ : UU) => True) (fun (u : UU) => []) (va_A [] sz)) 0 0 (va_A [] sz) :=
  gmet_of (by decide +kernel) (Nat.le_of_ble_eq_true rfl) (fun p e s m args below meth c B EB hsz => by
    have B : VB p s m args meth c D Y (va_A [] sz) cX6_lengthOf 2 RX6 (some .int) := B
    refine V_lload_n 0 B dX6_lengthOf_0 0 rfl ?_
    refine V_ldc2 1 B (v := 511) dX6_lengthOf_1 (mT3 101 rfl rfl) ?_
    refine V_land 4 B dX6_lengthOf_4 rfl ?_
    refine V_nml (fun o0 _ => ?_)
    refine V_lconst 5 B (v := 0) dX6_lengthOf_5 (by decide +kernel) ?_
    refine V_lcmp 6 B dX6_lengthOf_6 rfl ?_
    refine V_nmi (fun j1 _ => ?_)
    refine V_if_eq 7 B 12 dX6_lengthOf_7 (by decide) (fun k2 => ?_) (fun k2 => ?_)
    ·
      obtain rfl : j1 = 0 := k2
      refine V_lload_n 12 B dX6_lengthOf_12 0 rfl ?_
      refine V_bipush 13 B (v := 9) dX6_lengthOf_13 (by decide +kernel) ?_
      refine V_lshr 15 B dX6_lengthOf_15 rfl ?_
      refine V_nml (fun o3 _ => ?_)
      refine V_ldc2 16 B (v := 511) dX6_lengthOf_16 (mT3 101 rfl rfl) ?_
      refine V_land 19 B dX6_lengthOf_19 rfl ?_
      refine V_nml (fun o4 _ => ?_)
      refine V_lconst 20 B (v := 0) dX6_lengthOf_20 (by decide +kernel) ?_
      refine V_lcmp 21 B dX6_lengthOf_21 rfl ?_
      refine V_nmi (fun j5 _ => ?_)
      refine V_if_eq 22 B 27 dX6_lengthOf_22 (by decide) (fun k6 => ?_) (fun k6 => ?_)
      ·
        obtain rfl : j5 = 0 := k6
        refine V_lload_n 27 B dX6_lengthOf_27 0 rfl ?_
        refine V_bipush 28 B (v := 18) dX6_lengthOf_28 (by decide +kernel) ?_
        refine V_lshr 30 B dX6_lengthOf_30 rfl ?_
        refine V_nml (fun o7 _ => ?_)
        refine V_ldc2 31 B (v := 511) dX6_lengthOf_31 (mT3 101 rfl rfl) ?_
        refine V_land 34 B dX6_lengthOf_34 rfl ?_
        refine V_nml (fun o8 _ => ?_)
        refine V_lconst 35 B (v := 0) dX6_lengthOf_35 (by decide +kernel) ?_
        refine V_lcmp 36 B dX6_lengthOf_36 rfl ?_
        refine V_nmi (fun j9 _ => ?_)
        refine V_if_eq 37 B 42 dX6_lengthOf_37 (by decide) (fun k10 => ?_) (fun k10 => ?_)
        ·
          obtain rfl : j9 = 0 := k10
          refine V_lload_n 42 B dX6_lengthOf_42 0 rfl ?_
          refine V_lconst 43 B (v := 0) dX6_lengthOf_43 (by decide +kernel) ?_
          refine V_lcmp 44 B dX6_lengthOf_44 rfl ?_
          refine V_nmi (fun j11 _ => ?_)
          refine V_if_eq 45 B 52 dX6_lengthOf_45 (by decide) (fun k12 => ?_) (fun k12 => ?_)
          ·
            obtain rfl : j11 = 0 := k12
            refine V_iconst 52 B (v := 0) dX6_lengthOf_52 (by decide +kernel) ?_
            exact V_iret 53 B dX6_lengthOf_53 (mkU [] [] [] [] []) trivial rfl
          ·
            refine V_iconst 48 B (v := 1) dX6_lengthOf_48 (by decide +kernel) ?_
            refine V_goto 49 B 53 dX6_lengthOf_49 (by decide) ?_
            exact V_iret 53 B dX6_lengthOf_53 (mkU [] [] [] [] []) trivial rfl
        ·
          refine V_iconst 40 B (v := 2) dX6_lengthOf_40 (by decide +kernel) ?_
          exact V_iret 41 B dX6_lengthOf_41 (mkU [] [] [] [] []) trivial rfl
      ·
        refine V_iconst 25 B (v := 3) dX6_lengthOf_25 (by decide +kernel) ?_
        exact V_iret 26 B dX6_lengthOf_26 (mkU [] [] [] [] []) trivial rfl
    ·
      refine V_iconst 10 B (v := 4) dX6_lengthOf_10 (by decide +kernel) ?_
      exact V_iret 11 B dX6_lengthOf_11 (mkU [] [] [] [] []) trivial rfl)
theorem glS_RX6_13 : GLS RX6 13 yX6_lengthOf cX6_lengthOf 2 (some .int) 1 := ⟨⟨(mT3 98 rfl rfl), (mT3 99 rfl rfl), (mT1 18 rfl rfl), (mT3 100 rfl rfl)⟩, by decide +kernel⟩
theorem dX6_extended_4 : decode cX6_extended 4 = .ok (.istore_n 3, 1) := by decide +kernel
theorem dX6_extended_5 : decode cX6_extended 5 = .ok (.iload_n 3, 1) := by decide +kernel
theorem dX6_extended_6 : decode cX6_extended 6 = .ok (.iconst 4, 1) := by decide +kernel
theorem dX6_extended_7 : decode cX6_extended 7 = .ok (.if_icmp .lt 5, 3) := by decide +kernel
theorem dX6_extended_12 : decode cX6_extended 12 = .ok (.lload_n 0, 1) := by decide +kernel
theorem dX6_extended_13 : decode cX6_extended 13 = .ok (.iload_n 2, 1) := by decide +kernel
theorem dX6_extended_14 : decode cX6_extended 14 = .ok (.iconst 1, 1) := by decide +kernel
theorem dX6_extended_15 : decode cX6_extended 15 = .ok (.iadd, 1) := by decide +kernel
theorem dX6_extended_16 : decode cX6_extended 16 = .ok (.i2l, 1) := by decide +kernel
theorem dX6_extended_17 : decode cX6_extended 17 = .ok (.bipush 9, 2) := by decide +kernel
theorem dX6_extended_19 : decode cX6_extended 19 = .ok (.iconst 3, 1) := by decide +kernel
theorem dX6_extended_20 : decode cX6_extended 20 = .ok (.iload_n 3, 1) := by decide +kernel
theorem dX6_extended_21 : decode cX6_extended 21 = .ok (.isub, 1) := by decide +kernel
theorem dX6_extended_22 : decode cX6_extended 22 = .ok (.imul, 1) := by decide +kernel
theorem dX6_extended_23 : decode cX6_extended 23 = .ok (.lshl, 1) := by decide +kernel
theorem dX6_extended_24 : decode cX6_extended 24 = .ok (.lor, 1) := by decide +kernel
theorem dX6_extended_25 : decode cX6_extended 25 = .ok (.lreturn, 1) := by decide +kernel
theorem dX6_extended_10 : decode cX6_extended 10 = .ok (.lload_n 0, 1) := by decide +kernel
theorem dX6_extended_11 : decode cX6_extended 11 = .ok (.lreturn, 1) := by decide +kernel
set_option maxRecDepth 100000 in
set_option maxHeartbeats 4000000 in
theorem sX6_extended_1 (l : Launch) (D : va_G) (Y : Nat → ClassId) (p0 : Int64) (p1 : Int32) (sz : Nat) : Met l yX6_extended (WSm yX6_extended cX6_extended 4 (some .long)) (mkR 1 0 0 21) (PreG EX D Y [.long p0, .int p1] [] sz) (QJ D (fun (_ : Int64) (_ : UU) => True) (fun (u : UU) => []) (va_A [] sz)) 0 0 (va_A [] sz) :=
  gmet_of (by decide +kernel) (Nat.le_of_ble_eq_true rfl) (fun p e s m args below meth c B EB hsz => by
    have B : VB p s m args meth c D Y (va_A [] sz) cX6_extended 4 RX6 (some .long) := B
    refine V_lload_n 0 B dX6_extended_0 0 rfl ?_
    refine V_gsi 1 B envX EB (st := []) (As := [.long p0]) (fun sz => sX6_lengthOf_1 l D Y  p0 sz) glS_RX6_13 ⟨rfl, rfl⟩ ⟨(Nat.le_of_ble_eq_true rfl), (Nat.le_of_ble_eq_true rfl)⟩ ⟨(Nat.le_of_ble_eq_true rfl), (Nat.le_of_ble_eq_true rfl)⟩ [] rfl rfl (Nat.le_of_ble_eq_true rfl) rfl (fun _ _ _ => rfl) dX6_extended_1 (fun j0 u1 w2 => ?_)
    refine V_ws [] rfl ?_
    refine V_istore_n 4 B (lv2 := [(3, .int j0), (0, .long p0), (2, .int p1)]) dX6_extended_4 (by decide) rfl ?_
    refine V_iload_n 5 B dX6_extended_5 0 rfl ?_
    refine V_iconst 6 B (v := 4) dX6_extended_6 (by decide +kernel) ?_
    refine V_icmp_lt 7 B 12 dX6_extended_7 (by decide) (fun k3 => ?_) (fun k3 => ?_)
    ·
      refine V_lload_n 12 B dX6_extended_12 1 rfl ?_
      refine V_iload_n 13 B dX6_extended_13 2 rfl ?_
      refine V_iconst 14 B (v := 1) dX6_extended_14 (by decide +kernel) ?_
      refine V_iadd 15 B dX6_extended_15 rfl ?_
      refine V_nmi (fun j4 _ => ?_)
      refine V_i2l 16 B dX6_extended_16 rfl ?_
      refine V_nml (fun o5 _ => ?_)
      refine V_bipush 17 B (v := 9) dX6_extended_17 (by decide +kernel) ?_
      refine V_iconst 19 B (v := 3) dX6_extended_19 (by decide +kernel) ?_
      refine V_iload_n 20 B dX6_extended_20 0 rfl ?_
      refine V_isub 21 B dX6_extended_21 rfl ?_
      refine V_nmi (fun j6 _ => ?_)
      refine V_imul 22 B dX6_extended_22 rfl ?_
      refine V_nmi (fun j7 _ => ?_)
      refine V_lshl 23 B dX6_extended_23 rfl ?_
      refine V_nml (fun o8 _ => ?_)
      refine V_lor 24 B dX6_extended_24 rfl ?_
      refine V_nml (fun o9 _ => ?_)
      exact V_lret 25 B dX6_extended_25 (mkU [] [] [] [] []) trivial rfl
    ·
      refine V_lload_n 10 B dX6_extended_10 1 rfl ?_
      exact V_lret 11 B dX6_extended_11 (mkU [] [] [] [] []) trivial rfl)
theorem glS_RX7_68 : GLS RX7 68 yX6_extended cX6_extended 4 (some .long) 2 := ⟨⟨(mT3 95 rfl rfl), (mT3 96 rfl rfl), (mT1 18 rfl rfl), (mT3 97 rfl rfl)⟩, by decide +kernel⟩
theorem dX7_takeSequence_64 : decode cX7_takeSequence 64 = .ok (.lstore_n 1, 1) := by decide +kernel
theorem dX7_takeSequence_65 : decode cX7_takeSequence 65 = .ok (.iinc 3 1, 3) := by decide +kernel
theorem dX7_takeSequence_68 : decode cX7_takeSequence 68 = .ok (.aload_n 0, 1) := by decide +kernel
theorem dX7_takeSequence_69 : decode cX7_takeSequence 69 = .ok (.invokevirtual 28, 3) := by decide +kernel
theorem dX7_takeSequence_72 : decode cX7_takeSequence 72 = .ok (.goto (-68), 3) := by decide +kernel
theorem dX7_takeSequence_48 : decode cX7_takeSequence 48 = .ok (.aload_n 0, 1) := by decide +kernel
theorem dX7_takeSequence_49 : decode cX7_takeSequence 49 = .ok (.iconst 3, 1) := by decide +kernel
theorem dX7_takeSequence_50 : decode cX7_takeSequence 50 = .ok (.aload_n 0, 1) := by decide +kernel
theorem dX7_takeSequence_51 : decode cX7_takeSequence 51 = .ok (.getfield 31, 3) := by decide +kernel
theorem dX7_takeSequence_54 : decode cX7_takeSequence 54 = .ok (.invokevirtual 53, 3) := by decide +kernel
theorem dX7_takeSequence_57 : decode cX7_takeSequence 57 = .ok (.ireturn, 1) := by decide +kernel
theorem dX7_takeSequence_33 : decode cX7_takeSequence 33 = .ok (.aload_n 0, 1) := by decide +kernel
theorem dX7_takeSequence_34 : decode cX7_takeSequence 34 = .ok (.iconst 1, 1) := by decide +kernel
theorem dX7_takeSequence_35 : decode cX7_takeSequence 35 = .ok (.aload_n 0, 1) := by decide +kernel
theorem dX7_takeSequence_36 : decode cX7_takeSequence 36 = .ok (.getfield 31, 3) := by decide +kernel
theorem dX7_takeSequence_39 : decode cX7_takeSequence 39 = .ok (.invokevirtual 53, 3) := by decide +kernel
theorem dX7_takeSequence_42 : decode cX7_takeSequence 42 = .ok (.ireturn, 1) := by decide +kernel
theorem dX7_takeSequence_13 : decode cX7_takeSequence 13 = .ok (.aload_n 0, 1) := by decide +kernel
theorem dX7_takeSequence_14 : decode cX7_takeSequence 14 = .ok (.getfield 38, 3) := by decide +kernel
theorem dX7_takeSequence_17 : decode cX7_takeSequence 17 = .ok (.iconst 3, 1) := by decide +kernel
theorem dX7_takeSequence_18 : decode cX7_takeSequence 18 = .ok (.if_icmp .eq 57, 3) := by decide +kernel
set_option maxRecDepth 100000 in
set_option maxHeartbeats 4000000 in
theorem sX7_takeSequence_1 (l : Launch) (D : va_G) (Y : Nat → ClassId) (h0 : Nat) (h1 : Nat) (p0 : Int32) (p1 : Int32) (p2 : Int32) (p3 : Int32) (p4 : Int32) (p5 : Int64) (p6 : Int32) (p7 : Int32) (f0 : Nat → Int32) (sz : Nat) : Met l yX7_takeSequence (WSm yX7_takeSequence cX7_takeSequence 5 (some .boolean)) (mkR 3 0 0 67) (PreG EX D Y [.ref h0] [(h0, oC 8 [.ref h1, .int p0, .int p1, .int p2, .int p3, .int p4, .long p5, .int p6, .int p7]), (h1, aB Y 1600 f0)] sz) (QI D (fun (r : Int32) (_ : UU) => r = 0 ∨ r = 1) (fun (u : UU) => [(h0, oC 8 [.ref h1, .int p0, .int (u.1 0), .int (u.1 1), .int (u.1 2), .int p4, .long (u.2.1 0), .int (u.1 3), .int (u.1 4)]), (h1, aB Y 1600 f0)]) (va_A [(h0, oC 8 [.ref h1, .int p0, .int p1, .int p2, .int p3, .int p4, .long p5, .int p6, .int p7]), (h1, aB Y 1600 f0)] sz)) 0 0 (va_A [(h0, oC 8 [.ref h1, .int p0, .int p1, .int p2, .int p3, .int p4, .long p5, .int p6, .int p7]), (h1, aB Y 1600 f0)] sz) :=
  gmet_of (by decide +kernel) (Nat.le_of_ble_eq_true rfl) (fun p e s m args below meth c B EB hsz => by
    have B : VB p s m args meth c D Y (va_A [(h0, oC 8 [.ref h1, .int p0, .int p1, .int p2, .int p3, .int p4, .long p5, .int p6, .int p7]), (h1, aB Y 1600 f0)] sz) cX7_takeSequence 5 RX7 (some .boolean) := B
    refine V_lconst 0 B (v := 0) dX7_takeSequence_0 (by decide +kernel) ?_
    refine V_lstore_n 1 B (lv2 := [(1, .long 0), (0, .ref h0)]) dX7_takeSequence_1 (by decide) rfl ?_
    refine V_iconst 2 B (v := 0) dX7_takeSequence_2 (by decide +kernel) ?_
    refine V_istore_n 3 B (lv2 := [(3, .int 0), (1, .long 0), (0, .ref h0)]) dX7_takeSequence_3 (by decide) rfl ?_
    refine V_wloop (α := UU) (fun a => (2147483647 - ((a.1 0)).toInt).toNat) (fun a => 0 ≤ ((a.1 0)).toInt) (fun a => [(3, .int (a.1 0)), (1, .long (a.2.1 0)), (0, .ref h0)]) (fun a => [(h0, oC 8 [.ref h1, .int p0, .int (a.1 1), .int (a.1 2), .int (a.1 3), .int p4, .long (a.2.1 1), .int (a.1 4), .int (a.1 5)]), (h1, aB Y 1600 f0)]) (mkU [0, p1, p2, p3, p6, p7] [0, p5] [] [] []) (show (0 : Int) ≤ (0 : Int32).toInt by decide +kernel) rfl rfl (fun a0 hI2 IH1 => ?_)
    refine V_lv [(3, .int (a0.1 0)), (1, .long (a0.2.1 0)), (0, .ref h0)] [0, 1, 2] rfl ?_
    refine V_ws [(h0, oC 8 [.ref h1, .int p0, .int (a0.1 1), .int (a0.1 2), .int (a0.1 3), .int p4, .long (a0.2.1 1), .int (a0.1 4), .int (a0.1 5)]), (h1, aB Y 1600 f0)] rfl ?_
    refine V_iload_n 4 B dX7_takeSequence_4 0 rfl ?_
    refine V_iconst 5 B (v := 4) dX7_takeSequence_5 (by decide +kernel) ?_
    refine V_icmp_gt 6 B 75 dX7_takeSequence_6 (by decide) (fun k3 => ?_) (fun k3 => ?_)
    ·
      refine V_aload_n 75 B dX7_takeSequence_75 2 rfl ?_
      refine V_lload_n 76 B dX7_takeSequence_76 1 rfl ?_
      refine V_put 77 B gp_RX7_72 0 rfl (Nat.le_of_ble_eq_true rfl) rfl rfl dX7_takeSequence_77 [(h0, oC 8 [.ref h1, .int p0, .int (a0.1 1), .int (a0.1 2), .int (a0.1 3), .int p4, .long (a0.2.1 0), .int (a0.1 4), .int (a0.1 5)]), (h1, aB Y 1600 f0)] rfl ?_
      refine V_aload_n 80 B dX7_takeSequence_80 2 rfl ?_
      refine V_gvi 81 B envX EB (st := []) (As := []) (fun sz => sX7_takeSemicolon_1 l D Y h0 h1 p0 (a0.1 1) (a0.1 2) (a0.1 3) p4 (a0.2.1 0) (a0.1 4) (a0.1 5) f0 sz) glV_RX7_76 ⟨rfl, rfl⟩ ⟨(Nat.le_of_ble_eq_true rfl), (Nat.le_of_ble_eq_true rfl)⟩ ⟨(Nat.le_of_ble_eq_true rfl), (Nat.le_of_ble_eq_true rfl)⟩ [0, 0] rfl 8 0 rfl rfl rfl rfl (Nat.le_of_ble_eq_true rfl) rfl (fun _ _ _ => rfl) dX7_takeSequence_81 (fun j4 u5 w6 => ?_)
      refine V_ws [(h0, oC 8 [.ref h1, .int p0, .int (u5.1 0), .int (u5.1 1), .int (u5.1 2), .int p4, .long (a0.2.1 0), .int (u5.1 3), .int (u5.1 4)]), (h1, aB Y 1600 f0)] rfl ?_
      rcases w6 with rfl | rfl
      ·
        exact V_zret 84 B rfl dX7_takeSequence_84 (mkU [(u5.1 0), (u5.1 1), (u5.1 2), (u5.1 3), (u5.1 4)] [(a0.2.1 0)] [] [] []) (Or.inl rfl) rfl
      ·
        exact V_zret 84 B rfl dX7_takeSequence_84 (mkU [(u5.1 0), (u5.1 1), (u5.1 2), (u5.1 3), (u5.1 4)] [(a0.2.1 0)] [] [] []) (Or.inr rfl) rfl
    ·
      refine V_iload_n 9 B dX7_takeSequence_9 0 rfl ?_
      refine V_if_eq 10 B 21 dX7_takeSequence_10 (by decide) (fun k7 => ?_) (fun k7 => ?_)
      ·
        refine V_aload_n 21 B dX7_takeSequence_21 2 rfl ?_
        refine V_gvi 22 B envX EB (st := []) (As := []) (fun sz => sX7_strokeOfWord_1 l D Y h0 h1 p0 (a0.1 1) (a0.1 2) (a0.1 3) p4 (a0.2.1 1) (a0.1 4) (a0.1 5) f0 sz) glV_RX7_65 ⟨rfl, rfl⟩ ⟨(Nat.le_of_ble_eq_true rfl), (Nat.le_of_ble_eq_true rfl)⟩ ⟨(Nat.le_of_ble_eq_true rfl), (Nat.le_of_ble_eq_true rfl)⟩ [0, 0] rfl 8 0 rfl rfl rfl rfl (Nat.le_of_ble_eq_true rfl) rfl (fun _ _ _ => rfl) dX7_takeSequence_22 (fun j8 u9 w10 => ?_)
        refine V_ws [(h0, oC 8 [.ref h1, .int p0, .int (a0.1 1), .int (a0.1 2), .int (a0.1 3), .int p4, .long (a0.2.1 1), .int (a0.1 4), .int (a0.1 5)]), (h1, aB Y 1600 f0)] rfl ?_
        refine V_istore 25 B (lv2 := [(4, .int j8), (3, .int (a0.1 0)), (1, .long (a0.2.1 0)), (0, .ref h0)]) dX7_takeSequence_25 (by decide) rfl ?_
        refine V_iload 27 B dX7_takeSequence_27 0 rfl ?_
        refine V_iconst 29 B (v := (-1)) dX7_takeSequence_29 (by decide +kernel) ?_
        refine V_icmp_ne 30 B 43 dX7_takeSequence_30 (by decide) (fun k11 => ?_) (fun k11 => ?_)
        ·
          refine V_iload_n 43 B dX7_takeSequence_43 1 rfl ?_
          refine V_iconst 44 B (v := 4) dX7_takeSequence_44 (by decide +kernel) ?_
          refine V_icmp_ne 45 B 58 dX7_takeSequence_45 (by decide) (fun k12 => ?_) (fun k12 => ?_)
          ·
            refine V_lload_n 58 B dX7_takeSequence_58 2 rfl ?_
            refine V_iload 59 B dX7_takeSequence_59 0 rfl ?_
            refine V_gsl 61 B envX EB (st := []) (As := [.long (a0.2.1 0), .int j8]) (fun sz => sX6_extended_1 l D Y  (a0.2.1 0) j8 sz) glS_RX7_68 ⟨rfl, rfl⟩ ⟨(Nat.le_of_ble_eq_true rfl), (Nat.le_of_ble_eq_true rfl)⟩ ⟨(Nat.le_of_ble_eq_true rfl), (Nat.le_of_ble_eq_true rfl)⟩ [] rfl rfl (Nat.le_of_ble_eq_true rfl) rfl (fun _ _ _ => rfl) dX7_takeSequence_61 (fun o13 u14 w15 => ?_)
            refine V_ws [(h0, oC 8 [.ref h1, .int p0, .int (a0.1 1), .int (a0.1 2), .int (a0.1 3), .int p4, .long (a0.2.1 1), .int (a0.1 4), .int (a0.1 5)]), (h1, aB Y 1600 f0)] rfl ?_
            refine V_lstore_n 64 B (lv2 := [(1, .long o13), (4, .int j8), (3, .int (a0.1 0)), (0, .ref h0)]) dX7_takeSequence_64 (by decide) rfl ?_
            refine V_iinc 65 B (v := ((a0.1 0) + Int32.ofInt 1)) (lv2 := [(3, .int ((a0.1 0) + Int32.ofInt 1)), (1, .long o13), (4, .int j8), (0, .ref h0)]) dX7_takeSequence_65 2 rfl rfl (by decide) rfl ?_
            refine V_aload_n 68 B dX7_takeSequence_68 3 rfl ?_
            refine V_gvv 69 B envX EB (st := []) (As := []) (fun sz => sX7_advance_1 l D Y h0 h1 p0 (a0.1 1) (a0.1 2) (a0.1 3) p4 (a0.2.1 1) (a0.1 4) (a0.1 5) f0 sz) glV_RX7_28 ⟨rfl, rfl⟩ ⟨(Nat.le_of_ble_eq_true rfl), (Nat.le_of_ble_eq_true rfl)⟩ ⟨(Nat.le_of_ble_eq_true rfl), (Nat.le_of_ble_eq_true rfl)⟩ [0, 0] rfl 8 0 rfl rfl rfl rfl (Nat.le_of_ble_eq_true rfl) rfl (fun _ _ => rfl) dX7_takeSequence_69 (fun u17 w18 => ?_)
            refine V_ws [(h0, oC 8 [.ref h1, .int p0, .int (u17.1 0), .int (u17.1 1), .int (u17.1 2), .int p4, .long (a0.2.1 1), .int (a0.1 4), .int (a0.1 5)]), (h1, aB Y 1600 f0)] rfl ?_
            refine V_goto 72 B 4 dX7_takeSequence_72 (by decide) ?_
            refine V_lv [(3, .int ((a0.1 0) + Int32.ofInt 1)), (1, .long o13), (0, .ref h0)] [0, 1, 3] rfl ?_
            exact IH1 (mkU [((a0.1 0) + Int32.ofInt 1), (u17.1 0), (u17.1 1), (u17.1 2), (a0.1 4), (a0.1 5)] [o13, (a0.2.1 1)] [] [] []) (Int.le_trans (by decide) (o_add_lo (c := Int32.ofInt 1) hI2 (b_ngt k3 (n := 4) (by decide +kernel)) (by decide +kernel) (by decide +kernel) (k := 1) (by decide +kernel))) (up_dec (x := (a0.1 0)) (c := Int32.ofInt 1) (by decide +kernel) hI2 (Int.le_trans (b_ngt k3 (n := 4) (by decide +kernel)) (by decide)) (by decide))
          ·
            refine V_aload_n 48 B dX7_takeSequence_48 3 rfl ?_
            refine V_iconst 49 B (v := 3) dX7_takeSequence_49 (by decide +kernel) ?_
            refine V_aload_n 50 B dX7_takeSequence_50 3 rfl ?_
            refine V_get 51 B gf_RX7_31 0 rfl rfl dX7_takeSequence_51 ?_
            refine V_gvi 54 B envX EB (st := []) (As := [.int 3, .int (a0.1 2)]) (fun sz => sX7_fail_1 l D Y h0 h1 p0 (a0.1 1) (a0.1 2) (a0.1 3) p4 (a0.2.1 1) (a0.1 4) (a0.1 5) 3 (a0.1 2) sz) glV_RX7_53 ⟨rfl, rfl⟩ ⟨(Nat.le_of_ble_eq_true rfl), (Nat.le_of_ble_eq_true rfl)⟩ ⟨(Nat.le_of_ble_eq_true rfl), (Nat.le_of_ble_eq_true rfl)⟩ [0] rfl 8 0 rfl rfl rfl rfl (Nat.le_of_ble_eq_true rfl) rfl (fun _ _ _ => rfl) dX7_takeSequence_54 (fun j19 u20 w21 => ?_)
            refine V_ws [(h0, oC 8 [.ref h1, .int p0, .int (a0.1 1), .int (a0.1 2), .int (a0.1 3), .int p4, .long (a0.2.1 1), .int (u20.1 0), .int (u20.1 1)]), (h1, aB Y 1600 f0)] rfl ?_
            rcases w21 with rfl | rfl
            ·
              exact V_zret 57 B rfl dX7_takeSequence_57 (mkU [(a0.1 1), (a0.1 2), (a0.1 3), (u20.1 0), (u20.1 1)] [(a0.2.1 1)] [] [] []) (Or.inl rfl) rfl
            ·
              exact V_zret 57 B rfl dX7_takeSequence_57 (mkU [(a0.1 1), (a0.1 2), (a0.1 3), (u20.1 0), (u20.1 1)] [(a0.2.1 1)] [] [] []) (Or.inr rfl) rfl
        ·
          obtain rfl : j8 = (-1) := k11
          refine V_aload_n 33 B dX7_takeSequence_33 3 rfl ?_
          refine V_iconst 34 B (v := 1) dX7_takeSequence_34 (by decide +kernel) ?_
          refine V_aload_n 35 B dX7_takeSequence_35 3 rfl ?_
          refine V_get 36 B gf_RX7_31 0 rfl rfl dX7_takeSequence_36 ?_
          refine V_gvi 39 B envX EB (st := []) (As := [.int 1, .int (a0.1 2)]) (fun sz => sX7_fail_1 l D Y h0 h1 p0 (a0.1 1) (a0.1 2) (a0.1 3) p4 (a0.2.1 1) (a0.1 4) (a0.1 5) 1 (a0.1 2) sz) glV_RX7_53 ⟨rfl, rfl⟩ ⟨(Nat.le_of_ble_eq_true rfl), (Nat.le_of_ble_eq_true rfl)⟩ ⟨(Nat.le_of_ble_eq_true rfl), (Nat.le_of_ble_eq_true rfl)⟩ [0] rfl 8 0 rfl rfl rfl rfl (Nat.le_of_ble_eq_true rfl) rfl (fun _ _ _ => rfl) dX7_takeSequence_39 (fun j22 u23 w24 => ?_)
          refine V_ws [(h0, oC 8 [.ref h1, .int p0, .int (a0.1 1), .int (a0.1 2), .int (a0.1 3), .int p4, .long (a0.2.1 1), .int (u23.1 0), .int (u23.1 1)]), (h1, aB Y 1600 f0)] rfl ?_
          rcases w24 with rfl | rfl
          ·
            exact V_zret 42 B rfl dX7_takeSequence_42 (mkU [(a0.1 1), (a0.1 2), (a0.1 3), (u23.1 0), (u23.1 1)] [(a0.2.1 1)] [] [] []) (Or.inl rfl) rfl
          ·
            exact V_zret 42 B rfl dX7_takeSequence_42 (mkU [(a0.1 1), (a0.1 2), (a0.1 3), (u23.1 0), (u23.1 1)] [(a0.2.1 1)] [] [] []) (Or.inr rfl) rfl
      ·
        refine V_aload_n 13 B dX7_takeSequence_13 2 rfl ?_
        refine V_get 14 B gf_RX7_38 0 rfl rfl dX7_takeSequence_14 ?_
        refine V_iconst 17 B (v := 3) dX7_takeSequence_17 (by decide +kernel) ?_
        refine V_icmp_eq 18 B 75 dX7_takeSequence_18 (by decide) (fun k25 => ?_) (fun k25 => ?_)
        ·
          refine V_aload_n 75 B dX7_takeSequence_75 2 rfl ?_
          refine V_lload_n 76 B dX7_takeSequence_76 1 rfl ?_
          refine V_put 77 B gp_RX7_72 0 rfl (Nat.le_of_ble_eq_true rfl) rfl rfl dX7_takeSequence_77 [(h0, oC 8 [.ref h1, .int p0, .int (a0.1 1), .int (a0.1 2), .int (a0.1 3), .int p4, .long (a0.2.1 0), .int (a0.1 4), .int (a0.1 5)]), (h1, aB Y 1600 f0)] rfl ?_
          refine V_aload_n 80 B dX7_takeSequence_80 2 rfl ?_
          refine V_gvi 81 B envX EB (st := []) (As := []) (fun sz => sX7_takeSemicolon_1 l D Y h0 h1 p0 (a0.1 1) (a0.1 2) (a0.1 3) p4 (a0.2.1 0) (a0.1 4) (a0.1 5) f0 sz) glV_RX7_76 ⟨rfl, rfl⟩ ⟨(Nat.le_of_ble_eq_true rfl), (Nat.le_of_ble_eq_true rfl)⟩ ⟨(Nat.le_of_ble_eq_true rfl), (Nat.le_of_ble_eq_true rfl)⟩ [0, 0] rfl 8 0 rfl rfl rfl rfl (Nat.le_of_ble_eq_true rfl) rfl (fun _ _ _ => rfl) dX7_takeSequence_81 (fun j26 u27 w28 => ?_)
          refine V_ws [(h0, oC 8 [.ref h1, .int p0, .int (u27.1 0), .int (u27.1 1), .int (u27.1 2), .int p4, .long (a0.2.1 0), .int (u27.1 3), .int (u27.1 4)]), (h1, aB Y 1600 f0)] rfl ?_
          rcases w28 with rfl | rfl
          ·
            exact V_zret 84 B rfl dX7_takeSequence_84 (mkU [(u27.1 0), (u27.1 1), (u27.1 2), (u27.1 3), (u27.1 4)] [(a0.2.1 0)] [] [] []) (Or.inl rfl) rfl
          ·
            exact V_zret 84 B rfl dX7_takeSequence_84 (mkU [(u27.1 0), (u27.1 1), (u27.1 2), (u27.1 3), (u27.1 4)] [(a0.2.1 0)] [] [] []) (Or.inr rfl) rfl
        ·
          refine V_aload_n 21 B dX7_takeSequence_21 2 rfl ?_
          refine V_gvi 22 B envX EB (st := []) (As := []) (fun sz => sX7_strokeOfWord_1 l D Y h0 h1 p0 (a0.1 1) (a0.1 2) (a0.1 3) p4 (a0.2.1 1) (a0.1 4) (a0.1 5) f0 sz) glV_RX7_65 ⟨rfl, rfl⟩ ⟨(Nat.le_of_ble_eq_true rfl), (Nat.le_of_ble_eq_true rfl)⟩ ⟨(Nat.le_of_ble_eq_true rfl), (Nat.le_of_ble_eq_true rfl)⟩ [0, 0] rfl 8 0 rfl rfl rfl rfl (Nat.le_of_ble_eq_true rfl) rfl (fun _ _ _ => rfl) dX7_takeSequence_22 (fun j29 u30 w31 => ?_)
          refine V_ws [(h0, oC 8 [.ref h1, .int p0, .int (a0.1 1), .int (a0.1 2), .int (a0.1 3), .int p4, .long (a0.2.1 1), .int (a0.1 4), .int (a0.1 5)]), (h1, aB Y 1600 f0)] rfl ?_
          refine V_istore 25 B (lv2 := [(4, .int j29), (3, .int (a0.1 0)), (1, .long (a0.2.1 0)), (0, .ref h0)]) dX7_takeSequence_25 (by decide) rfl ?_
          refine V_iload 27 B dX7_takeSequence_27 0 rfl ?_
          refine V_iconst 29 B (v := (-1)) dX7_takeSequence_29 (by decide +kernel) ?_
          refine V_icmp_ne 30 B 43 dX7_takeSequence_30 (by decide) (fun k32 => ?_) (fun k32 => ?_)
          ·
            refine V_iload_n 43 B dX7_takeSequence_43 1 rfl ?_
            refine V_iconst 44 B (v := 4) dX7_takeSequence_44 (by decide +kernel) ?_
            refine V_icmp_ne 45 B 58 dX7_takeSequence_45 (by decide) (fun k33 => ?_) (fun k33 => ?_)
            ·
              refine V_lload_n 58 B dX7_takeSequence_58 2 rfl ?_
              refine V_iload 59 B dX7_takeSequence_59 0 rfl ?_
              refine V_gsl 61 B envX EB (st := []) (As := [.long (a0.2.1 0), .int j29]) (fun sz => sX6_extended_1 l D Y  (a0.2.1 0) j29 sz) glS_RX7_68 ⟨rfl, rfl⟩ ⟨(Nat.le_of_ble_eq_true rfl), (Nat.le_of_ble_eq_true rfl)⟩ ⟨(Nat.le_of_ble_eq_true rfl), (Nat.le_of_ble_eq_true rfl)⟩ [] rfl rfl (Nat.le_of_ble_eq_true rfl) rfl (fun _ _ _ => rfl) dX7_takeSequence_61 (fun o34 u35 w36 => ?_)
              refine V_ws [(h0, oC 8 [.ref h1, .int p0, .int (a0.1 1), .int (a0.1 2), .int (a0.1 3), .int p4, .long (a0.2.1 1), .int (a0.1 4), .int (a0.1 5)]), (h1, aB Y 1600 f0)] rfl ?_
              refine V_lstore_n 64 B (lv2 := [(1, .long o34), (4, .int j29), (3, .int (a0.1 0)), (0, .ref h0)]) dX7_takeSequence_64 (by decide) rfl ?_
              refine V_iinc 65 B (v := ((a0.1 0) + Int32.ofInt 1)) (lv2 := [(3, .int ((a0.1 0) + Int32.ofInt 1)), (1, .long o34), (4, .int j29), (0, .ref h0)]) dX7_takeSequence_65 2 rfl rfl (by decide) rfl ?_
              refine V_aload_n 68 B dX7_takeSequence_68 3 rfl ?_
              refine V_gvv 69 B envX EB (st := []) (As := []) (fun sz => sX7_advance_1 l D Y h0 h1 p0 (a0.1 1) (a0.1 2) (a0.1 3) p4 (a0.2.1 1) (a0.1 4) (a0.1 5) f0 sz) glV_RX7_28 ⟨rfl, rfl⟩ ⟨(Nat.le_of_ble_eq_true rfl), (Nat.le_of_ble_eq_true rfl)⟩ ⟨(Nat.le_of_ble_eq_true rfl), (Nat.le_of_ble_eq_true rfl)⟩ [0, 0] rfl 8 0 rfl rfl rfl rfl (Nat.le_of_ble_eq_true rfl) rfl (fun _ _ => rfl) dX7_takeSequence_69 (fun u38 w39 => ?_)
              refine V_ws [(h0, oC 8 [.ref h1, .int p0, .int (u38.1 0), .int (u38.1 1), .int (u38.1 2), .int p4, .long (a0.2.1 1), .int (a0.1 4), .int (a0.1 5)]), (h1, aB Y 1600 f0)] rfl ?_
              refine V_goto 72 B 4 dX7_takeSequence_72 (by decide) ?_
              refine V_lv [(3, .int ((a0.1 0) + Int32.ofInt 1)), (1, .long o34), (0, .ref h0)] [0, 1, 3] rfl ?_
              exact IH1 (mkU [((a0.1 0) + Int32.ofInt 1), (u38.1 0), (u38.1 1), (u38.1 2), (a0.1 4), (a0.1 5)] [o34, (a0.2.1 1)] [] [] []) (Int.le_trans (by decide) (o_add_lo (c := Int32.ofInt 1) hI2 (b_ngt k3 (n := 4) (by decide +kernel)) (by decide +kernel) (by decide +kernel) (k := 1) (by decide +kernel))) (up_dec (x := (a0.1 0)) (c := Int32.ofInt 1) (by decide +kernel) hI2 (Int.le_trans (b_ngt k3 (n := 4) (by decide +kernel)) (by decide)) (by decide))
            ·
              refine V_aload_n 48 B dX7_takeSequence_48 3 rfl ?_
              refine V_iconst 49 B (v := 3) dX7_takeSequence_49 (by decide +kernel) ?_
              refine V_aload_n 50 B dX7_takeSequence_50 3 rfl ?_
              refine V_get 51 B gf_RX7_31 0 rfl rfl dX7_takeSequence_51 ?_
              refine V_gvi 54 B envX EB (st := []) (As := [.int 3, .int (a0.1 2)]) (fun sz => sX7_fail_1 l D Y h0 h1 p0 (a0.1 1) (a0.1 2) (a0.1 3) p4 (a0.2.1 1) (a0.1 4) (a0.1 5) 3 (a0.1 2) sz) glV_RX7_53 ⟨rfl, rfl⟩ ⟨(Nat.le_of_ble_eq_true rfl), (Nat.le_of_ble_eq_true rfl)⟩ ⟨(Nat.le_of_ble_eq_true rfl), (Nat.le_of_ble_eq_true rfl)⟩ [0] rfl 8 0 rfl rfl rfl rfl (Nat.le_of_ble_eq_true rfl) rfl (fun _ _ _ => rfl) dX7_takeSequence_54 (fun j40 u41 w42 => ?_)
              refine V_ws [(h0, oC 8 [.ref h1, .int p0, .int (a0.1 1), .int (a0.1 2), .int (a0.1 3), .int p4, .long (a0.2.1 1), .int (u41.1 0), .int (u41.1 1)]), (h1, aB Y 1600 f0)] rfl ?_
              rcases w42 with rfl | rfl
              ·
                exact V_zret 57 B rfl dX7_takeSequence_57 (mkU [(a0.1 1), (a0.1 2), (a0.1 3), (u41.1 0), (u41.1 1)] [(a0.2.1 1)] [] [] []) (Or.inl rfl) rfl
              ·
                exact V_zret 57 B rfl dX7_takeSequence_57 (mkU [(a0.1 1), (a0.1 2), (a0.1 3), (u41.1 0), (u41.1 1)] [(a0.2.1 1)] [] [] []) (Or.inr rfl) rfl
          ·
            obtain rfl : j29 = (-1) := k32
            refine V_aload_n 33 B dX7_takeSequence_33 3 rfl ?_
            refine V_iconst 34 B (v := 1) dX7_takeSequence_34 (by decide +kernel) ?_
            refine V_aload_n 35 B dX7_takeSequence_35 3 rfl ?_
            refine V_get 36 B gf_RX7_31 0 rfl rfl dX7_takeSequence_36 ?_
            refine V_gvi 39 B envX EB (st := []) (As := [.int 1, .int (a0.1 2)]) (fun sz => sX7_fail_1 l D Y h0 h1 p0 (a0.1 1) (a0.1 2) (a0.1 3) p4 (a0.2.1 1) (a0.1 4) (a0.1 5) 1 (a0.1 2) sz) glV_RX7_53 ⟨rfl, rfl⟩ ⟨(Nat.le_of_ble_eq_true rfl), (Nat.le_of_ble_eq_true rfl)⟩ ⟨(Nat.le_of_ble_eq_true rfl), (Nat.le_of_ble_eq_true rfl)⟩ [0] rfl 8 0 rfl rfl rfl rfl (Nat.le_of_ble_eq_true rfl) rfl (fun _ _ _ => rfl) dX7_takeSequence_39 (fun j43 u44 w45 => ?_)
            refine V_ws [(h0, oC 8 [.ref h1, .int p0, .int (a0.1 1), .int (a0.1 2), .int (a0.1 3), .int p4, .long (a0.2.1 1), .int (u44.1 0), .int (u44.1 1)]), (h1, aB Y 1600 f0)] rfl ?_
            rcases w45 with rfl | rfl
            ·
              exact V_zret 42 B rfl dX7_takeSequence_42 (mkU [(a0.1 1), (a0.1 2), (a0.1 3), (u44.1 0), (u44.1 1)] [(a0.2.1 1)] [] [] []) (Or.inl rfl) rfl
            ·
              exact V_zret 42 B rfl dX7_takeSequence_42 (mkU [(a0.1 1), (a0.1 2), (a0.1 3), (u44.1 0), (u44.1 1)] [(a0.2.1 1)] [] [] []) (Or.inr rfl) rfl)
theorem glV_RX3_141 : GLV RX3 141 yX7_takeSequence RX7 cX7_takeSequence 5 (some .boolean) 0 := ⟨⟨(mT3 80 rfl rfl), (mT3 81 rfl rfl), (mT3 82 rfl rfl), (mT1 10 rfl rfl), (mT3 83 rfl rfl)⟩, by decide +kernel⟩
theorem dX3_readBinding_105 : decode cX3_readBinding 105 = .ok (.ifCond .ne 5, 3) := by decide +kernel
theorem dX3_readBinding_108 : decode cX3_readBinding 108 = .ok (.iconst 0, 1) := by decide +kernel
theorem dX3_readBinding_109 : decode cX3_readBinding 109 = .ok (.ireturn, 1) := by decide +kernel
theorem dX3_readBinding_110 : decode cX3_readBinding 110 = .ok (.aload_n 0, 1) := by decide +kernel
theorem dX3_readBinding_111 : decode cX3_readBinding 111 = .ok (.getfield 15, 3) := by decide +kernel
theorem dX3_readBinding_114 : decode cX3_readBinding 114 = .ok (.iload_n 2, 1) := by decide +kernel
theorem dX3_readBinding_115 : decode cX3_readBinding 115 = .ok (.aload_n 0, 1) := by decide +kernel
theorem dX3_readBinding_116 : decode cX3_readBinding 116 = .ok (.getfield 9, 3) := by decide +kernel
theorem dX3_readBinding_119 : decode cX3_readBinding 119 = .ok (.getfield 147, 3) := by decide +kernel
theorem gf_RX3_147 : GF RX3 147 8 6 := ⟨RX7, TX7, 9, rfl, inw_X7, Nat.le_of_ble_eq_true rfl, (mT2 51 rfl rfl)⟩
theorem dX3_readBinding_122 : decode cX3_readBinding 122 = .ok (.invokevirtual 160, 3) := by decide +kernel
theorem dX0_isBarred_0 : decode cX0_isBarred 0 = .ok (.aload_n 0, 1) := by decide +kernel
theorem dX0_isBarred_1 : decode cX0_isBarred 1 = .ok (.getfield 32, 3) := by decide +kernel
theorem dX0_isBarred_4 : decode cX0_isBarred 4 = .ok (.lload_n 2, 1) := by decide +kernel
theorem dX0_isBarred_5 : decode cX0_isBarred 5 = .ok (.invokevirtual 119, 3) := by decide +kernel
theorem dX5_hasClash_0 : decode cX5_hasClash 0 = .ok (.iconst 0, 1) := by decide +kernel
theorem dX5_hasClash_1 : decode cX5_hasClash 1 = .ok (.istore_n 3, 1) := by decide +kernel
theorem dX5_hasClash_2 : decode cX5_hasClash 2 = .ok (.iload_n 3, 1) := by decide +kernel
theorem dX5_hasClash_3 : decode cX5_hasClash 3 = .ok (.aload_n 0, 1) := by decide +kernel
theorem dX5_hasClash_4 : decode cX5_hasClash 4 = .ok (.getfield 19, 3) := by decide +kernel
theorem gf_RX5_19 : GF RX5 19 7 1 := ⟨RX5, TX5, 2, rfl, inw_X5, Nat.le_of_ble_eq_true rfl, (mT1 67 rfl rfl)⟩
theorem dX5_hasClash_7 : decode cX5_hasClash 7 = .ok (.if_icmp .ge 33, 3) := by decide +kernel
theorem dX5_hasClash_40 : decode cX5_hasClash 40 = .ok (.iconst 0, 1) := by decide +kernel
theorem dX5_hasClash_41 : decode cX5_hasClash 41 = .ok (.ireturn, 1) := by decide +kernel
theorem dX5_hasClash_10 : decode cX5_hasClash 10 = .ok (.iload_n 3, 1) := by decide +kernel
theorem dX5_hasClash_11 : decode cX5_hasClash 11 = .ok (.aload_n 0, 1) := by decide +kernel
theorem dX5_hasClash_12 : decode cX5_hasClash 12 = .ok (.getfield 13, 3) := by decide +kernel
theorem gf_RX5_13 : GF RX5 13 7 0 := ⟨RX5, TX5, 2, rfl, inw_X5, Nat.le_of_ble_eq_true rfl, (mT1 66 rfl rfl)⟩
theorem dX5_hasClash_15 : decode cX5_hasClash 15 = .ok (.arraylength, 1) := by decide +kernel
theorem dX5_hasClash_16 : decode cX5_hasClash 16 = .ok (.if_icmp .ge 24, 3) := by decide +kernel
theorem dX5_hasClash_19 : decode cX5_hasClash 19 = .ok (.aload_n 0, 1) := by decide +kernel
theorem dX5_hasClash_20 : decode cX5_hasClash 20 = .ok (.getfield 13, 3) := by decide +kernel
theorem dX5_hasClash_23 : decode cX5_hasClash 23 = .ok (.iload_n 3, 1) := by decide +kernel
theorem dX5_hasClash_24 : decode cX5_hasClash 24 = .ok (.laload, 1) := by decide +kernel
theorem dX5_hasClash_25 : decode cX5_hasClash 25 = .ok (.lload_n 1, 1) := by decide +kernel
theorem dX5_hasClash_26 : decode cX5_hasClash 26 = .ok (.invokestatic 23, 3) := by decide +kernel
theorem dX6_clashBetween_0 : decode cX6_clashBetween 0 = .ok (.bipush 27, 2) := by decide +kernel
theorem dX6_clashBetween_2 : decode cX6_clashBetween 2 = .ok (.istore 4, 2) := by decide +kernel
theorem dX6_clashBetween_4 : decode cX6_clashBetween 4 = .ok (.iload 4, 2) := by decide +kernel
theorem dX6_clashBetween_6 : decode cX6_clashBetween 6 = .ok (.ifCond .lt 55, 3) := by decide +kernel
theorem dX6_clashBetween_61 : decode cX6_clashBetween 61 = .ok (.iconst 1, 1) := by decide +kernel
theorem dX6_clashBetween_62 : decode cX6_clashBetween 62 = .ok (.ireturn, 1) := by decide +kernel
theorem dX6_clashBetween_9 : decode cX6_clashBetween 9 = .ok (.lload_n 0, 1) := by decide +kernel
theorem dX6_clashBetween_10 : decode cX6_clashBetween 10 = .ok (.iload 4, 2) := by decide +kernel
theorem dX6_clashBetween_12 : decode cX6_clashBetween 12 = .ok (.lshr, 1) := by decide +kernel
theorem dX6_clashBetween_13 : decode cX6_clashBetween 13 = .ok (.ldc2_w 11, 3) := by decide +kernel
theorem dX6_clashBetween_16 : decode cX6_clashBetween 16 = .ok (.land, 1) := by decide +kernel
theorem dX6_clashBetween_17 : decode cX6_clashBetween 17 = .ok (.lstore 5, 2) := by decide +kernel
theorem dX6_clashBetween_19 : decode cX6_clashBetween 19 = .ok (.lload_n 2, 1) := by decide +kernel
theorem dX6_clashBetween_20 : decode cX6_clashBetween 20 = .ok (.iload 4, 2) := by decide +kernel
theorem dX6_clashBetween_22 : decode cX6_clashBetween 22 = .ok (.lshr, 1) := by decide +kernel
theorem dX6_clashBetween_23 : decode cX6_clashBetween 23 = .ok (.ldc2_w 11, 3) := by decide +kernel
theorem dX6_clashBetween_26 : decode cX6_clashBetween 26 = .ok (.land, 1) := by decide +kernel
theorem dX6_clashBetween_27 : decode cX6_clashBetween 27 = .ok (.lstore 7, 2) := by decide +kernel
theorem dX6_clashBetween_29 : decode cX6_clashBetween 29 = .ok (.lload 5, 2) := by decide +kernel
theorem dX6_clashBetween_31 : decode cX6_clashBetween 31 = .ok (.lconst 0, 1) := by decide +kernel
theorem dX6_clashBetween_32 : decode cX6_clashBetween 32 = .ok (.lcmp, 1) := by decide +kernel
theorem dX6_clashBetween_33 : decode cX6_clashBetween 33 = .ok (.ifCond .eq 10, 3) := by decide +kernel
theorem dX6_clashBetween_43 : decode cX6_clashBetween 43 = .ok (.iconst 1, 1) := by decide +kernel
theorem dX6_clashBetween_44 : decode cX6_clashBetween 44 = .ok (.ireturn, 1) := by decide +kernel
theorem dX6_clashBetween_36 : decode cX6_clashBetween 36 = .ok (.lload 7, 2) := by decide +kernel
theorem dX6_clashBetween_38 : decode cX6_clashBetween 38 = .ok (.lconst 0, 1) := by decide +kernel
theorem dX6_clashBetween_39 : decode cX6_clashBetween 39 = .ok (.lcmp, 1) := by decide +kernel
theorem dX6_clashBetween_40 : decode cX6_clashBetween 40 = .ok (.ifCond .ne 5, 3) := by decide +kernel
theorem dX6_clashBetween_45 : decode cX6_clashBetween 45 = .ok (.lload 5, 2) := by decide +kernel
theorem dX6_clashBetween_47 : decode cX6_clashBetween 47 = .ok (.lload 7, 2) := by decide +kernel
theorem dX6_clashBetween_49 : decode cX6_clashBetween 49 = .ok (.lcmp, 1) := by decide +kernel
theorem dX6_clashBetween_50 : decode cX6_clashBetween 50 = .ok (.ifCond .eq 5, 3) := by decide +kernel
theorem dX6_clashBetween_55 : decode cX6_clashBetween 55 = .ok (.iinc 4 (-9), 3) := by decide +kernel
theorem dX6_clashBetween_58 : decode cX6_clashBetween 58 = .ok (.goto (-54), 3) := by decide +kernel
theorem dX6_clashBetween_53 : decode cX6_clashBetween 53 = .ok (.iconst 0, 1) := by decide +kernel
theorem dX6_clashBetween_54 : decode cX6_clashBetween 54 = .ok (.ireturn, 1) := by decide +kernel
set_option maxRecDepth 100000 in
set_option maxHeartbeats 4000000 in
theorem sX6_clashBetween_1 (l : Launch) (D : va_G) (Y : Nat → ClassId) (p0 : Int64) (p1 : Int64) (sz : Nat) : Met l yX6_clashBetween (WSm yX6_clashBetween cX6_clashBetween 9 (some .boolean)) (mkR 0 0 0 0) (PreG EX D Y [.long p0, .long p1] [] sz) (QI D (fun (r : Int32) (_ : UU) => r = 0 ∨ r = 1) (fun (u : UU) => []) (va_A [] sz)) 0 0 (va_A [] sz) :=
  gmet_of (by decide +kernel) (Nat.le_of_ble_eq_true rfl) (fun p e s m args below meth c B EB hsz => by
    have B : VB p s m args meth c D Y (va_A [] sz) cX6_clashBetween 9 RX6 (some .boolean) := B
    refine V_bipush 0 B (v := 27) dX6_clashBetween_0 (by decide +kernel) ?_
    refine V_istore 2 B (lv2 := [(4, .int 27), (0, .long p0), (2, .long p1)]) dX6_clashBetween_2 (by decide) rfl ?_
    refine V_wloop (α := UU) (fun a => (((a.1 0)).toInt + 9).toNat) (fun a => True) (fun a => [(4, .int (a.1 0)), (0, .long p0), (2, .long p1)]) (fun a => []) (mkU [27] [] [] [] []) trivial rfl rfl (fun a0 hI2 IH1 => ?_)
    refine V_lv [(4, .int (a0.1 0)), (0, .long p0), (2, .long p1)] [0, 1, 2] rfl ?_
    refine V_ws [] rfl ?_
    refine V_iload 4 B dX6_clashBetween_4 0 rfl ?_
    refine V_if_lt 6 B 61 dX6_clashBetween_6 (by decide) (fun k3 => ?_) (fun k3 => ?_)
    ·
      refine V_iconst 61 B (v := 1) dX6_clashBetween_61 (by decide +kernel) ?_
      exact V_zret 62 B rfl dX6_clashBetween_62 (mkU [] [] [] [] []) (Or.inr rfl) rfl
    ·
      refine V_lload_n 9 B dX6_clashBetween_9 1 rfl ?_
      refine V_iload 10 B dX6_clashBetween_10 0 rfl ?_
      refine V_lshr 12 B dX6_clashBetween_12 rfl ?_
      refine V_nml (fun o4 _ => ?_)
      refine V_ldc2 13 B (v := 511) dX6_clashBetween_13 (mT3 101 rfl rfl) ?_
      refine V_land 16 B dX6_clashBetween_16 rfl ?_
      refine V_nml (fun o5 _ => ?_)
      refine V_lstore 17 B (lv2 := [(5, .long o5), (4, .int (a0.1 0)), (0, .long p0), (2, .long p1)]) dX6_clashBetween_17 (by decide) rfl ?_
      refine V_lload_n 19 B dX6_clashBetween_19 3 rfl ?_
      refine V_iload 20 B dX6_clashBetween_20 1 rfl ?_
      refine V_lshr 22 B dX6_clashBetween_22 rfl ?_
      refine V_nml (fun o6 _ => ?_)
      refine V_ldc2 23 B (v := 511) dX6_clashBetween_23 (mT3 101 rfl rfl) ?_
      refine V_land 26 B dX6_clashBetween_26 rfl ?_
      refine V_nml (fun o7 _ => ?_)
      refine V_lstore 27 B (lv2 := [(7, .long o7), (5, .long o5), (4, .int (a0.1 0)), (0, .long p0), (2, .long p1)]) dX6_clashBetween_27 (by decide) rfl ?_
      refine V_lload 29 B dX6_clashBetween_29 1 rfl ?_
      refine V_lconst 31 B (v := 0) dX6_clashBetween_31 (by decide +kernel) ?_
      refine V_lcmp 32 B dX6_clashBetween_32 rfl ?_
      refine V_nmi (fun j8 _ => ?_)
      refine V_if_eq 33 B 43 dX6_clashBetween_33 (by decide) (fun k9 => ?_) (fun k9 => ?_)
      ·
        obtain rfl : j8 = 0 := k9
        refine V_iconst 43 B (v := 1) dX6_clashBetween_43 (by decide +kernel) ?_
        exact V_zret 44 B rfl dX6_clashBetween_44 (mkU [] [] [] [] []) (Or.inr rfl) rfl
      ·
        refine V_lload 36 B dX6_clashBetween_36 0 rfl ?_
        refine V_lconst 38 B (v := 0) dX6_clashBetween_38 (by decide +kernel) ?_
        refine V_lcmp 39 B dX6_clashBetween_39 rfl ?_
        refine V_nmi (fun j10 _ => ?_)
        refine V_if_ne 40 B 45 dX6_clashBetween_40 (by decide) (fun k11 => ?_) (fun k11 => ?_)
        ·
          refine V_lload 45 B dX6_clashBetween_45 1 rfl ?_
          refine V_lload 47 B dX6_clashBetween_47 0 rfl ?_
          refine V_lcmp 49 B dX6_clashBetween_49 rfl ?_
          refine V_nmi (fun j12 _ => ?_)
          refine V_if_eq 50 B 55 dX6_clashBetween_50 (by decide) (fun k13 => ?_) (fun k13 => ?_)
          ·
            obtain rfl : j12 = 0 := k13
            refine V_iinc 55 B (v := ((a0.1 0) + Int32.ofInt (-9))) (lv2 := [(4, .int ((a0.1 0) + Int32.ofInt (-9))), (7, .long o7), (5, .long o5), (0, .long p0), (2, .long p1)]) dX6_clashBetween_55 2 rfl rfl (by decide) rfl ?_
            refine V_goto 58 B 4 dX6_clashBetween_58 (by decide) ?_
            refine V_lv [(4, .int ((a0.1 0) + Int32.ofInt (-9))), (0, .long p0), (2, .long p1)] [0, 3, 4] rfl ?_
            exact IH1 (mkU [((a0.1 0) + Int32.ofInt (-9))] [] [] [] []) trivial (dn_dec (x := (a0.1 0)) (c := Int32.ofInt (-9)) (k := 9) (by decide +kernel) (by decide) (by decide) (b_nlt k3 (n := 0) (by decide +kernel)) (by decide) (i_hi (a0.1 0)) (by decide))
          ·
            refine V_iconst 53 B (v := 0) dX6_clashBetween_53 (by decide +kernel) ?_
            exact V_zret 54 B rfl dX6_clashBetween_54 (mkU [] [] [] [] []) (Or.inl rfl) rfl
        ·
          obtain rfl : j10 = 0 := k11
          refine V_iconst 43 B (v := 1) dX6_clashBetween_43 (by decide +kernel) ?_
          exact V_zret 44 B rfl dX6_clashBetween_44 (mkU [] [] [] [] []) (Or.inr rfl) rfl)
theorem glS_RX5_23 : GLS RX5 23 yX6_clashBetween cX6_clashBetween 9 (some .boolean) 2 := ⟨⟨(mT3 107 rfl rfl), (mT3 108 rfl rfl), (mT1 18 rfl rfl), (mT3 109 rfl rfl)⟩, by decide +kernel⟩
theorem dX5_hasClash_29 : decode cX5_hasClash 29 = .ok (.ifCond .eq 5, 3) := by decide +kernel
theorem dX5_hasClash_34 : decode cX5_hasClash 34 = .ok (.iinc 3 1, 3) := by decide +kernel
theorem dX5_hasClash_37 : decode cX5_hasClash 37 = .ok (.goto (-35), 3) := by decide +kernel
theorem dX5_hasClash_32 : decode cX5_hasClash 32 = .ok (.iconst 1, 1) := by decide +kernel
theorem dX5_hasClash_33 : decode cX5_hasClash 33 = .ok (.ireturn, 1) := by decide +kernel
set_option maxRecDepth 100000 in
set_option maxHeartbeats 4000000 in
theorem sX5_hasClash_1 (l : Launch) (D : va_G) (Y : Nat → ClassId) (h0 : Nat) (h1 : Nat) (p0 : Int32) (f0 : Nat → Int64) (p1 : Int64) (sz : Nat) : Met l yX5_hasClash (WSm yX5_hasClash cX5_hasClash 4 (some .boolean)) (mkR 1 0 0 28) (PreG EX D Y [.ref h0, .long p1] [(h0, oC 7 [.ref h1, .int p0]), (h1, aJ Y 6 f0)] sz) (QI D (fun (r : Int32) (_ : UU) => r = 0 ∨ r = 1) (fun (u : UU) => [(h0, oC 7 [.ref h1, .int p0]), (h1, aJ Y 6 f0)]) (va_A [(h0, oC 7 [.ref h1, .int p0]), (h1, aJ Y 6 f0)] sz)) 0 0 (va_A [(h0, oC 7 [.ref h1, .int p0]), (h1, aJ Y 6 f0)] sz) :=
  gmet_of (by decide +kernel) (Nat.le_of_ble_eq_true rfl) (fun p e s m args below meth c B EB hsz => by
    have B : VB p s m args meth c D Y (va_A [(h0, oC 7 [.ref h1, .int p0]), (h1, aJ Y 6 f0)] sz) cX5_hasClash 4 RX5 (some .boolean) := B
    refine V_iconst 0 B (v := 0) dX5_hasClash_0 (by decide +kernel) ?_
    refine V_istore_n 1 B (lv2 := [(3, .int 0), (0, .ref h0), (1, .long p1)]) dX5_hasClash_1 (by decide) rfl ?_
    refine V_wloop (α := UU) (fun a => (2147483647 - ((a.1 0)).toInt).toNat) (fun a => 0 ≤ ((a.1 0)).toInt) (fun a => [(3, .int (a.1 0)), (0, .ref h0), (1, .long p1)]) (fun a => [(h0, oC 7 [.ref h1, .int p0]), (h1, aJ Y 6 f0)]) (mkU [0] [] [] [] []) (show (0 : Int) ≤ (0 : Int32).toInt by decide +kernel) rfl rfl (fun a0 hI2 IH1 => ?_)
    refine V_lv [(3, .int (a0.1 0)), (0, .ref h0), (1, .long p1)] [0, 1, 2] rfl ?_
    refine V_ws [(h0, oC 7 [.ref h1, .int p0]), (h1, aJ Y 6 f0)] rfl ?_
    refine V_iload_n 2 B dX5_hasClash_2 0 rfl ?_
    refine V_aload_n 3 B dX5_hasClash_3 1 rfl ?_
    refine V_get 4 B gf_RX5_19 0 rfl rfl dX5_hasClash_4 ?_
    refine V_icmp_ge 7 B 40 dX5_hasClash_7 (by decide) (fun k3 => ?_) (fun k3 => ?_)
    ·
      refine V_iconst 40 B (v := 0) dX5_hasClash_40 (by decide +kernel) ?_
      exact V_zret 41 B rfl dX5_hasClash_41 (mkU [] [] [] [] []) (Or.inl rfl) rfl
    ·
      refine V_iload_n 10 B dX5_hasClash_10 0 rfl ?_
      refine V_aload_n 11 B dX5_hasClash_11 1 rfl ?_
      refine V_get 12 B gf_RX5_13 0 rfl rfl dX5_hasClash_12 ?_
      refine V_alenJ 15 B (v := 6) 1 rfl (by decide +kernel) dX5_hasClash_15 ?_
      refine V_icmp_ge 16 B 40 dX5_hasClash_16 (by decide) (fun k4 => ?_) (fun k4 => ?_)
      ·
        refine V_iconst 40 B (v := 0) dX5_hasClash_40 (by decide +kernel) ?_
        exact V_zret 41 B rfl dX5_hasClash_41 (mkU [] [] [] [] []) (Or.inl rfl) rfl
      ·
        refine V_aload_n 19 B dX5_hasClash_19 1 rfl ?_
        refine V_get 20 B gf_RX5_13 0 rfl rfl dX5_hasClash_20 ?_
        refine V_iload_n 23 B dX5_hasClash_23 0 rfl ?_
        refine V_lald 24 B 1 rfl (vpin_b hI2 (b_nge k4 (n := 5) (by decide +kernel)) (by decide)) dX5_hasClash_24 rfl ?_
        refine V_nml (fun o5 _ => ?_)
        refine V_lload_n 25 B dX5_hasClash_25 2 rfl ?_
        refine V_gsi 26 B envX EB (st := []) (As := [.long o5, .long p1]) (fun sz => sX6_clashBetween_1 l D Y  o5 p1 sz) glS_RX5_23 ⟨rfl, rfl⟩ ⟨(Nat.le_of_ble_eq_true rfl), (Nat.le_of_ble_eq_true rfl)⟩ ⟨(Nat.le_of_ble_eq_true rfl), (Nat.le_of_ble_eq_true rfl)⟩ [] rfl rfl (Nat.le_of_ble_eq_true rfl) rfl (fun _ _ _ => rfl) dX5_hasClash_26 (fun j6 u7 w8 => ?_)
        refine V_ws [(h0, oC 7 [.ref h1, .int p0]), (h1, aJ Y 6 f0)] rfl ?_
        rcases w8 with rfl | rfl
        ·
          refine V_if_eq_t 29 B 34 dX5_hasClash_29 (by decide) (by decide +kernel) ?_
          refine V_iinc 34 B (v := ((a0.1 0) + Int32.ofInt 1)) (lv2 := [(3, .int ((a0.1 0) + Int32.ofInt 1)), (0, .ref h0), (1, .long p1)]) dX5_hasClash_34 0 rfl rfl (by decide) rfl ?_
          refine V_goto 37 B 2 dX5_hasClash_37 (by decide) ?_
          refine V_lv [(3, .int ((a0.1 0) + Int32.ofInt 1)), (0, .ref h0), (1, .long p1)] [0, 1, 2] rfl ?_
          exact IH1 (mkU [((a0.1 0) + Int32.ofInt 1)] [] [] [] []) (Int.le_trans (by decide) (o_add_lo (c := Int32.ofInt 1) hI2 (b_nge k4 (n := 5) (by decide +kernel)) (by decide +kernel) (by decide +kernel) (k := 1) (by decide +kernel))) (up_dec (x := (a0.1 0)) (c := Int32.ofInt 1) (by decide +kernel) hI2 (Int.le_trans (b_nge k4 (n := 5) (by decide +kernel)) (by decide)) (by decide))
        ·
          refine V_if_eq_f 29 B 34 dX5_hasClash_29 (by decide) (by decide +kernel) ?_
          refine V_iconst 32 B (v := 1) dX5_hasClash_32 (by decide +kernel) ?_
          exact V_zret 33 B rfl dX5_hasClash_33 (mkU [] [] [] [] []) (Or.inr rfl) rfl)
