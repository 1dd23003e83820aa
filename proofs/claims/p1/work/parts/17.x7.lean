theorem dX11_meanCostBits_0 : decode cX11_meanCostBits 0 = .ok (.aload_n 0, 1) := by decide +kernel
theorem dX11_meanCostBits_1 : decode cX11_meanCostBits 1 = .ok (.iload_n 1, 1) := by decide +kernel
theorem dX11_meanCostBits_2 : decode cX11_meanCostBits 2 = .ok (.invokevirtual 180, 3) := by decide +kernel
theorem dX11_meanCostBits_5 : decode cX11_meanCostBits 5 = .ok (.aload_n 0, 1) := by decide +kernel
theorem dX11_meanCostBits_6 : decode cX11_meanCostBits 6 = .ok (.getfield 30, 3) := by decide +kernel
theorem dX11_meanCostBits_9 : decode cX11_meanCostBits 9 = .ok (.iload_n 1, 1) := by decide +kernel
theorem dX11_meanCostBits_10 : decode cX11_meanCostBits 10 = .ok (.invokevirtual 270, 3) := by decide +kernel
theorem dX11_meanCostBits_13 : decode cX11_meanCostBits 13 = .ok (.aload_n 0, 1) := by decide +kernel
theorem dX11_meanCostBits_14 : decode cX11_meanCostBits 14 = .ok (.getfield 30, 3) := by decide +kernel
theorem dX11_meanCostBits_17 : decode cX11_meanCostBits 17 = .ok (.getfield 276, 3) := by decide +kernel
theorem dX11_meanCostBits_20 : decode cX11_meanCostBits 20 = .ok (.invokevirtual 95, 3) := by decide +kernel
theorem dX11_meanCostBits_23 : decode cX11_meanCostBits 23 = .ok (.istore_n 2, 1) := by decide +kernel
theorem dX11_meanCostBits_24 : decode cX11_meanCostBits 24 = .ok (.iload_n 2, 1) := by decide +kernel
theorem dX11_meanCostBits_25 : decode cX11_meanCostBits 25 = .ok (.ifCond .gt 14, 3) := by decide +kernel
theorem dX11_meanCostBits_28 : decode cX11_meanCostBits 28 = .ok (.new 292, 3) := by decide +kernel
theorem gta_296 : (∀ w ∈ (vx_atS RX11 296 "java/lang/ArithmeticException" ["java/lang/RuntimeException", "java/lang/Exception"]).filter goodWord, w ∈ lw_good) ∧ ∀ w ∈ (vx_atS RX11 296 "java/lang/ArithmeticException" ["java/lang/RuntimeException", "java/lang/Exception"]).filter (fun w => !goodWord w), w ∈ ngw "java/lang/ArithmeticException" := by decide +kernel
theorem gt_RX11_292_294_296 : GT RX11 292 294 296 "java/lang/ArithmeticException" "no visible binding" ["java/lang/RuntimeException", "java/lang/Exception"] := ⟨rfl, (mT6 225 rfl rfl), (mT1 26 rfl rfl), List.mem_of_getElem? (i := 3) rfl, by decide +kernel, by decide +kernel, List.mem_of_getElem? (i := 2) rfl, gta_296⟩
theorem dX11_meanCostBits_31 : decode cX11_meanCostBits 31 = .ok (.dup, 1) := by decide +kernel
theorem dX11_meanCostBits_32 : decode cX11_meanCostBits 32 = .ok (.ldc_w 294, 3) := by decide +kernel
theorem dX11_meanCostBits_35 : decode cX11_meanCostBits 35 = .ok (.invokespecial 296, 3) := by decide +kernel
theorem dX11_meanCostBits_38 : decode cX11_meanCostBits 38 = .ok (.athrow, 1) := by decide +kernel
set_option maxRecDepth 100000 in
set_option maxHeartbeats 4000000 in
theorem mX11_meanCostBits_1 (l : Launch) (hl9 : l.stackTraces = false) (D : va_G) (Y : Nat → ClassId) (h0 : Nat) (h1 : Nat) (g0 : Nat) (g1 : Nat) (g2 : Nat) (h5 : Nat) (g3 : Nat) (g4 : Nat) (g5 : Nat) (g6 : Nat) (h2 : Nat) (g7 : Nat) (g8 : Nat) (g9 : Nat) (g10 : Nat) (h4 : Nat) (g11 : Nat) (g12 : Nat) (g13 : Nat) (g14 : Nat) (g15 : Nat) (h3 : Nat) (g16 : Nat) (h6 : Nat) (h8 : Nat) (g17 : Nat) (g18 : Nat) (h7 : Nat) (g19 : Nat) (p0 : Int32) (sz : Nat) : vx_Met l yX11_meanCostBits (WSm yX11_meanCostBits cX11_meanCostBits 5 (some .int)) (mkR 7 2 12 103) (PreX D Y [.ref h0, .int p0] [(h0, oC 12 [.ref h1, .ref g0, .ref g1, .ref g2, .ref h5, .ref g3, .ref g4, .ref g5, .ref g6, .long 0]), (h1, oC 2 [.ref h2, .ref g7, .ref g8, .ref g9, .ref g10, .ref h4, .ref g11, .ref g12, .ref g13, .ref g14, .ref g15, .int 0]), (h2, oC 3 [.ref h3, .int 1]), (h3, aI Y 6 (upd (fun _ => 0) 0 (-1))), (h4, oC 3 [.ref g16, .int 0]), (h5, oC 11 [.ref h1, .ref h6, .ref h8, .ref g17, .ref g18]), (h6, oC 3 [.ref h7, .int 0]), (h7, aI Y 6 (fun _ => 0)), (h8, oC 3 [.ref g19, .int 0])] sz) (QI D (fun (r : Int32) (u : Unit) => False) (fun (_ : Unit) => [(h0, oC 12 [.ref h1, .ref g0, .ref g1, .ref g2, .ref h5, .ref g3, .ref g4, .ref g5, .ref g6, .long 0]), (h1, oC 2 [.ref h2, .ref g7, .ref g8, .ref g9, .ref g10, .ref h4, .ref g11, .ref g12, .ref g13, .ref g14, .ref g15, .int 0]), (h2, oC 3 [.ref h3, .int 1]), (h3, aI Y 6 (upd (fun _ => 0) 0 (-1))), (h4, oC 3 [.ref g16, .int 0]), (h5, oC 11 [.ref h1, .ref h6, .ref h8, .ref g17, .ref g18]), (h6, oC 3 [.ref h7, .int 0]), (h7, aI Y 6 (fun _ => 0)), (h8, oC 3 [.ref g19, .int 0])]) (va_A [(h0, oC 12 [.ref h1, .ref g0, .ref g1, .ref g2, .ref h5, .ref g3, .ref g4, .ref g5, .ref g6, .long 0]), (h1, oC 2 [.ref h2, .ref g7, .ref g8, .ref g9, .ref g10, .ref h4, .ref g11, .ref g12, .ref g13, .ref g14, .ref g15, .int 0]), (h2, oC 3 [.ref h3, .int 1]), (h3, aI Y 6 (upd (fun _ => 0) 0 (-1))), (h4, oC 3 [.ref g16, .int 0]), (h5, oC 11 [.ref h1, .ref h6, .ref h8, .ref g17, .ref g18]), (h6, oC 3 [.ref h7, .int 0]), (h7, aI Y 6 (fun _ => 0)), (h8, oC 3 [.ref g19, .int 0])] sz)) (XW D (fun (E : String) (u : Nat) => (E = "java/lang/IndexOutOfBoundsException" ∧ u = 0 ∧ p0 < 0) ∨ (E = "java/lang/IndexOutOfBoundsException" ∧ u = 1 ∧ ¬ p0 < 0 ∧ 1 ≤ p0) ∨ (E = "java/lang/ArithmeticException" ∧ u = 2 ∧ p0 = 0)) (fun (u : Nat) => match u with | 0 => [(h0, oC 12 [.ref h1, .ref g0, .ref g1, .ref g2, .ref h5, .ref g3, .ref g4, .ref g5, .ref g6, .long 0]), (h1, oC 2 [.ref h2, .ref g7, .ref g8, .ref g9, .ref g10, .ref h4, .ref g11, .ref g12, .ref g13, .ref g14, .ref g15, .int 0]), (h2, oC 3 [.ref h3, .int 1]), (h3, aI Y 6 (upd (fun _ => 0) 0 (-1))), (h4, oC 3 [.ref g16, .int 0]), (h5, oC 11 [.ref h1, .ref h6, .ref h8, .ref g17, .ref g18]), (h6, oC 3 [.ref h7, .int 0]), (h7, aI Y 6 (fun _ => 0)), (h8, oC 3 [.ref g19, .int 0])] | 1 => [(h0, oC 12 [.ref h1, .ref g0, .ref g1, .ref g2, .ref h5, .ref g3, .ref g4, .ref g5, .ref g6, .long 0]), (h1, oC 2 [.ref h2, .ref g7, .ref g8, .ref g9, .ref g10, .ref h4, .ref g11, .ref g12, .ref g13, .ref g14, .ref g15, .int 0]), (h2, oC 3 [.ref h3, .int 1]), (h3, aI Y 6 (upd (fun _ => 0) 0 (-1))), (h4, oC 3 [.ref g16, .int 0]), (h5, oC 11 [.ref h1, .ref h6, .ref h8, .ref g17, .ref g18]), (h6, oC 3 [.ref h7, .int 0]), (h7, aI Y 6 (fun _ => 0)), (h8, oC 3 [.ref g19, .int 0])] | _ => [(h0, oC 12 [.ref h1, .ref g0, .ref g1, .ref g2, .ref h5, .ref g3, .ref g4, .ref g5, .ref g6, .long 0]), (h1, oC 2 [.ref h2, .ref g7, .ref g8, .ref g9, .ref g10, .ref h4, .ref g11, .ref g12, .ref g13, .ref g14, .ref g15, .int 0]), (h2, oC 3 [.ref h3, .int 1]), (h3, aI Y 6 (upd (fun _ => 0) 0 (-1))), (h4, oC 3 [.ref g16, .int 0]), (h5, oC 11 [.ref h1, .ref h6, .ref h8, .ref g17, .ref g18]), (h6, oC 3 [.ref h7, .int 6]), (h7, aI Y 6 (upd (upd (upd (upd (upd (upd (upd (fun _ => 0) 0 (-1)) 1 (-1)) 2 (-1)) 3 (-1)) 4 (-1)) 5 (-1)) 0 0)), (h8, oC 3 [.ref g19, .int 0])]) (va_A [(h0, oC 12 [.ref h1, .ref g0, .ref g1, .ref g2, .ref h5, .ref g3, .ref g4, .ref g5, .ref g6, .long 0]), (h1, oC 2 [.ref h2, .ref g7, .ref g8, .ref g9, .ref g10, .ref h4, .ref g11, .ref g12, .ref g13, .ref g14, .ref g15, .int 0]), (h2, oC 3 [.ref h3, .int 1]), (h3, aI Y 6 (upd (fun _ => 0) 0 (-1))), (h4, oC 3 [.ref g16, .int 0]), (h5, oC 11 [.ref h1, .ref h6, .ref h8, .ref g17, .ref g18]), (h6, oC 3 [.ref h7, .int 0]), (h7, aI Y 6 (fun _ => 0)), (h8, oC 3 [.ref g19, .int 0])] sz)) 2 12 (va_A [(h0, oC 12 [.ref h1, .ref g0, .ref g1, .ref g2, .ref h5, .ref g3, .ref g4, .ref g5, .ref g6, .long 0]), (h1, oC 2 [.ref h2, .ref g7, .ref g8, .ref g9, .ref g10, .ref h4, .ref g11, .ref g12, .ref g13, .ref g14, .ref g15, .int 0]), (h2, oC 3 [.ref h3, .int 1]), (h3, aI Y 6 (upd (fun _ => 0) 0 (-1))), (h4, oC 3 [.ref g16, .int 0]), (h5, oC 11 [.ref h1, .ref h6, .ref h8, .ref g17, .ref g18]), (h6, oC 3 [.ref h7, .int 0]), (h7, aI Y 6 (fun _ => 0)), (h8, oC 3 [.ref g19, .int 0])] sz) :=
  xmet_of (by decide +kernel) (Nat.le_of_ble_eq_true rfl) (fun p e s m args below meth c B EB hout hsz => by
    have B : VB p s m args meth c D Y (va_A [(h0, oC 12 [.ref h1, .ref g0, .ref g1, .ref g2, .ref h5, .ref g3, .ref g4, .ref g5, .ref g6, .long 0]), (h1, oC 2 [.ref h2, .ref g7, .ref g8, .ref g9, .ref g10, .ref h4, .ref g11, .ref g12, .ref g13, .ref g14, .ref g15, .int 0]), (h2, oC 3 [.ref h3, .int 1]), (h3, aI Y 6 (upd (fun _ => 0) 0 (-1))), (h4, oC 3 [.ref g16, .int 0]), (h5, oC 11 [.ref h1, .ref h6, .ref h8, .ref g17, .ref g18]), (h6, oC 3 [.ref h7, .int 0]), (h7, aI Y 6 (fun _ => 0)), (h8, oC 3 [.ref g19, .int 0])] sz) cX11_meanCostBits 5 RX11 (some .int) := B
    refine V_aload_n 0 B dX11_meanCostBits_0 0 rfl ?_
    refine V_iload_n 1 B dX11_meanCostBits_1 1 rfl ?_
    refine V_xvv 2 B EB (st := []) (As := [.int p0]) (fun sz => mX11_needMode_1 l hl9 D Y (h0) (h1) (g0) (g1) (g2) (h5) (g3) (g4) (g5) (g6) (h2) (g7) (g8) (g9) (g10) (h4) (g11) (g12) (g13) (g14) (g15) (h3) (p0) sz) glV_RX11_180 ⟨rfl, rfl⟩ ⟨(Nat.le_of_ble_eq_true rfl), (Nat.le_of_ble_eq_true rfl)⟩ ⟨(Nat.le_of_ble_eq_true rfl), (Nat.le_of_ble_eq_true rfl)⟩ [0, 0, 0] rfl 12 0 rfl rfl rfl rfl (Nat.le_of_ble_eq_true rfl) rfl (fun _ _ => rfl) (fun _ _ _ => rfl) dX11_meanCostBits_2 (fun E u0 w0 => ?_) (fun u0 w0 => ?_)
    ·
      rcases w0 with ⟨rfl, k1⟩ | ⟨rfl, k2, k3⟩
      ·
        exact VX_out 2 B hout 0 (Or.inl ⟨rfl, rfl, k1⟩) rfl (Nat.le_of_ble_eq_true rfl) (Nat.le_of_ble_eq_true rfl)
      ·
        exact VX_out 2 B hout 1 (Or.inr (Or.inl ⟨rfl, rfl, k2, k3⟩)) rfl (Nat.le_of_ble_eq_true rfl) (Nat.le_of_ble_eq_true rfl)
    ·
      have k4 := w0
      refine V_ws [(h0, oC 12 [.ref h1, .ref g0, .ref g1, .ref g2, .ref h5, .ref g3, .ref g4, .ref g5, .ref g6, .long 0]), (h1, oC 2 [.ref h2, .ref g7, .ref g8, .ref g9, .ref g10, .ref h4, .ref g11, .ref g12, .ref g13, .ref g14, .ref g15, .int 0]), (h2, oC 3 [.ref h3, .int 1]), (h3, aI Y 6 (upd (fun _ => 0) 0 (-1))), (h4, oC 3 [.ref g16, .int 0]), (h5, oC 11 [.ref h1, .ref h6, .ref h8, .ref g17, .ref g18]), (h6, oC 3 [.ref h7, .int 0]), (h7, aI Y 6 (fun _ => 0)), (h8, oC 3 [.ref g19, .int 0])] rfl ?_
      obtain rfl : p0 = 0 := k4
      refine V_aload_n 5 B dX11_meanCostBits_5 0 rfl ?_
      refine V_get 6 B gf_RX11_30 0 rfl rfl dX11_meanCostBits_6 ?_
      refine V_iload_n 9 B dX11_meanCostBits_9 1 rfl ?_
      refine V_cvv 10 B (st := []) (As := [.int 0]) (fun sz => mX10_gather_1 l D Y (h5) (h1) (h2) (g7) (g8) (g9) (g10) (h4) (g11) (g12) (g13) (g14) (g15) (h3) (g16) (h6) (h8) (g17) (g18) (h7) (g19) sz) glV_RX11_270 ⟨rfl, rfl⟩ ⟨(Nat.le_of_ble_eq_true rfl), (Nat.le_of_ble_eq_true rfl)⟩ ⟨(Nat.le_of_ble_eq_true rfl), (Nat.le_of_ble_eq_true rfl)⟩ [1, 0, 0, 0, 0, 0, 0, 0] rfl 11 4 rfl rfl rfl rfl (Nat.le_of_ble_eq_true rfl) rfl (fun _ _ => rfl) dX11_meanCostBits_10 (fun u5 w5 => ?_)
      refine V_ws [(h0, oC 12 [.ref h1, .ref g0, .ref g1, .ref g2, .ref h5, .ref g3, .ref g4, .ref g5, .ref g6, .long 0]), (h1, oC 2 [.ref h2, .ref g7, .ref g8, .ref g9, .ref g10, .ref h4, .ref g11, .ref g12, .ref g13, .ref g14, .ref g15, .int 0]), (h2, oC 3 [.ref h3, .int 1]), (h3, aI Y 6 (upd (fun _ => 0) 0 (-1))), (h4, oC 3 [.ref g16, .int 0]), (h5, oC 11 [.ref h1, .ref h6, .ref h8, .ref g17, .ref g18]), (h6, oC 3 [.ref h7, .int 6]), (h7, aI Y 6 (upd (upd (upd (upd (upd (upd (upd (fun _ => 0) 0 (-1)) 1 (-1)) 2 (-1)) 3 (-1)) 4 (-1)) 5 (-1)) 0 0)), (h8, oC 3 [.ref g19, .int 0])] rfl ?_
      refine V_aload_n 13 B dX11_meanCostBits_13 0 rfl ?_
      refine V_get 14 B gf_RX11_30 0 rfl rfl dX11_meanCostBits_14 ?_
      refine V_get 17 B gf_RX11_276 5 rfl rfl dX11_meanCostBits_17 ?_
      refine V_cvi 20 B (st := []) (As := []) (fun sz => mX1_size_1 l D Y (h8) (g19) sz) glV_RX11_95 ⟨rfl, rfl⟩ ⟨(Nat.le_of_ble_eq_true rfl), (Nat.le_of_ble_eq_true rfl)⟩ ⟨(Nat.le_of_ble_eq_true rfl), (Nat.le_of_ble_eq_true rfl)⟩ [8] rfl 3 0 rfl rfl rfl rfl (Nat.le_of_ble_eq_true rfl) rfl (fun _ _ _ => rfl) dX11_meanCostBits_20 (fun r6 u6 w6 => ?_)
      obtain rfl := w6
      refine V_ws [(h0, oC 12 [.ref h1, .ref g0, .ref g1, .ref g2, .ref h5, .ref g3, .ref g4, .ref g5, .ref g6, .long 0]), (h1, oC 2 [.ref h2, .ref g7, .ref g8, .ref g9, .ref g10, .ref h4, .ref g11, .ref g12, .ref g13, .ref g14, .ref g15, .int 0]), (h2, oC 3 [.ref h3, .int 1]), (h3, aI Y 6 (upd (fun _ => 0) 0 (-1))), (h4, oC 3 [.ref g16, .int 0]), (h5, oC 11 [.ref h1, .ref h6, .ref h8, .ref g17, .ref g18]), (h6, oC 3 [.ref h7, .int 6]), (h7, aI Y 6 (upd (upd (upd (upd (upd (upd (upd (fun _ => 0) 0 (-1)) 1 (-1)) 2 (-1)) 3 (-1)) 4 (-1)) 5 (-1)) 0 0)), (h8, oC 3 [.ref g19, .int 0])] rfl ?_
      refine V_istore_n 23 B (lv2 := [(2, .int 0), (0, .ref h0), (1, .int 0)]) dX11_meanCostBits_23 (by decide) rfl ?_
      refine V_iload_n 24 B dX11_meanCostBits_24 0 rfl ?_
      refine V_if_gt_f 25 B 39 dX11_meanCostBits_25 (by decide) (by decide +kernel) ?_
      exact V_throwSW 28 B EB hl9 gt_RX11_292_294_296 hout dX11_meanCostBits_28 dX11_meanCostBits_31 dX11_meanCostBits_32 dX11_meanCostBits_35 dX11_meanCostBits_38 (Nat.le_of_ble_eq_true rfl) (Nat.le_of_ble_eq_true rfl) (Nat.le_of_ble_eq_true rfl) (Nat.le_of_ble_eq_true rfl) (Nat.le_of_ble_eq_true rfl) (Nat.le_of_ble_eq_true rfl) 2 (Or.inr (Or.inr ⟨rfl, rfl, rfl⟩)) rfl)
theorem dX11_needLayer_0 : decode cX11_needLayer 0 = .ok (.iload_n 1, 1) := by decide +kernel
theorem dX11_needLayer_1 : decode cX11_needLayer 1 = .ok (.ifCond .lt 20, 3) := by decide +kernel
theorem dX11_needLayer_21 : decode cX11_needLayer 21 = .ok (.new 225, 3) := by decide +kernel
theorem gt_RX11_225_410_229 : GT RX11 225 410 229 "java/lang/IndexOutOfBoundsException" "no such layer" ["java/lang/RuntimeException", "java/lang/Exception"] := ⟨rfl, (mT5 136 rfl rfl), (mT1 23 rfl rfl), List.mem_of_getElem? (i := 12) rfl, by decide +kernel, by decide +kernel, List.mem_of_getElem? (i := 1) rfl, gta_229⟩
theorem dX11_needLayer_24 : decode cX11_needLayer 24 = .ok (.dup, 1) := by decide +kernel
theorem dX11_needLayer_25 : decode cX11_needLayer 25 = .ok (.ldc_w 410, 3) := by decide +kernel
theorem dX11_needLayer_28 : decode cX11_needLayer 28 = .ok (.invokespecial 229, 3) := by decide +kernel
theorem dX11_needLayer_31 : decode cX11_needLayer 31 = .ok (.athrow, 1) := by decide +kernel
theorem dX11_needLayer_4 : decode cX11_needLayer 4 = .ok (.iload_n 1, 1) := by decide +kernel
theorem dX11_needLayer_5 : decode cX11_needLayer 5 = .ok (.aload_n 0, 1) := by decide +kernel
theorem dX11_needLayer_6 : decode cX11_needLayer 6 = .ok (.getfield 10, 3) := by decide +kernel
theorem dX11_needLayer_9 : decode cX11_needLayer 9 = .ok (.getfield 110, 3) := by decide +kernel
theorem dX11_needLayer_12 : decode cX11_needLayer 12 = .ok (.getfield 114, 3) := by decide +kernel
theorem dX11_needLayer_15 : decode cX11_needLayer 15 = .ok (.invokevirtual 95, 3) := by decide +kernel
theorem dX11_needLayer_18 : decode cX11_needLayer 18 = .ok (.if_icmp .lt 14, 3) := by decide +kernel
set_option maxRecDepth 100000 in
set_option maxHeartbeats 4000000 in
theorem mX11_needLayer_1 (l : Launch) (hl9 : l.stackTraces = false) (D : va_G) (Y : Nat → ClassId) (h0 : Nat) (h1 : Nat) (g0 : Nat) (g1 : Nat) (g2 : Nat) (g3 : Nat) (g4 : Nat) (g5 : Nat) (g6 : Nat) (g7 : Nat) (g8 : Nat) (g9 : Nat) (g10 : Nat) (g11 : Nat) (g12 : Nat) (g13 : Nat) (g14 : Nat) (g15 : Nat) (g16 : Nat) (h2 : Nat) (g17 : Nat) (h3 : Nat) (g18 : Nat) (g19 : Nat) (g20 : Nat) (p0 : Int32) (sz : Nat) : vx_Met l yX11_needLayer (WSm yX11_needLayer cX11_needLayer 2 none) (mkR 6 1 6 82) (PreX D Y [.ref h0, .int p0] [(h0, oC 12 [.ref h1, .ref g0, .ref g1, .ref g2, .ref g3, .ref g4, .ref g5, .ref g6, .ref g7, .long 0]), (h1, oC 2 [.ref g8, .ref g9, .ref g10, .ref g11, .ref g12, .ref g13, .ref g14, .ref g15, .ref g16, .ref h2, .ref g17, .int 0]), (h2, oC 4 [.ref h3, .ref g18, .ref g19, .int 0]), (h3, oC 3 [.ref g20, .int 0])] sz) (QV D (fun (u : Unit) => False) (fun (_ : Unit) => [(h0, oC 12 [.ref h1, .ref g0, .ref g1, .ref g2, .ref g3, .ref g4, .ref g5, .ref g6, .ref g7, .long 0]), (h1, oC 2 [.ref g8, .ref g9, .ref g10, .ref g11, .ref g12, .ref g13, .ref g14, .ref g15, .ref g16, .ref h2, .ref g17, .int 0]), (h2, oC 4 [.ref h3, .ref g18, .ref g19, .int 0]), (h3, oC 3 [.ref g20, .int 0])]) (va_A [(h0, oC 12 [.ref h1, .ref g0, .ref g1, .ref g2, .ref g3, .ref g4, .ref g5, .ref g6, .ref g7, .long 0]), (h1, oC 2 [.ref g8, .ref g9, .ref g10, .ref g11, .ref g12, .ref g13, .ref g14, .ref g15, .ref g16, .ref h2, .ref g17, .int 0]), (h2, oC 4 [.ref h3, .ref g18, .ref g19, .int 0]), (h3, oC 3 [.ref g20, .int 0])] sz)) (XW D (fun (E : String) (u : Unit) => (E = "java/lang/IndexOutOfBoundsException" ∧ p0 < 0) ∨ (E = "java/lang/IndexOutOfBoundsException" ∧ ¬ p0 < 0)) (fun (_ : Unit) => [(h0, oC 12 [.ref h1, .ref g0, .ref g1, .ref g2, .ref g3, .ref g4, .ref g5, .ref g6, .ref g7, .long 0]), (h1, oC 2 [.ref g8, .ref g9, .ref g10, .ref g11, .ref g12, .ref g13, .ref g14, .ref g15, .ref g16, .ref h2, .ref g17, .int 0]), (h2, oC 4 [.ref h3, .ref g18, .ref g19, .int 0]), (h3, oC 3 [.ref g20, .int 0])]) (va_A [(h0, oC 12 [.ref h1, .ref g0, .ref g1, .ref g2, .ref g3, .ref g4, .ref g5, .ref g6, .ref g7, .long 0]), (h1, oC 2 [.ref g8, .ref g9, .ref g10, .ref g11, .ref g12, .ref g13, .ref g14, .ref g15, .ref g16, .ref h2, .ref g17, .int 0]), (h2, oC 4 [.ref h3, .ref g18, .ref g19, .int 0]), (h3, oC 3 [.ref g20, .int 0])] sz)) 1 6 (va_A [(h0, oC 12 [.ref h1, .ref g0, .ref g1, .ref g2, .ref g3, .ref g4, .ref g5, .ref g6, .ref g7, .long 0]), (h1, oC 2 [.ref g8, .ref g9, .ref g10, .ref g11, .ref g12, .ref g13, .ref g14, .ref g15, .ref g16, .ref h2, .ref g17, .int 0]), (h2, oC 4 [.ref h3, .ref g18, .ref g19, .int 0]), (h3, oC 3 [.ref g20, .int 0])] sz) :=
  xmet_of (by decide +kernel) (Nat.le_of_ble_eq_true rfl) (fun p e s m args below meth c B EB hout hsz => by
    have B : VB p s m args meth c D Y (va_A [(h0, oC 12 [.ref h1, .ref g0, .ref g1, .ref g2, .ref g3, .ref g4, .ref g5, .ref g6, .ref g7, .long 0]), (h1, oC 2 [.ref g8, .ref g9, .ref g10, .ref g11, .ref g12, .ref g13, .ref g14, .ref g15, .ref g16, .ref h2, .ref g17, .int 0]), (h2, oC 4 [.ref h3, .ref g18, .ref g19, .int 0]), (h3, oC 3 [.ref g20, .int 0])] sz) cX11_needLayer 2 RX11 none := B
    refine V_iload_n 0 B dX11_needLayer_0 1 rfl ?_
    refine V_if_lt 1 B 21 dX11_needLayer_1 (by decide) (fun k0 => ?_) (fun k0 => ?_)
    ·
      exact V_throwSW 21 B EB hl9 gt_RX11_225_410_229 hout dX11_needLayer_21 dX11_needLayer_24 dX11_needLayer_25 dX11_needLayer_28 dX11_needLayer_31 (Nat.le_of_ble_eq_true rfl) (Nat.le_of_ble_eq_true rfl) (Nat.le_of_ble_eq_true rfl) (Nat.le_of_ble_eq_true rfl) (Nat.le_of_ble_eq_true rfl) (Nat.le_of_ble_eq_true rfl) () (Or.inl ⟨rfl, k0⟩) rfl
    ·
      refine V_iload_n 4 B dX11_needLayer_4 1 rfl ?_
      refine V_aload_n 5 B dX11_needLayer_5 0 rfl ?_
      refine V_get 6 B gf_RX11_10 0 rfl rfl dX11_needLayer_6 ?_
      refine V_get 9 B gf_RX11_110 1 rfl rfl dX11_needLayer_9 ?_
      refine V_get 12 B gf_RX11_114 2 rfl rfl dX11_needLayer_12 ?_
      refine V_cvi 15 B (st := [.int p0]) (As := []) (fun sz => mX1_size_1 l D Y (h3) (g20) sz) glV_RX11_95 ⟨rfl, rfl⟩ ⟨(Nat.le_of_ble_eq_true rfl), (Nat.le_of_ble_eq_true rfl)⟩ ⟨(Nat.le_of_ble_eq_true rfl), (Nat.le_of_ble_eq_true rfl)⟩ [3] rfl 3 0 rfl rfl rfl rfl (Nat.le_of_ble_eq_true rfl) rfl (fun _ _ _ => rfl) dX11_needLayer_15 (fun r1 u1 w1 => ?_)
      obtain rfl := w1
      refine V_ws [(h0, oC 12 [.ref h1, .ref g0, .ref g1, .ref g2, .ref g3, .ref g4, .ref g5, .ref g6, .ref g7, .long 0]), (h1, oC 2 [.ref g8, .ref g9, .ref g10, .ref g11, .ref g12, .ref g13, .ref g14, .ref g15, .ref g16, .ref h2, .ref g17, .int 0]), (h2, oC 4 [.ref h3, .ref g18, .ref g19, .int 0]), (h3, oC 3 [.ref g20, .int 0])] rfl ?_
      refine V_icmp_lt_f 18 B 32 dX11_needLayer_18 (by decide) (q_nlt (b_nlt k0 (n := 0) (by decide +kernel)) (by decide +kernel)) ?_
      exact V_throwSW 21 B EB hl9 gt_RX11_225_410_229 hout dX11_needLayer_21 dX11_needLayer_24 dX11_needLayer_25 dX11_needLayer_28 dX11_needLayer_31 (Nat.le_of_ble_eq_true rfl) (Nat.le_of_ble_eq_true rfl) (Nat.le_of_ble_eq_true rfl) (Nat.le_of_ble_eq_true rfl) (Nat.le_of_ble_eq_true rfl) (Nat.le_of_ble_eq_true rfl) () (Or.inr ⟨rfl, k0⟩) rfl)
theorem dX11_layer_0 : decode cX11_layer 0 = .ok (.aload_n 0, 1) := by decide +kernel
theorem dX11_layer_1 : decode cX11_layer 1 = .ok (.iload_n 1, 1) := by decide +kernel
theorem dX11_layer_2 : decode cX11_layer 2 = .ok (.invokevirtual 317, 3) := by decide +kernel
theorem glV_RX11_317 : GLV RX11 317 yX11_needLayer RX11 cX11_needLayer 2 none 1 := ⟨⟨(mT7 17 rfl rfl), (mT7 19 rfl rfl), (mTs 24 rfl rfl), (mT1 1 rfl rfl), (mT7 20 rfl rfl)⟩, by decide +kernel⟩
set_option maxRecDepth 100000 in
set_option maxHeartbeats 4000000 in
theorem mX11_layer_1 (l : Launch) (hl9 : l.stackTraces = false) (D : va_G) (Y : Nat → ClassId) (h0 : Nat) (h1 : Nat) (g0 : Nat) (g1 : Nat) (g2 : Nat) (g3 : Nat) (g4 : Nat) (g5 : Nat) (g6 : Nat) (g7 : Nat) (g8 : Nat) (g9 : Nat) (g10 : Nat) (g11 : Nat) (g12 : Nat) (g13 : Nat) (g14 : Nat) (g15 : Nat) (g16 : Nat) (h2 : Nat) (g17 : Nat) (h3 : Nat) (g18 : Nat) (g19 : Nat) (g20 : Nat) (p0 : Int32) (p1 : Int32) (sz : Nat) : vx_Met l yX11_layer (WSm yX11_layer cX11_layer 3 (some .int)) (mkR 7 1 6 103) (PreX D Y [.ref h0, .int p0, .int p1] [(h0, oC 12 [.ref h1, .ref g0, .ref g1, .ref g2, .ref g3, .ref g4, .ref g5, .ref g6, .ref g7, .long 0]), (h1, oC 2 [.ref g8, .ref g9, .ref g10, .ref g11, .ref g12, .ref g13, .ref g14, .ref g15, .ref g16, .ref h2, .ref g17, .int 0]), (h2, oC 4 [.ref h3, .ref g18, .ref g19, .int 0]), (h3, oC 3 [.ref g20, .int 0])] sz) (QI D (fun (r : Int32) (u : Unit) => False) (fun (_ : Unit) => [(h0, oC 12 [.ref h1, .ref g0, .ref g1, .ref g2, .ref g3, .ref g4, .ref g5, .ref g6, .ref g7, .long 0]), (h1, oC 2 [.ref g8, .ref g9, .ref g10, .ref g11, .ref g12, .ref g13, .ref g14, .ref g15, .ref g16, .ref h2, .ref g17, .int 0]), (h2, oC 4 [.ref h3, .ref g18, .ref g19, .int 0]), (h3, oC 3 [.ref g20, .int 0])]) (va_A [(h0, oC 12 [.ref h1, .ref g0, .ref g1, .ref g2, .ref g3, .ref g4, .ref g5, .ref g6, .ref g7, .long 0]), (h1, oC 2 [.ref g8, .ref g9, .ref g10, .ref g11, .ref g12, .ref g13, .ref g14, .ref g15, .ref g16, .ref h2, .ref g17, .int 0]), (h2, oC 4 [.ref h3, .ref g18, .ref g19, .int 0]), (h3, oC 3 [.ref g20, .int 0])] sz)) (XW D (fun (E : String) (u : Unit) => (E = "java/lang/IndexOutOfBoundsException" ∧ p0 < 0) ∨ (E = "java/lang/IndexOutOfBoundsException" ∧ ¬ p0 < 0)) (fun (_ : Unit) => [(h0, oC 12 [.ref h1, .ref g0, .ref g1, .ref g2, .ref g3, .ref g4, .ref g5, .ref g6, .ref g7, .long 0]), (h1, oC 2 [.ref g8, .ref g9, .ref g10, .ref g11, .ref g12, .ref g13, .ref g14, .ref g15, .ref g16, .ref h2, .ref g17, .int 0]), (h2, oC 4 [.ref h3, .ref g18, .ref g19, .int 0]), (h3, oC 3 [.ref g20, .int 0])]) (va_A [(h0, oC 12 [.ref h1, .ref g0, .ref g1, .ref g2, .ref g3, .ref g4, .ref g5, .ref g6, .ref g7, .long 0]), (h1, oC 2 [.ref g8, .ref g9, .ref g10, .ref g11, .ref g12, .ref g13, .ref g14, .ref g15, .ref g16, .ref h2, .ref g17, .int 0]), (h2, oC 4 [.ref h3, .ref g18, .ref g19, .int 0]), (h3, oC 3 [.ref g20, .int 0])] sz)) 1 6 (va_A [(h0, oC 12 [.ref h1, .ref g0, .ref g1, .ref g2, .ref g3, .ref g4, .ref g5, .ref g6, .ref g7, .long 0]), (h1, oC 2 [.ref g8, .ref g9, .ref g10, .ref g11, .ref g12, .ref g13, .ref g14, .ref g15, .ref g16, .ref h2, .ref g17, .int 0]), (h2, oC 4 [.ref h3, .ref g18, .ref g19, .int 0]), (h3, oC 3 [.ref g20, .int 0])] sz) :=
  xmet_of (by decide +kernel) (Nat.le_of_ble_eq_true rfl) (fun p e s m args below meth c B EB hout hsz => by
    have B : VB p s m args meth c D Y (va_A [(h0, oC 12 [.ref h1, .ref g0, .ref g1, .ref g2, .ref g3, .ref g4, .ref g5, .ref g6, .ref g7, .long 0]), (h1, oC 2 [.ref g8, .ref g9, .ref g10, .ref g11, .ref g12, .ref g13, .ref g14, .ref g15, .ref g16, .ref h2, .ref g17, .int 0]), (h2, oC 4 [.ref h3, .ref g18, .ref g19, .int 0]), (h3, oC 3 [.ref g20, .int 0])] sz) cX11_layer 3 RX11 (some .int) := B
    refine V_aload_n 0 B dX11_layer_0 0 rfl ?_
    refine V_iload_n 1 B dX11_layer_1 1 rfl ?_
    refine V_xvv 2 B EB (st := []) (As := [.int p0]) (fun sz => mX11_needLayer_1 l hl9 D Y (h0) (h1) (g0) (g1) (g2) (g3) (g4) (g5) (g6) (g7) (g8) (g9) (g10) (g11) (g12) (g13) (g14) (g15) (g16) (h2) (g17) (h3) (g18) (g19) (g20) (p0) sz) glV_RX11_317 ⟨rfl, rfl⟩ ⟨(Nat.le_of_ble_eq_true rfl), (Nat.le_of_ble_eq_true rfl)⟩ ⟨(Nat.le_of_ble_eq_true rfl), (Nat.le_of_ble_eq_true rfl)⟩ [0, 0, 0, 0] rfl 12 0 rfl rfl rfl rfl (Nat.le_of_ble_eq_true rfl) rfl (fun _ _ => rfl) (fun _ _ _ => rfl) dX11_layer_2 (fun E u0 w0 => ?_) (fun u0 w0 => ?_)
    ·
      rcases w0 with ⟨rfl, k1⟩ | ⟨rfl, k2⟩
      ·
        exact VX_out 2 B hout () (Or.inl ⟨rfl, k1⟩) rfl (Nat.le_of_ble_eq_true rfl) (Nat.le_of_ble_eq_true rfl)
      ·
        exact VX_out 2 B hout () (Or.inr ⟨rfl, k2⟩) rfl (Nat.le_of_ble_eq_true rfl) (Nat.le_of_ble_eq_true rfl)
    ·
      exact w0.elim)
theorem dX11_mapped_0 : decode cX11_mapped 0 = .ok (.aload_n 0, 1) := by decide +kernel
theorem dX11_mapped_1 : decode cX11_mapped 1 = .ok (.iload_n 1, 1) := by decide +kernel
theorem dX11_mapped_2 : decode cX11_mapped 2 = .ok (.invokevirtual 317, 3) := by decide +kernel
set_option maxRecDepth 100000 in
set_option maxHeartbeats 4000000 in
theorem mX11_mapped_1 (l : Launch) (hl9 : l.stackTraces = false) (D : va_G) (Y : Nat → ClassId) (h0 : Nat) (h1 : Nat) (g0 : Nat) (g1 : Nat) (g2 : Nat) (g3 : Nat) (g4 : Nat) (g5 : Nat) (g6 : Nat) (g7 : Nat) (g8 : Nat) (g9 : Nat) (g10 : Nat) (g11 : Nat) (g12 : Nat) (g13 : Nat) (g14 : Nat) (g15 : Nat) (g16 : Nat) (h2 : Nat) (g17 : Nat) (h3 : Nat) (g18 : Nat) (g19 : Nat) (g20 : Nat) (p0 : Int32) (p1 : Int32) (sz : Nat) : vx_Met l yX11_mapped (WSm yX11_mapped cX11_mapped 3 (some .int)) (mkR 7 1 6 103) (PreX D Y [.ref h0, .int p0, .int p1] [(h0, oC 12 [.ref h1, .ref g0, .ref g1, .ref g2, .ref g3, .ref g4, .ref g5, .ref g6, .ref g7, .long 0]), (h1, oC 2 [.ref g8, .ref g9, .ref g10, .ref g11, .ref g12, .ref g13, .ref g14, .ref g15, .ref g16, .ref h2, .ref g17, .int 0]), (h2, oC 4 [.ref h3, .ref g18, .ref g19, .int 0]), (h3, oC 3 [.ref g20, .int 0])] sz) (QI D (fun (r : Int32) (u : Unit) => False) (fun (_ : Unit) => [(h0, oC 12 [.ref h1, .ref g0, .ref g1, .ref g2, .ref g3, .ref g4, .ref g5, .ref g6, .ref g7, .long 0]), (h1, oC 2 [.ref g8, .ref g9, .ref g10, .ref g11, .ref g12, .ref g13, .ref g14, .ref g15, .ref g16, .ref h2, .ref g17, .int 0]), (h2, oC 4 [.ref h3, .ref g18, .ref g19, .int 0]), (h3, oC 3 [.ref g20, .int 0])]) (va_A [(h0, oC 12 [.ref h1, .ref g0, .ref g1, .ref g2, .ref g3, .ref g4, .ref g5, .ref g6, .ref g7, .long 0]), (h1, oC 2 [.ref g8, .ref g9, .ref g10, .ref g11, .ref g12, .ref g13, .ref g14, .ref g15, .ref g16, .ref h2, .ref g17, .int 0]), (h2, oC 4 [.ref h3, .ref g18, .ref g19, .int 0]), (h3, oC 3 [.ref g20, .int 0])] sz)) (XW D (fun (E : String) (u : Unit) => (E = "java/lang/IndexOutOfBoundsException" ∧ p0 < 0) ∨ (E = "java/lang/IndexOutOfBoundsException" ∧ ¬ p0 < 0)) (fun (_ : Unit) => [(h0, oC 12 [.ref h1, .ref g0, .ref g1, .ref g2, .ref g3, .ref g4, .ref g5, .ref g6, .ref g7, .long 0]), (h1, oC 2 [.ref g8, .ref g9, .ref g10, .ref g11, .ref g12, .ref g13, .ref g14, .ref g15, .ref g16, .ref h2, .ref g17, .int 0]), (h2, oC 4 [.ref h3, .ref g18, .ref g19, .int 0]), (h3, oC 3 [.ref g20, .int 0])]) (va_A [(h0, oC 12 [.ref h1, .ref g0, .ref g1, .ref g2, .ref g3, .ref g4, .ref g5, .ref g6, .ref g7, .long 0]), (h1, oC 2 [.ref g8, .ref g9, .ref g10, .ref g11, .ref g12, .ref g13, .ref g14, .ref g15, .ref g16, .ref h2, .ref g17, .int 0]), (h2, oC 4 [.ref h3, .ref g18, .ref g19, .int 0]), (h3, oC 3 [.ref g20, .int 0])] sz)) 1 6 (va_A [(h0, oC 12 [.ref h1, .ref g0, .ref g1, .ref g2, .ref g3, .ref g4, .ref g5, .ref g6, .ref g7, .long 0]), (h1, oC 2 [.ref g8, .ref g9, .ref g10, .ref g11, .ref g12, .ref g13, .ref g14, .ref g15, .ref g16, .ref h2, .ref g17, .int 0]), (h2, oC 4 [.ref h3, .ref g18, .ref g19, .int 0]), (h3, oC 3 [.ref g20, .int 0])] sz) :=
  xmet_of (by decide +kernel) (Nat.le_of_ble_eq_true rfl) (fun p e s m args below meth c B EB hout hsz => by
    have B : VB p s m args meth c D Y (va_A [(h0, oC 12 [.ref h1, .ref g0, .ref g1, .ref g2, .ref g3, .ref g4, .ref g5, .ref g6, .ref g7, .long 0]), (h1, oC 2 [.ref g8, .ref g9, .ref g10, .ref g11, .ref g12, .ref g13, .ref g14, .ref g15, .ref g16, .ref h2, .ref g17, .int 0]), (h2, oC 4 [.ref h3, .ref g18, .ref g19, .int 0]), (h3, oC 3 [.ref g20, .int 0])] sz) cX11_mapped 3 RX11 (some .int) := B
    refine V_aload_n 0 B dX11_mapped_0 0 rfl ?_
    refine V_iload_n 1 B dX11_mapped_1 1 rfl ?_
    refine V_xvv 2 B EB (st := []) (As := [.int p0]) (fun sz => mX11_needLayer_1 l hl9 D Y (h0) (h1) (g0) (g1) (g2) (g3) (g4) (g5) (g6) (g7) (g8) (g9) (g10) (g11) (g12) (g13) (g14) (g15) (g16) (h2) (g17) (h3) (g18) (g19) (g20) (p0) sz) glV_RX11_317 ⟨rfl, rfl⟩ ⟨(Nat.le_of_ble_eq_true rfl), (Nat.le_of_ble_eq_true rfl)⟩ ⟨(Nat.le_of_ble_eq_true rfl), (Nat.le_of_ble_eq_true rfl)⟩ [0, 0, 0, 0] rfl 12 0 rfl rfl rfl rfl (Nat.le_of_ble_eq_true rfl) rfl (fun _ _ => rfl) (fun _ _ _ => rfl) dX11_mapped_2 (fun E u0 w0 => ?_) (fun u0 w0 => ?_)
    ·
      rcases w0 with ⟨rfl, k1⟩ | ⟨rfl, k2⟩
      ·
        exact VX_out 2 B hout () (Or.inl ⟨rfl, k1⟩) rfl (Nat.le_of_ble_eq_true rfl) (Nat.le_of_ble_eq_true rfl)
      ·
        exact VX_out 2 B hout () (Or.inr ⟨rfl, k2⟩) rfl (Nat.le_of_ble_eq_true rfl) (Nat.le_of_ble_eq_true rfl)
    ·
      exact w0.elim)
theorem dX11_hold_0 : decode cX11_hold 0 = .ok (.iload_n 1, 1) := by decide +kernel
theorem dX11_hold_1 : decode cX11_hold 1 = .ok (.ifCond .lt 9, 3) := by decide +kernel
theorem dX11_hold_10 : decode cX11_hold 10 = .ok (.new 190, 3) := by decide +kernel
theorem gt_RX11_190_332_194 : GT RX11 190 332 194 "java/lang/IllegalArgumentException" "no such set of modifiers" ["java/lang/RuntimeException", "java/lang/Exception"] := ⟨rfl, (mT5 31 rfl rfl), (mT1 22 rfl rfl), List.mem_of_getElem? (i := 5) rfl, by decide +kernel, by decide +kernel, List.mem_of_getElem? (i := 0) rfl, gta_194⟩
theorem dX11_hold_13 : decode cX11_hold 13 = .ok (.dup, 1) := by decide +kernel
theorem dX11_hold_14 : decode cX11_hold 14 = .ok (.ldc_w 332, 3) := by decide +kernel
theorem dX11_hold_17 : decode cX11_hold 17 = .ok (.invokespecial 194, 3) := by decide +kernel
theorem dX11_hold_20 : decode cX11_hold 20 = .ok (.athrow, 1) := by decide +kernel
theorem dX11_hold_4 : decode cX11_hold 4 = .ok (.iload_n 1, 1) := by decide +kernel
theorem dX11_hold_5 : decode cX11_hold 5 = .ok (.bipush 16, 2) := by decide +kernel
theorem dX11_hold_7 : decode cX11_hold 7 = .ok (.if_icmp .lt 14, 3) := by decide +kernel
theorem dX11_hold_21 : decode cX11_hold 21 = .ok (.aload_n 0, 1) := by decide +kernel
theorem dX11_hold_22 : decode cX11_hold 22 = .ok (.getfield 10, 3) := by decide +kernel
theorem dX11_hold_25 : decode cX11_hold 25 = .ok (.getfield 110, 3) := by decide +kernel
theorem dX11_hold_28 : decode cX11_hold 28 = .ok (.getfield 334, 3) := by decide +kernel
theorem gf_RX11_334 : GF RX11 334 4 3 := ⟨RX2, TX2, 4, rfl, inw_X2, Nat.le_of_ble_eq_true rfl, (mT1 92 rfl rfl)⟩
theorem dX11_hold_31 : decode cX11_hold 31 = .ok (.istore_n 2, 1) := by decide +kernel
theorem dX11_hold_32 : decode cX11_hold 32 = .ok (.aload_n 0, 1) := by decide +kernel
theorem dX11_hold_33 : decode cX11_hold 33 = .ok (.getfield 10, 3) := by decide +kernel
theorem dX11_hold_36 : decode cX11_hold 36 = .ok (.getfield 110, 3) := by decide +kernel
theorem dX11_hold_39 : decode cX11_hold 39 = .ok (.iload_n 1, 1) := by decide +kernel
theorem dX11_hold_40 : decode cX11_hold 40 = .ok (.putfield 334, 3) := by decide +kernel
theorem gp_RX11_334 : GP RX11 334 4 3 .int false := ⟨RX2, TX2, 4, ⟨rfl, inw_X2, Nat.le_of_ble_eq_true rfl, (mT1 92 rfl rfl)⟩, ⟨tyX2, tyX2_ok⟩, nmX2, rfl, by decide +kernel, fun h => nomatch h⟩
theorem dX11_hold_43 : decode cX11_hold 43 = .ok (.iload_n 2, 1) := by decide +kernel
theorem dX11_hold_44 : decode cX11_hold 44 = .ok (.ireturn, 1) := by decide +kernel
set_option maxRecDepth 100000 in
set_option maxHeartbeats 4000000 in
theorem mX11_hold_1 (l : Launch) (hl9 : l.stackTraces = false) (D : va_G) (Y : Nat → ClassId) (h0 : Nat) (h1 : Nat) (g0 : Nat) (g1 : Nat) (g2 : Nat) (g3 : Nat) (g4 : Nat) (g5 : Nat) (g6 : Nat) (g7 : Nat) (g8 : Nat) (g9 : Nat) (g10 : Nat) (g11 : Nat) (g12 : Nat) (g13 : Nat) (g14 : Nat) (g15 : Nat) (g16 : Nat) (h2 : Nat) (g17 : Nat) (g18 : Nat) (g19 : Nat) (g20 : Nat) (p0 : Int32) (sz : Nat) : vx_Met l yX11_hold (WSm yX11_hold cX11_hold 3 (some .int)) (mkR 6 1 6 82) (PreX D Y [.ref h0, .int p0] [(h0, oC 12 [.ref h1, .ref g0, .ref g1, .ref g2, .ref g3, .ref g4, .ref g5, .ref g6, .ref g7, .long 0]), (h1, oC 2 [.ref g8, .ref g9, .ref g10, .ref g11, .ref g12, .ref g13, .ref g14, .ref g15, .ref g16, .ref h2, .ref g17, .int 0]), (h2, oC 4 [.ref g18, .ref g19, .ref g20, .int 0])] sz) (QI D (fun (r : Int32) (u : Unit) => ¬ p0 < 0 ∧ p0 < 16 ∧ 0 = r) (fun (_ : Unit) => [(h0, oC 12 [.ref h1, .ref g0, .ref g1, .ref g2, .ref g3, .ref g4, .ref g5, .ref g6, .ref g7, .long 0]), (h1, oC 2 [.ref g8, .ref g9, .ref g10, .ref g11, .ref g12, .ref g13, .ref g14, .ref g15, .ref g16, .ref h2, .ref g17, .int 0]), (h2, oC 4 [.ref g18, .ref g19, .ref g20, .int p0])]) (va_A [(h0, oC 12 [.ref h1, .ref g0, .ref g1, .ref g2, .ref g3, .ref g4, .ref g5, .ref g6, .ref g7, .long 0]), (h1, oC 2 [.ref g8, .ref g9, .ref g10, .ref g11, .ref g12, .ref g13, .ref g14, .ref g15, .ref g16, .ref h2, .ref g17, .int 0]), (h2, oC 4 [.ref g18, .ref g19, .ref g20, .int 0])] sz)) (XW D (fun (E : String) (u : Unit) => (E = "java/lang/IllegalArgumentException" ∧ p0 < 0) ∨ (E = "java/lang/IllegalArgumentException" ∧ ¬ p0 < 0 ∧ ¬ p0 < 16)) (fun (_ : Unit) => [(h0, oC 12 [.ref h1, .ref g0, .ref g1, .ref g2, .ref g3, .ref g4, .ref g5, .ref g6, .ref g7, .long 0]), (h1, oC 2 [.ref g8, .ref g9, .ref g10, .ref g11, .ref g12, .ref g13, .ref g14, .ref g15, .ref g16, .ref h2, .ref g17, .int 0]), (h2, oC 4 [.ref g18, .ref g19, .ref g20, .int 0])]) (va_A [(h0, oC 12 [.ref h1, .ref g0, .ref g1, .ref g2, .ref g3, .ref g4, .ref g5, .ref g6, .ref g7, .long 0]), (h1, oC 2 [.ref g8, .ref g9, .ref g10, .ref g11, .ref g12, .ref g13, .ref g14, .ref g15, .ref g16, .ref h2, .ref g17, .int 0]), (h2, oC 4 [.ref g18, .ref g19, .ref g20, .int 0])] sz)) 1 6 (va_A [(h0, oC 12 [.ref h1, .ref g0, .ref g1, .ref g2, .ref g3, .ref g4, .ref g5, .ref g6, .ref g7, .long 0]), (h1, oC 2 [.ref g8, .ref g9, .ref g10, .ref g11, .ref g12, .ref g13, .ref g14, .ref g15, .ref g16, .ref h2, .ref g17, .int 0]), (h2, oC 4 [.ref g18, .ref g19, .ref g20, .int 0])] sz) :=
  xmet_of (by decide +kernel) (Nat.le_of_ble_eq_true rfl) (fun p e s m args below meth c B EB hout hsz => by
    have B : VB p s m args meth c D Y (va_A [(h0, oC 12 [.ref h1, .ref g0, .ref g1, .ref g2, .ref g3, .ref g4, .ref g5, .ref g6, .ref g7, .long 0]), (h1, oC 2 [.ref g8, .ref g9, .ref g10, .ref g11, .ref g12, .ref g13, .ref g14, .ref g15, .ref g16, .ref h2, .ref g17, .int 0]), (h2, oC 4 [.ref g18, .ref g19, .ref g20, .int 0])] sz) cX11_hold 3 RX11 (some .int) := B
    refine V_iload_n 0 B dX11_hold_0 1 rfl ?_
    refine V_if_lt 1 B 10 dX11_hold_1 (by decide) (fun k0 => ?_) (fun k0 => ?_)
    ·
      exact V_throwSW 10 B EB hl9 gt_RX11_190_332_194 hout dX11_hold_10 dX11_hold_13 dX11_hold_14 dX11_hold_17 dX11_hold_20 (Nat.le_of_ble_eq_true rfl) (Nat.le_of_ble_eq_true rfl) (Nat.le_of_ble_eq_true rfl) (Nat.le_of_ble_eq_true rfl) (Nat.le_of_ble_eq_true rfl) (Nat.le_of_ble_eq_true rfl) () (Or.inl ⟨rfl, k0⟩) rfl
    ·
      refine V_iload_n 4 B dX11_hold_4 1 rfl ?_
      refine V_bipush 5 B (v := 16) dX11_hold_5 (by decide +kernel) ?_
      refine V_icmp_lt 7 B 21 dX11_hold_7 (by decide) (fun k1 => ?_) (fun k1 => ?_)
      ·
        refine V_aload_n 21 B dX11_hold_21 0 rfl ?_
        refine V_get 22 B gf_RX11_10 0 rfl rfl dX11_hold_22 ?_
        refine V_get 25 B gf_RX11_110 1 rfl rfl dX11_hold_25 ?_
        refine V_get 28 B gf_RX11_334 2 rfl rfl dX11_hold_28 ?_
        refine V_istore_n 31 B (lv2 := [(2, .int 0), (0, .ref h0), (1, .int p0)]) dX11_hold_31 (by decide) rfl ?_
        refine V_aload_n 32 B dX11_hold_32 1 rfl ?_
        refine V_get 33 B gf_RX11_10 0 rfl rfl dX11_hold_33 ?_
        refine V_get 36 B gf_RX11_110 1 rfl rfl dX11_hold_36 ?_
        refine V_iload_n 39 B dX11_hold_39 2 rfl ?_
        refine V_put 40 B gp_RX11_334 2 rfl (Nat.le_of_ble_eq_true rfl) rfl rfl dX11_hold_40 [(h0, oC 12 [.ref h1, .ref g0, .ref g1, .ref g2, .ref g3, .ref g4, .ref g5, .ref g6, .ref g7, .long 0]), (h1, oC 2 [.ref g8, .ref g9, .ref g10, .ref g11, .ref g12, .ref g13, .ref g14, .ref g15, .ref g16, .ref h2, .ref g17, .int 0]), (h2, oC 4 [.ref g18, .ref g19, .ref g20, .int p0])] rfl ?_
        refine V_iload_n 43 B dX11_hold_43 0 rfl ?_
        refine V_xret ?_
        refine V_widen (k := 1) (n := 6) (Nat.le_of_ble_eq_true rfl) (Nat.le_of_ble_eq_true rfl) ?_
        exact V_iret 44 B dX11_hold_44 () ⟨k0, k1, rfl⟩ rfl
      ·
        exact V_throwSW 10 B EB hl9 gt_RX11_190_332_194 hout dX11_hold_10 dX11_hold_13 dX11_hold_14 dX11_hold_17 dX11_hold_20 (Nat.le_of_ble_eq_true rfl) (Nat.le_of_ble_eq_true rfl) (Nat.le_of_ble_eq_true rfl) (Nat.le_of_ble_eq_true rfl) (Nat.le_of_ble_eq_true rfl) (Nat.le_of_ble_eq_true rfl) () (Or.inr ⟨rfl, k0, k1⟩) rfl)
theorem dX11_needKey_0 : decode cX11_needKey 0 = .ok (.iload_n 0, 1) := by decide +kernel
theorem dX11_needKey_1 : decode cX11_needKey 1 = .ok (.ifCond .lt 9, 3) := by decide +kernel
theorem dX11_needKey_10 : decode cX11_needKey 10 = .ok (.new 190, 3) := by decide +kernel
theorem gt_RX11_190_412_194 : GT RX11 190 412 194 "java/lang/IllegalArgumentException" "no such key" ["java/lang/RuntimeException", "java/lang/Exception"] := ⟨rfl, (mT5 31 rfl rfl), (mT1 22 rfl rfl), List.mem_of_getElem? (i := 13) rfl, by decide +kernel, by decide +kernel, List.mem_of_getElem? (i := 0) rfl, gta_194⟩
theorem dX11_needKey_13 : decode cX11_needKey 13 = .ok (.dup, 1) := by decide +kernel
theorem dX11_needKey_14 : decode cX11_needKey 14 = .ok (.ldc_w 412, 3) := by decide +kernel
theorem dX11_needKey_17 : decode cX11_needKey 17 = .ok (.invokespecial 194, 3) := by decide +kernel
theorem dX11_needKey_20 : decode cX11_needKey 20 = .ok (.athrow, 1) := by decide +kernel
theorem dX11_needKey_4 : decode cX11_needKey 4 = .ok (.iload_n 0, 1) := by decide +kernel
theorem dX11_needKey_5 : decode cX11_needKey 5 = .ok (.bipush 26, 2) := by decide +kernel
theorem dX11_needKey_7 : decode cX11_needKey 7 = .ok (.if_icmp .lt 14, 3) := by decide +kernel
theorem dX11_needKey_21 : decode cX11_needKey 21 = .ok (.return_, 1) := by decide +kernel
set_option maxRecDepth 100000 in
set_option maxHeartbeats 4000000 in
theorem mX11_needKey_1 (l : Launch) (hl9 : l.stackTraces = false) (D : va_G) (Y : Nat → ClassId) (p0 : Int32) (sz : Nat) : vx_Met l yX11_needKey (WSm yX11_needKey cX11_needKey 1 none) (mkR 6 1 6 82) (PreX D Y [.int p0] [] sz) (QV D (fun (u : Unit) => ¬ p0 < 0 ∧ p0 < 26) (fun (_ : Unit) => []) (va_A [] sz)) (XW D (fun (E : String) (u : Unit) => (E = "java/lang/IllegalArgumentException" ∧ p0 < 0) ∨ (E = "java/lang/IllegalArgumentException" ∧ ¬ p0 < 0 ∧ ¬ p0 < 26)) (fun (_ : Unit) => []) (va_A [] sz)) 1 6 (va_A [] sz) :=
  xmet_of (by decide +kernel) (Nat.le_of_ble_eq_true rfl) (fun p e s m args below meth c B EB hout hsz => by
    have B : VB p s m args meth c D Y (va_A [] sz) cX11_needKey 1 RX11 none := B
    refine V_iload_n 0 B dX11_needKey_0 0 rfl ?_
    refine V_if_lt 1 B 10 dX11_needKey_1 (by decide) (fun k0 => ?_) (fun k0 => ?_)
    ·
      exact V_throwSW 10 B EB hl9 gt_RX11_190_412_194 hout dX11_needKey_10 dX11_needKey_13 dX11_needKey_14 dX11_needKey_17 dX11_needKey_20 (Nat.le_of_ble_eq_true rfl) (Nat.le_of_ble_eq_true rfl) (Nat.le_of_ble_eq_true rfl) (Nat.le_of_ble_eq_true rfl) (Nat.le_of_ble_eq_true rfl) (Nat.le_of_ble_eq_true rfl) () (Or.inl ⟨rfl, k0⟩) rfl
    ·
      refine V_iload_n 4 B dX11_needKey_4 0 rfl ?_
      refine V_bipush 5 B (v := 26) dX11_needKey_5 (by decide +kernel) ?_
      refine V_icmp_lt 7 B 21 dX11_needKey_7 (by decide) (fun k1 => ?_) (fun k1 => ?_)
      ·
        refine V_xret ?_
        refine V_widen (k := 1) (n := 6) (Nat.le_of_ble_eq_true rfl) (Nat.le_of_ble_eq_true rfl) ?_
        exact V_vret 21 B dX11_needKey_21 () ⟨k0, k1⟩ rfl
      ·
        exact V_throwSW 10 B EB hl9 gt_RX11_190_412_194 hout dX11_needKey_10 dX11_needKey_13 dX11_needKey_14 dX11_needKey_17 dX11_needKey_20 (Nat.le_of_ble_eq_true rfl) (Nat.le_of_ble_eq_true rfl) (Nat.le_of_ble_eq_true rfl) (Nat.le_of_ble_eq_true rfl) (Nat.le_of_ble_eq_true rfl) (Nat.le_of_ble_eq_true rfl) () (Or.inr ⟨rfl, k0, k1⟩) rfl)
theorem dX1_indexOf_0 : decode cX1_indexOf 0 = .ok (.iconst 0, 1) := by decide +kernel
theorem dX1_indexOf_1 : decode cX1_indexOf 1 = .ok (.istore_n 2, 1) := by decide +kernel
theorem dX1_indexOf_2 : decode cX1_indexOf 2 = .ok (.iload_n 2, 1) := by decide +kernel
theorem dX1_indexOf_3 : decode cX1_indexOf 3 = .ok (.aload_n 0, 1) := by decide +kernel
theorem dX1_indexOf_4 : decode cX1_indexOf 4 = .ok (.getfield 21, 3) := by decide +kernel
theorem dX1_indexOf_7 : decode cX1_indexOf 7 = .ok (.if_icmp .ge 30, 3) := by decide +kernel
theorem dX1_indexOf_37 : decode cX1_indexOf 37 = .ok (.iconst (-1), 1) := by decide +kernel
theorem dX1_indexOf_38 : decode cX1_indexOf 38 = .ok (.ireturn, 1) := by decide +kernel
set_option maxRecDepth 100000 in
set_option maxHeartbeats 4000000 in
theorem mX1_indexOf_1 (l : Launch) (D : va_G) (Y : Nat → ClassId) (h0 : Nat) (g0 : Nat) (p0 : Int32) (sz : Nat) : Met l yX1_indexOf (WSm yX1_indexOf cX1_indexOf 3 (some .int)) (mkR 0 0 0 0) (PreC D Y [.ref h0, .int p0] [(h0, oC 3 [.ref g0, .int 0])] sz) (QI D (fun (r : Int32) (u : Unit) => (-1) = r) (fun (_ : Unit) => [(h0, oC 3 [.ref g0, .int 0])]) (va_A [(h0, oC 3 [.ref g0, .int 0])] sz)) 0 0 (va_A [(h0, oC 3 [.ref g0, .int 0])] sz) :=
  met_of (by decide +kernel) (Nat.le_of_ble_eq_true rfl) (fun p e s m args below meth c B hin hsz => by
    have B : VB p s m args meth c D Y (va_A [(h0, oC 3 [.ref g0, .int 0])] sz) cX1_indexOf 3 RX1 (some .int) := B
    refine V_iconst 0 B (v := 0) dX1_indexOf_0 (by decide +kernel) ?_
    refine V_istore_n 1 B (lv2 := [(2, .int 0), (0, .ref h0), (1, .int p0)]) dX1_indexOf_1 (by decide) rfl ?_
    refine V_iload_n 2 B dX1_indexOf_2 0 rfl ?_
    refine V_aload_n 3 B dX1_indexOf_3 1 rfl ?_
    refine V_get 4 B gf_RX1_21 0 rfl rfl dX1_indexOf_4 ?_
    refine V_icmp_ge_t 7 B 37 dX1_indexOf_7 (by decide) (by decide +kernel) ?_
    refine V_iconst 37 B (v := (-1)) dX1_indexOf_37 (by decide +kernel) ?_
    exact V_iret 38 B dX1_indexOf_38 () rfl rfl)
theorem dX2_strokeMade_0 : decode cX2_strokeMade 0 = .ok (.iload_n 1, 1) := by decide +kernel
theorem dX2_strokeMade_1 : decode cX2_strokeMade 1 = .ok (.istore_n 2, 1) := by decide +kernel
theorem dX2_strokeMade_2 : decode cX2_strokeMade 2 = .ok (.iconst 0, 1) := by decide +kernel
theorem dX2_strokeMade_3 : decode cX2_strokeMade 3 = .ok (.istore_n 3, 1) := by decide +kernel
theorem dX2_strokeMade_4 : decode cX2_strokeMade 4 = .ok (.iload_n 3, 1) := by decide +kernel
theorem dX2_strokeMade_5 : decode cX2_strokeMade 5 = .ok (.aload_n 0, 1) := by decide +kernel
theorem dX2_strokeMade_6 : decode cX2_strokeMade 6 = .ok (.getfield 14, 3) := by decide +kernel
theorem dX2_strokeMade_9 : decode cX2_strokeMade 9 = .ok (.invokevirtual 49, 3) := by decide +kernel
theorem glV_RX2_49 : GLV RX2 49 yX1_size RX1 cX1_size 1 (some .int) 0 := ⟨⟨(mT4 158 rfl rfl), (mT3 47 rfl rfl), (mT3 48 rfl rfl), (mT1 3 rfl rfl), (mT3 49 rfl rfl)⟩, by decide +kernel⟩
theorem dX2_strokeMade_12 : decode cX2_strokeMade 12 = .ok (.if_icmp .ge 38, 3) := by decide +kernel
theorem dX2_strokeMade_50 : decode cX2_strokeMade 50 = .ok (.bipush 32, 2) := by decide +kernel
theorem dX2_strokeMade_52 : decode cX2_strokeMade 52 = .ok (.aload_n 0, 1) := by decide +kernel
theorem dX2_strokeMade_53 : decode cX2_strokeMade 53 = .ok (.getfield 26, 3) := by decide +kernel
theorem dX2_strokeMade_56 : decode cX2_strokeMade 56 = .ok (.imul, 1) := by decide +kernel
theorem dX2_strokeMade_57 : decode cX2_strokeMade 57 = .ok (.iload_n 2, 1) := by decide +kernel
theorem dX2_strokeMade_58 : decode cX2_strokeMade 58 = .ok (.iadd, 1) := by decide +kernel
theorem dX2_strokeMade_59 : decode cX2_strokeMade 59 = .ok (.ireturn, 1) := by decide +kernel
set_option maxRecDepth 100000 in
set_option maxHeartbeats 4000000 in
theorem mX2_strokeMade_1 (l : Launch) (D : va_G) (Y : Nat → ClassId) (h0 : Nat) (h1 : Nat) (g0 : Nat) (g1 : Nat) (g2 : Nat) (p0 : Int32) (sz : Nat) : Met l yX2_strokeMade (WSm yX2_strokeMade cX2_strokeMade 5 (some .int)) (mkR 1 0 0 20) (PreC D Y [.ref h0, .int p0] [(h0, oC 4 [.ref h1, .ref g0, .ref g1, .int 0]), (h1, oC 3 [.ref g2, .int 0])] sz) (QI D (fun (r : Int32) (u : Unit) => p0 = r) (fun (_ : Unit) => [(h0, oC 4 [.ref h1, .ref g0, .ref g1, .int 0]), (h1, oC 3 [.ref g2, .int 0])]) (va_A [(h0, oC 4 [.ref h1, .ref g0, .ref g1, .int 0]), (h1, oC 3 [.ref g2, .int 0])] sz)) 0 0 (va_A [(h0, oC 4 [.ref h1, .ref g0, .ref g1, .int 0]), (h1, oC 3 [.ref g2, .int 0])] sz) :=
  met_of (by decide +kernel) (Nat.le_of_ble_eq_true rfl) (fun p e s m args below meth c B hin hsz => by
    have B : VB p s m args meth c D Y (va_A [(h0, oC 4 [.ref h1, .ref g0, .ref g1, .int 0]), (h1, oC 3 [.ref g2, .int 0])] sz) cX2_strokeMade 5 RX2 (some .int) := B
    refine V_iload_n 0 B dX2_strokeMade_0 1 rfl ?_
    refine V_istore_n 1 B (lv2 := [(2, .int p0), (0, .ref h0), (1, .int p0)]) dX2_strokeMade_1 (by decide) rfl ?_
    refine V_iconst 2 B (v := 0) dX2_strokeMade_2 (by decide +kernel) ?_
    refine V_istore_n 3 B (lv2 := [(3, .int 0), (2, .int p0), (0, .ref h0), (1, .int p0)]) dX2_strokeMade_3 (by decide) rfl ?_
    refine V_iload_n 4 B dX2_strokeMade_4 0 rfl ?_
    refine V_aload_n 5 B dX2_strokeMade_5 2 rfl ?_
    refine V_get 6 B gf_RX2_14 0 rfl rfl dX2_strokeMade_6 ?_
    refine V_cvi 9 B (st := [.int 0]) (As := []) (fun sz => mX1_size_1 l D Y (h1) (g2) sz) glV_RX2_49 ⟨rfl, rfl⟩ ⟨(Nat.le_of_ble_eq_true rfl), (Nat.le_of_ble_eq_true rfl)⟩ ⟨(Nat.le_of_ble_eq_true rfl), (Nat.le_of_ble_eq_true rfl)⟩ [1] rfl 3 0 rfl rfl rfl rfl (Nat.le_of_ble_eq_true rfl) rfl (fun _ _ _ => rfl) dX2_strokeMade_9 (fun r0 u0 w0 => ?_)
    obtain rfl := w0
    refine V_ws [(h0, oC 4 [.ref h1, .ref g0, .ref g1, .int 0]), (h1, oC 3 [.ref g2, .int 0])] rfl ?_
    refine V_icmp_ge_t 12 B 50 dX2_strokeMade_12 (by decide) (by decide +kernel) ?_
    refine V_bipush 50 B (v := 32) dX2_strokeMade_50 (by decide +kernel) ?_
    refine V_aload_n 52 B dX2_strokeMade_52 2 rfl ?_
    refine V_get 53 B gf_RX2_26 0 rfl rfl dX2_strokeMade_53 ?_
    refine V_imul 56 B (v := 0) dX2_strokeMade_56 (by decide +kernel) ?_
    refine V_iload_n 57 B dX2_strokeMade_57 1 rfl ?_
    refine V_iadd 58 B dX2_strokeMade_58 (Int32.zero_add _) ?_
    exact V_iret 59 B dX2_strokeMade_59 () rfl rfl)
theorem dX11_strokeOf_0 : decode cX11_strokeOf 0 = .ok (.iload_n 1, 1) := by decide +kernel
theorem dX11_strokeOf_1 : decode cX11_strokeOf 1 = .ok (.invokestatic 326, 3) := by decide +kernel
theorem glS_RX11_326 : GLS RX11 326 yX11_needKey cX11_needKey 1 none 1 := ⟨⟨(mT7 33 rfl rfl), (mT7 34 rfl rfl), (mT1 1 rfl rfl), (mT7 35 rfl rfl)⟩, by decide +kernel⟩
theorem dX11_strokeOf_4 : decode cX11_strokeOf 4 = .ok (.aload_n 0, 1) := by decide +kernel
theorem dX11_strokeOf_5 : decode cX11_strokeOf 5 = .ok (.getfield 10, 3) := by decide +kernel
theorem dX11_strokeOf_8 : decode cX11_strokeOf 8 = .ok (.getfield 110, 3) := by decide +kernel
theorem dX11_strokeOf_11 : decode cX11_strokeOf 11 = .ok (.getfield 114, 3) := by decide +kernel
theorem dX11_strokeOf_14 : decode cX11_strokeOf 14 = .ok (.iload_n 1, 1) := by decide +kernel
theorem dX11_strokeOf_15 : decode cX11_strokeOf 15 = .ok (.invokevirtual 337, 3) := by decide +kernel
theorem glV_RX11_337 : GLV RX11 337 yX1_indexOf RX1 cX1_indexOf 3 (some .int) 1 := ⟨⟨(mT7 53 rfl rfl), (mT3 166 rfl rfl), (mT3 167 rfl rfl), (mT1 3 rfl rfl), (mT3 168 rfl rfl)⟩, by decide +kernel⟩
theorem dX11_strokeOf_18 : decode cX11_strokeOf 18 = .ok (.iconst (-1), 1) := by decide +kernel
theorem dX11_strokeOf_19 : decode cX11_strokeOf 19 = .ok (.if_icmp .ne 17, 3) := by decide +kernel
theorem dX11_strokeOf_22 : decode cX11_strokeOf 22 = .ok (.aload_n 0, 1) := by decide +kernel
theorem dX11_strokeOf_23 : decode cX11_strokeOf 23 = .ok (.getfield 10, 3) := by decide +kernel
theorem dX11_strokeOf_26 : decode cX11_strokeOf 26 = .ok (.getfield 110, 3) := by decide +kernel
theorem dX11_strokeOf_29 : decode cX11_strokeOf 29 = .ok (.iload_n 1, 1) := by decide +kernel
theorem dX11_strokeOf_30 : decode cX11_strokeOf 30 = .ok (.invokevirtual 340, 3) := by decide +kernel
theorem glV_RX11_340 : GLV RX11 340 yX2_strokeMade RX2 cX2_strokeMade 5 (some .int) 1 := ⟨⟨(mT7 54 rfl rfl), (mT4 155 rfl rfl), (mT4 156 rfl rfl), (mT1 6 rfl rfl), (mT4 157 rfl rfl)⟩, by decide +kernel⟩
theorem dX11_strokeOf_33 : decode cX11_strokeOf 33 = .ok (.goto 4, 3) := by decide +kernel
theorem dX11_strokeOf_37 : decode cX11_strokeOf 37 = .ok (.ireturn, 1) := by decide +kernel
set_option maxRecDepth 100000 in
set_option maxHeartbeats 4000000 in
theorem mX11_strokeOf_1 (l : Launch) (hl9 : l.stackTraces = false) (D : va_G) (Y : Nat → ClassId) (h0 : Nat) (h1 : Nat) (g0 : Nat) (g1 : Nat) (g2 : Nat) (g3 : Nat) (g4 : Nat) (g5 : Nat) (g6 : Nat) (g7 : Nat) (g8 : Nat) (g9 : Nat) (g10 : Nat) (g11 : Nat) (g12 : Nat) (g13 : Nat) (g14 : Nat) (g15 : Nat) (g16 : Nat) (h2 : Nat) (g17 : Nat) (h3 : Nat) (g18 : Nat) (g19 : Nat) (g20 : Nat) (p0 : Int32) (sz : Nat) : vx_Met l yX11_strokeOf (WSm yX11_strokeOf cX11_strokeOf 2 (some .int)) (mkR 7 1 6 102) (PreX D Y [.ref h0, .int p0] [(h0, oC 12 [.ref h1, .ref g0, .ref g1, .ref g2, .ref g3, .ref g4, .ref g5, .ref g6, .ref g7, .long 0]), (h1, oC 2 [.ref g8, .ref g9, .ref g10, .ref g11, .ref g12, .ref g13, .ref g14, .ref g15, .ref g16, .ref h2, .ref g17, .int 0]), (h2, oC 4 [.ref h3, .ref g18, .ref g19, .int 0]), (h3, oC 3 [.ref g20, .int 0])] sz) (QI D (fun (r : Int32) (u : Unit) => ¬ p0 < 0 ∧ p0 < 26 ∧ p0 = r) (fun (_ : Unit) => [(h0, oC 12 [.ref h1, .ref g0, .ref g1, .ref g2, .ref g3, .ref g4, .ref g5, .ref g6, .ref g7, .long 0]), (h1, oC 2 [.ref g8, .ref g9, .ref g10, .ref g11, .ref g12, .ref g13, .ref g14, .ref g15, .ref g16, .ref h2, .ref g17, .int 0]), (h2, oC 4 [.ref h3, .ref g18, .ref g19, .int 0]), (h3, oC 3 [.ref g20, .int 0])]) (va_A [(h0, oC 12 [.ref h1, .ref g0, .ref g1, .ref g2, .ref g3, .ref g4, .ref g5, .ref g6, .ref g7, .long 0]), (h1, oC 2 [.ref g8, .ref g9, .ref g10, .ref g11, .ref g12, .ref g13, .ref g14, .ref g15, .ref g16, .ref h2, .ref g17, .int 0]), (h2, oC 4 [.ref h3, .ref g18, .ref g19, .int 0]), (h3, oC 3 [.ref g20, .int 0])] sz)) (XW D (fun (E : String) (u : Unit) => (E = "java/lang/IllegalArgumentException" ∧ p0 < 0) ∨ (E = "java/lang/IllegalArgumentException" ∧ ¬ p0 < 0 ∧ ¬ p0 < 26)) (fun (_ : Unit) => [(h0, oC 12 [.ref h1, .ref g0, .ref g1, .ref g2, .ref g3, .ref g4, .ref g5, .ref g6, .ref g7, .long 0]), (h1, oC 2 [.ref g8, .ref g9, .ref g10, .ref g11, .ref g12, .ref g13, .ref g14, .ref g15, .ref g16, .ref h2, .ref g17, .int 0]), (h2, oC 4 [.ref h3, .ref g18, .ref g19, .int 0]), (h3, oC 3 [.ref g20, .int 0])]) (va_A [(h0, oC 12 [.ref h1, .ref g0, .ref g1, .ref g2, .ref g3, .ref g4, .ref g5, .ref g6, .ref g7, .long 0]), (h1, oC 2 [.ref g8, .ref g9, .ref g10, .ref g11, .ref g12, .ref g13, .ref g14, .ref g15, .ref g16, .ref h2, .ref g17, .int 0]), (h2, oC 4 [.ref h3, .ref g18, .ref g19, .int 0]), (h3, oC 3 [.ref g20, .int 0])] sz)) 1 6 (va_A [(h0, oC 12 [.ref h1, .ref g0, .ref g1, .ref g2, .ref g3, .ref g4, .ref g5, .ref g6, .ref g7, .long 0]), (h1, oC 2 [.ref g8, .ref g9, .ref g10, .ref g11, .ref g12, .ref g13, .ref g14, .ref g15, .ref g16, .ref h2, .ref g17, .int 0]), (h2, oC 4 [.ref h3, .ref g18, .ref g19, .int 0]), (h3, oC 3 [.ref g20, .int 0])] sz) :=
  xmet_of (by decide +kernel) (Nat.le_of_ble_eq_true rfl) (fun p e s m args below meth c B EB hout hsz => by
    have B : VB p s m args meth c D Y (va_A [(h0, oC 12 [.ref h1, .ref g0, .ref g1, .ref g2, .ref g3, .ref g4, .ref g5, .ref g6, .ref g7, .long 0]), (h1, oC 2 [.ref g8, .ref g9, .ref g10, .ref g11, .ref g12, .ref g13, .ref g14, .ref g15, .ref g16, .ref h2, .ref g17, .int 0]), (h2, oC 4 [.ref h3, .ref g18, .ref g19, .int 0]), (h3, oC 3 [.ref g20, .int 0])] sz) cX11_strokeOf 2 RX11 (some .int) := B
    refine V_iload_n 0 B dX11_strokeOf_0 1 rfl ?_
    refine V_xsv 1 B EB (st := []) (As := [.int p0]) (fun sz => mX11_needKey_1 l hl9 D Y (p0) sz) glS_RX11_326 ⟨rfl, rfl⟩ ⟨(Nat.le_of_ble_eq_true rfl), (Nat.le_of_ble_eq_true rfl)⟩ ⟨(Nat.le_of_ble_eq_true rfl), (Nat.le_of_ble_eq_true rfl)⟩ [] rfl rfl (Nat.le_of_ble_eq_true rfl) rfl (fun _ _ => rfl) (fun _ _ _ => rfl) dX11_strokeOf_1 (fun E u0 w0 => ?_) (fun u0 w0 => ?_)
    ·
      rcases w0 with ⟨rfl, k1⟩ | ⟨rfl, k2, k3⟩
      ·
        exact VX_out 1 B hout () (Or.inl ⟨rfl, k1⟩) rfl (Nat.le_of_ble_eq_true rfl) (Nat.le_of_ble_eq_true rfl)
      ·
        exact VX_out 1 B hout () (Or.inr ⟨rfl, k2, k3⟩) rfl (Nat.le_of_ble_eq_true rfl) (Nat.le_of_ble_eq_true rfl)
    ·
      obtain ⟨k4, k5⟩ := w0
      refine V_ws [(h0, oC 12 [.ref h1, .ref g0, .ref g1, .ref g2, .ref g3, .ref g4, .ref g5, .ref g6, .ref g7, .long 0]), (h1, oC 2 [.ref g8, .ref g9, .ref g10, .ref g11, .ref g12, .ref g13, .ref g14, .ref g15, .ref g16, .ref h2, .ref g17, .int 0]), (h2, oC 4 [.ref h3, .ref g18, .ref g19, .int 0]), (h3, oC 3 [.ref g20, .int 0])] rfl ?_
      refine V_aload_n 4 B dX11_strokeOf_4 0 rfl ?_
      refine V_get 5 B gf_RX11_10 0 rfl rfl dX11_strokeOf_5 ?_
      refine V_get 8 B gf_RX11_110 1 rfl rfl dX11_strokeOf_8 ?_
      refine V_get 11 B gf_RX11_114 2 rfl rfl dX11_strokeOf_11 ?_
      refine V_iload_n 14 B dX11_strokeOf_14 1 rfl ?_
      refine V_cvi 15 B (st := []) (As := [.int p0]) (fun sz => mX1_indexOf_1 l D Y (h3) (g20) (p0) sz) glV_RX11_337 ⟨rfl, rfl⟩ ⟨(Nat.le_of_ble_eq_true rfl), (Nat.le_of_ble_eq_true rfl)⟩ ⟨(Nat.le_of_ble_eq_true rfl), (Nat.le_of_ble_eq_true rfl)⟩ [3] rfl 3 0 rfl rfl rfl rfl (Nat.le_of_ble_eq_true rfl) rfl (fun _ _ _ => rfl) dX11_strokeOf_15 (fun r6 u6 w6 => ?_)
      obtain rfl := w6
      refine V_ws [(h0, oC 12 [.ref h1, .ref g0, .ref g1, .ref g2, .ref g3, .ref g4, .ref g5, .ref g6, .ref g7, .long 0]), (h1, oC 2 [.ref g8, .ref g9, .ref g10, .ref g11, .ref g12, .ref g13, .ref g14, .ref g15, .ref g16, .ref h2, .ref g17, .int 0]), (h2, oC 4 [.ref h3, .ref g18, .ref g19, .int 0]), (h3, oC 3 [.ref g20, .int 0])] rfl ?_
      refine V_iconst 18 B (v := (-1)) dX11_strokeOf_18 (by decide +kernel) ?_
      refine V_icmp_ne_f 19 B 36 dX11_strokeOf_19 (by decide) (by decide +kernel) ?_
      refine V_aload_n 22 B dX11_strokeOf_22 0 rfl ?_
      refine V_get 23 B gf_RX11_10 0 rfl rfl dX11_strokeOf_23 ?_
      refine V_get 26 B gf_RX11_110 1 rfl rfl dX11_strokeOf_26 ?_
      refine V_iload_n 29 B dX11_strokeOf_29 1 rfl ?_
      refine V_cvi 30 B (st := []) (As := [.int p0]) (fun sz => mX2_strokeMade_1 l D Y (h2) (h3) (g18) (g19) (g20) (p0) sz) glV_RX11_340 ⟨rfl, rfl⟩ ⟨(Nat.le_of_ble_eq_true rfl), (Nat.le_of_ble_eq_true rfl)⟩ ⟨(Nat.le_of_ble_eq_true rfl), (Nat.le_of_ble_eq_true rfl)⟩ [2, 0] rfl 4 0 rfl rfl rfl rfl (Nat.le_of_ble_eq_true rfl) rfl (fun _ _ _ => rfl) dX11_strokeOf_30 (fun r7 u7 w7 => ?_)
      obtain rfl := w7
      refine V_ws [(h0, oC 12 [.ref h1, .ref g0, .ref g1, .ref g2, .ref g3, .ref g4, .ref g5, .ref g6, .ref g7, .long 0]), (h1, oC 2 [.ref g8, .ref g9, .ref g10, .ref g11, .ref g12, .ref g13, .ref g14, .ref g15, .ref g16, .ref h2, .ref g17, .int 0]), (h2, oC 4 [.ref h3, .ref g18, .ref g19, .int 0]), (h3, oC 3 [.ref g20, .int 0])] rfl ?_
      refine V_goto 33 B 37 dX11_strokeOf_33 (by decide) ?_
      refine V_xret ?_
      exact V_iret 37 B dX11_strokeOf_37 () ⟨k4, k5, rfl⟩ rfl)
theorem dX2_letGo_0 : decode cX2_letGo 0 = .ok (.aload_n 0, 1) := by decide +kernel
theorem dX2_letGo_1 : decode cX2_letGo 1 = .ok (.getfield 14, 3) := by decide +kernel
theorem dX2_letGo_4 : decode cX2_letGo 4 = .ok (.iload_n 1, 1) := by decide +kernel
theorem dX2_letGo_5 : decode cX2_letGo 5 = .ok (.invokevirtual 53, 3) := by decide +kernel
theorem glV_RX2_53 : GLV RX2 53 yX1_indexOf RX1 cX1_indexOf 3 (some .int) 1 := ⟨⟨(mT4 167 rfl rfl), (mT3 166 rfl rfl), (mT3 167 rfl rfl), (mT1 3 rfl rfl), (mT3 168 rfl rfl)⟩, by decide +kernel⟩
theorem dX2_letGo_8 : decode cX2_letGo 8 = .ok (.istore_n 2, 1) := by decide +kernel
theorem dX2_letGo_9 : decode cX2_letGo 9 = .ok (.iload_n 2, 1) := by decide +kernel
theorem dX2_letGo_10 : decode cX2_letGo 10 = .ok (.iconst (-1), 1) := by decide +kernel
theorem dX2_letGo_11 : decode cX2_letGo 11 = .ok (.if_icmp .eq 14, 3) := by decide +kernel
theorem dX2_letGo_25 : decode cX2_letGo 25 = .ok (.iconst 0, 1) := by decide +kernel
theorem dX2_letGo_26 : decode cX2_letGo 26 = .ok (.ireturn, 1) := by decide +kernel
set_option maxRecDepth 100000 in
set_option maxHeartbeats 4000000 in
theorem mX2_letGo_1 (l : Launch) (D : va_G) (Y : Nat → ClassId) (h0 : Nat) (h1 : Nat) (g0 : Nat) (g1 : Nat) (g2 : Nat) (p0 : Int32) (sz : Nat) : Met l yX2_letGo (WSm yX2_letGo cX2_letGo 3 (some .boolean)) (mkR 1 0 0 22) (PreC D Y [.ref h0, .int p0] [(h0, oC 4 [.ref h1, .ref g0, .ref g1, .int 0]), (h1, oC 3 [.ref g2, .int 0])] sz) (QI D (fun (r : Int32) (u : Unit) => 0 = r) (fun (_ : Unit) => [(h0, oC 4 [.ref h1, .ref g0, .ref g1, .int 0]), (h1, oC 3 [.ref g2, .int 0])]) (va_A [(h0, oC 4 [.ref h1, .ref g0, .ref g1, .int 0]), (h1, oC 3 [.ref g2, .int 0])] sz)) 0 0 (va_A [(h0, oC 4 [.ref h1, .ref g0, .ref g1, .int 0]), (h1, oC 3 [.ref g2, .int 0])] sz) :=
  met_of (by decide +kernel) (Nat.le_of_ble_eq_true rfl) (fun p e s m args below meth c B hin hsz => by
    have B : VB p s m args meth c D Y (va_A [(h0, oC 4 [.ref h1, .ref g0, .ref g1, .int 0]), (h1, oC 3 [.ref g2, .int 0])] sz) cX2_letGo 3 RX2 (some .boolean) := B
    refine V_aload_n 0 B dX2_letGo_0 0 rfl ?_
    refine V_get 1 B gf_RX2_14 0 rfl rfl dX2_letGo_1 ?_
    refine V_iload_n 4 B dX2_letGo_4 1 rfl ?_
    refine V_cvi 5 B (st := []) (As := [.int p0]) (fun sz => mX1_indexOf_1 l D Y (h1) (g2) (p0) sz) glV_RX2_53 ⟨rfl, rfl⟩ ⟨(Nat.le_of_ble_eq_true rfl), (Nat.le_of_ble_eq_true rfl)⟩ ⟨(Nat.le_of_ble_eq_true rfl), (Nat.le_of_ble_eq_true rfl)⟩ [1] rfl 3 0 rfl rfl rfl rfl (Nat.le_of_ble_eq_true rfl) rfl (fun _ _ _ => rfl) dX2_letGo_5 (fun r0 u0 w0 => ?_)
    obtain rfl := w0
    refine V_ws [(h0, oC 4 [.ref h1, .ref g0, .ref g1, .int 0]), (h1, oC 3 [.ref g2, .int 0])] rfl ?_
    refine V_istore_n 8 B (lv2 := [(2, .int (-1)), (0, .ref h0), (1, .int p0)]) dX2_letGo_8 (by decide) rfl ?_
    refine V_iload_n 9 B dX2_letGo_9 0 rfl ?_
    refine V_iconst 10 B (v := (-1)) dX2_letGo_10 (by decide +kernel) ?_
    refine V_icmp_eq_t 11 B 25 dX2_letGo_11 (by decide) (by decide +kernel) ?_
    refine V_iconst 25 B (v := 0) dX2_letGo_25 (by decide +kernel) ?_
    exact V_zret 26 B rfl dX2_letGo_26 () rfl rfl)
theorem dX11_release_0 : decode cX11_release 0 = .ok (.iload_n 1, 1) := by decide +kernel
theorem dX11_release_1 : decode cX11_release 1 = .ok (.invokestatic 326, 3) := by decide +kernel
theorem dX11_release_4 : decode cX11_release 4 = .ok (.aload_n 0, 1) := by decide +kernel
theorem dX11_release_5 : decode cX11_release 5 = .ok (.getfield 10, 3) := by decide +kernel
theorem dX11_release_8 : decode cX11_release 8 = .ok (.getfield 110, 3) := by decide +kernel
theorem dX11_release_11 : decode cX11_release 11 = .ok (.iload_n 1, 1) := by decide +kernel
theorem dX11_release_12 : decode cX11_release 12 = .ok (.invokevirtual 343, 3) := by decide +kernel
theorem glV_RX11_343 : GLV RX11 343 yX2_letGo RX2 cX2_letGo 3 (some .boolean) 1 := ⟨⟨(mT7 70 rfl rfl), (mT4 164 rfl rfl), (mT4 165 rfl rfl), (mT1 6 rfl rfl), (mT4 166 rfl rfl)⟩, by decide +kernel⟩
theorem dX11_release_15 : decode cX11_release 15 = .ok (.ireturn, 1) := by decide +kernel
set_option maxRecDepth 100000 in
set_option maxHeartbeats 4000000 in
theorem mX11_release_1 (l : Launch) (hl9 : l.stackTraces = false) (D : va_G) (Y : Nat → ClassId) (h0 : Nat) (h1 : Nat) (g0 : Nat) (g1 : Nat) (g2 : Nat) (g3 : Nat) (g4 : Nat) (g5 : Nat) (g6 : Nat) (g7 : Nat) (g8 : Nat) (g9 : Nat) (g10 : Nat) (g11 : Nat) (g12 : Nat) (g13 : Nat) (g14 : Nat) (g15 : Nat) (g16 : Nat) (h2 : Nat) (g17 : Nat) (h3 : Nat) (g18 : Nat) (g19 : Nat) (g20 : Nat) (p0 : Int32) (sz : Nat) : vx_Met l yX11_release (WSm yX11_release cX11_release 2 (some .boolean)) (mkR 7 1 6 102) (PreX D Y [.ref h0, .int p0] [(h0, oC 12 [.ref h1, .ref g0, .ref g1, .ref g2, .ref g3, .ref g4, .ref g5, .ref g6, .ref g7, .long 0]), (h1, oC 2 [.ref g8, .ref g9, .ref g10, .ref g11, .ref g12, .ref g13, .ref g14, .ref g15, .ref g16, .ref h2, .ref g17, .int 0]), (h2, oC 4 [.ref h3, .ref g18, .ref g19, .int 0]), (h3, oC 3 [.ref g20, .int 0])] sz) (QI D (fun (r : Int32) (u : Unit) => ¬ p0 < 0 ∧ p0 < 26 ∧ 0 = r) (fun (_ : Unit) => [(h0, oC 12 [.ref h1, .ref g0, .ref g1, .ref g2, .ref g3, .ref g4, .ref g5, .ref g6, .ref g7, .long 0]), (h1, oC 2 [.ref g8, .ref g9, .ref g10, .ref g11, .ref g12, .ref g13, .ref g14, .ref g15, .ref g16, .ref h2, .ref g17, .int 0]), (h2, oC 4 [.ref h3, .ref g18, .ref g19, .int 0]), (h3, oC 3 [.ref g20, .int 0])]) (va_A [(h0, oC 12 [.ref h1, .ref g0, .ref g1, .ref g2, .ref g3, .ref g4, .ref g5, .ref g6, .ref g7, .long 0]), (h1, oC 2 [.ref g8, .ref g9, .ref g10, .ref g11, .ref g12, .ref g13, .ref g14, .ref g15, .ref g16, .ref h2, .ref g17, .int 0]), (h2, oC 4 [.ref h3, .ref g18, .ref g19, .int 0]), (h3, oC 3 [.ref g20, .int 0])] sz)) (XW D (fun (E : String) (u : Unit) => (E = "java/lang/IllegalArgumentException" ∧ p0 < 0) ∨ (E = "java/lang/IllegalArgumentException" ∧ ¬ p0 < 0 ∧ ¬ p0 < 26)) (fun (_ : Unit) => [(h0, oC 12 [.ref h1, .ref g0, .ref g1, .ref g2, .ref g3, .ref g4, .ref g5, .ref g6, .ref g7, .long 0]), (h1, oC 2 [.ref g8, .ref g9, .ref g10, .ref g11, .ref g12, .ref g13, .ref g14, .ref g15, .ref g16, .ref h2, .ref g17, .int 0]), (h2, oC 4 [.ref h3, .ref g18, .ref g19, .int 0]), (h3, oC 3 [.ref g20, .int 0])]) (va_A [(h0, oC 12 [.ref h1, .ref g0, .ref g1, .ref g2, .ref g3, .ref g4, .ref g5, .ref g6, .ref g7, .long 0]), (h1, oC 2 [.ref g8, .ref g9, .ref g10, .ref g11, .ref g12, .ref g13, .ref g14, .ref g15, .ref g16, .ref h2, .ref g17, .int 0]), (h2, oC 4 [.ref h3, .ref g18, .ref g19, .int 0]), (h3, oC 3 [.ref g20, .int 0])] sz)) 1 6 (va_A [(h0, oC 12 [.ref h1, .ref g0, .ref g1, .ref g2, .ref g3, .ref g4, .ref g5, .ref g6, .ref g7, .long 0]), (h1, oC 2 [.ref g8, .ref g9, .ref g10, .ref g11, .ref g12, .ref g13, .ref g14, .ref g15, .ref g16, .ref h2, .ref g17, .int 0]), (h2, oC 4 [.ref h3, .ref g18, .ref g19, .int 0]), (h3, oC 3 [.ref g20, .int 0])] sz) :=
  xmet_of (by decide +kernel) (Nat.le_of_ble_eq_true rfl) (fun p e s m args below meth c B EB hout hsz => by
    have B : VB p s m args meth c D Y (va_A [(h0, oC 12 [.ref h1, .ref g0, .ref g1, .ref g2, .ref g3, .ref g4, .ref g5, .ref g6, .ref g7, .long 0]), (h1, oC 2 [.ref g8, .ref g9, .ref g10, .ref g11, .ref g12, .ref g13, .ref g14, .ref g15, .ref g16, .ref h2, .ref g17, .int 0]), (h2, oC 4 [.ref h3, .ref g18, .ref g19, .int 0]), (h3, oC 3 [.ref g20, .int 0])] sz) cX11_release 2 RX11 (some .boolean) := B
    refine V_iload_n 0 B dX11_release_0 1 rfl ?_
    refine V_xsv 1 B EB (st := []) (As := [.int p0]) (fun sz => mX11_needKey_1 l hl9 D Y (p0) sz) glS_RX11_326 ⟨rfl, rfl⟩ ⟨(Nat.le_of_ble_eq_true rfl), (Nat.le_of_ble_eq_true rfl)⟩ ⟨(Nat.le_of_ble_eq_true rfl), (Nat.le_of_ble_eq_true rfl)⟩ [] rfl rfl (Nat.le_of_ble_eq_true rfl) rfl (fun _ _ => rfl) (fun _ _ _ => rfl) dX11_release_1 (fun E u0 w0 => ?_) (fun u0 w0 => ?_)
    ·
      rcases w0 with ⟨rfl, k1⟩ | ⟨rfl, k2, k3⟩
      ·
        exact VX_out 1 B hout () (Or.inl ⟨rfl, k1⟩) rfl (Nat.le_of_ble_eq_true rfl) (Nat.le_of_ble_eq_true rfl)
      ·
        exact VX_out 1 B hout () (Or.inr ⟨rfl, k2, k3⟩) rfl (Nat.le_of_ble_eq_true rfl) (Nat.le_of_ble_eq_true rfl)
    ·
      obtain ⟨k4, k5⟩ := w0
      refine V_ws [(h0, oC 12 [.ref h1, .ref g0, .ref g1, .ref g2, .ref g3, .ref g4, .ref g5, .ref g6, .ref g7, .long 0]), (h1, oC 2 [.ref g8, .ref g9, .ref g10, .ref g11, .ref g12, .ref g13, .ref g14, .ref g15, .ref g16, .ref h2, .ref g17, .int 0]), (h2, oC 4 [.ref h3, .ref g18, .ref g19, .int 0]), (h3, oC 3 [.ref g20, .int 0])] rfl ?_
      refine V_aload_n 4 B dX11_release_4 0 rfl ?_
      refine V_get 5 B gf_RX11_10 0 rfl rfl dX11_release_5 ?_
      refine V_get 8 B gf_RX11_110 1 rfl rfl dX11_release_8 ?_
      refine V_iload_n 11 B dX11_release_11 1 rfl ?_
      refine V_cvi 12 B (st := []) (As := [.int p0]) (fun sz => mX2_letGo_1 l D Y (h2) (h3) (g18) (g19) (g20) (p0) sz) glV_RX11_343 ⟨rfl, rfl⟩ ⟨(Nat.le_of_ble_eq_true rfl), (Nat.le_of_ble_eq_true rfl)⟩ ⟨(Nat.le_of_ble_eq_true rfl), (Nat.le_of_ble_eq_true rfl)⟩ [2, 0] rfl 4 0 rfl rfl rfl rfl (Nat.le_of_ble_eq_true rfl) rfl (fun _ _ _ => rfl) dX11_release_12 (fun r6 u6 w6 => ?_)
      obtain rfl := w6
      refine V_ws [(h0, oC 12 [.ref h1, .ref g0, .ref g1, .ref g2, .ref g3, .ref g4, .ref g5, .ref g6, .ref g7, .long 0]), (h1, oC 2 [.ref g8, .ref g9, .ref g10, .ref g11, .ref g12, .ref g13, .ref g14, .ref g15, .ref g16, .ref h2, .ref g17, .int 0]), (h2, oC 4 [.ref h3, .ref g18, .ref g19, .int 0]), (h3, oC 3 [.ref g20, .int 0])] rfl ?_
      refine V_xret ?_
      exact V_zret 15 B rfl dX11_release_15 () ⟨k4, k5, rfl⟩ rfl)
theorem dX10_seenWith_0 : decode cX10_seenWith 0 = .ok (.iconst 0, 1) := by decide +kernel
theorem dX10_seenWith_1 : decode cX10_seenWith 1 = .ok (.istore_n 3, 1) := by decide +kernel
theorem dX10_seenWith_2 : decode cX10_seenWith 2 = .ok (.iload_n 3, 1) := by decide +kernel
theorem dX10_seenWith_3 : decode cX10_seenWith 3 = .ok (.aload_n 0, 1) := by decide +kernel
theorem dX10_seenWith_4 : decode cX10_seenWith 4 = .ok (.getfield 9, 3) := by decide +kernel
theorem dX10_seenWith_7 : decode cX10_seenWith 7 = .ok (.getfield 53, 3) := by decide +kernel
theorem dX10_seenWith_10 : decode cX10_seenWith 10 = .ok (.invokevirtual 62, 3) := by decide +kernel
theorem dX10_seenWith_13 : decode cX10_seenWith 13 = .ok (.if_icmp .ge 35, 3) := by decide +kernel
theorem dX10_seenWith_48 : decode cX10_seenWith 48 = .ok (.iconst (-1), 1) := by decide +kernel
theorem dX10_seenWith_49 : decode cX10_seenWith 49 = .ok (.ireturn, 1) := by decide +kernel
set_option maxRecDepth 100000 in
set_option maxHeartbeats 4000000 in
theorem mX10_seenWith_1 (l : Launch) (D : va_G) (Y : Nat → ClassId) (h2 : Nat) (h0 : Nat) (g0 : Nat) (g1 : Nat) (g2 : Nat) (g3 : Nat) (g4 : Nat) (h1 : Nat) (g5 : Nat) (g6 : Nat) (g7 : Nat) (g8 : Nat) (g9 : Nat) (g10 : Nat) (g11 : Nat) (g12 : Nat) (g13 : Nat) (g14 : Nat) (p0 : Int64) (sz : Nat) : Met l yX10_seenWith (WSm yX10_seenWith cX10_seenWith 4 (some .int)) (mkR 1 0 0 20) (PreC D Y [.ref h2, .long p0] [(h0, oC 2 [.ref g0, .ref g1, .ref g2, .ref g3, .ref g4, .ref h1, .ref g5, .ref g6, .ref g7, .ref g8, .ref g9, .int 0]), (h1, oC 3 [.ref g10, .int 0]), (h2, oC 11 [.ref h0, .ref g11, .ref g12, .ref g13, .ref g14])] sz) (QI D (fun (r : Int32) (u : Unit) => (-1) = r) (fun (_ : Unit) => [(h0, oC 2 [.ref g0, .ref g1, .ref g2, .ref g3, .ref g4, .ref h1, .ref g5, .ref g6, .ref g7, .ref g8, .ref g9, .int 0]), (h1, oC 3 [.ref g10, .int 0]), (h2, oC 11 [.ref h0, .ref g11, .ref g12, .ref g13, .ref g14])]) (va_A [(h0, oC 2 [.ref g0, .ref g1, .ref g2, .ref g3, .ref g4, .ref h1, .ref g5, .ref g6, .ref g7, .ref g8, .ref g9, .int 0]), (h1, oC 3 [.ref g10, .int 0]), (h2, oC 11 [.ref h0, .ref g11, .ref g12, .ref g13, .ref g14])] sz)) 0 0 (va_A [(h0, oC 2 [.ref g0, .ref g1, .ref g2, .ref g3, .ref g4, .ref h1, .ref g5, .ref g6, .ref g7, .ref g8, .ref g9, .int 0]), (h1, oC 3 [.ref g10, .int 0]), (h2, oC 11 [.ref h0, .ref g11, .ref g12, .ref g13, .ref g14])] sz) :=
  met_of (by decide +kernel) (Nat.le_of_ble_eq_true rfl) (fun p e s m args below meth c B hin hsz => by
    have B : VB p s m args meth c D Y (va_A [(h0, oC 2 [.ref g0, .ref g1, .ref g2, .ref g3, .ref g4, .ref h1, .ref g5, .ref g6, .ref g7, .ref g8, .ref g9, .int 0]), (h1, oC 3 [.ref g10, .int 0]), (h2, oC 11 [.ref h0, .ref g11, .ref g12, .ref g13, .ref g14])] sz) cX10_seenWith 4 RX10 (some .int) := B
    refine V_iconst 0 B (v := 0) dX10_seenWith_0 (by decide +kernel) ?_
    refine V_istore_n 1 B (lv2 := [(3, .int 0), (0, .ref h2), (1, .long p0)]) dX10_seenWith_1 (by decide) rfl ?_
    refine V_iload_n 2 B dX10_seenWith_2 0 rfl ?_
    refine V_aload_n 3 B dX10_seenWith_3 1 rfl ?_
    refine V_get 4 B gf_RX10_9 2 rfl rfl dX10_seenWith_4 ?_
    refine V_get 7 B gf_RX10_53 0 rfl rfl dX10_seenWith_7 ?_
    refine V_cvi 10 B (st := [.int 0]) (As := []) (fun sz => mX1_size_1 l D Y (h1) (g10) sz) glV_RX10_62 ⟨rfl, rfl⟩ ⟨(Nat.le_of_ble_eq_true rfl), (Nat.le_of_ble_eq_true rfl)⟩ ⟨(Nat.le_of_ble_eq_true rfl), (Nat.le_of_ble_eq_true rfl)⟩ [1] rfl 3 0 rfl rfl rfl rfl (Nat.le_of_ble_eq_true rfl) rfl (fun _ _ _ => rfl) dX10_seenWith_10 (fun r0 u0 w0 => ?_)
    obtain rfl := w0
    refine V_ws [(h0, oC 2 [.ref g0, .ref g1, .ref g2, .ref g3, .ref g4, .ref h1, .ref g5, .ref g6, .ref g7, .ref g8, .ref g9, .int 0]), (h1, oC 3 [.ref g10, .int 0]), (h2, oC 11 [.ref h0, .ref g11, .ref g12, .ref g13, .ref g14])] rfl ?_
    refine V_icmp_ge_t 13 B 48 dX10_seenWith_13 (by decide) (by decide +kernel) ?_
    refine V_iconst 48 B (v := (-1)) dX10_seenWith_48 (by decide +kernel) ?_
    exact V_iret 49 B dX10_seenWith_49 () rfl rfl)
theorem dX10_seesLonger_0 : decode cX10_seesLonger 0 = .ok (.iconst 0, 1) := by decide +kernel
theorem dX10_seesLonger_1 : decode cX10_seesLonger 1 = .ok (.istore_n 3, 1) := by decide +kernel
theorem dX10_seesLonger_2 : decode cX10_seesLonger 2 = .ok (.iload_n 3, 1) := by decide +kernel
theorem dX10_seesLonger_3 : decode cX10_seesLonger 3 = .ok (.aload_n 0, 1) := by decide +kernel
theorem dX10_seesLonger_4 : decode cX10_seesLonger 4 = .ok (.getfield 9, 3) := by decide +kernel
theorem dX10_seesLonger_7 : decode cX10_seesLonger 7 = .ok (.getfield 53, 3) := by decide +kernel
theorem dX10_seesLonger_10 : decode cX10_seesLonger 10 = .ok (.invokevirtual 62, 3) := by decide +kernel
theorem dX10_seesLonger_13 : decode cX10_seesLonger 13 = .ok (.if_icmp .ge 37, 3) := by decide +kernel
theorem dX10_seesLonger_50 : decode cX10_seesLonger 50 = .ok (.iconst 0, 1) := by decide +kernel
theorem dX10_seesLonger_51 : decode cX10_seesLonger 51 = .ok (.ireturn, 1) := by decide +kernel
set_option maxRecDepth 100000 in
set_option maxHeartbeats 4000000 in
theorem mX10_seesLonger_1 (l : Launch) (D : va_G) (Y : Nat → ClassId) (h2 : Nat) (h0 : Nat) (g0 : Nat) (g1 : Nat) (g2 : Nat) (g3 : Nat) (g4 : Nat) (h1 : Nat) (g5 : Nat) (g6 : Nat) (g7 : Nat) (g8 : Nat) (g9 : Nat) (g10 : Nat) (g11 : Nat) (g12 : Nat) (g13 : Nat) (g14 : Nat) (p0 : Int64) (sz : Nat) : Met l yX10_seesLonger (WSm yX10_seesLonger cX10_seesLonger 4 (some .boolean)) (mkR 1 0 0 20) (PreC D Y [.ref h2, .long p0] [(h0, oC 2 [.ref g0, .ref g1, .ref g2, .ref g3, .ref g4, .ref h1, .ref g5, .ref g6, .ref g7, .ref g8, .ref g9, .int 0]), (h1, oC 3 [.ref g10, .int 0]), (h2, oC 11 [.ref h0, .ref g11, .ref g12, .ref g13, .ref g14])] sz) (QI D (fun (r : Int32) (u : Unit) => 0 = r) (fun (_ : Unit) => [(h0, oC 2 [.ref g0, .ref g1, .ref g2, .ref g3, .ref g4, .ref h1, .ref g5, .ref g6, .ref g7, .ref g8, .ref g9, .int 0]), (h1, oC 3 [.ref g10, .int 0]), (h2, oC 11 [.ref h0, .ref g11, .ref g12, .ref g13, .ref g14])]) (va_A [(h0, oC 2 [.ref g0, .ref g1, .ref g2, .ref g3, .ref g4, .ref h1, .ref g5, .ref g6, .ref g7, .ref g8, .ref g9, .int 0]), (h1, oC 3 [.ref g10, .int 0]), (h2, oC 11 [.ref h0, .ref g11, .ref g12, .ref g13, .ref g14])] sz)) 0 0 (va_A [(h0, oC 2 [.ref g0, .ref g1, .ref g2, .ref g3, .ref g4, .ref h1, .ref g5, .ref g6, .ref g7, .ref g8, .ref g9, .int 0]), (h1, oC 3 [.ref g10, .int 0]), (h2, oC 11 [.ref h0, .ref g11, .ref g12, .ref g13, .ref g14])] sz) :=
  met_of (by decide +kernel) (Nat.le_of_ble_eq_true rfl) (fun p e s m args below meth c B hin hsz => by
    have B : VB p s m args meth c D Y (va_A [(h0, oC 2 [.ref g0, .ref g1, .ref g2, .ref g3, .ref g4, .ref h1, .ref g5, .ref g6, .ref g7, .ref g8, .ref g9, .int 0]), (h1, oC 3 [.ref g10, .int 0]), (h2, oC 11 [.ref h0, .ref g11, .ref g12, .ref g13, .ref g14])] sz) cX10_seesLonger 4 RX10 (some .boolean) := B
    refine V_iconst 0 B (v := 0) dX10_seesLonger_0 (by decide +kernel) ?_
    refine V_istore_n 1 B (lv2 := [(3, .int 0), (0, .ref h2), (1, .long p0)]) dX10_seesLonger_1 (by decide) rfl ?_
    refine V_iload_n 2 B dX10_seesLonger_2 0 rfl ?_
    refine V_aload_n 3 B dX10_seesLonger_3 1 rfl ?_
    refine V_get 4 B gf_RX10_9 2 rfl rfl dX10_seesLonger_4 ?_
    refine V_get 7 B gf_RX10_53 0 rfl rfl dX10_seesLonger_7 ?_
    refine V_cvi 10 B (st := [.int 0]) (As := []) (fun sz => mX1_size_1 l D Y (h1) (g10) sz) glV_RX10_62 ⟨rfl, rfl⟩ ⟨(Nat.le_of_ble_eq_true rfl), (Nat.le_of_ble_eq_true rfl)⟩ ⟨(Nat.le_of_ble_eq_true rfl), (Nat.le_of_ble_eq_true rfl)⟩ [1] rfl 3 0 rfl rfl rfl rfl (Nat.le_of_ble_eq_true rfl) rfl (fun _ _ _ => rfl) dX10_seesLonger_10 (fun r0 u0 w0 => ?_)
    obtain rfl := w0
    refine V_ws [(h0, oC 2 [.ref g0, .ref g1, .ref g2, .ref g3, .ref g4, .ref h1, .ref g5, .ref g6, .ref g7, .ref g8, .ref g9, .int 0]), (h1, oC 3 [.ref g10, .int 0]), (h2, oC 11 [.ref h0, .ref g11, .ref g12, .ref g13, .ref g14])] rfl ?_
    refine V_icmp_ge_t 13 B 50 dX10_seesLonger_13 (by decide) (by decide +kernel) ?_
    refine V_iconst 50 B (v := 0) dX10_seesLonger_50 (by decide +kernel) ?_
    exact V_zret 51 B rfl dX10_seesLonger_51 () rfl rfl)
theorem dX9_makeStroke_0 : decode cX9_makeStroke 0 = .ok (.aload_n 0, 1) := by decide +kernel
theorem dX9_makeStroke_1 : decode cX9_makeStroke 1 = .ok (.getfield 9, 3) := by decide +kernel
theorem gf_RX9_9 : GF RX9 9 10 0 := ⟨RX9, TX9, 2, rfl, inw_X9, Nat.le_of_ble_eq_true rfl, (mT2 23 rfl rfl)⟩
theorem dX9_makeStroke_4 : decode cX9_makeStroke 4 = .ok (.getfield 60, 3) := by decide +kernel
theorem gf_RX9_60 : GF RX9 60 2 10 := ⟨RX0, TX0, 12, rfl, inw_X0, Nat.le_of_ble_eq_true rfl, (mT1 199 rfl rfl)⟩
theorem dX9_makeStroke_7 : decode cX9_makeStroke 7 = .ok (.astore_n 2, 1) := by decide +kernel
theorem dX9_makeStroke_8 : decode cX9_makeStroke 8 = .ok (.iconst 1, 1) := by decide +kernel
theorem dX9_makeStroke_9 : decode cX9_makeStroke 9 = .ok (.istore_n 3, 1) := by decide +kernel
theorem dX9_makeStroke_10 : decode cX9_makeStroke 10 = .ok (.iconst 0, 1) := by decide +kernel
theorem dX9_makeStroke_11 : decode cX9_makeStroke 11 = .ok (.istore 4, 2) := by decide +kernel
theorem dX9_makeStroke_13 : decode cX9_makeStroke 13 = .ok (.iload 4, 2) := by decide +kernel
theorem dX9_makeStroke_15 : decode cX9_makeStroke 15 = .ok (.iconst 2, 1) := by decide +kernel
theorem dX9_makeStroke_16 : decode cX9_makeStroke 16 = .ok (.if_icmp .ge 136, 3) := by decide +kernel
theorem dX9_makeStroke_19 : decode cX9_makeStroke 19 = .ok (.iload_n 3, 1) := by decide +kernel
theorem dX9_makeStroke_20 : decode cX9_makeStroke 20 = .ok (.ifCond .eq 132, 3) := by decide +kernel
theorem dX9_makeStroke_23 : decode cX9_makeStroke 23 = .ok (.aload_n 2, 1) := by decide +kernel
theorem dX9_makeStroke_24 : decode cX9_makeStroke 24 = .ok (.getfield 64, 3) := by decide +kernel
theorem gf_RX9_64 : GF RX9 64 9 2 := ⟨RX8, TX8, 9, rfl, inw_X8, Nat.le_of_ble_eq_true rfl, (mT1 116 rfl rfl)⟩
theorem dX9_makeStroke_27 : decode cX9_makeStroke 27 = .ok (.iload_n 1, 1) := by decide +kernel
theorem dX9_makeStroke_28 : decode cX9_makeStroke 28 = .ok (.invokestatic 70, 3) := by decide +kernel
theorem glS_RX9_70 : GLS RX9 70 yX6_extended cX6_extended 4 (some .long) 2 := ⟨⟨(mT4 49 rfl rfl), (mT3 96 rfl rfl), (mT1 18 rfl rfl), (mT3 97 rfl rfl)⟩, by decide +kernel⟩
theorem dX9_makeStroke_31 : decode cX9_makeStroke 31 = .ok (.lstore 5, 2) := by decide +kernel
theorem dX9_makeStroke_33 : decode cX9_makeStroke 33 = .ok (.aload_n 2, 1) := by decide +kernel
theorem dX9_makeStroke_34 : decode cX9_makeStroke 34 = .ok (.getfield 64, 3) := by decide +kernel
theorem dX9_makeStroke_37 : decode cX9_makeStroke 37 = .ok (.lconst 0, 1) := by decide +kernel
theorem dX9_makeStroke_38 : decode cX9_makeStroke 38 = .ok (.lcmp, 1) := by decide +kernel
theorem dX9_makeStroke_39 : decode cX9_makeStroke 39 = .ok (.ifCond .eq 7, 3) := by decide +kernel
theorem dX9_makeStroke_46 : decode cX9_makeStroke 46 = .ok (.iconst 0, 1) := by decide +kernel
theorem dX9_makeStroke_47 : decode cX9_makeStroke 47 = .ok (.istore_n 3, 1) := by decide +kernel
theorem dX9_makeStroke_48 : decode cX9_makeStroke 48 = .ok (.aload_n 2, 1) := by decide +kernel
theorem dX9_makeStroke_49 : decode cX9_makeStroke 49 = .ok (.lconst 0, 1) := by decide +kernel
theorem dX9_makeStroke_50 : decode cX9_makeStroke 50 = .ok (.putfield 64, 3) := by decide +kernel
theorem gp_RX9_64 : GP RX9 64 9 2 .long false := ⟨RX8, TX8, 9, ⟨rfl, inw_X8, Nat.le_of_ble_eq_true rfl, (mT1 116 rfl rfl)⟩, ⟨tyX8, tyX8_ok⟩, nmX8, rfl, by decide +kernel, fun h => nomatch h⟩
theorem dX9_makeStroke_53 : decode cX9_makeStroke 53 = .ok (.aload_n 2, 1) := by decide +kernel
theorem dX9_makeStroke_54 : decode cX9_makeStroke 54 = .ok (.dup, 1) := by decide +kernel
theorem dX9_makeStroke_55 : decode cX9_makeStroke 55 = .ok (.getfield 74, 3) := by decide +kernel
theorem gf_RX9_74 : GF RX9 74 9 5 := ⟨RX8, TX8, 9, rfl, inw_X8, Nat.le_of_ble_eq_true rfl, (mT1 125 rfl rfl)⟩
theorem dX9_makeStroke_58 : decode cX9_makeStroke 58 = .ok (.iconst 1, 1) := by decide +kernel
theorem dX9_makeStroke_59 : decode cX9_makeStroke 59 = .ok (.iadd, 1) := by decide +kernel
theorem dX9_makeStroke_60 : decode cX9_makeStroke 60 = .ok (.putfield 74, 3) := by decide +kernel
theorem gp_RX9_74 : GP RX9 74 9 5 .int false := ⟨RX8, TX8, 9, ⟨rfl, inw_X8, Nat.le_of_ble_eq_true rfl, (mT1 125 rfl rfl)⟩, ⟨tyX8, tyX8_ok⟩, nmX8, rfl, by decide +kernel, fun h => nomatch h⟩
theorem dX9_makeStroke_63 : decode cX9_makeStroke 63 = .ok (.aload_n 2, 1) := by decide +kernel
theorem dX9_makeStroke_64 : decode cX9_makeStroke 64 = .ok (.aload_n 2, 1) := by decide +kernel
theorem dX9_makeStroke_65 : decode cX9_makeStroke 65 = .ok (.getfield 78, 3) := by decide +kernel
theorem gf_RX9_78 : GF RX9 78 9 6 := ⟨RX8, TX8, 9, rfl, inw_X8, Nat.le_of_ble_eq_true rfl, (mT1 128 rfl rfl)⟩
theorem dX9_makeStroke_68 : decode cX9_makeStroke 68 = .ok (.putfield 81, 3) := by decide +kernel
theorem gp_RX9_81 : GP RX9 81 9 7 .int false := ⟨RX8, TX8, 9, ⟨rfl, inw_X8, Nat.le_of_ble_eq_true rfl, (mT1 131 rfl rfl)⟩, ⟨tyX8, tyX8_ok⟩, nmX8, rfl, by decide +kernel, fun h => nomatch h⟩
theorem dX9_makeStroke_71 : decode cX9_makeStroke 71 = .ok (.aload_n 0, 1) := by decide +kernel
theorem dX9_makeStroke_72 : decode cX9_makeStroke 72 = .ok (.getfield 15, 3) := by decide +kernel
theorem gf_RX9_15 : GF RX9 15 10 1 := ⟨RX9, TX9, 2, rfl, inw_X9, Nat.le_of_ble_eq_true rfl, (mT2 24 rfl rfl)⟩
theorem dX9_makeStroke_75 : decode cX9_makeStroke 75 = .ok (.aload_n 2, 1) := by decide +kernel
theorem dX9_makeStroke_76 : decode cX9_makeStroke 76 = .ok (.getfield 84, 3) := by decide +kernel
theorem gf_RX9_84 : GF RX9 84 9 1 := ⟨RX8, TX8, 9, rfl, inw_X8, Nat.le_of_ble_eq_true rfl, (mT1 113 rfl rfl)⟩
theorem dX9_makeStroke_79 : decode cX9_makeStroke 79 = .ok (.invokevirtual 87, 3) := by decide +kernel
theorem glV_RX9_87 : GLV RX9 87 yX10_standIn RX10 cX10_standIn 4 none 1 := ⟨⟨(mT4 50 rfl rfl), (mT4 51 rfl rfl), (mT4 52 rfl rfl), (mT1 8 rfl rfl), (mT4 53 rfl rfl)⟩, by decide +kernel⟩
theorem dX9_makeStroke_82 : decode cX9_makeStroke 82 = .ok (.aload_n 0, 1) := by decide +kernel
theorem dX9_makeStroke_83 : decode cX9_makeStroke 83 = .ok (.getfield 15, 3) := by decide +kernel
theorem dX9_makeStroke_86 : decode cX9_makeStroke 86 = .ok (.lload 5, 2) := by decide +kernel
theorem dX9_makeStroke_88 : decode cX9_makeStroke 88 = .ok (.invokevirtual 93, 3) := by decide +kernel
theorem glV_RX9_93 : GLV RX9 93 yX10_seenWith RX10 cX10_seenWith 4 (some .int) 1 := ⟨⟨(mT4 57 rfl rfl), (mT4 58 rfl rfl), (mT4 59 rfl rfl), (mT1 8 rfl rfl), (mT4 60 rfl rfl)⟩, by decide +kernel⟩
theorem dX9_makeStroke_91 : decode cX9_makeStroke 91 = .ok (.istore 7, 2) := by decide +kernel
theorem dX9_makeStroke_93 : decode cX9_makeStroke 93 = .ok (.iload 7, 2) := by decide +kernel
theorem dX9_makeStroke_95 : decode cX9_makeStroke 95 = .ok (.iconst (-1), 1) := by decide +kernel
theorem dX9_makeStroke_96 : decode cX9_makeStroke 96 = .ok (.if_icmp .eq 20, 3) := by decide +kernel
theorem dX9_makeStroke_116 : decode cX9_makeStroke 116 = .ok (.aload_n 0, 1) := by decide +kernel
theorem dX9_makeStroke_117 : decode cX9_makeStroke 117 = .ok (.getfield 15, 3) := by decide +kernel
theorem dX9_makeStroke_120 : decode cX9_makeStroke 120 = .ok (.lload 5, 2) := by decide +kernel
theorem dX9_makeStroke_122 : decode cX9_makeStroke 122 = .ok (.invokevirtual 105, 3) := by decide +kernel
theorem glV_RX9_105 : GLV RX9 105 yX10_seesLonger RX10 cX10_seesLonger 4 (some .boolean) 1 := ⟨⟨(mT4 90 rfl rfl), (mT4 91 rfl rfl), (mT4 92 rfl rfl), (mT1 8 rfl rfl), (mT4 93 rfl rfl)⟩, by decide +kernel⟩
theorem dX9_makeStroke_125 : decode cX9_makeStroke 125 = .ok (.ifCond .eq 11, 3) := by decide +kernel
theorem dX9_makeStroke_136 : decode cX9_makeStroke 136 = .ok (.aload_n 2, 1) := by decide +kernel
theorem dX9_makeStroke_137 : decode cX9_makeStroke 137 = .ok (.dup, 1) := by decide +kernel
theorem dX9_makeStroke_138 : decode cX9_makeStroke 138 = .ok (.getfield 109, 3) := by decide +kernel
theorem gf_RX9_109 : GF RX9 109 9 4 := ⟨RX8, TX8, 9, rfl, inw_X8, Nat.le_of_ble_eq_true rfl, (mT1 122 rfl rfl)⟩
theorem dX9_makeStroke_141 : decode cX9_makeStroke 141 = .ok (.iconst 1, 1) := by decide +kernel
theorem dX9_makeStroke_142 : decode cX9_makeStroke 142 = .ok (.iadd, 1) := by decide +kernel
theorem dX9_makeStroke_143 : decode cX9_makeStroke 143 = .ok (.putfield 109, 3) := by decide +kernel
theorem gp_RX9_109 : GP RX9 109 9 4 .int false := ⟨RX8, TX8, 9, ⟨rfl, inw_X8, Nat.le_of_ble_eq_true rfl, (mT1 122 rfl rfl)⟩, ⟨tyX8, tyX8_ok⟩, nmX8, rfl, by decide +kernel, fun h => nomatch h⟩
theorem dX9_makeStroke_146 : decode cX9_makeStroke 146 = .ok (.iinc 4 1, 3) := by decide +kernel
theorem dX9_makeStroke_149 : decode cX9_makeStroke 149 = .ok (.goto (-136), 3) := by decide +kernel
theorem dX9_makeStroke_152 : decode cX9_makeStroke 152 = .ok (.iconst (-1), 1) := by decide +kernel
theorem dX9_makeStroke_153 : decode cX9_makeStroke 153 = .ok (.ireturn, 1) := by decide +kernel
set_option maxRecDepth 100000 in
set_option maxHeartbeats 4000000 in
theorem mX9_makeStroke_1 (l : Launch) (D : va_G) (Y : Nat → ClassId) (h8 : Nat) (h0 : Nat) (h1 : Nat) (g0 : Nat) (g1 : Nat) (g2 : Nat) (g3 : Nat) (h3 : Nat) (g4 : Nat) (g5 : Nat) (g6 : Nat) (g7 : Nat) (h4 : Nat) (h2 : Nat) (g8 : Nat) (g9 : Nat) (h5 : Nat) (h6 : Nat) (g10 : Nat) (g11 : Nat) (g12 : Nat) (h7 : Nat) (p0 : Int32) (sz : Nat) : Met l yX9_makeStroke (WSm yX9_makeStroke cX9_makeStroke 8 (some .int)) (mkR 2 0 0 46) (PreC D Y [.ref h8, .int p0] [(h0, oC 2 [.ref h1, .ref g0, .ref g1, .ref g2, .ref g3, .ref h3, .ref g4, .ref g5, .ref g6, .ref g7, .ref h4, .int 0]), (h1, oC 3 [.ref h2, .int 1]), (h2, aI Y 6 (upd (fun _ => 0) 0 (-1))), (h3, oC 3 [.ref g8, .int 0]), (h4, oC 9 [.ref g9, .int 0, .long 0, .int (-1), .int 0, .int 0, .int 0, .int 0, .int 0]), (h5, oC 11 [.ref h0, .ref h6, .ref g10, .ref g11, .ref g12]), (h6, oC 3 [.ref h7, .int 0]), (h7, aI Y 6 (fun _ => 0)), (h8, oC 10 [.ref h0, .ref h5])] sz) (QI D (fun (r : Int32) (u : Unit) => (-1) = r) (fun (_ : Unit) => [(h0, oC 2 [.ref h1, .ref g0, .ref g1, .ref g2, .ref g3, .ref h3, .ref g4, .ref g5, .ref g6, .ref g7, .ref h4, .int 0]), (h1, oC 3 [.ref h2, .int 1]), (h2, aI Y 6 (upd (fun _ => 0) 0 (-1))), (h3, oC 3 [.ref g8, .int 0]), (h4, oC 9 [.ref g9, .int 0, .long 0, .int (-1), .int 1, .int 1, .int 0, .int 0, .int 0]), (h5, oC 11 [.ref h0, .ref h6, .ref g10, .ref g11, .ref g12]), (h6, oC 3 [.ref h7, .int 6]), (h7, aI Y 6 (upd (upd (upd (upd (upd (upd (upd (fun _ => 0) 0 (-1)) 1 (-1)) 2 (-1)) 3 (-1)) 4 (-1)) 5 (-1)) 0 0)), (h8, oC 10 [.ref h0, .ref h5])]) (va_A [(h0, oC 2 [.ref h1, .ref g0, .ref g1, .ref g2, .ref g3, .ref h3, .ref g4, .ref g5, .ref g6, .ref g7, .ref h4, .int 0]), (h1, oC 3 [.ref h2, .int 1]), (h2, aI Y 6 (upd (fun _ => 0) 0 (-1))), (h3, oC 3 [.ref g8, .int 0]), (h4, oC 9 [.ref g9, .int 0, .long 0, .int (-1), .int 0, .int 0, .int 0, .int 0, .int 0]), (h5, oC 11 [.ref h0, .ref h6, .ref g10, .ref g11, .ref g12]), (h6, oC 3 [.ref h7, .int 0]), (h7, aI Y 6 (fun _ => 0)), (h8, oC 10 [.ref h0, .ref h5])] sz)) 0 0 (va_A [(h0, oC 2 [.ref h1, .ref g0, .ref g1, .ref g2, .ref g3, .ref h3, .ref g4, .ref g5, .ref g6, .ref g7, .ref h4, .int 0]), (h1, oC 3 [.ref h2, .int 1]), (h2, aI Y 6 (upd (fun _ => 0) 0 (-1))), (h3, oC 3 [.ref g8, .int 0]), (h4, oC 9 [.ref g9, .int 0, .long 0, .int (-1), .int 0, .int 0, .int 0, .int 0, .int 0]), (h5, oC 11 [.ref h0, .ref h6, .ref g10, .ref g11, .ref g12]), (h6, oC 3 [.ref h7, .int 0]), (h7, aI Y 6 (fun _ => 0)), (h8, oC 10 [.ref h0, .ref h5])] sz) :=
  met_of (by decide +kernel) (Nat.le_of_ble_eq_true rfl) (fun p e s m args below meth c B hin hsz => by
    have B : VB p s m args meth c D Y (va_A [(h0, oC 2 [.ref h1, .ref g0, .ref g1, .ref g2, .ref g3, .ref h3, .ref g4, .ref g5, .ref g6, .ref g7, .ref h4, .int 0]), (h1, oC 3 [.ref h2, .int 1]), (h2, aI Y 6 (upd (fun _ => 0) 0 (-1))), (h3, oC 3 [.ref g8, .int 0]), (h4, oC 9 [.ref g9, .int 0, .long 0, .int (-1), .int 0, .int 0, .int 0, .int 0, .int 0]), (h5, oC 11 [.ref h0, .ref h6, .ref g10, .ref g11, .ref g12]), (h6, oC 3 [.ref h7, .int 0]), (h7, aI Y 6 (fun _ => 0)), (h8, oC 10 [.ref h0, .ref h5])] sz) cX9_makeStroke 8 RX9 (some .int) := B
    refine V_aload_n 0 B dX9_makeStroke_0 0 rfl ?_
    refine V_get 1 B gf_RX9_9 8 rfl rfl dX9_makeStroke_1 ?_
    refine V_get 4 B gf_RX9_60 0 rfl rfl dX9_makeStroke_4 ?_
    refine V_astore_n 7 B (lv2 := [(2, .ref h4), (0, .ref h8), (1, .int p0)]) dX9_makeStroke_7 (by decide) rfl ?_
    refine V_iconst 8 B (v := 1) dX9_makeStroke_8 (by decide +kernel) ?_
    refine V_istore_n 9 B (lv2 := [(3, .int 1), (2, .ref h4), (0, .ref h8), (1, .int p0)]) dX9_makeStroke_9 (by decide) rfl ?_
    refine V_iconst 10 B (v := 0) dX9_makeStroke_10 (by decide +kernel) ?_
    refine V_istore 11 B (lv2 := [(4, .int 0), (3, .int 1), (2, .ref h4), (0, .ref h8), (1, .int p0)]) dX9_makeStroke_11 (by decide) rfl ?_
    refine V_iload 13 B dX9_makeStroke_13 0 rfl ?_
    refine V_iconst 15 B (v := 2) dX9_makeStroke_15 (by decide +kernel) ?_
    refine V_icmp_ge_f 16 B 152 dX9_makeStroke_16 (by decide) (by decide +kernel) ?_
    refine V_iload_n 19 B dX9_makeStroke_19 1 rfl ?_
    refine V_if_eq_f 20 B 152 dX9_makeStroke_20 (by decide) (by decide +kernel) ?_
    refine V_aload_n 23 B dX9_makeStroke_23 2 rfl ?_
    refine V_get 24 B gf_RX9_64 4 rfl rfl dX9_makeStroke_24 ?_
    refine V_iload_n 27 B dX9_makeStroke_27 4 rfl ?_
    refine V_csl 28 B (st := []) (As := [.long 0, .int p0]) (fun sz => mX6_extended_1 l D Y (p0) sz) glS_RX9_70 ⟨rfl, rfl⟩ ⟨(Nat.le_of_ble_eq_true rfl), (Nat.le_of_ble_eq_true rfl)⟩ ⟨(Nat.le_of_ble_eq_true rfl), (Nat.le_of_ble_eq_true rfl)⟩ [] rfl rfl (Nat.le_of_ble_eq_true rfl) rfl (fun _ _ _ => rfl) dX9_makeStroke_28 (fun r0 u0 w0 => ?_)
    obtain rfl := w0
    refine V_ws [(h0, oC 2 [.ref h1, .ref g0, .ref g1, .ref g2, .ref g3, .ref h3, .ref g4, .ref g5, .ref g6, .ref g7, .ref h4, .int 0]), (h1, oC 3 [.ref h2, .int 1]), (h2, aI Y 6 (upd (fun _ => 0) 0 (-1))), (h3, oC 3 [.ref g8, .int 0]), (h4, oC 9 [.ref g9, .int 0, .long 0, .int (-1), .int 0, .int 0, .int 0, .int 0, .int 0]), (h5, oC 11 [.ref h0, .ref h6, .ref g10, .ref g11, .ref g12]), (h6, oC 3 [.ref h7, .int 0]), (h7, aI Y 6 (fun _ => 0)), (h8, oC 10 [.ref h0, .ref h5])] rfl ?_
    refine V_lstore 31 B (lv2 := [(5, .long (0 ||| ((p0 + 1).toInt64 <<< ((27 : Int32).toInt64 &&& 63)))), (4, .int 0), (3, .int 1), (2, .ref h4), (0, .ref h8), (1, .int p0)]) dX9_makeStroke_31 (by decide) rfl ?_
    refine V_aload_n 33 B dX9_makeStroke_33 3 rfl ?_
    refine V_get 34 B gf_RX9_64 4 rfl rfl dX9_makeStroke_34 ?_
    refine V_lconst 37 B (v := 0) dX9_makeStroke_37 (by decide +kernel) ?_
    refine V_lcmp 38 B (v := 0) dX9_makeStroke_38 (by decide +kernel) ?_
    refine V_if_eq_t 39 B 46 dX9_makeStroke_39 (by decide) (by decide +kernel) ?_
    refine V_iconst 46 B (v := 0) dX9_makeStroke_46 (by decide +kernel) ?_
    refine V_istore_n 47 B (lv2 := [(3, .int 0), (5, .long (0 ||| ((p0 + 1).toInt64 <<< ((27 : Int32).toInt64 &&& 63)))), (4, .int 0), (2, .ref h4), (0, .ref h8), (1, .int p0)]) dX9_makeStroke_47 (by decide) rfl ?_
    refine V_aload_n 48 B dX9_makeStroke_48 3 rfl ?_
    refine V_lconst 49 B (v := 0) dX9_makeStroke_49 (by decide +kernel) ?_
    refine V_put 50 B gp_RX9_64 4 rfl (Nat.le_of_ble_eq_true rfl) rfl rfl dX9_makeStroke_50 [(h0, oC 2 [.ref h1, .ref g0, .ref g1, .ref g2, .ref g3, .ref h3, .ref g4, .ref g5, .ref g6, .ref g7, .ref h4, .int 0]), (h1, oC 3 [.ref h2, .int 1]), (h2, aI Y 6 (upd (fun _ => 0) 0 (-1))), (h3, oC 3 [.ref g8, .int 0]), (h4, oC 9 [.ref g9, .int 0, .long 0, .int (-1), .int 0, .int 0, .int 0, .int 0, .int 0]), (h5, oC 11 [.ref h0, .ref h6, .ref g10, .ref g11, .ref g12]), (h6, oC 3 [.ref h7, .int 0]), (h7, aI Y 6 (fun _ => 0)), (h8, oC 10 [.ref h0, .ref h5])] rfl ?_
    refine V_aload_n 53 B dX9_makeStroke_53 3 rfl ?_
    refine V_dup 54 B dX9_makeStroke_54 rfl ?_
    refine V_get 55 B gf_RX9_74 4 rfl rfl dX9_makeStroke_55 ?_
    refine V_iconst 58 B (v := 1) dX9_makeStroke_58 (by decide +kernel) ?_
    refine V_iadd 59 B (v := 1) dX9_makeStroke_59 (by decide +kernel) ?_
    refine V_put 60 B gp_RX9_74 4 rfl (Nat.le_of_ble_eq_true rfl) rfl rfl dX9_makeStroke_60 [(h0, oC 2 [.ref h1, .ref g0, .ref g1, .ref g2, .ref g3, .ref h3, .ref g4, .ref g5, .ref g6, .ref g7, .ref h4, .int 0]), (h1, oC 3 [.ref h2, .int 1]), (h2, aI Y 6 (upd (fun _ => 0) 0 (-1))), (h3, oC 3 [.ref g8, .int 0]), (h4, oC 9 [.ref g9, .int 0, .long 0, .int (-1), .int 0, .int 1, .int 0, .int 0, .int 0]), (h5, oC 11 [.ref h0, .ref h6, .ref g10, .ref g11, .ref g12]), (h6, oC 3 [.ref h7, .int 0]), (h7, aI Y 6 (fun _ => 0)), (h8, oC 10 [.ref h0, .ref h5])] rfl ?_
    refine V_aload_n 63 B dX9_makeStroke_63 3 rfl ?_
    refine V_aload_n 64 B dX9_makeStroke_64 3 rfl ?_
    refine V_get 65 B gf_RX9_78 4 rfl rfl dX9_makeStroke_65 ?_
    refine V_put 68 B gp_RX9_81 4 rfl (Nat.le_of_ble_eq_true rfl) rfl rfl dX9_makeStroke_68 [(h0, oC 2 [.ref h1, .ref g0, .ref g1, .ref g2, .ref g3, .ref h3, .ref g4, .ref g5, .ref g6, .ref g7, .ref h4, .int 0]), (h1, oC 3 [.ref h2, .int 1]), (h2, aI Y 6 (upd (fun _ => 0) 0 (-1))), (h3, oC 3 [.ref g8, .int 0]), (h4, oC 9 [.ref g9, .int 0, .long 0, .int (-1), .int 0, .int 1, .int 0, .int 0, .int 0]), (h5, oC 11 [.ref h0, .ref h6, .ref g10, .ref g11, .ref g12]), (h6, oC 3 [.ref h7, .int 0]), (h7, aI Y 6 (fun _ => 0)), (h8, oC 10 [.ref h0, .ref h5])] rfl ?_
    refine V_aload_n 71 B dX9_makeStroke_71 4 rfl ?_
    refine V_get 72 B gf_RX9_15 8 rfl rfl dX9_makeStroke_72 ?_
    refine V_aload_n 75 B dX9_makeStroke_75 3 rfl ?_
    refine V_get 76 B gf_RX9_84 4 rfl rfl dX9_makeStroke_76 ?_
    refine V_cvv 79 B (st := []) (As := [.int 0]) (fun sz => mX10_standIn_1 l D Y (h5) (h0) (h1) (g0) (g1) (g2) (g3) (h3) (g4) (g5) (g6) (g7) (h4) (h2) (h6) (g10) (g11) (g12) (h7) sz) glV_RX9_87 ⟨rfl, rfl⟩ ⟨(Nat.le_of_ble_eq_true rfl), (Nat.le_of_ble_eq_true rfl)⟩ ⟨(Nat.le_of_ble_eq_true rfl), (Nat.le_of_ble_eq_true rfl)⟩ [0, 0, 0, 2, 0, 0] rfl 11 3 rfl rfl rfl rfl (Nat.le_of_ble_eq_true rfl) rfl (fun _ _ => rfl) dX9_makeStroke_79 (fun u1 w1 => ?_)
    refine V_ws [(h0, oC 2 [.ref h1, .ref g0, .ref g1, .ref g2, .ref g3, .ref h3, .ref g4, .ref g5, .ref g6, .ref g7, .ref h4, .int 0]), (h1, oC 3 [.ref h2, .int 1]), (h2, aI Y 6 (upd (fun _ => 0) 0 (-1))), (h3, oC 3 [.ref g8, .int 0]), (h4, oC 9 [.ref g9, .int 0, .long 0, .int (-1), .int 0, .int 1, .int 0, .int 0, .int 0]), (h5, oC 11 [.ref h0, .ref h6, .ref g10, .ref g11, .ref g12]), (h6, oC 3 [.ref h7, .int 6]), (h7, aI Y 6 (upd (upd (upd (upd (upd (upd (upd (fun _ => 0) 0 (-1)) 1 (-1)) 2 (-1)) 3 (-1)) 4 (-1)) 5 (-1)) 0 0)), (h8, oC 10 [.ref h0, .ref h5])] rfl ?_
    refine V_aload_n 82 B dX9_makeStroke_82 4 rfl ?_
    refine V_get 83 B gf_RX9_15 8 rfl rfl dX9_makeStroke_83 ?_
    refine V_lload 86 B dX9_makeStroke_86 1 rfl ?_
    refine V_cvi 88 B (st := []) (As := [.long (0 ||| ((p0 + 1).toInt64 <<< ((27 : Int32).toInt64 &&& 63)))]) (fun sz => mX10_seenWith_1 l D Y (h5) (h0) (h1) (g0) (g1) (g2) (g3) (h3) (g4) (g5) (g6) (g7) (h4) (g8) (h6) (g10) (g11) (g12) ((0 ||| ((p0 + 1).toInt64 <<< ((27 : Int32).toInt64 &&& 63)))) sz) glV_RX9_93 ⟨rfl, rfl⟩ ⟨(Nat.le_of_ble_eq_true rfl), (Nat.le_of_ble_eq_true rfl)⟩ ⟨(Nat.le_of_ble_eq_true rfl), (Nat.le_of_ble_eq_true rfl)⟩ [0, 2, 1] rfl 11 2 rfl rfl rfl rfl (Nat.le_of_ble_eq_true rfl) rfl (fun _ _ _ => rfl) dX9_makeStroke_88 (fun r2 u2 w2 => ?_)
    obtain rfl := w2
    refine V_ws [(h0, oC 2 [.ref h1, .ref g0, .ref g1, .ref g2, .ref g3, .ref h3, .ref g4, .ref g5, .ref g6, .ref g7, .ref h4, .int 0]), (h1, oC 3 [.ref h2, .int 1]), (h2, aI Y 6 (upd (fun _ => 0) 0 (-1))), (h3, oC 3 [.ref g8, .int 0]), (h4, oC 9 [.ref g9, .int 0, .long 0, .int (-1), .int 0, .int 1, .int 0, .int 0, .int 0]), (h5, oC 11 [.ref h0, .ref h6, .ref g10, .ref g11, .ref g12]), (h6, oC 3 [.ref h7, .int 6]), (h7, aI Y 6 (upd (upd (upd (upd (upd (upd (upd (fun _ => 0) 0 (-1)) 1 (-1)) 2 (-1)) 3 (-1)) 4 (-1)) 5 (-1)) 0 0)), (h8, oC 10 [.ref h0, .ref h5])] rfl ?_
    refine V_istore 91 B (lv2 := [(7, .int (-1)), (3, .int 0), (5, .long (0 ||| ((p0 + 1).toInt64 <<< ((27 : Int32).toInt64 &&& 63)))), (4, .int 0), (2, .ref h4), (0, .ref h8), (1, .int p0)]) dX9_makeStroke_91 (by decide) rfl ?_
    refine V_iload 93 B dX9_makeStroke_93 0 rfl ?_
    refine V_iconst 95 B (v := (-1)) dX9_makeStroke_95 (by decide +kernel) ?_
    refine V_icmp_eq_t 96 B 116 dX9_makeStroke_96 (by decide) (by decide +kernel) ?_
    refine V_aload_n 116 B dX9_makeStroke_116 5 rfl ?_
    refine V_get 117 B gf_RX9_15 8 rfl rfl dX9_makeStroke_117 ?_
    refine V_lload 120 B dX9_makeStroke_120 2 rfl ?_
    refine V_cvi 122 B (st := []) (As := [.long (0 ||| ((p0 + 1).toInt64 <<< ((27 : Int32).toInt64 &&& 63)))]) (fun sz => mX10_seesLonger_1 l D Y (h5) (h0) (h1) (g0) (g1) (g2) (g3) (h3) (g4) (g5) (g6) (g7) (h4) (g8) (h6) (g10) (g11) (g12) ((0 ||| ((p0 + 1).toInt64 <<< ((27 : Int32).toInt64 &&& 63)))) sz) glV_RX9_105 ⟨rfl, rfl⟩ ⟨(Nat.le_of_ble_eq_true rfl), (Nat.le_of_ble_eq_true rfl)⟩ ⟨(Nat.le_of_ble_eq_true rfl), (Nat.le_of_ble_eq_true rfl)⟩ [0, 2, 1] rfl 11 2 rfl rfl rfl rfl (Nat.le_of_ble_eq_true rfl) rfl (fun _ _ _ => rfl) dX9_makeStroke_122 (fun r3 u3 w3 => ?_)
    obtain rfl := w3
    refine V_ws [(h0, oC 2 [.ref h1, .ref g0, .ref g1, .ref g2, .ref g3, .ref h3, .ref g4, .ref g5, .ref g6, .ref g7, .ref h4, .int 0]), (h1, oC 3 [.ref h2, .int 1]), (h2, aI Y 6 (upd (fun _ => 0) 0 (-1))), (h3, oC 3 [.ref g8, .int 0]), (h4, oC 9 [.ref g9, .int 0, .long 0, .int (-1), .int 0, .int 1, .int 0, .int 0, .int 0]), (h5, oC 11 [.ref h0, .ref h6, .ref g10, .ref g11, .ref g12]), (h6, oC 3 [.ref h7, .int 6]), (h7, aI Y 6 (upd (upd (upd (upd (upd (upd (upd (fun _ => 0) 0 (-1)) 1 (-1)) 2 (-1)) 3 (-1)) 4 (-1)) 5 (-1)) 0 0)), (h8, oC 10 [.ref h0, .ref h5])] rfl ?_
    refine V_if_eq_t 125 B 136 dX9_makeStroke_125 (by decide) (by decide +kernel) ?_
    refine V_aload_n 136 B dX9_makeStroke_136 4 rfl ?_
    refine V_dup 137 B dX9_makeStroke_137 rfl ?_
    refine V_get 138 B gf_RX9_109 4 rfl rfl dX9_makeStroke_138 ?_
    refine V_iconst 141 B (v := 1) dX9_makeStroke_141 (by decide +kernel) ?_
    refine V_iadd 142 B (v := 1) dX9_makeStroke_142 (by decide +kernel) ?_
    refine V_put 143 B gp_RX9_109 4 rfl (Nat.le_of_ble_eq_true rfl) rfl rfl dX9_makeStroke_143 [(h0, oC 2 [.ref h1, .ref g0, .ref g1, .ref g2, .ref g3, .ref h3, .ref g4, .ref g5, .ref g6, .ref g7, .ref h4, .int 0]), (h1, oC 3 [.ref h2, .int 1]), (h2, aI Y 6 (upd (fun _ => 0) 0 (-1))), (h3, oC 3 [.ref g8, .int 0]), (h4, oC 9 [.ref g9, .int 0, .long 0, .int (-1), .int 1, .int 1, .int 0, .int 0, .int 0]), (h5, oC 11 [.ref h0, .ref h6, .ref g10, .ref g11, .ref g12]), (h6, oC 3 [.ref h7, .int 6]), (h7, aI Y 6 (upd (upd (upd (upd (upd (upd (upd (fun _ => 0) 0 (-1)) 1 (-1)) 2 (-1)) 3 (-1)) 4 (-1)) 5 (-1)) 0 0)), (h8, oC 10 [.ref h0, .ref h5])] rfl ?_
    refine V_iinc 146 B (v := 1) (lv2 := [(4, .int 1), (7, .int (-1)), (3, .int 0), (5, .long (0 ||| ((p0 + 1).toInt64 <<< ((27 : Int32).toInt64 &&& 63)))), (2, .ref h4), (0, .ref h8), (1, .int p0)]) dX9_makeStroke_146 3 rfl (by decide +kernel) (by decide) rfl ?_
    refine V_goto 149 B 13 dX9_makeStroke_149 (by decide) ?_
    refine V_iload 13 B dX9_makeStroke_13 0 rfl ?_
    refine V_iconst 15 B (v := 2) dX9_makeStroke_15 (by decide +kernel) ?_
    refine V_icmp_ge_f 16 B 152 dX9_makeStroke_16 (by decide) (by decide +kernel) ?_
    refine V_iload_n 19 B dX9_makeStroke_19 2 rfl ?_
    refine V_if_eq_t 20 B 152 dX9_makeStroke_20 (by decide) (by decide +kernel) ?_
    refine V_iconst 152 B (v := (-1)) dX9_makeStroke_152 (by decide +kernel) ?_
    exact V_iret 153 B dX9_makeStroke_153 () rfl rfl)
theorem dX9_pressKey_0 : decode cX9_pressKey 0 = .ok (.aload_n 0, 1) := by decide +kernel
theorem dX9_pressKey_1 : decode cX9_pressKey 1 = .ok (.getfield 9, 3) := by decide +kernel
theorem dX9_pressKey_4 : decode cX9_pressKey 4 = .ok (.getfield 19, 3) := by decide +kernel
theorem gf_RX9_19 : GF RX9 19 2 9 := ⟨RX0, TX0, 12, rfl, inw_X0, Nat.le_of_ble_eq_true rfl, (mT1 194 rfl rfl)⟩
theorem dX9_pressKey_7 : decode cX9_pressKey 7 = .ok (.getfield 25, 3) := by decide +kernel
theorem gf_RX9_25 : GF RX9 25 4 0 := ⟨RX2, TX2, 4, rfl, inw_X2, Nat.le_of_ble_eq_true rfl, (mT1 83 rfl rfl)⟩
theorem dX9_pressKey_10 : decode cX9_pressKey 10 = .ok (.iload_n 1, 1) := by decide +kernel
theorem dX9_pressKey_11 : decode cX9_pressKey 11 = .ok (.invokevirtual 31, 3) := by decide +kernel
theorem glV_RX9_31 : GLV RX9 31 yX1_indexOf RX1 cX1_indexOf 3 (some .int) 1 := ⟨⟨(mT4 153 rfl rfl), (mT3 166 rfl rfl), (mT3 167 rfl rfl), (mT1 3 rfl rfl), (mT3 168 rfl rfl)⟩, by decide +kernel⟩
theorem dX9_pressKey_14 : decode cX9_pressKey 14 = .ok (.istore_n 2, 1) := by decide +kernel
theorem dX9_pressKey_15 : decode cX9_pressKey 15 = .ok (.iload_n 2, 1) := by decide +kernel
theorem dX9_pressKey_16 : decode cX9_pressKey 16 = .ok (.iconst (-1), 1) := by decide +kernel
theorem dX9_pressKey_17 : decode cX9_pressKey 17 = .ok (.if_icmp .eq 20, 3) := by decide +kernel
theorem dX9_pressKey_37 : decode cX9_pressKey 37 = .ok (.aload_n 0, 1) := by decide +kernel
theorem dX9_pressKey_38 : decode cX9_pressKey 38 = .ok (.aload_n 0, 1) := by decide +kernel
theorem dX9_pressKey_39 : decode cX9_pressKey 39 = .ok (.getfield 9, 3) := by decide +kernel
theorem dX9_pressKey_42 : decode cX9_pressKey 42 = .ok (.getfield 19, 3) := by decide +kernel
theorem dX9_pressKey_45 : decode cX9_pressKey 45 = .ok (.iload_n 1, 1) := by decide +kernel
theorem dX9_pressKey_46 : decode cX9_pressKey 46 = .ok (.invokevirtual 44, 3) := by decide +kernel
theorem glV_RX9_44 : GLV RX9 44 yX2_strokeMade RX2 cX2_strokeMade 5 (some .int) 1 := ⟨⟨(mT4 154 rfl rfl), (mT4 155 rfl rfl), (mT4 156 rfl rfl), (mT1 6 rfl rfl), (mT4 157 rfl rfl)⟩, by decide +kernel⟩
theorem dX9_pressKey_49 : decode cX9_pressKey 49 = .ok (.invokevirtual 47, 3) := by decide +kernel
theorem glV_RX9_47 : GLV RX9 47 yX9_makeStroke RX9 cX9_makeStroke 8 (some .int) 1 := ⟨⟨(mT4 45 rfl rfl), (mT4 46 rfl rfl), (mT4 47 rfl rfl), (mT1 9 rfl rfl), (mT4 48 rfl rfl)⟩, by decide +kernel⟩
theorem dX9_pressKey_52 : decode cX9_pressKey 52 = .ok (.ireturn, 1) := by decide +kernel
set_option maxRecDepth 100000 in
set_option maxHeartbeats 4000000 in
theorem mX9_pressKey_1 (l : Launch) (D : va_G) (Y : Nat → ClassId) (h10 : Nat) (h0 : Nat) (h1 : Nat) (g0 : Nat) (g1 : Nat) (g2 : Nat) (g3 : Nat) (h3 : Nat) (g4 : Nat) (g5 : Nat) (g6 : Nat) (h4 : Nat) (h6 : Nat) (h2 : Nat) (g7 : Nat) (h5 : Nat) (g8 : Nat) (g9 : Nat) (g10 : Nat) (g11 : Nat) (h7 : Nat) (h8 : Nat) (g12 : Nat) (g13 : Nat) (g14 : Nat) (h9 : Nat) (p0 : Int32) (sz : Nat) : Met l yX9_pressKey (WSm yX9_pressKey cX9_pressKey 3 (some .int)) (mkR 3 0 0 73) (PreC D Y [.ref h10, .int p0] [(h0, oC 2 [.ref h1, .ref g0, .ref g1, .ref g2, .ref g3, .ref h3, .ref g4, .ref g5, .ref g6, .ref h4, .ref h6, .int 0]), (h1, oC 3 [.ref h2, .int 1]), (h2, aI Y 6 (upd (fun _ => 0) 0 (-1))), (h3, oC 3 [.ref g7, .int 0]), (h4, oC 4 [.ref h5, .ref g8, .ref g9, .int 0]), (h5, oC 3 [.ref g10, .int 0]), (h6, oC 9 [.ref g11, .int 0, .long 0, .int (-1), .int 0, .int 0, .int 0, .int 0, .int 0]), (h7, oC 11 [.ref h0, .ref h8, .ref g12, .ref g13, .ref g14]), (h8, oC 3 [.ref h9, .int 0]), (h9, aI Y 6 (fun _ => 0)), (h10, oC 10 [.ref h0, .ref h7])] sz) (QI D (fun (r : Int32) (u : Unit) => (-1) = r) (fun (_ : Unit) => [(h0, oC 2 [.ref h1, .ref g0, .ref g1, .ref g2, .ref g3, .ref h3, .ref g4, .ref g5, .ref g6, .ref h4, .ref h6, .int 0]), (h1, oC 3 [.ref h2, .int 1]), (h2, aI Y 6 (upd (fun _ => 0) 0 (-1))), (h3, oC 3 [.ref g7, .int 0]), (h4, oC 4 [.ref h5, .ref g8, .ref g9, .int 0]), (h5, oC 3 [.ref g10, .int 0]), (h6, oC 9 [.ref g11, .int 0, .long 0, .int (-1), .int 1, .int 1, .int 0, .int 0, .int 0]), (h7, oC 11 [.ref h0, .ref h8, .ref g12, .ref g13, .ref g14]), (h8, oC 3 [.ref h9, .int 6]), (h9, aI Y 6 (upd (upd (upd (upd (upd (upd (upd (fun _ => 0) 0 (-1)) 1 (-1)) 2 (-1)) 3 (-1)) 4 (-1)) 5 (-1)) 0 0)), (h10, oC 10 [.ref h0, .ref h7])]) (va_A [(h0, oC 2 [.ref h1, .ref g0, .ref g1, .ref g2, .ref g3, .ref h3, .ref g4, .ref g5, .ref g6, .ref h4, .ref h6, .int 0]), (h1, oC 3 [.ref h2, .int 1]), (h2, aI Y 6 (upd (fun _ => 0) 0 (-1))), (h3, oC 3 [.ref g7, .int 0]), (h4, oC 4 [.ref h5, .ref g8, .ref g9, .int 0]), (h5, oC 3 [.ref g10, .int 0]), (h6, oC 9 [.ref g11, .int 0, .long 0, .int (-1), .int 0, .int 0, .int 0, .int 0, .int 0]), (h7, oC 11 [.ref h0, .ref h8, .ref g12, .ref g13, .ref g14]), (h8, oC 3 [.ref h9, .int 0]), (h9, aI Y 6 (fun _ => 0)), (h10, oC 10 [.ref h0, .ref h7])] sz)) 0 0 (va_A [(h0, oC 2 [.ref h1, .ref g0, .ref g1, .ref g2, .ref g3, .ref h3, .ref g4, .ref g5, .ref g6, .ref h4, .ref h6, .int 0]), (h1, oC 3 [.ref h2, .int 1]), (h2, aI Y 6 (upd (fun _ => 0) 0 (-1))), (h3, oC 3 [.ref g7, .int 0]), (h4, oC 4 [.ref h5, .ref g8, .ref g9, .int 0]), (h5, oC 3 [.ref g10, .int 0]), (h6, oC 9 [.ref g11, .int 0, .long 0, .int (-1), .int 0, .int 0, .int 0, .int 0, .int 0]), (h7, oC 11 [.ref h0, .ref h8, .ref g12, .ref g13, .ref g14]), (h8, oC 3 [.ref h9, .int 0]), (h9, aI Y 6 (fun _ => 0)), (h10, oC 10 [.ref h0, .ref h7])] sz) :=
  met_of (by decide +kernel) (Nat.le_of_ble_eq_true rfl) (fun p e s m args below meth c B hin hsz => by
    have B : VB p s m args meth c D Y (va_A [(h0, oC 2 [.ref h1, .ref g0, .ref g1, .ref g2, .ref g3, .ref h3, .ref g4, .ref g5, .ref g6, .ref h4, .ref h6, .int 0]), (h1, oC 3 [.ref h2, .int 1]), (h2, aI Y 6 (upd (fun _ => 0) 0 (-1))), (h3, oC 3 [.ref g7, .int 0]), (h4, oC 4 [.ref h5, .ref g8, .ref g9, .int 0]), (h5, oC 3 [.ref g10, .int 0]), (h6, oC 9 [.ref g11, .int 0, .long 0, .int (-1), .int 0, .int 0, .int 0, .int 0, .int 0]), (h7, oC 11 [.ref h0, .ref h8, .ref g12, .ref g13, .ref g14]), (h8, oC 3 [.ref h9, .int 0]), (h9, aI Y 6 (fun _ => 0)), (h10, oC 10 [.ref h0, .ref h7])] sz) cX9_pressKey 3 RX9 (some .int) := B
    refine V_aload_n 0 B dX9_pressKey_0 0 rfl ?_
    refine V_get 1 B gf_RX9_9 10 rfl rfl dX9_pressKey_1 ?_
    refine V_get 4 B gf_RX9_19 0 rfl rfl dX9_pressKey_4 ?_
    refine V_get 7 B gf_RX9_25 4 rfl rfl dX9_pressKey_7 ?_
    refine V_iload_n 10 B dX9_pressKey_10 1 rfl ?_
    refine V_cvi 11 B (st := []) (As := [.int p0]) (fun sz => mX1_indexOf_1 l D Y (h5) (g10) (p0) sz) glV_RX9_31 ⟨rfl, rfl⟩ ⟨(Nat.le_of_ble_eq_true rfl), (Nat.le_of_ble_eq_true rfl)⟩ ⟨(Nat.le_of_ble_eq_true rfl), (Nat.le_of_ble_eq_true rfl)⟩ [5] rfl 3 0 rfl rfl rfl rfl (Nat.le_of_ble_eq_true rfl) rfl (fun _ _ _ => rfl) dX9_pressKey_11 (fun r0 u0 w0 => ?_)
    obtain rfl := w0
    refine V_ws [(h0, oC 2 [.ref h1, .ref g0, .ref g1, .ref g2, .ref g3, .ref h3, .ref g4, .ref g5, .ref g6, .ref h4, .ref h6, .int 0]), (h1, oC 3 [.ref h2, .int 1]), (h2, aI Y 6 (upd (fun _ => 0) 0 (-1))), (h3, oC 3 [.ref g7, .int 0]), (h4, oC 4 [.ref h5, .ref g8, .ref g9, .int 0]), (h5, oC 3 [.ref g10, .int 0]), (h6, oC 9 [.ref g11, .int 0, .long 0, .int (-1), .int 0, .int 0, .int 0, .int 0, .int 0]), (h7, oC 11 [.ref h0, .ref h8, .ref g12, .ref g13, .ref g14]), (h8, oC 3 [.ref h9, .int 0]), (h9, aI Y 6 (fun _ => 0)), (h10, oC 10 [.ref h0, .ref h7])] rfl ?_
    refine V_istore_n 14 B (lv2 := [(2, .int (-1)), (0, .ref h10), (1, .int p0)]) dX9_pressKey_14 (by decide) rfl ?_
    refine V_iload_n 15 B dX9_pressKey_15 0 rfl ?_
    refine V_iconst 16 B (v := (-1)) dX9_pressKey_16 (by decide +kernel) ?_
    refine V_icmp_eq_t 17 B 37 dX9_pressKey_17 (by decide) (by decide +kernel) ?_
    refine V_aload_n 37 B dX9_pressKey_37 1 rfl ?_
    refine V_aload_n 38 B dX9_pressKey_38 1 rfl ?_
    refine V_get 39 B gf_RX9_9 10 rfl rfl dX9_pressKey_39 ?_
    refine V_get 42 B gf_RX9_19 0 rfl rfl dX9_pressKey_42 ?_
    refine V_iload_n 45 B dX9_pressKey_45 2 rfl ?_
    refine V_cvi 46 B (st := [.ref h10]) (As := [.int p0]) (fun sz => mX2_strokeMade_1 l D Y (h4) (h5) (g8) (g9) (g10) (p0) sz) glV_RX9_44 ⟨rfl, rfl⟩ ⟨(Nat.le_of_ble_eq_true rfl), (Nat.le_of_ble_eq_true rfl)⟩ ⟨(Nat.le_of_ble_eq_true rfl), (Nat.le_of_ble_eq_true rfl)⟩ [4, 0] rfl 4 0 rfl rfl rfl rfl (Nat.le_of_ble_eq_true rfl) rfl (fun _ _ _ => rfl) dX9_pressKey_46 (fun r1 u1 w1 => ?_)
    obtain rfl := w1
    refine V_ws [(h0, oC 2 [.ref h1, .ref g0, .ref g1, .ref g2, .ref g3, .ref h3, .ref g4, .ref g5, .ref g6, .ref h4, .ref h6, .int 0]), (h1, oC 3 [.ref h2, .int 1]), (h2, aI Y 6 (upd (fun _ => 0) 0 (-1))), (h3, oC 3 [.ref g7, .int 0]), (h4, oC 4 [.ref h5, .ref g8, .ref g9, .int 0]), (h5, oC 3 [.ref g10, .int 0]), (h6, oC 9 [.ref g11, .int 0, .long 0, .int (-1), .int 0, .int 0, .int 0, .int 0, .int 0]), (h7, oC 11 [.ref h0, .ref h8, .ref g12, .ref g13, .ref g14]), (h8, oC 3 [.ref h9, .int 0]), (h9, aI Y 6 (fun _ => 0)), (h10, oC 10 [.ref h0, .ref h7])] rfl ?_
    refine V_cvi 49 B (st := []) (As := [.int p0]) (fun sz => mX9_makeStroke_1 l D Y (h10) (h0) (h1) (g0) (g1) (g2) (g3) (h3) (g4) (g5) (g6) (h4) (h6) (h2) (g7) (g11) (h7) (h8) (g12) (g13) (g14) (h9) (p0) sz) glV_RX9_47 ⟨rfl, rfl⟩ ⟨(Nat.le_of_ble_eq_true rfl), (Nat.le_of_ble_eq_true rfl)⟩ ⟨(Nat.le_of_ble_eq_true rfl), (Nat.le_of_ble_eq_true rfl)⟩ [0, 0, 0, 0, 2, 0, 0, 0, 0] rfl 10 8 rfl rfl rfl rfl (Nat.le_of_ble_eq_true rfl) rfl (fun _ _ _ => rfl) dX9_pressKey_49 (fun r2 u2 w2 => ?_)
    obtain rfl := w2
    refine V_ws [(h0, oC 2 [.ref h1, .ref g0, .ref g1, .ref g2, .ref g3, .ref h3, .ref g4, .ref g5, .ref g6, .ref h4, .ref h6, .int 0]), (h1, oC 3 [.ref h2, .int 1]), (h2, aI Y 6 (upd (fun _ => 0) 0 (-1))), (h3, oC 3 [.ref g7, .int 0]), (h4, oC 4 [.ref h5, .ref g8, .ref g9, .int 0]), (h5, oC 3 [.ref g10, .int 0]), (h6, oC 9 [.ref g11, .int 0, .long 0, .int (-1), .int 1, .int 1, .int 0, .int 0, .int 0]), (h7, oC 11 [.ref h0, .ref h8, .ref g12, .ref g13, .ref g14]), (h8, oC 3 [.ref h9, .int 6]), (h9, aI Y 6 (upd (upd (upd (upd (upd (upd (upd (fun _ => 0) 0 (-1)) 1 (-1)) 2 (-1)) 3 (-1)) 4 (-1)) 5 (-1)) 0 0)), (h10, oC 10 [.ref h0, .ref h7])] rfl ?_
    exact V_iret 52 B dX9_pressKey_52 () rfl rfl)
theorem dX11_press_0 : decode cX11_press 0 = .ok (.iload_n 1, 1) := by decide +kernel
theorem dX11_press_1 : decode cX11_press 1 = .ok (.invokestatic 326, 3) := by decide +kernel
theorem dX11_press_4 : decode cX11_press 4 = .ok (.aload_n 0, 1) := by decide +kernel
theorem dX11_press_5 : decode cX11_press 5 = .ok (.getfield 39, 3) := by decide +kernel
theorem dX11_press_8 : decode cX11_press 8 = .ok (.iload_n 1, 1) := by decide +kernel
theorem dX11_press_9 : decode cX11_press 9 = .ok (.invokevirtual 346, 3) := by decide +kernel
theorem glV_RX11_346 : GLV RX11 346 yX9_pressKey RX9 cX9_pressKey 3 (some .int) 1 := ⟨⟨(mT7 62 rfl rfl), (mT4 150 rfl rfl), (mT4 151 rfl rfl), (mT1 9 rfl rfl), (mT4 152 rfl rfl)⟩, by decide +kernel⟩
theorem dX11_press_12 : decode cX11_press 12 = .ok (.ireturn, 1) := by decide +kernel
set_option maxRecDepth 100000 in
set_option maxHeartbeats 4000000 in
theorem mX11_press_1 (l : Launch) (hl9 : l.stackTraces = false) (D : va_G) (Y : Nat → ClassId) (h0 : Nat) (h1 : Nat) (g0 : Nat) (g1 : Nat) (g2 : Nat) (h8 : Nat) (h11 : Nat) (g3 : Nat) (g4 : Nat) (g5 : Nat) (h2 : Nat) (g6 : Nat) (g7 : Nat) (g8 : Nat) (g9 : Nat) (h4 : Nat) (g10 : Nat) (g11 : Nat) (g12 : Nat) (h5 : Nat) (h7 : Nat) (h3 : Nat) (g13 : Nat) (h6 : Nat) (g14 : Nat) (g15 : Nat) (g16 : Nat) (g17 : Nat) (h9 : Nat) (g18 : Nat) (g19 : Nat) (g20 : Nat) (h10 : Nat) (p0 : Int32) (sz : Nat) : vx_Met l yX11_press (WSm yX11_press cX11_press 2 (some .int)) (mkR 7 1 6 102) (PreX D Y [.ref h0, .int p0] [(h0, oC 12 [.ref h1, .ref g0, .ref g1, .ref g2, .ref h8, .ref h11, .ref g3, .ref g4, .ref g5, .long 0]), (h1, oC 2 [.ref h2, .ref g6, .ref g7, .ref g8, .ref g9, .ref h4, .ref g10, .ref g11, .ref g12, .ref h5, .ref h7, .int 0]), (h2, oC 3 [.ref h3, .int 1]), (h3, aI Y 6 (upd (fun _ => 0) 0 (-1))), (h4, oC 3 [.ref g13, .int 0]), (h5, oC 4 [.ref h6, .ref g14, .ref g15, .int 0]), (h6, oC 3 [.ref g16, .int 0]), (h7, oC 9 [.ref g17, .int 0, .long 0, .int (-1), .int 0, .int 0, .int 0, .int 0, .int 0]), (h8, oC 11 [.ref h1, .ref h9, .ref g18, .ref g19, .ref g20]), (h9, oC 3 [.ref h10, .int 0]), (h10, aI Y 6 (fun _ => 0)), (h11, oC 10 [.ref h1, .ref h8])] sz) (QI D (fun (r : Int32) (u : Unit) => ¬ p0 < 0 ∧ p0 < 26 ∧ (-1) = r) (fun (_ : Unit) => [(h0, oC 12 [.ref h1, .ref g0, .ref g1, .ref g2, .ref h8, .ref h11, .ref g3, .ref g4, .ref g5, .long 0]), (h1, oC 2 [.ref h2, .ref g6, .ref g7, .ref g8, .ref g9, .ref h4, .ref g10, .ref g11, .ref g12, .ref h5, .ref h7, .int 0]), (h2, oC 3 [.ref h3, .int 1]), (h3, aI Y 6 (upd (fun _ => 0) 0 (-1))), (h4, oC 3 [.ref g13, .int 0]), (h5, oC 4 [.ref h6, .ref g14, .ref g15, .int 0]), (h6, oC 3 [.ref g16, .int 0]), (h7, oC 9 [.ref g17, .int 0, .long 0, .int (-1), .int 1, .int 1, .int 0, .int 0, .int 0]), (h8, oC 11 [.ref h1, .ref h9, .ref g18, .ref g19, .ref g20]), (h9, oC 3 [.ref h10, .int 6]), (h10, aI Y 6 (upd (upd (upd (upd (upd (upd (upd (fun _ => 0) 0 (-1)) 1 (-1)) 2 (-1)) 3 (-1)) 4 (-1)) 5 (-1)) 0 0)), (h11, oC 10 [.ref h1, .ref h8])]) (va_A [(h0, oC 12 [.ref h1, .ref g0, .ref g1, .ref g2, .ref h8, .ref h11, .ref g3, .ref g4, .ref g5, .long 0]), (h1, oC 2 [.ref h2, .ref g6, .ref g7, .ref g8, .ref g9, .ref h4, .ref g10, .ref g11, .ref g12, .ref h5, .ref h7, .int 0]), (h2, oC 3 [.ref h3, .int 1]), (h3, aI Y 6 (upd (fun _ => 0) 0 (-1))), (h4, oC 3 [.ref g13, .int 0]), (h5, oC 4 [.ref h6, .ref g14, .ref g15, .int 0]), (h6, oC 3 [.ref g16, .int 0]), (h7, oC 9 [.ref g17, .int 0, .long 0, .int (-1), .int 0, .int 0, .int 0, .int 0, .int 0]), (h8, oC 11 [.ref h1, .ref h9, .ref g18, .ref g19, .ref g20]), (h9, oC 3 [.ref h10, .int 0]), (h10, aI Y 6 (fun _ => 0)), (h11, oC 10 [.ref h1, .ref h8])] sz)) (XW D (fun (E : String) (u : Unit) => (E = "java/lang/IllegalArgumentException" ∧ p0 < 0) ∨ (E = "java/lang/IllegalArgumentException" ∧ ¬ p0 < 0 ∧ ¬ p0 < 26)) (fun (_ : Unit) => [(h0, oC 12 [.ref h1, .ref g0, .ref g1, .ref g2, .ref h8, .ref h11, .ref g3, .ref g4, .ref g5, .long 0]), (h1, oC 2 [.ref h2, .ref g6, .ref g7, .ref g8, .ref g9, .ref h4, .ref g10, .ref g11, .ref g12, .ref h5, .ref h7, .int 0]), (h2, oC 3 [.ref h3, .int 1]), (h3, aI Y 6 (upd (fun _ => 0) 0 (-1))), (h4, oC 3 [.ref g13, .int 0]), (h5, oC 4 [.ref h6, .ref g14, .ref g15, .int 0]), (h6, oC 3 [.ref g16, .int 0]), (h7, oC 9 [.ref g17, .int 0, .long 0, .int (-1), .int 0, .int 0, .int 0, .int 0, .int 0]), (h8, oC 11 [.ref h1, .ref h9, .ref g18, .ref g19, .ref g20]), (h9, oC 3 [.ref h10, .int 0]), (h10, aI Y 6 (fun _ => 0)), (h11, oC 10 [.ref h1, .ref h8])]) (va_A [(h0, oC 12 [.ref h1, .ref g0, .ref g1, .ref g2, .ref h8, .ref h11, .ref g3, .ref g4, .ref g5, .long 0]), (h1, oC 2 [.ref h2, .ref g6, .ref g7, .ref g8, .ref g9, .ref h4, .ref g10, .ref g11, .ref g12, .ref h5, .ref h7, .int 0]), (h2, oC 3 [.ref h3, .int 1]), (h3, aI Y 6 (upd (fun _ => 0) 0 (-1))), (h4, oC 3 [.ref g13, .int 0]), (h5, oC 4 [.ref h6, .ref g14, .ref g15, .int 0]), (h6, oC 3 [.ref g16, .int 0]), (h7, oC 9 [.ref g17, .int 0, .long 0, .int (-1), .int 0, .int 0, .int 0, .int 0, .int 0]), (h8, oC 11 [.ref h1, .ref h9, .ref g18, .ref g19, .ref g20]), (h9, oC 3 [.ref h10, .int 0]), (h10, aI Y 6 (fun _ => 0)), (h11, oC 10 [.ref h1, .ref h8])] sz)) 1 6 (va_A [(h0, oC 12 [.ref h1, .ref g0, .ref g1, .ref g2, .ref h8, .ref h11, .ref g3, .ref g4, .ref g5, .long 0]), (h1, oC 2 [.ref h2, .ref g6, .ref g7, .ref g8, .ref g9, .ref h4, .ref g10, .ref g11, .ref g12, .ref h5, .ref h7, .int 0]), (h2, oC 3 [.ref h3, .int 1]), (h3, aI Y 6 (upd (fun _ => 0) 0 (-1))), (h4, oC 3 [.ref g13, .int 0]), (h5, oC 4 [.ref h6, .ref g14, .ref g15, .int 0]), (h6, oC 3 [.ref g16, .int 0]), (h7, oC 9 [.ref g17, .int 0, .long 0, .int (-1), .int 0, .int 0, .int 0, .int 0, .int 0]), (h8, oC 11 [.ref h1, .ref h9, .ref g18, .ref g19, .ref g20]), (h9, oC 3 [.ref h10, .int 0]), (h10, aI Y 6 (fun _ => 0)), (h11, oC 10 [.ref h1, .ref h8])] sz) :=
  xmet_of (by decide +kernel) (Nat.le_of_ble_eq_true rfl) (fun p e s m args below meth c B EB hout hsz => by
    have B : VB p s m args meth c D Y (va_A [(h0, oC 12 [.ref h1, .ref g0, .ref g1, .ref g2, .ref h8, .ref h11, .ref g3, .ref g4, .ref g5, .long 0]), (h1, oC 2 [.ref h2, .ref g6, .ref g7, .ref g8, .ref g9, .ref h4, .ref g10, .ref g11, .ref g12, .ref h5, .ref h7, .int 0]), (h2, oC 3 [.ref h3, .int 1]), (h3, aI Y 6 (upd (fun _ => 0) 0 (-1))), (h4, oC 3 [.ref g13, .int 0]), (h5, oC 4 [.ref h6, .ref g14, .ref g15, .int 0]), (h6, oC 3 [.ref g16, .int 0]), (h7, oC 9 [.ref g17, .int 0, .long 0, .int (-1), .int 0, .int 0, .int 0, .int 0, .int 0]), (h8, oC 11 [.ref h1, .ref h9, .ref g18, .ref g19, .ref g20]), (h9, oC 3 [.ref h10, .int 0]), (h10, aI Y 6 (fun _ => 0)), (h11, oC 10 [.ref h1, .ref h8])] sz) cX11_press 2 RX11 (some .int) := B
    refine V_iload_n 0 B dX11_press_0 1 rfl ?_
    refine V_xsv 1 B EB (st := []) (As := [.int p0]) (fun sz => mX11_needKey_1 l hl9 D Y (p0) sz) glS_RX11_326 ⟨rfl, rfl⟩ ⟨(Nat.le_of_ble_eq_true rfl), (Nat.le_of_ble_eq_true rfl)⟩ ⟨(Nat.le_of_ble_eq_true rfl), (Nat.le_of_ble_eq_true rfl)⟩ [] rfl rfl (Nat.le_of_ble_eq_true rfl) rfl (fun _ _ => rfl) (fun _ _ _ => rfl) dX11_press_1 (fun E u0 w0 => ?_) (fun u0 w0 => ?_)
    ·
      rcases w0 with ⟨rfl, k1⟩ | ⟨rfl, k2, k3⟩
      ·
        exact VX_out 1 B hout () (Or.inl ⟨rfl, k1⟩) rfl (Nat.le_of_ble_eq_true rfl) (Nat.le_of_ble_eq_true rfl)
      ·
        exact VX_out 1 B hout () (Or.inr ⟨rfl, k2, k3⟩) rfl (Nat.le_of_ble_eq_true rfl) (Nat.le_of_ble_eq_true rfl)
    ·
      obtain ⟨k4, k5⟩ := w0
      refine V_ws [(h0, oC 12 [.ref h1, .ref g0, .ref g1, .ref g2, .ref h8, .ref h11, .ref g3, .ref g4, .ref g5, .long 0]), (h1, oC 2 [.ref h2, .ref g6, .ref g7, .ref g8, .ref g9, .ref h4, .ref g10, .ref g11, .ref g12, .ref h5, .ref h7, .int 0]), (h2, oC 3 [.ref h3, .int 1]), (h3, aI Y 6 (upd (fun _ => 0) 0 (-1))), (h4, oC 3 [.ref g13, .int 0]), (h5, oC 4 [.ref h6, .ref g14, .ref g15, .int 0]), (h6, oC 3 [.ref g16, .int 0]), (h7, oC 9 [.ref g17, .int 0, .long 0, .int (-1), .int 0, .int 0, .int 0, .int 0, .int 0]), (h8, oC 11 [.ref h1, .ref h9, .ref g18, .ref g19, .ref g20]), (h9, oC 3 [.ref h10, .int 0]), (h10, aI Y 6 (fun _ => 0)), (h11, oC 10 [.ref h1, .ref h8])] rfl ?_
      refine V_aload_n 4 B dX11_press_4 0 rfl ?_
      refine V_get 5 B gf_RX11_39 0 rfl rfl dX11_press_5 ?_
      refine V_iload_n 8 B dX11_press_8 1 rfl ?_
      refine V_cvi 9 B (st := []) (As := [.int p0]) (fun sz => mX9_pressKey_1 l D Y (h11) (h1) (h2) (g6) (g7) (g8) (g9) (h4) (g10) (g11) (g12) (h5) (h7) (h3) (g13) (h6) (g14) (g15) (g16) (g17) (h8) (h9) (g18) (g19) (g20) (h10) (p0) sz) glV_RX11_346 ⟨rfl, rfl⟩ ⟨(Nat.le_of_ble_eq_true rfl), (Nat.le_of_ble_eq_true rfl)⟩ ⟨(Nat.le_of_ble_eq_true rfl), (Nat.le_of_ble_eq_true rfl)⟩ [1, 0, 0, 0, 0, 0, 0, 0, 0, 0, 0] rfl 10 10 rfl rfl rfl rfl (Nat.le_of_ble_eq_true rfl) rfl (fun _ _ _ => rfl) dX11_press_9 (fun r6 u6 w6 => ?_)
      obtain rfl := w6
      refine V_ws [(h0, oC 12 [.ref h1, .ref g0, .ref g1, .ref g2, .ref h8, .ref h11, .ref g3, .ref g4, .ref g5, .long 0]), (h1, oC 2 [.ref h2, .ref g6, .ref g7, .ref g8, .ref g9, .ref h4, .ref g10, .ref g11, .ref g12, .ref h5, .ref h7, .int 0]), (h2, oC 3 [.ref h3, .int 1]), (h3, aI Y 6 (upd (fun _ => 0) 0 (-1))), (h4, oC 3 [.ref g13, .int 0]), (h5, oC 4 [.ref h6, .ref g14, .ref g15, .int 0]), (h6, oC 3 [.ref g16, .int 0]), (h7, oC 9 [.ref g17, .int 0, .long 0, .int (-1), .int 1, .int 1, .int 0, .int 0, .int 0]), (h8, oC 11 [.ref h1, .ref h9, .ref g18, .ref g19, .ref g20]), (h9, oC 3 [.ref h10, .int 6]), (h10, aI Y 6 (upd (upd (upd (upd (upd (upd (upd (fun _ => 0) 0 (-1)) 1 (-1)) 2 (-1)) 3 (-1)) 4 (-1)) 5 (-1)) 0 0)), (h11, oC 10 [.ref h1, .ref h8])] rfl ?_
      refine V_xret ?_
      exact V_iret 12 B dX11_press_12 () ⟨k4, k5, rfl⟩ rfl)
theorem dX11_type_0 : decode cX11_type 0 = .ok (.iload_n 1, 1) := by decide +kernel
theorem dX11_type_1 : decode cX11_type 1 = .ok (.invokestatic 156, 3) := by decide +kernel
theorem dX11_type_4 : decode cX11_type 4 = .ok (.aload_n 0, 1) := by decide +kernel
theorem dX11_type_5 : decode cX11_type 5 = .ok (.getfield 39, 3) := by decide +kernel
theorem dX11_type_8 : decode cX11_type 8 = .ok (.iload_n 1, 1) := by decide +kernel
theorem dX11_type_9 : decode cX11_type 9 = .ok (.invokevirtual 349, 3) := by decide +kernel
theorem glV_RX11_349 : GLV RX11 349 yX9_makeStroke RX9 cX9_makeStroke 8 (some .int) 1 := ⟨⟨(mT7 78 rfl rfl), (mT4 46 rfl rfl), (mT4 47 rfl rfl), (mT1 9 rfl rfl), (mT4 48 rfl rfl)⟩, by decide +kernel⟩
theorem dX11_type_12 : decode cX11_type 12 = .ok (.ireturn, 1) := by decide +kernel
set_option maxRecDepth 100000 in
set_option maxHeartbeats 4000000 in
theorem mX11_type_1 (l : Launch) (hl9 : l.stackTraces = false) (D : va_G) (Y : Nat → ClassId) (h0 : Nat) (h1 : Nat) (g0 : Nat) (g1 : Nat) (g2 : Nat) (h6 : Nat) (h9 : Nat) (g3 : Nat) (g4 : Nat) (g5 : Nat) (h2 : Nat) (g6 : Nat) (g7 : Nat) (g8 : Nat) (g9 : Nat) (h4 : Nat) (g10 : Nat) (g11 : Nat) (g12 : Nat) (g13 : Nat) (h5 : Nat) (h3 : Nat) (g14 : Nat) (g15 : Nat) (h7 : Nat) (g16 : Nat) (g17 : Nat) (g18 : Nat) (h8 : Nat) (p0 : Int32) (sz : Nat) : vx_Met l yX11_type (WSm yX11_type cX11_type 2 (some .int)) (mkR 7 1 6 102) (PreX D Y [.ref h0, .int p0] [(h0, oC 12 [.ref h1, .ref g0, .ref g1, .ref g2, .ref h6, .ref h9, .ref g3, .ref g4, .ref g5, .long 0]), (h1, oC 2 [.ref h2, .ref g6, .ref g7, .ref g8, .ref g9, .ref h4, .ref g10, .ref g11, .ref g12, .ref g13, .ref h5, .int 0]), (h2, oC 3 [.ref h3, .int 1]), (h3, aI Y 6 (upd (fun _ => 0) 0 (-1))), (h4, oC 3 [.ref g14, .int 0]), (h5, oC 9 [.ref g15, .int 0, .long 0, .int (-1), .int 0, .int 0, .int 0, .int 0, .int 0]), (h6, oC 11 [.ref h1, .ref h7, .ref g16, .ref g17, .ref g18]), (h7, oC 3 [.ref h8, .int 0]), (h8, aI Y 6 (fun _ => 0)), (h9, oC 10 [.ref h1, .ref h6])] sz) (QI D (fun (r : Int32) (u : Unit) => ¬ p0 < 0 ∧ ¬ 512 ≤ p0 ∧ ¬ 26 ≤ (p0 &&& 31) ∧ (-1) = r) (fun (_ : Unit) => [(h0, oC 12 [.ref h1, .ref g0, .ref g1, .ref g2, .ref h6, .ref h9, .ref g3, .ref g4, .ref g5, .long 0]), (h1, oC 2 [.ref h2, .ref g6, .ref g7, .ref g8, .ref g9, .ref h4, .ref g10, .ref g11, .ref g12, .ref g13, .ref h5, .int 0]), (h2, oC 3 [.ref h3, .int 1]), (h3, aI Y 6 (upd (fun _ => 0) 0 (-1))), (h4, oC 3 [.ref g14, .int 0]), (h5, oC 9 [.ref g15, .int 0, .long 0, .int (-1), .int 1, .int 1, .int 0, .int 0, .int 0]), (h6, oC 11 [.ref h1, .ref h7, .ref g16, .ref g17, .ref g18]), (h7, oC 3 [.ref h8, .int 6]), (h8, aI Y 6 (upd (upd (upd (upd (upd (upd (upd (fun _ => 0) 0 (-1)) 1 (-1)) 2 (-1)) 3 (-1)) 4 (-1)) 5 (-1)) 0 0)), (h9, oC 10 [.ref h1, .ref h6])]) (va_A [(h0, oC 12 [.ref h1, .ref g0, .ref g1, .ref g2, .ref h6, .ref h9, .ref g3, .ref g4, .ref g5, .long 0]), (h1, oC 2 [.ref h2, .ref g6, .ref g7, .ref g8, .ref g9, .ref h4, .ref g10, .ref g11, .ref g12, .ref g13, .ref h5, .int 0]), (h2, oC 3 [.ref h3, .int 1]), (h3, aI Y 6 (upd (fun _ => 0) 0 (-1))), (h4, oC 3 [.ref g14, .int 0]), (h5, oC 9 [.ref g15, .int 0, .long 0, .int (-1), .int 0, .int 0, .int 0, .int 0, .int 0]), (h6, oC 11 [.ref h1, .ref h7, .ref g16, .ref g17, .ref g18]), (h7, oC 3 [.ref h8, .int 0]), (h8, aI Y 6 (fun _ => 0)), (h9, oC 10 [.ref h1, .ref h6])] sz)) (XW D (fun (E : String) (u : Unit) => (E = "java/lang/IllegalArgumentException" ∧ p0 < 0) ∨ (E = "java/lang/IllegalArgumentException" ∧ ¬ p0 < 0 ∧ 512 ≤ p0) ∨ (E = "java/lang/IllegalArgumentException" ∧ ¬ p0 < 0 ∧ ¬ 512 ≤ p0 ∧ 26 ≤ (p0 &&& 31))) (fun (_ : Unit) => [(h0, oC 12 [.ref h1, .ref g0, .ref g1, .ref g2, .ref h6, .ref h9, .ref g3, .ref g4, .ref g5, .long 0]), (h1, oC 2 [.ref h2, .ref g6, .ref g7, .ref g8, .ref g9, .ref h4, .ref g10, .ref g11, .ref g12, .ref g13, .ref h5, .int 0]), (h2, oC 3 [.ref h3, .int 1]), (h3, aI Y 6 (upd (fun _ => 0) 0 (-1))), (h4, oC 3 [.ref g14, .int 0]), (h5, oC 9 [.ref g15, .int 0, .long 0, .int (-1), .int 0, .int 0, .int 0, .int 0, .int 0]), (h6, oC 11 [.ref h1, .ref h7, .ref g16, .ref g17, .ref g18]), (h7, oC 3 [.ref h8, .int 0]), (h8, aI Y 6 (fun _ => 0)), (h9, oC 10 [.ref h1, .ref h6])]) (va_A [(h0, oC 12 [.ref h1, .ref g0, .ref g1, .ref g2, .ref h6, .ref h9, .ref g3, .ref g4, .ref g5, .long 0]), (h1, oC 2 [.ref h2, .ref g6, .ref g7, .ref g8, .ref g9, .ref h4, .ref g10, .ref g11, .ref g12, .ref g13, .ref h5, .int 0]), (h2, oC 3 [.ref h3, .int 1]), (h3, aI Y 6 (upd (fun _ => 0) 0 (-1))), (h4, oC 3 [.ref g14, .int 0]), (h5, oC 9 [.ref g15, .int 0, .long 0, .int (-1), .int 0, .int 0, .int 0, .int 0, .int 0]), (h6, oC 11 [.ref h1, .ref h7, .ref g16, .ref g17, .ref g18]), (h7, oC 3 [.ref h8, .int 0]), (h8, aI Y 6 (fun _ => 0)), (h9, oC 10 [.ref h1, .ref h6])] sz)) 1 6 (va_A [(h0, oC 12 [.ref h1, .ref g0, .ref g1, .ref g2, .ref h6, .ref h9, .ref g3, .ref g4, .ref g5, .long 0]), (h1, oC 2 [.ref h2, .ref g6, .ref g7, .ref g8, .ref g9, .ref h4, .ref g10, .ref g11, .ref g12, .ref g13, .ref h5, .int 0]), (h2, oC 3 [.ref h3, .int 1]), (h3, aI Y 6 (upd (fun _ => 0) 0 (-1))), (h4, oC 3 [.ref g14, .int 0]), (h5, oC 9 [.ref g15, .int 0, .long 0, .int (-1), .int 0, .int 0, .int 0, .int 0, .int 0]), (h6, oC 11 [.ref h1, .ref h7, .ref g16, .ref g17, .ref g18]), (h7, oC 3 [.ref h8, .int 0]), (h8, aI Y 6 (fun _ => 0)), (h9, oC 10 [.ref h1, .ref h6])] sz) :=
  xmet_of (by decide +kernel) (Nat.le_of_ble_eq_true rfl) (fun p e s m args below meth c B EB hout hsz => by
    have B : VB p s m args meth c D Y (va_A [(h0, oC 12 [.ref h1, .ref g0, .ref g1, .ref g2, .ref h6, .ref h9, .ref g3, .ref g4, .ref g5, .long 0]), (h1, oC 2 [.ref h2, .ref g6, .ref g7, .ref g8, .ref g9, .ref h4, .ref g10, .ref g11, .ref g12, .ref g13, .ref h5, .int 0]), (h2, oC 3 [.ref h3, .int 1]), (h3, aI Y 6 (upd (fun _ => 0) 0 (-1))), (h4, oC 3 [.ref g14, .int 0]), (h5, oC 9 [.ref g15, .int 0, .long 0, .int (-1), .int 0, .int 0, .int 0, .int 0, .int 0]), (h6, oC 11 [.ref h1, .ref h7, .ref g16, .ref g17, .ref g18]), (h7, oC 3 [.ref h8, .int 0]), (h8, aI Y 6 (fun _ => 0)), (h9, oC 10 [.ref h1, .ref h6])] sz) cX11_type 2 RX11 (some .int) := B
    refine V_iload_n 0 B dX11_type_0 1 rfl ?_
    refine V_xsv 1 B EB (st := []) (As := [.int p0]) (fun sz => mX11_needStroke_1 l hl9 D Y (p0) sz) glS_RX11_156 ⟨rfl, rfl⟩ ⟨(Nat.le_of_ble_eq_true rfl), (Nat.le_of_ble_eq_true rfl)⟩ ⟨(Nat.le_of_ble_eq_true rfl), (Nat.le_of_ble_eq_true rfl)⟩ [] rfl rfl (Nat.le_of_ble_eq_true rfl) rfl (fun _ _ => rfl) (fun _ _ _ => rfl) dX11_type_1 (fun E u0 w0 => ?_) (fun u0 w0 => ?_)
    ·
      rcases w0 with ⟨rfl, k1⟩ | ⟨rfl, k2, k3⟩ | ⟨rfl, k4, k5, k6⟩
      ·
        exact VX_out 1 B hout () (Or.inl ⟨rfl, k1⟩) rfl (Nat.le_of_ble_eq_true rfl) (Nat.le_of_ble_eq_true rfl)
      ·
        exact VX_out 1 B hout () (Or.inr (Or.inl ⟨rfl, k2, k3⟩)) rfl (Nat.le_of_ble_eq_true rfl) (Nat.le_of_ble_eq_true rfl)
      ·
        exact VX_out 1 B hout () (Or.inr (Or.inr ⟨rfl, k4, k5, k6⟩)) rfl (Nat.le_of_ble_eq_true rfl) (Nat.le_of_ble_eq_true rfl)
    ·
      obtain ⟨k7, k8, k9⟩ := w0
      refine V_ws [(h0, oC 12 [.ref h1, .ref g0, .ref g1, .ref g2, .ref h6, .ref h9, .ref g3, .ref g4, .ref g5, .long 0]), (h1, oC 2 [.ref h2, .ref g6, .ref g7, .ref g8, .ref g9, .ref h4, .ref g10, .ref g11, .ref g12, .ref g13, .ref h5, .int 0]), (h2, oC 3 [.ref h3, .int 1]), (h3, aI Y 6 (upd (fun _ => 0) 0 (-1))), (h4, oC 3 [.ref g14, .int 0]), (h5, oC 9 [.ref g15, .int 0, .long 0, .int (-1), .int 0, .int 0, .int 0, .int 0, .int 0]), (h6, oC 11 [.ref h1, .ref h7, .ref g16, .ref g17, .ref g18]), (h7, oC 3 [.ref h8, .int 0]), (h8, aI Y 6 (fun _ => 0)), (h9, oC 10 [.ref h1, .ref h6])] rfl ?_
      refine V_aload_n 4 B dX11_type_4 0 rfl ?_
      refine V_get 5 B gf_RX11_39 0 rfl rfl dX11_type_5 ?_
      refine V_iload_n 8 B dX11_type_8 1 rfl ?_
      refine V_cvi 9 B (st := []) (As := [.int p0]) (fun sz => mX9_makeStroke_1 l D Y (h9) (h1) (h2) (g6) (g7) (g8) (g9) (h4) (g10) (g11) (g12) (g13) (h5) (h3) (g14) (g15) (h6) (h7) (g16) (g17) (g18) (h8) (p0) sz) glV_RX11_349 ⟨rfl, rfl⟩ ⟨(Nat.le_of_ble_eq_true rfl), (Nat.le_of_ble_eq_true rfl)⟩ ⟨(Nat.le_of_ble_eq_true rfl), (Nat.le_of_ble_eq_true rfl)⟩ [1, 0, 0, 0, 0, 0, 0, 0, 0] rfl 10 8 rfl rfl rfl rfl (Nat.le_of_ble_eq_true rfl) rfl (fun _ _ _ => rfl) dX11_type_9 (fun r10 u10 w10 => ?_)
      obtain rfl := w10
      refine V_ws [(h0, oC 12 [.ref h1, .ref g0, .ref g1, .ref g2, .ref h6, .ref h9, .ref g3, .ref g4, .ref g5, .long 0]), (h1, oC 2 [.ref h2, .ref g6, .ref g7, .ref g8, .ref g9, .ref h4, .ref g10, .ref g11, .ref g12, .ref g13, .ref h5, .int 0]), (h2, oC 3 [.ref h3, .int 1]), (h3, aI Y 6 (upd (fun _ => 0) 0 (-1))), (h4, oC 3 [.ref g14, .int 0]), (h5, oC 9 [.ref g15, .int 0, .long 0, .int (-1), .int 1, .int 1, .int 0, .int 0, .int 0]), (h6, oC 11 [.ref h1, .ref h7, .ref g16, .ref g17, .ref g18]), (h7, oC 3 [.ref h8, .int 6]), (h8, aI Y 6 (upd (upd (upd (upd (upd (upd (upd (fun _ => 0) 0 (-1)) 1 (-1)) 2 (-1)) 3 (-1)) 4 (-1)) 5 (-1)) 0 0)), (h9, oC 10 [.ref h1, .ref h6])] rfl ?_
      refine V_xret ?_
      exact V_iret 12 B dX11_type_12 () ⟨k7, k8, k9, rfl⟩ rfl)
theorem dX9_typeAll_0 : decode cX9_typeAll 0 = .ok (.iconst 0, 1) := by decide +kernel
theorem dX9_typeAll_1 : decode cX9_typeAll 1 = .ok (.istore_n 3, 1) := by decide +kernel
theorem dX9_typeAll_2 : decode cX9_typeAll 2 = .ok (.lload_n 1, 1) := by decide +kernel
theorem dX9_typeAll_3 : decode cX9_typeAll 3 = .ok (.invokestatic 50, 3) := by decide +kernel
theorem glS_RX9_50 : GLS RX9 50 yX6_lengthOf cX6_lengthOf 2 (some .int) 1 := ⟨⟨(mT4 43 rfl rfl), (mT3 99 rfl rfl), (mT1 18 rfl rfl), (mT3 100 rfl rfl)⟩, by decide +kernel⟩
theorem dX9_typeAll_6 : decode cX9_typeAll 6 = .ok (.istore 4, 2) := by decide +kernel
theorem dX9_typeAll_8 : decode cX9_typeAll 8 = .ok (.iconst 0, 1) := by decide +kernel
theorem dX9_typeAll_9 : decode cX9_typeAll 9 = .ok (.istore 5, 2) := by decide +kernel
theorem dX9_typeAll_11 : decode cX9_typeAll 11 = .ok (.iload 5, 2) := by decide +kernel
theorem dX9_typeAll_13 : decode cX9_typeAll 13 = .ok (.iload 4, 2) := by decide +kernel
theorem dX9_typeAll_15 : decode cX9_typeAll 15 = .ok (.if_icmp .ge 26, 3) := by decide +kernel
theorem dX9_typeAll_41 : decode cX9_typeAll 41 = .ok (.iload_n 3, 1) := by decide +kernel
theorem dX9_typeAll_42 : decode cX9_typeAll 42 = .ok (.ireturn, 1) := by decide +kernel
set_option maxRecDepth 100000 in
set_option maxHeartbeats 4000000 in
theorem mX9_typeAll_1 (l : Launch) (D : va_G) (Y : Nat → ClassId) (h0 : Nat) (g0 : Nat) (g1 : Nat) (sz : Nat) : Met l yX9_typeAll (WSm yX9_typeAll cX9_typeAll 6 (some .int)) (mkR 1 0 0 21) (PreC D Y [.ref h0, .long 0] [(h0, oC 10 [.ref g0, .ref g1])] sz) (QI D (fun (r : Int32) (u : Unit) => 0 = r) (fun (_ : Unit) => [(h0, oC 10 [.ref g0, .ref g1])]) (va_A [(h0, oC 10 [.ref g0, .ref g1])] sz)) 0 0 (va_A [(h0, oC 10 [.ref g0, .ref g1])] sz) :=
  met_of (by decide +kernel) (Nat.le_of_ble_eq_true rfl) (fun p e s m args below meth c B hin hsz => by
    have B : VB p s m args meth c D Y (va_A [(h0, oC 10 [.ref g0, .ref g1])] sz) cX9_typeAll 6 RX9 (some .int) := B
    refine V_iconst 0 B (v := 0) dX9_typeAll_0 (by decide +kernel) ?_
    refine V_istore_n 1 B (lv2 := [(3, .int 0), (0, .ref h0), (1, .long 0)]) dX9_typeAll_1 (by decide) rfl ?_
    refine V_lload_n 2 B dX9_typeAll_2 2 rfl ?_
    refine V_csi 3 B (st := []) (As := [.long 0]) (fun sz => mX6_lengthOf_1 l D Y  sz) glS_RX9_50 ⟨rfl, rfl⟩ ⟨(Nat.le_of_ble_eq_true rfl), (Nat.le_of_ble_eq_true rfl)⟩ ⟨(Nat.le_of_ble_eq_true rfl), (Nat.le_of_ble_eq_true rfl)⟩ [] rfl rfl (Nat.le_of_ble_eq_true rfl) rfl (fun _ _ _ => rfl) dX9_typeAll_3 (fun r0 u0 w0 => ?_)
    obtain rfl := w0
    refine V_ws [(h0, oC 10 [.ref g0, .ref g1])] rfl ?_
    refine V_istore 6 B (lv2 := [(4, .int 0), (3, .int 0), (0, .ref h0), (1, .long 0)]) dX9_typeAll_6 (by decide) rfl ?_
    refine V_iconst 8 B (v := 0) dX9_typeAll_8 (by decide +kernel) ?_
    refine V_istore 9 B (lv2 := [(5, .int 0), (4, .int 0), (3, .int 0), (0, .ref h0), (1, .long 0)]) dX9_typeAll_9 (by decide) rfl ?_
    refine V_iload 11 B dX9_typeAll_11 0 rfl ?_
    refine V_iload 13 B dX9_typeAll_13 1 rfl ?_
    refine V_icmp_ge_t 15 B 41 dX9_typeAll_15 (by decide) (by decide +kernel) ?_
    refine V_iload_n 41 B dX9_typeAll_41 2 rfl ?_
    exact V_iret 42 B dX9_typeAll_42 () rfl rfl)
theorem dX11_typeDraft_0 : decode cX11_typeDraft 0 = .ok (.aload_n 0, 1) := by decide +kernel
theorem dX11_typeDraft_1 : decode cX11_typeDraft 1 = .ok (.getfield 39, 3) := by decide +kernel
theorem dX11_typeDraft_4 : decode cX11_typeDraft 4 = .ok (.aload_n 0, 1) := by decide +kernel
theorem dX11_typeDraft_5 : decode cX11_typeDraft 5 = .ok (.getfield 68, 3) := by decide +kernel
theorem dX11_typeDraft_8 : decode cX11_typeDraft 8 = .ok (.invokevirtual 352, 3) := by decide +kernel
theorem glV_RX11_352 : GLV RX11 352 yX9_typeAll RX9 cX9_typeAll 6 (some .int) 1 := ⟨⟨(mT4 39 rfl rfl), (mT4 40 rfl rfl), (mT4 41 rfl rfl), (mT1 9 rfl rfl), (mT4 42 rfl rfl)⟩, by decide +kernel⟩
theorem dX11_typeDraft_11 : decode cX11_typeDraft 11 = .ok (.ireturn, 1) := by decide +kernel
set_option maxRecDepth 100000 in
set_option maxHeartbeats 4000000 in
theorem mX11_typeDraft_1 (l : Launch) (D : va_G) (Y : Nat → ClassId) (h0 : Nat) (g0 : Nat) (g1 : Nat) (g2 : Nat) (g3 : Nat) (g4 : Nat) (h1 : Nat) (g5 : Nat) (g6 : Nat) (g7 : Nat) (sz : Nat) : Met l yX11_typeDraft (WSm yX11_typeDraft cX11_typeDraft 1 (some .int)) (mkR 2 0 0 46) (PreC D Y [.ref h0] [(h0, oC 12 [.ref g0, .ref g1, .ref g2, .ref g3, .ref g4, .ref h1, .ref g5, .ref g6, .ref g7, .long 0]), (h1, oC 10 [.ref g0, .ref g4])] sz) (QI D (fun (r : Int32) (u : Unit) => 0 = r) (fun (_ : Unit) => [(h0, oC 12 [.ref g0, .ref g1, .ref g2, .ref g3, .ref g4, .ref h1, .ref g5, .ref g6, .ref g7, .long 0]), (h1, oC 10 [.ref g0, .ref g4])]) (va_A [(h0, oC 12 [.ref g0, .ref g1, .ref g2, .ref g3, .ref g4, .ref h1, .ref g5, .ref g6, .ref g7, .long 0]), (h1, oC 10 [.ref g0, .ref g4])] sz)) 0 0 (va_A [(h0, oC 12 [.ref g0, .ref g1, .ref g2, .ref g3, .ref g4, .ref h1, .ref g5, .ref g6, .ref g7, .long 0]), (h1, oC 10 [.ref g0, .ref g4])] sz) :=
  met_of (by decide +kernel) (Nat.le_of_ble_eq_true rfl) (fun p e s m args below meth c B hin hsz => by
    have B : VB p s m args meth c D Y (va_A [(h0, oC 12 [.ref g0, .ref g1, .ref g2, .ref g3, .ref g4, .ref h1, .ref g5, .ref g6, .ref g7, .long 0]), (h1, oC 10 [.ref g0, .ref g4])] sz) cX11_typeDraft 1 RX11 (some .int) := B
    refine V_aload_n 0 B dX11_typeDraft_0 0 rfl ?_
    refine V_get 1 B gf_RX11_39 0 rfl rfl dX11_typeDraft_1 ?_
    refine V_aload_n 4 B dX11_typeDraft_4 0 rfl ?_
    refine V_get 5 B gf_RX11_68 0 rfl rfl dX11_typeDraft_5 ?_
    refine V_cvi 8 B (st := []) (As := [.long 0]) (fun sz => mX9_typeAll_1 l D Y (h1) (g0) (g4) sz) glV_RX11_352 ⟨rfl, rfl⟩ ⟨(Nat.le_of_ble_eq_true rfl), (Nat.le_of_ble_eq_true rfl)⟩ ⟨(Nat.le_of_ble_eq_true rfl), (Nat.le_of_ble_eq_true rfl)⟩ [1] rfl 10 0 rfl rfl rfl rfl (Nat.le_of_ble_eq_true rfl) rfl (fun _ _ _ => rfl) dX11_typeDraft_8 (fun r0 u0 w0 => ?_)
    obtain rfl := w0
    refine V_ws [(h0, oC 12 [.ref g0, .ref g1, .ref g2, .ref g3, .ref g4, .ref h1, .ref g5, .ref g6, .ref g7, .long 0]), (h1, oC 10 [.ref g0, .ref g4])] rfl ?_
    exact V_iret 11 B dX11_typeDraft_11 () rfl rfl)
