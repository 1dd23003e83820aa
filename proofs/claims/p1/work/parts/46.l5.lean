theorem dL_look_0 : decode cL_look 0 = .ok (.aload_n 2, 1) := by decide +kernel
theorem dL_look_1 : decode cL_look 1 = .ok (.iconst 0, 1) := by decide +kernel
theorem dL_look_2 : decode cL_look 2 = .ok (.aload_n 0, 1) := by decide +kernel
theorem dL_look_3 : decode cL_look 3 = .ok (.iload_n 1, 1) := by decide +kernel
theorem dL_look_4 : decode cL_look 4 = .ok (.invokevirtual 63, 3) := by decide +kernel
theorem glV_RL_63 : GLV RL 63 yX11_look RX11 cX11_look 2 (some .int) 1 := ⟨⟨(mT6 50 rfl rfl), (mT6 51 rfl rfl), (mT6 52 rfl rfl), (mT1 1 rfl rfl), (mT6 53 rfl rfl)⟩, by decide +kernel⟩
theorem dL_look_12 : decode cL_look 12 = .ok (.astore_n 3, 1) := by decide +kernel
theorem dL_look_13 : decode cL_look 13 = .ok (.iconst 1, 1) := by decide +kernel
theorem dL_look_14 : decode cL_look 14 = .ok (.ireturn, 1) := by decide +kernel
theorem dL_look_7 : decode cL_look 7 = .ok (.i2l, 1) := by decide +kernel
theorem dL_look_8 : decode cL_look 8 = .ok (.lastore, 1) := by decide +kernel
theorem dL_look_9 : decode cL_look 9 = .ok (.goto 6, 3) := by decide +kernel
theorem dL_look_15 : decode cL_look 15 = .ok (.iconst 0, 1) := by decide +kernel
theorem dL_look_16 : decode cL_look 16 = .ok (.ireturn, 1) := by decide +kernel
set_option maxRecDepth 100000 in
set_option maxHeartbeats 4000000 in
theorem mL_look_1 (l : Launch) (hl9 : l.stackTraces = false) (D : va_G) (Y : Nat → ClassId) (h0 : Nat) (h3 : Nat) (h1 : Nat) (g0 : Nat) (g1 : Nat) (g2 : Nat) (g3 : Nat) (g4 : Nat) (g5 : Nat) (g6 : Nat) (g7 : Nat) (h2 : Nat) (g8 : Nat) (g9 : Nat) (g10 : Nat) (g11 : Nat) (g12 : Nat) (g13 : Nat) (g14 : Nat) (g15 : Nat) (g16 : Nat) (g17 : Nat) (g18 : Nat) (p0 : Int32) (sz : Nat) : Met l yL_look (Cond.codeWith yL_look cL_look 4 (some .int) [(0, 9, 12, 18)] :: lw_good) (mkR 8 1 6 124) (PreX D Y [.ref h0, .int p0, .ref h3] [(h0, oC 12 [.ref h1, .ref g0, .ref g1, .ref g2, .ref g3, .ref g4, .ref g5, .ref g6, .ref g7, .long 0]), (h1, oC 2 [.ref h2, .ref g8, .ref g9, .ref g10, .ref g11, .ref g12, .ref g13, .ref g14, .ref g15, .ref g16, .ref g17, .int 0]), (h2, oC 3 [.ref g18, .int 1]), (h3, aJ Y 1 (fun _ => 0))] sz) (QI D (fun (r : Int32) (u : Nat) => (u = 0 ∧ p0 < 0 ∧ 1 = r) ∨ (u = 1 ∧ ¬ p0 < 0 ∧ 1 ≤ p0 ∧ 1 = r) ∨ (u = 2 ∧ p0 = 0 ∧ 0 = r)) (fun (u : Nat) => match u with | 0 => [(h0, oC 12 [.ref h1, .ref g0, .ref g1, .ref g2, .ref g3, .ref g4, .ref g5, .ref g6, .ref g7, .long 0]), (h1, oC 2 [.ref h2, .ref g8, .ref g9, .ref g10, .ref g11, .ref g12, .ref g13, .ref g14, .ref g15, .ref g16, .ref g17, .int 0]), (h2, oC 3 [.ref g18, .int 1]), (h3, aJ Y 1 (fun _ => 0))] | 1 => [(h0, oC 12 [.ref h1, .ref g0, .ref g1, .ref g2, .ref g3, .ref g4, .ref g5, .ref g6, .ref g7, .long 0]), (h1, oC 2 [.ref h2, .ref g8, .ref g9, .ref g10, .ref g11, .ref g12, .ref g13, .ref g14, .ref g15, .ref g16, .ref g17, .int 0]), (h2, oC 3 [.ref g18, .int 1]), (h3, aJ Y 1 (fun _ => 0))] | _ => [(h0, oC 12 [.ref h1, .ref g0, .ref g1, .ref g2, .ref g3, .ref g4, .ref g5, .ref g6, .ref g7, .long 0]), (h1, oC 2 [.ref h2, .ref g8, .ref g9, .ref g10, .ref g11, .ref g12, .ref g13, .ref g14, .ref g15, .ref g16, .ref g17, .int 0]), (h2, oC 3 [.ref g18, .int 1]), (h3, aJ Y 1 (vp_updL (fun _ => 0) 0 (-4)))]) (va_A [(h0, oC 12 [.ref h1, .ref g0, .ref g1, .ref g2, .ref g3, .ref g4, .ref g5, .ref g6, .ref g7, .long 0]), (h1, oC 2 [.ref h2, .ref g8, .ref g9, .ref g10, .ref g11, .ref g12, .ref g13, .ref g14, .ref g15, .ref g16, .ref g17, .int 0]), (h2, oC 3 [.ref g18, .int 1]), (h3, aJ Y 1 (fun _ => 0))] sz)) 1 6 (va_A [(h0, oC 12 [.ref h1, .ref g0, .ref g1, .ref g2, .ref g3, .ref g4, .ref g5, .ref g6, .ref g7, .long 0]), (h1, oC 2 [.ref h2, .ref g8, .ref g9, .ref g10, .ref g11, .ref g12, .ref g13, .ref g14, .ref g15, .ref g16, .ref g17, .int 0]), (h2, oC 3 [.ref g18, .int 1]), (h3, aJ Y 1 (fun _ => 0))] sz) :=
  metH_of (by decide +kernel) (Nat.le_of_ble_eq_true rfl) (fun p e s m args below meth c B EB htab hsz => by
    have B : VB p s m args meth c D Y (va_A [(h0, oC 12 [.ref h1, .ref g0, .ref g1, .ref g2, .ref g3, .ref g4, .ref g5, .ref g6, .ref g7, .long 0]), (h1, oC 2 [.ref h2, .ref g8, .ref g9, .ref g10, .ref g11, .ref g12, .ref g13, .ref g14, .ref g15, .ref g16, .ref g17, .int 0]), (h2, oC 3 [.ref g18, .int 1]), (h3, aJ Y 1 (fun _ => 0))] sz) cL_look 4 RL (some .int) := B
    refine V_aload_n 0 B dL_look_0 2 rfl ?_
    refine V_iconst 1 B (v := 0) dL_look_1 (by decide +kernel) ?_
    refine V_aload_n 2 B dL_look_2 0 rfl ?_
    refine V_iload_n 3 B dL_look_3 1 rfl ?_
    refine V_xvi 4 B EB (st := [.int 0, .ref h3]) (As := [.int p0]) (fun sz => mX11_look_1 l hl9 D Y (h0) (h1) (g0) (g1) (g2) (g3) (g4) (g5) (g6) (g7) (h2) (g8) (g9) (g10) (g11) (g12) (g13) (g14) (g15) (g16) (g17) (g18) (p0) sz) glV_RL_63 ⟨rfl, rfl⟩ ⟨(Nat.le_of_ble_eq_true rfl), (Nat.le_of_ble_eq_true rfl)⟩ ⟨(Nat.le_of_ble_eq_true rfl), (Nat.le_of_ble_eq_true rfl)⟩ [0, 0, 0] rfl 12 0 rfl rfl rfl rfl (Nat.le_of_ble_eq_true rfl) rfl (fun _ _ _ => rfl) (fun _ _ _ => rfl) dL_look_4 (fun E u0 w0 => ?_) (fun r0 u0 w0 => ?_)
    ·
      rcases w0 with ⟨rfl, k1⟩ | ⟨rfl, k2, k3⟩
      ·
        refine VX_catch 4 B htab [] (0, 9, 12, 18) [] rfl "java/lang/IndexOutOfBoundsException" (fun z hz => nomatch hz) rfl (by decide) (mT5 103 rfl rfl) (EB.2.2.2.1 _ (List.mem_of_getElem? (i := 1) rfl)) 12 rfl (fun q9 => ?_)
        refine V_ws [(h0, oC 12 [.ref h1, .ref g0, .ref g1, .ref g2, .ref g3, .ref g4, .ref g5, .ref g6, .ref g7, .long 0]), (h1, oC 2 [.ref h2, .ref g8, .ref g9, .ref g10, .ref g11, .ref g12, .ref g13, .ref g14, .ref g15, .ref g16, .ref g17, .int 0]), (h2, oC 3 [.ref g18, .int 1]), (h3, aJ Y 1 (fun _ => 0))] rfl ?_
        refine V_astore_n 12 B (lv2 := [(3, .ref q9), (0, .ref h0), (1, .int p0), (2, .ref h3)]) dL_look_12 (by decide) rfl ?_
        refine V_iconst 13 B (v := 1) dL_look_13 (by decide +kernel) ?_
        exact V_iret 14 B dL_look_14 0 (Or.inl ⟨rfl, k1, rfl⟩) rfl
      ·
        refine VX_catch 4 B htab [] (0, 9, 12, 18) [] rfl "java/lang/IndexOutOfBoundsException" (fun z hz => nomatch hz) rfl (by decide) (mT5 103 rfl rfl) (EB.2.2.2.1 _ (List.mem_of_getElem? (i := 1) rfl)) 12 rfl (fun q9 => ?_)
        refine V_ws [(h0, oC 12 [.ref h1, .ref g0, .ref g1, .ref g2, .ref g3, .ref g4, .ref g5, .ref g6, .ref g7, .long 0]), (h1, oC 2 [.ref h2, .ref g8, .ref g9, .ref g10, .ref g11, .ref g12, .ref g13, .ref g14, .ref g15, .ref g16, .ref g17, .int 0]), (h2, oC 3 [.ref g18, .int 1]), (h3, aJ Y 1 (fun _ => 0))] rfl ?_
        refine V_astore_n 12 B (lv2 := [(3, .ref q9), (0, .ref h0), (1, .int p0), (2, .ref h3)]) dL_look_12 (by decide) rfl ?_
        refine V_iconst 13 B (v := 1) dL_look_13 (by decide +kernel) ?_
        exact V_iret 14 B dL_look_14 1 (Or.inr (Or.inl ⟨rfl, k2, k3, rfl⟩)) rfl
    ·
      obtain ⟨k4, rfl⟩ := w0
      refine V_ws [(h0, oC 12 [.ref h1, .ref g0, .ref g1, .ref g2, .ref g3, .ref g4, .ref g5, .ref g6, .ref g7, .long 0]), (h1, oC 2 [.ref h2, .ref g8, .ref g9, .ref g10, .ref g11, .ref g12, .ref g13, .ref g14, .ref g15, .ref g16, .ref g17, .int 0]), (h2, oC 3 [.ref g18, .int 1]), (h3, aJ Y 1 (fun _ => 0))] rfl ?_
      obtain rfl : p0 = 0 := k4
      refine V_i2l 7 B (v := (-4)) dL_look_7 (by decide +kernel) ?_
      refine V_last 8 B 3 rfl (vpin _ _ (by decide +kernel)) dL_look_8 [(h0, oC 12 [.ref h1, .ref g0, .ref g1, .ref g2, .ref g3, .ref g4, .ref g5, .ref g6, .ref g7, .long 0]), (h1, oC 2 [.ref h2, .ref g8, .ref g9, .ref g10, .ref g11, .ref g12, .ref g13, .ref g14, .ref g15, .ref g16, .ref g17, .int 0]), (h2, oC 3 [.ref g18, .int 1]), (h3, aJ Y 1 (vp_updL (fun _ => 0) 0 (-4)))] rfl ?_
      refine V_goto 9 B 15 dL_look_9 (by decide) ?_
      refine V_iconst 15 B (v := 0) dL_look_15 (by decide +kernel) ?_
      exact V_iret 16 B dL_look_16 2 (Or.inr (Or.inr ⟨rfl, rfl, rfl⟩)) rfl)
set_option maxRecDepth 100000 in
set_option maxHeartbeats 4000000 in
theorem mX12_look_2 (l : Launch) (D : va_G) (Y : Nat → ClassId) (h0 : Nat) (h1 : Nat) (g0 : Nat) (g1 : Nat) (g2 : Nat) (g3 : Nat) (g4 : Nat) (sz : Nat) : Met l yX12_look (WSm yX12_look cX12_look 2 (some .int)) (mkR 2 0 0 46) (PreC D Y [.ref h0, .int 0] [(h0, oC 13 [.ref h1, .ref g0, .int 0, .ref g1, .ref g2, .int 0, .int 0, .int 0, .int (-1), .int 0, .int 0, .int 0, .long 0, .ref g3, .ref g4, .int 0, .int 0]), (h1, aI Y 3640 (clB 0 (fun _ => 0)))] sz) (QI D (fun (r : Int32) (u : Unit) => (-4) = r) (fun (_ : Unit) => [(h0, oC 13 [.ref h1, .ref g0, .int 0, .ref g1, .ref g2, .int 0, .int 0, .int 0, .int (-1), .int 0, .int 0, .int 0, .long 0, .ref g3, .ref g4, .int 0, .int 0]), (h1, aI Y 3640 (clB 0 (fun _ => 0)))]) (va_A [(h0, oC 13 [.ref h1, .ref g0, .int 0, .ref g1, .ref g2, .int 0, .int 0, .int 0, .int (-1), .int 0, .int 0, .int 0, .long 0, .ref g3, .ref g4, .int 0, .int 0]), (h1, aI Y 3640 (clB 0 (fun _ => 0)))] sz)) 0 0 (va_A [(h0, oC 13 [.ref h1, .ref g0, .int 0, .ref g1, .ref g2, .int 0, .int 0, .int 0, .int (-1), .int 0, .int 0, .int 0, .long 0, .ref g3, .ref g4, .int 0, .int 0]), (h1, aI Y 3640 (clB 0 (fun _ => 0)))] sz) :=
  met_of (by decide +kernel) (Nat.le_of_ble_eq_true rfl) (fun p e s m args below meth c B hin hsz => by
    have B : VB p s m args meth c D Y (va_A [(h0, oC 13 [.ref h1, .ref g0, .int 0, .ref g1, .ref g2, .int 0, .int 0, .int 0, .int (-1), .int 0, .int 0, .int 0, .long 0, .ref g3, .ref g4, .int 0, .int 0]), (h1, aI Y 3640 (clB 0 (fun _ => 0)))] sz) cX12_look 2 RX12 (some .int) := B
    refine V_aload_n 0 B dX12_look_0 0 rfl ?_
    refine V_iconst 1 B (v := 0) dX12_look_1 (by decide +kernel) ?_
    refine V_put 2 B gp_RX12_38 0 rfl (Nat.le_of_ble_eq_true rfl) rfl rfl dX12_look_2 [(h0, oC 13 [.ref h1, .ref g0, .int 0, .ref g1, .ref g2, .int 0, .int 0, .int 0, .int (-1), .int 0, .int 0, .int 0, .long 0, .ref g3, .ref g4, .int 0, .int 0]), (h1, aI Y 3640 (clB 0 (fun _ => 0)))] rfl ?_
    refine V_aload_n 5 B dX12_look_5 0 rfl ?_
    refine V_aload_n 6 B dX12_look_6 0 rfl ?_
    refine V_iload_n 7 B dX12_look_7 1 rfl ?_
    refine V_cvi 8 B (st := [.ref h0]) (As := [.int 0]) (fun sz => mX12_isMode_2 l D Y (h0) (h1) (g0) (g1) (g2) (g3) (g4) sz) glV_RX12_91 ⟨rfl, rfl⟩ ⟨(Nat.le_of_ble_eq_true rfl), (Nat.le_of_ble_eq_true rfl)⟩ ⟨(Nat.le_of_ble_eq_true rfl), (Nat.le_of_ble_eq_true rfl)⟩ [0, 0] rfl 13 0 rfl rfl rfl rfl (Nat.le_of_ble_eq_true rfl) rfl (fun _ _ _ => rfl) dX12_look_8 (fun r0 u0 w0 => ?_)
    obtain rfl := w0
    refine V_ws [(h0, oC 13 [.ref h1, .ref g0, .int 0, .ref g1, .ref g2, .int 0, .int 0, .int 0, .int (-1), .int 0, .int 0, .int 0, .long 0, .ref g3, .ref g4, .int 0, .int 0]), (h1, aI Y 3640 (clB 0 (fun _ => 0)))] rfl ?_
    refine V_if_ne_t 11 B 18 dX12_look_11 (by decide) (by decide +kernel) ?_
    refine V_iconst 18 B (v := 0) dX12_look_18 (by decide +kernel) ?_
    refine V_iconst 19 B (v := 1) dX12_look_19 (by decide +kernel) ?_
    refine V_cvi 20 B (st := []) (As := [.int 0, .int 1]) (fun sz => mX12_throwsIf_2 l D Y (h0) (h1) (g0) (g1) (g2) (g3) (g4) sz) glV_RX12_69 ⟨rfl, rfl⟩ ⟨(Nat.le_of_ble_eq_true rfl), (Nat.le_of_ble_eq_true rfl)⟩ ⟨(Nat.le_of_ble_eq_true rfl), (Nat.le_of_ble_eq_true rfl)⟩ [0] rfl 13 0 rfl rfl rfl rfl (Nat.le_of_ble_eq_true rfl) rfl (fun _ _ _ => rfl) dX12_look_20 (fun r1 u1 w1 => ?_)
    obtain rfl := w1
    refine V_ws [(h0, oC 13 [.ref h1, .ref g0, .int 0, .ref g1, .ref g2, .int 0, .int 0, .int 0, .int (-1), .int 0, .int 0, .int 0, .long 0, .ref g3, .ref g4, .int 0, .int 0]), (h1, aI Y 3640 (clB 0 (fun _ => 0)))] rfl ?_
    refine V_if_eq_t 23 B 30 dX12_look_23 (by decide) (by decide +kernel) ?_
    refine V_aload_n 30 B dX12_look_30 0 rfl ?_
    refine V_cvi 31 B (st := []) (As := []) (fun sz => mX12_hasNoDraft_1 l D Y (h0) (h1) (g0) (g1) (g2) (g3) (g4) sz) glV_RX12_125 ⟨rfl, rfl⟩ ⟨(Nat.le_of_ble_eq_true rfl), (Nat.le_of_ble_eq_true rfl)⟩ ⟨(Nat.le_of_ble_eq_true rfl), (Nat.le_of_ble_eq_true rfl)⟩ [0, 0] rfl 13 0 rfl rfl rfl rfl (Nat.le_of_ble_eq_true rfl) rfl (fun _ _ _ => rfl) dX12_look_31 (fun r2 u2 w2 => ?_)
    obtain rfl := w2
    refine V_ws [(h0, oC 13 [.ref h1, .ref g0, .int 0, .ref g1, .ref g2, .int 0, .int 0, .int 0, .int (-1), .int 0, .int 0, .int 0, .long 0, .ref g3, .ref g4, .int 0, .int 0]), (h1, aI Y 3640 (clB 0 (fun _ => 0)))] rfl ?_
    refine V_if_eq_f 34 B 42 dX12_look_34 (by decide) (by decide +kernel) ?_
    refine V_bipush 37 B (v := (-4)) dX12_look_37 (by decide +kernel) ?_
    refine V_goto 39 B 50 dX12_look_39 (by decide) ?_
    exact V_iret 50 B dX12_look_50 () rfl rfl)
theorem dL_law_1505 : decode cL_law 1505 = .ok (.aload_n 1, 1) := by decide +kernel
theorem dL_law_1506 : decode cL_law 1506 = .ok (.aload_n 0, 1) := by decide +kernel
theorem dL_law_1507 : decode cL_law 1507 = .ok (.iload 4, 2) := by decide +kernel
theorem dL_law_1509 : decode cL_law 1509 = .ok (.iconst 1, 1) := by decide +kernel
theorem dL_law_1510 : decode cL_law 1510 = .ok (.iadd, 1) := by decide +kernel
theorem dL_law_1511 : decode cL_law 1511 = .ok (.iaload, 1) := by decide +kernel
theorem dL_law_1512 : decode cL_law 1512 = .ok (.aload_n 3, 1) := by decide +kernel
theorem dL_law_1513 : decode cL_law 1513 = .ok (.invokestatic 243, 3) := by decide +kernel
theorem glH_RL_243 : GLH RL 243 yL_look cL_look 4 (some .int) [(0, 9, 12, 18)] 3 := ⟨⟨(mT6 47 rfl rfl), (mT6 48 rfl rfl), (mT1 0 rfl rfl), (mT6 49 rfl rfl)⟩, by decide +kernel⟩
theorem dL_law_1516 : decode cL_law 1516 = .ok (.istore 5, 2) := by decide +kernel
theorem dL_law_1518 : decode cL_law 1518 = .ok (.aload_n 2, 1) := by decide +kernel
theorem dL_law_1519 : decode cL_law 1519 = .ok (.aload_n 0, 1) := by decide +kernel
theorem dL_law_1520 : decode cL_law 1520 = .ok (.iload 4, 2) := by decide +kernel
theorem dL_law_1522 : decode cL_law 1522 = .ok (.iconst 1, 1) := by decide +kernel
theorem dL_law_1523 : decode cL_law 1523 = .ok (.iadd, 1) := by decide +kernel
theorem dL_law_1524 : decode cL_law 1524 = .ok (.iaload, 1) := by decide +kernel
theorem dL_law_1525 : decode cL_law 1525 = .ok (.invokevirtual 245, 3) := by decide +kernel
theorem glV_RL_245 : GLV RL 245 yX12_look RX12 cX12_look 2 (some .int) 1 := ⟨⟨(mT8 172 rfl rfl), (mT8 173 rfl rfl), (mT8 174 rfl rfl), (mT1 13 rfl rfl), (mT8 175 rfl rfl)⟩, by decide +kernel⟩
theorem dL_law_1528 : decode cL_law 1528 = .ok (.istore 6, 2) := by decide +kernel
theorem dL_law_1530 : decode cL_law 1530 = .ok (.aload_n 2, 1) := by decide +kernel
theorem dL_law_1531 : decode cL_law 1531 = .ok (.invokevirtual 182, 3) := by decide +kernel
theorem dL_law_1534 : decode cL_law 1534 = .ok (.iload 5, 2) := by decide +kernel
theorem dL_law_1536 : decode cL_law 1536 = .ok (.if_icmp .eq 5, 3) := by decide +kernel
theorem dL_law_1541 : decode cL_law 1541 = .ok (.iload 5, 2) := by decide +kernel
theorem dL_law_1543 : decode cL_law 1543 = .ok (.ifCond .ne 15, 3) := by decide +kernel
theorem dL_law_1558 : decode cL_law 1558 = .ok (.goto 1774, 3) := by decide +kernel
theorem dL_law_1546 : decode cL_law 1546 = .ok (.aload_n 3, 1) := by decide +kernel
theorem dL_law_1547 : decode cL_law 1547 = .ok (.iconst 0, 1) := by decide +kernel
theorem dL_law_1548 : decode cL_law 1548 = .ok (.laload, 1) := by decide +kernel
theorem dL_law_1549 : decode cL_law 1549 = .ok (.iload 6, 2) := by decide +kernel
theorem dL_law_1551 : decode cL_law 1551 = .ok (.i2l, 1) := by decide +kernel
theorem dL_law_1552 : decode cL_law 1552 = .ok (.lcmp, 1) := by decide +kernel
theorem dL_law_1553 : decode cL_law 1553 = .ok (.ifCond .eq 5, 3) := by decide +kernel
set_option maxRecDepth 100000 in
set_option maxHeartbeats 4000000 in
theorem law_c25 {p : Program} {l : Launch} {e : Env} {s : State} {m : MethodId} {below : List Frame} {meth : Method} {c : Code} {b : Nat} {xs : Nat → Int32} {D : va_G} {Y : Nat → ClassId} (B : VB p s m #[Value.ref b] meth c D Y (fun q => s.heap.size ≤ q) cL_law 8 RL ret) (EB : EX (fun q => s.heap.size ≤ q) s s.heap) (hl9 : l.stackTraces = false) (hX : va_X b 6 xs s s.heap) (hbl : b < s.heap.size) (hbA : ¬ (fun q => s.heap.size ≤ q) b) (x0 x1 x30 x59 x88 x117 x126 x127 x129 x132 x2 x4 x6 x8 x10 x12 x14 x16 x18 x20 x27 x3 m0 m1 m2 m3 m4 m5 m6 o0 : Nat) (p1 : Int32) (e1 : xs 1 = p1) : V p l e room_1 s m #[Value.ref b] below meth c D (fun q => s.heap.size ≤ q) 8 149 10574 (lw_Z below #[Value.ref b] s) 1505 [(4, .int 0), (3, .ref o0), (2, .ref m0), (1, .ref x0), (0, .ref b)] [] [(x0, oC 12 [.ref x1, .ref x30, .ref x59, .ref x88, .ref x117, .ref x126, .ref x127, .ref x129, .ref x132, .long 0]), (x1, oC 2 [.ref x2, .ref x4, .ref x6, .ref x8, .ref x10, .ref x12, .ref x14, .ref x16, .ref x18, .ref x20, .ref x27, .int 0]), (x2, oC 3 [.ref x3, .int 1]), (m0, oC 13 [.ref m1, .ref m2, .int 0, .ref m3, .ref m4, .int 0, .int 0, .int 0, .int (-1), .int 0, .int 0, .int 0, .long 0, .ref m5, .ref m6, .int 0, .int 0]), (m1, aI Y 3640 (clB 0 (fun _ => 0))), (o0, aJ Y 1 (fun _ => 0))] := by
  refine V_aload_n 1505 B dL_law_1505 3 rfl ?_
  refine V_aload_n 1506 B dL_law_1506 4 rfl ?_
  refine V_iload 1507 B dL_law_1507 0 rfl ?_
  refine V_iconst 1509 B (v := 1) dL_law_1509 (by decide +kernel) ?_
  refine V_iadd 1510 B (v := 1) dL_law_1510 (by decide +kernel) ?_
  refine V_sld 1511 B hX hbl hbA (v := p1) (vpin _ _ (by decide +kernel)) dL_law_1511 e1 ?_
  refine V_aload_n 1512 B dL_law_1512 1 rfl ?_
  refine V_hsi 1513 B EB (st := []) (As := [.ref x0, .int p1, .ref o0]) (fun sz => mL_look_1 l hl9 D Y (x0) (o0) (x1) (x30) (x59) (x88) (x117) (x126) (x127) (x129) (x132) (x2) (x4) (x6) (x8) (x10) (x12) (x14) (x16) (x18) (x20) (x27) (x3) (p1) sz) glH_RL_243 ⟨rfl, rfl⟩ ⟨(Nat.le_of_ble_eq_true rfl), (Nat.le_of_ble_eq_true rfl)⟩ ⟨(Nat.le_of_ble_eq_true rfl), (Nat.le_of_ble_eq_true rfl)⟩ [0, 0, 0, 2] rfl rfl (Nat.le_of_ble_eq_true rfl) rfl (fun _ u _ => by
        first | rfl | (split <;> rfl) | (dsimp only; split <;> rfl)) dL_law_1513 (fun r0 u0 w0 => ?_)
  rcases w0 with ⟨rfl, k1, rfl⟩ | ⟨rfl, k2, k3, rfl⟩ | ⟨rfl, k4, rfl⟩
  ·
    refine V_ws [(x0, oC 12 [.ref x1, .ref x30, .ref x59, .ref x88, .ref x117, .ref x126, .ref x127, .ref x129, .ref x132, .long 0]), (x1, oC 2 [.ref x2, .ref x4, .ref x6, .ref x8, .ref x10, .ref x12, .ref x14, .ref x16, .ref x18, .ref x20, .ref x27, .int 0]), (x2, oC 3 [.ref x3, .int 1]), (m0, oC 13 [.ref m1, .ref m2, .int 0, .ref m3, .ref m4, .int 0, .int 0, .int 0, .int (-1), .int 0, .int 0, .int 0, .long 0, .ref m5, .ref m6, .int 0, .int 0]), (m1, aI Y 3640 (clB 0 (fun _ => 0))), (o0, aJ Y 1 (fun _ => 0))] rfl ?_
    refine V_istore 1516 B (lv2 := [(5, .int 1), (4, .int 0), (3, .ref o0), (2, .ref m0), (1, .ref x0), (0, .ref b)]) dL_law_1516 (by decide) rfl ?_
    refine V_aload_n 1518 B dL_law_1518 3 rfl ?_
    refine V_aload_n 1519 B dL_law_1519 5 rfl ?_
    refine V_iload 1520 B dL_law_1520 1 rfl ?_
    refine V_iconst 1522 B (v := 1) dL_law_1522 (by decide +kernel) ?_
    refine V_iadd 1523 B (v := 1) dL_law_1523 (by decide +kernel) ?_
    refine V_sld 1524 B hX hbl hbA (v := p1) (vpin _ _ (by decide +kernel)) dL_law_1524 e1 ?_
    refine V_cvi 1525 B (st := []) (As := [.int p1]) (fun sz => mX12_look_1 l D Y (m0) (m1) (m2) (m3) (m4) (m5) (m6) (p1) sz) glV_RL_245 ⟨rfl, rfl⟩ ⟨(Nat.le_of_ble_eq_true rfl), (Nat.le_of_ble_eq_true rfl)⟩ ⟨(Nat.le_of_ble_eq_true rfl), (Nat.le_of_ble_eq_true rfl)⟩ [3, 0] rfl 13 0 rfl rfl rfl rfl (Nat.le_of_ble_eq_true rfl) rfl (fun _ u _ => by
        first | rfl | (split <;> rfl) | (dsimp only; split <;> rfl)) dL_law_1525 (fun r5 u5 w5 => ?_)
    rcases w5 with ⟨rfl, k6, rfl⟩ | ⟨rfl, k7, rfl⟩ | ⟨rfl, k8, rfl⟩
    ·
      refine V_ws [(x0, oC 12 [.ref x1, .ref x30, .ref x59, .ref x88, .ref x117, .ref x126, .ref x127, .ref x129, .ref x132, .long 0]), (x1, oC 2 [.ref x2, .ref x4, .ref x6, .ref x8, .ref x10, .ref x12, .ref x14, .ref x16, .ref x18, .ref x20, .ref x27, .int 0]), (x2, oC 3 [.ref x3, .int 1]), (m0, oC 13 [.ref m1, .ref m2, .int 0, .ref m3, .ref m4, .int 0, .int 0, .int 0, .int (-1), .int 0, .int 0, .int 0, .long 0, .ref m5, .ref m6, .int 0, .int 0]), (m1, aI Y 3640 (clB 0 (fun _ => 0))), (o0, aJ Y 1 (fun _ => 0))] rfl ?_
      exact absurd k6 (q_neh (b_lt k1 (n := (-1)) (by decide +kernel)) (by decide +kernel))
    ·
      refine V_ws [(x0, oC 12 [.ref x1, .ref x30, .ref x59, .ref x88, .ref x117, .ref x126, .ref x127, .ref x129, .ref x132, .long 0]), (x1, oC 2 [.ref x2, .ref x4, .ref x6, .ref x8, .ref x10, .ref x12, .ref x14, .ref x16, .ref x18, .ref x20, .ref x27, .int 0]), (x2, oC 3 [.ref x3, .int 1]), (m0, oC 13 [.ref m1, .ref m2, .int 1, .ref m3, .ref m4, .int 0, .int 0, .int 0, .int (-1), .int 0, .int 0, .int 0, .long 0, .ref m5, .ref m6, .int 0, .int 0]), (m1, aI Y 3640 (clB 0 (fun _ => 0))), (o0, aJ Y 1 (fun _ => 0))] rfl ?_
      refine V_istore 1528 B (lv2 := [(6, .int 0), (5, .int 1), (4, .int 0), (3, .ref o0), (2, .ref m0), (1, .ref x0), (0, .ref b)]) dL_law_1528 (by decide) rfl ?_
      refine V_aload_n 1530 B dL_law_1530 4 rfl ?_
      refine V_cvi 1531 B (st := []) (As := []) (fun sz => mX12_thrown_2 l D Y (m0) (m1) (m2) (m3) (m4) (m5) (m6) sz) glV_RL_182 ⟨rfl, rfl⟩ ⟨(Nat.le_of_ble_eq_true rfl), (Nat.le_of_ble_eq_true rfl)⟩ ⟨(Nat.le_of_ble_eq_true rfl), (Nat.le_of_ble_eq_true rfl)⟩ [3] rfl 13 0 rfl rfl rfl rfl (Nat.le_of_ble_eq_true rfl) rfl (fun _ _ _ => rfl) dL_law_1531 (fun r9 u9 w9 => ?_)
      obtain rfl := w9
      refine V_ws [(x0, oC 12 [.ref x1, .ref x30, .ref x59, .ref x88, .ref x117, .ref x126, .ref x127, .ref x129, .ref x132, .long 0]), (x1, oC 2 [.ref x2, .ref x4, .ref x6, .ref x8, .ref x10, .ref x12, .ref x14, .ref x16, .ref x18, .ref x20, .ref x27, .int 0]), (x2, oC 3 [.ref x3, .int 1]), (m0, oC 13 [.ref m1, .ref m2, .int 1, .ref m3, .ref m4, .int 0, .int 0, .int 0, .int (-1), .int 0, .int 0, .int 0, .long 0, .ref m5, .ref m6, .int 0, .int 0]), (m1, aI Y 3640 (clB 0 (fun _ => 0))), (o0, aJ Y 1 (fun _ => 0))] rfl ?_
      refine V_iload 1534 B dL_law_1534 1 rfl ?_
      refine V_icmp_eq_t 1536 B 1541 dL_law_1536 (by decide) (by decide +kernel) ?_
      refine V_iload 1541 B dL_law_1541 1 rfl ?_
      refine V_if_ne_t 1543 B 1558 dL_law_1543 (by decide) (by decide +kernel) ?_
      refine V_goto 1558 B 3332 dL_law_1558 (by decide) ?_
      refine V_iinc 3332 B (v := 6) (lv2 := [(4, .int 6), (6, .int 0), (5, .int 1), (3, .ref o0), (2, .ref m0), (1, .ref x0), (0, .ref b)]) dL_law_3332 2 rfl (by decide +kernel) (by decide) rfl ?_
      refine V_goto 3335 B 23 dL_law_3335 (by decide) ?_
      refine V_iload 23 B dL_law_23 0 rfl ?_
      refine V_aload_n 25 B dL_law_25 6 rfl ?_
      refine V_slen 26 B hX hbl hbA (v := 6) (by decide +kernel) dL_law_26 ?_
      refine V_bipush 27 B (v := 6) dL_law_27 (by decide +kernel) ?_
      refine V_isub 29 B (v := 0) dL_law_29 (by decide +kernel) ?_
      refine V_icmp_gt_t 30 B 3338 dL_law_30 (by decide) (by decide +kernel) ?_
      exact law_end B (Nat.le_of_ble_eq_true rfl) (Nat.le_of_ble_eq_true rfl) dL_law_3338 dL_law_3339
    ·
      refine V_ws [(x0, oC 12 [.ref x1, .ref x30, .ref x59, .ref x88, .ref x117, .ref x126, .ref x127, .ref x129, .ref x132, .long 0]), (x1, oC 2 [.ref x2, .ref x4, .ref x6, .ref x8, .ref x10, .ref x12, .ref x14, .ref x16, .ref x18, .ref x20, .ref x27, .int 0]), (x2, oC 3 [.ref x3, .int 1]), (m0, oC 13 [.ref m1, .ref m2, .int 1, .ref m3, .ref m4, .int 0, .int 0, .int 0, .int (-1), .int 0, .int 0, .int 0, .long 0, .ref m5, .ref m6, .int 0, .int 0]), (m1, aI Y 3640 (clB 0 (fun _ => 0))), (o0, aJ Y 1 (fun _ => 0))] rfl ?_
      exact (q_abs (b_gt k8 (n := 1) (by decide +kernel)) (b_lt k1 (n := (-1)) (by decide +kernel)) (by decide +kernel)).elim
  ·
    refine V_ws [(x0, oC 12 [.ref x1, .ref x30, .ref x59, .ref x88, .ref x117, .ref x126, .ref x127, .ref x129, .ref x132, .long 0]), (x1, oC 2 [.ref x2, .ref x4, .ref x6, .ref x8, .ref x10, .ref x12, .ref x14, .ref x16, .ref x18, .ref x20, .ref x27, .int 0]), (x2, oC 3 [.ref x3, .int 1]), (m0, oC 13 [.ref m1, .ref m2, .int 0, .ref m3, .ref m4, .int 0, .int 0, .int 0, .int (-1), .int 0, .int 0, .int 0, .long 0, .ref m5, .ref m6, .int 0, .int 0]), (m1, aI Y 3640 (clB 0 (fun _ => 0))), (o0, aJ Y 1 (fun _ => 0))] rfl ?_
    refine V_istore 1516 B (lv2 := [(5, .int 1), (4, .int 0), (3, .ref o0), (2, .ref m0), (1, .ref x0), (0, .ref b)]) dL_law_1516 (by decide) rfl ?_
    refine V_aload_n 1518 B dL_law_1518 3 rfl ?_
    refine V_aload_n 1519 B dL_law_1519 5 rfl ?_
    refine V_iload 1520 B dL_law_1520 1 rfl ?_
    refine V_iconst 1522 B (v := 1) dL_law_1522 (by decide +kernel) ?_
    refine V_iadd 1523 B (v := 1) dL_law_1523 (by decide +kernel) ?_
    refine V_sld 1524 B hX hbl hbA (v := p1) (vpin _ _ (by decide +kernel)) dL_law_1524 e1 ?_
    refine V_cvi 1525 B (st := []) (As := [.int p1]) (fun sz => mX12_look_1 l D Y (m0) (m1) (m2) (m3) (m4) (m5) (m6) (p1) sz) glV_RL_245 ⟨rfl, rfl⟩ ⟨(Nat.le_of_ble_eq_true rfl), (Nat.le_of_ble_eq_true rfl)⟩ ⟨(Nat.le_of_ble_eq_true rfl), (Nat.le_of_ble_eq_true rfl)⟩ [3, 0] rfl 13 0 rfl rfl rfl rfl (Nat.le_of_ble_eq_true rfl) rfl (fun _ u _ => by
        first | rfl | (split <;> rfl) | (dsimp only; split <;> rfl)) dL_law_1525 (fun r10 u10 w10 => ?_)
    rcases w10 with ⟨rfl, k11, rfl⟩ | ⟨rfl, k12, rfl⟩ | ⟨rfl, k13, rfl⟩
    ·
      refine V_ws [(x0, oC 12 [.ref x1, .ref x30, .ref x59, .ref x88, .ref x117, .ref x126, .ref x127, .ref x129, .ref x132, .long 0]), (x1, oC 2 [.ref x2, .ref x4, .ref x6, .ref x8, .ref x10, .ref x12, .ref x14, .ref x16, .ref x18, .ref x20, .ref x27, .int 0]), (x2, oC 3 [.ref x3, .int 1]), (m0, oC 13 [.ref m1, .ref m2, .int 0, .ref m3, .ref m4, .int 0, .int 0, .int 0, .int (-1), .int 0, .int 0, .int 0, .long 0, .ref m5, .ref m6, .int 0, .int 0]), (m1, aI Y 3640 (clB 0 (fun _ => 0))), (o0, aJ Y 1 (fun _ => 0))] rfl ?_
      exact absurd k11 (q_nel (b_ge k3 (n := 1) (by decide +kernel)) (by decide +kernel))
    ·
      refine V_ws [(x0, oC 12 [.ref x1, .ref x30, .ref x59, .ref x88, .ref x117, .ref x126, .ref x127, .ref x129, .ref x132, .long 0]), (x1, oC 2 [.ref x2, .ref x4, .ref x6, .ref x8, .ref x10, .ref x12, .ref x14, .ref x16, .ref x18, .ref x20, .ref x27, .int 0]), (x2, oC 3 [.ref x3, .int 1]), (m0, oC 13 [.ref m1, .ref m2, .int 1, .ref m3, .ref m4, .int 0, .int 0, .int 0, .int (-1), .int 0, .int 0, .int 0, .long 0, .ref m5, .ref m6, .int 0, .int 0]), (m1, aI Y 3640 (clB 0 (fun _ => 0))), (o0, aJ Y 1 (fun _ => 0))] rfl ?_
      exact (q_abs (b_ge k3 (n := 1) (by decide +kernel)) (b_lt k12 (n := (-1)) (by decide +kernel)) (by decide +kernel)).elim
    ·
      refine V_ws [(x0, oC 12 [.ref x1, .ref x30, .ref x59, .ref x88, .ref x117, .ref x126, .ref x127, .ref x129, .ref x132, .long 0]), (x1, oC 2 [.ref x2, .ref x4, .ref x6, .ref x8, .ref x10, .ref x12, .ref x14, .ref x16, .ref x18, .ref x20, .ref x27, .int 0]), (x2, oC 3 [.ref x3, .int 1]), (m0, oC 13 [.ref m1, .ref m2, .int 1, .ref m3, .ref m4, .int 0, .int 0, .int 0, .int (-1), .int 0, .int 0, .int 0, .long 0, .ref m5, .ref m6, .int 0, .int 0]), (m1, aI Y 3640 (clB 0 (fun _ => 0))), (o0, aJ Y 1 (fun _ => 0))] rfl ?_
      refine V_istore 1528 B (lv2 := [(6, .int 0), (5, .int 1), (4, .int 0), (3, .ref o0), (2, .ref m0), (1, .ref x0), (0, .ref b)]) dL_law_1528 (by decide) rfl ?_
      refine V_aload_n 1530 B dL_law_1530 4 rfl ?_
      refine V_cvi 1531 B (st := []) (As := []) (fun sz => mX12_thrown_2 l D Y (m0) (m1) (m2) (m3) (m4) (m5) (m6) sz) glV_RL_182 ⟨rfl, rfl⟩ ⟨(Nat.le_of_ble_eq_true rfl), (Nat.le_of_ble_eq_true rfl)⟩ ⟨(Nat.le_of_ble_eq_true rfl), (Nat.le_of_ble_eq_true rfl)⟩ [3] rfl 13 0 rfl rfl rfl rfl (Nat.le_of_ble_eq_true rfl) rfl (fun _ _ _ => rfl) dL_law_1531 (fun r14 u14 w14 => ?_)
      obtain rfl := w14
      refine V_ws [(x0, oC 12 [.ref x1, .ref x30, .ref x59, .ref x88, .ref x117, .ref x126, .ref x127, .ref x129, .ref x132, .long 0]), (x1, oC 2 [.ref x2, .ref x4, .ref x6, .ref x8, .ref x10, .ref x12, .ref x14, .ref x16, .ref x18, .ref x20, .ref x27, .int 0]), (x2, oC 3 [.ref x3, .int 1]), (m0, oC 13 [.ref m1, .ref m2, .int 1, .ref m3, .ref m4, .int 0, .int 0, .int 0, .int (-1), .int 0, .int 0, .int 0, .long 0, .ref m5, .ref m6, .int 0, .int 0]), (m1, aI Y 3640 (clB 0 (fun _ => 0))), (o0, aJ Y 1 (fun _ => 0))] rfl ?_
      refine V_iload 1534 B dL_law_1534 1 rfl ?_
      refine V_icmp_eq_t 1536 B 1541 dL_law_1536 (by decide) (by decide +kernel) ?_
      refine V_iload 1541 B dL_law_1541 1 rfl ?_
      refine V_if_ne_t 1543 B 1558 dL_law_1543 (by decide) (by decide +kernel) ?_
      refine V_goto 1558 B 3332 dL_law_1558 (by decide) ?_
      refine V_iinc 3332 B (v := 6) (lv2 := [(4, .int 6), (6, .int 0), (5, .int 1), (3, .ref o0), (2, .ref m0), (1, .ref x0), (0, .ref b)]) dL_law_3332 2 rfl (by decide +kernel) (by decide) rfl ?_
      refine V_goto 3335 B 23 dL_law_3335 (by decide) ?_
      refine V_iload 23 B dL_law_23 0 rfl ?_
      refine V_aload_n 25 B dL_law_25 6 rfl ?_
      refine V_slen 26 B hX hbl hbA (v := 6) (by decide +kernel) dL_law_26 ?_
      refine V_bipush 27 B (v := 6) dL_law_27 (by decide +kernel) ?_
      refine V_isub 29 B (v := 0) dL_law_29 (by decide +kernel) ?_
      refine V_icmp_gt_t 30 B 3338 dL_law_30 (by decide) (by decide +kernel) ?_
      exact law_end B (Nat.le_of_ble_eq_true rfl) (Nat.le_of_ble_eq_true rfl) dL_law_3338 dL_law_3339
  ·
    refine V_ws [(x0, oC 12 [.ref x1, .ref x30, .ref x59, .ref x88, .ref x117, .ref x126, .ref x127, .ref x129, .ref x132, .long 0]), (x1, oC 2 [.ref x2, .ref x4, .ref x6, .ref x8, .ref x10, .ref x12, .ref x14, .ref x16, .ref x18, .ref x20, .ref x27, .int 0]), (x2, oC 3 [.ref x3, .int 1]), (m0, oC 13 [.ref m1, .ref m2, .int 0, .ref m3, .ref m4, .int 0, .int 0, .int 0, .int (-1), .int 0, .int 0, .int 0, .long 0, .ref m5, .ref m6, .int 0, .int 0]), (m1, aI Y 3640 (clB 0 (fun _ => 0))), (o0, aJ Y 1 (vp_updL (fun _ => 0) 0 (-4)))] rfl ?_
    obtain rfl : p1 = 0 := k4
    refine V_istore 1516 B (lv2 := [(5, .int 0), (4, .int 0), (3, .ref o0), (2, .ref m0), (1, .ref x0), (0, .ref b)]) dL_law_1516 (by decide) rfl ?_
    refine V_aload_n 1518 B dL_law_1518 3 rfl ?_
    refine V_aload_n 1519 B dL_law_1519 5 rfl ?_
    refine V_iload 1520 B dL_law_1520 1 rfl ?_
    refine V_iconst 1522 B (v := 1) dL_law_1522 (by decide +kernel) ?_
    refine V_iadd 1523 B (v := 1) dL_law_1523 (by decide +kernel) ?_
    refine V_sld 1524 B hX hbl hbA (v := 0) (vpin _ _ (by decide +kernel)) dL_law_1524 e1 ?_
    refine V_cvi 1525 B (st := []) (As := [.int 0]) (fun sz => mX12_look_2 l D Y (m0) (m1) (m2) (m3) (m4) (m5) (m6) sz) glV_RL_245 ⟨rfl, rfl⟩ ⟨(Nat.le_of_ble_eq_true rfl), (Nat.le_of_ble_eq_true rfl)⟩ ⟨(Nat.le_of_ble_eq_true rfl), (Nat.le_of_ble_eq_true rfl)⟩ [3, 0] rfl 13 0 rfl rfl rfl rfl (Nat.le_of_ble_eq_true rfl) rfl (fun _ _ _ => rfl) dL_law_1525 (fun r15 u15 w15 => ?_)
    obtain rfl := w15
    refine V_ws [(x0, oC 12 [.ref x1, .ref x30, .ref x59, .ref x88, .ref x117, .ref x126, .ref x127, .ref x129, .ref x132, .long 0]), (x1, oC 2 [.ref x2, .ref x4, .ref x6, .ref x8, .ref x10, .ref x12, .ref x14, .ref x16, .ref x18, .ref x20, .ref x27, .int 0]), (x2, oC 3 [.ref x3, .int 1]), (m0, oC 13 [.ref m1, .ref m2, .int 0, .ref m3, .ref m4, .int 0, .int 0, .int 0, .int (-1), .int 0, .int 0, .int 0, .long 0, .ref m5, .ref m6, .int 0, .int 0]), (m1, aI Y 3640 (clB 0 (fun _ => 0))), (o0, aJ Y 1 (vp_updL (fun _ => 0) 0 (-4)))] rfl ?_
    refine V_istore 1528 B (lv2 := [(6, .int (-4)), (5, .int 0), (4, .int 0), (3, .ref o0), (2, .ref m0), (1, .ref x0), (0, .ref b)]) dL_law_1528 (by decide) rfl ?_
    refine V_aload_n 1530 B dL_law_1530 4 rfl ?_
    refine V_cvi 1531 B (st := []) (As := []) (fun sz => mX12_thrown_1 l D Y (m0) (m1) (m2) (m3) (m4) (m5) (m6) sz) glV_RL_182 ⟨rfl, rfl⟩ ⟨(Nat.le_of_ble_eq_true rfl), (Nat.le_of_ble_eq_true rfl)⟩ ⟨(Nat.le_of_ble_eq_true rfl), (Nat.le_of_ble_eq_true rfl)⟩ [3] rfl 13 0 rfl rfl rfl rfl (Nat.le_of_ble_eq_true rfl) rfl (fun _ _ _ => rfl) dL_law_1531 (fun r16 u16 w16 => ?_)
    obtain rfl := w16
    refine V_ws [(x0, oC 12 [.ref x1, .ref x30, .ref x59, .ref x88, .ref x117, .ref x126, .ref x127, .ref x129, .ref x132, .long 0]), (x1, oC 2 [.ref x2, .ref x4, .ref x6, .ref x8, .ref x10, .ref x12, .ref x14, .ref x16, .ref x18, .ref x20, .ref x27, .int 0]), (x2, oC 3 [.ref x3, .int 1]), (m0, oC 13 [.ref m1, .ref m2, .int 0, .ref m3, .ref m4, .int 0, .int 0, .int 0, .int (-1), .int 0, .int 0, .int 0, .long 0, .ref m5, .ref m6, .int 0, .int 0]), (m1, aI Y 3640 (clB 0 (fun _ => 0))), (o0, aJ Y 1 (vp_updL (fun _ => 0) 0 (-4)))] rfl ?_
    refine V_iload 1534 B dL_law_1534 1 rfl ?_
    refine V_icmp_eq_t 1536 B 1541 dL_law_1536 (by decide) (by decide +kernel) ?_
    refine V_iload 1541 B dL_law_1541 1 rfl ?_
    refine V_if_ne_f 1543 B 1558 dL_law_1543 (by decide) (by decide +kernel) ?_
    refine V_aload_n 1546 B dL_law_1546 3 rfl ?_
    refine V_iconst 1547 B (v := 0) dL_law_1547 (by decide +kernel) ?_
    refine V_lald 1548 B (v := (-4)) 5 rfl (vpin _ _ (by decide +kernel)) dL_law_1548 rfl ?_
    refine V_iload 1549 B dL_law_1549 0 rfl ?_
    refine V_i2l 1551 B (v := (-4)) dL_law_1551 (by decide +kernel) ?_
    refine V_lcmp 1552 B (v := 0) dL_law_1552 (by decide +kernel) ?_
    refine V_if_eq_t 1553 B 1558 dL_law_1553 (by decide) (by decide +kernel) ?_
    refine V_goto 1558 B 3332 dL_law_1558 (by decide) ?_
    refine V_iinc 3332 B (v := 6) (lv2 := [(4, .int 6), (6, .int (-4)), (5, .int 0), (3, .ref o0), (2, .ref m0), (1, .ref x0), (0, .ref b)]) dL_law_3332 2 rfl (by decide +kernel) (by decide) rfl ?_
    refine V_goto 3335 B 23 dL_law_3335 (by decide) ?_
    refine V_iload 23 B dL_law_23 0 rfl ?_
    refine V_aload_n 25 B dL_law_25 6 rfl ?_
    refine V_slen 26 B hX hbl hbA (v := 6) (by decide +kernel) dL_law_26 ?_
    refine V_bipush 27 B (v := 6) dL_law_27 (by decide +kernel) ?_
    refine V_isub 29 B (v := 0) dL_law_29 (by decide +kernel) ?_
    refine V_icmp_gt_t 30 B 3338 dL_law_30 (by decide) (by decide +kernel) ?_
    exact law_end B (Nat.le_of_ble_eq_true rfl) (Nat.le_of_ble_eq_true rfl) dL_law_3338 dL_law_3339
theorem dL_continuations_0 : decode cL_continuations 0 = .ok (.aload_n 2, 1) := by decide +kernel
theorem dL_continuations_1 : decode cL_continuations 1 = .ok (.iconst 0, 1) := by decide +kernel
theorem dL_continuations_2 : decode cL_continuations 2 = .ok (.aload_n 0, 1) := by decide +kernel
theorem dL_continuations_3 : decode cL_continuations 3 = .ok (.iload_n 1, 1) := by decide +kernel
theorem dL_continuations_4 : decode cL_continuations 4 = .ok (.invokevirtual 66, 3) := by decide +kernel
theorem glV_RL_66 : GLV RL 66 yX11_continuations RX11 cX11_continuations 2 (some .int) 1 := ⟨⟨(mT6 59 rfl rfl), (mT6 60 rfl rfl), (mT6 61 rfl rfl), (mT1 1 rfl rfl), (mT6 62 rfl rfl)⟩, by decide +kernel⟩
theorem dL_continuations_12 : decode cL_continuations 12 = .ok (.astore_n 3, 1) := by decide +kernel
theorem dL_continuations_13 : decode cL_continuations 13 = .ok (.iconst 1, 1) := by decide +kernel
theorem dL_continuations_14 : decode cL_continuations 14 = .ok (.ireturn, 1) := by decide +kernel
theorem dL_continuations_7 : decode cL_continuations 7 = .ok (.i2l, 1) := by decide +kernel
theorem dL_continuations_8 : decode cL_continuations 8 = .ok (.lastore, 1) := by decide +kernel
theorem dL_continuations_9 : decode cL_continuations 9 = .ok (.goto 6, 3) := by decide +kernel
theorem dL_continuations_15 : decode cL_continuations 15 = .ok (.iconst 0, 1) := by decide +kernel
theorem dL_continuations_16 : decode cL_continuations 16 = .ok (.ireturn, 1) := by decide +kernel
set_option maxRecDepth 100000 in
set_option maxHeartbeats 4000000 in
theorem mL_continuations_1 (l : Launch) (hl9 : l.stackTraces = false) (D : va_G) (Y : Nat → ClassId) (h0 : Nat) (h9 : Nat) (h1 : Nat) (g0 : Nat) (g1 : Nat) (g2 : Nat) (h5 : Nat) (g3 : Nat) (g4 : Nat) (g5 : Nat) (g6 : Nat) (h2 : Nat) (g7 : Nat) (g8 : Nat) (g9 : Nat) (g10 : Nat) (h4 : Nat) (g11 : Nat) (g12 : Nat) (g13 : Nat) (g14 : Nat) (g15 : Nat) (h3 : Nat) (g16 : Nat) (h6 : Nat) (h8 : Nat) (g17 : Nat) (g18 : Nat) (h7 : Nat) (g19 : Nat) (p0 : Int32) (sz : Nat) : Met l yL_continuations (Cond.codeWith yL_continuations cL_continuations 4 (some .int) [(0, 9, 12, 18)] :: lw_good) (mkR 8 1 6 124) (PreX D Y [.ref h0, .int p0, .ref h9] [(h0, oC 12 [.ref h1, .ref g0, .ref g1, .ref g2, .ref h5, .ref g3, .ref g4, .ref g5, .ref g6, .long 0]), (h1, oC 2 [.ref h2, .ref g7, .ref g8, .ref g9, .ref g10, .ref h4, .ref g11, .ref g12, .ref g13, .ref g14, .ref g15, .int 0]), (h2, oC 3 [.ref h3, .int 1]), (h3, aI Y 6 (upd (fun _ => 0) 0 (-1))), (h4, oC 3 [.ref g16, .int 0]), (h5, oC 11 [.ref h1, .ref h6, .ref h8, .ref g17, .ref g18]), (h6, oC 3 [.ref h7, .int 0]), (h7, aI Y 6 (fun _ => 0)), (h8, oC 3 [.ref g19, .int 0]), (h9, aJ Y 1 (fun _ => 0))] sz) (QI D (fun (r : Int32) (u : Nat) => (u = 0 ∧ p0 < 0 ∧ 1 = r) ∨ (u = 1 ∧ ¬ p0 < 0 ∧ 1 ≤ p0 ∧ 1 = r) ∨ (u = 2 ∧ p0 = 0 ∧ 0 = r)) (fun (u : Nat) => match u with | 0 => [(h0, oC 12 [.ref h1, .ref g0, .ref g1, .ref g2, .ref h5, .ref g3, .ref g4, .ref g5, .ref g6, .long 0]), (h1, oC 2 [.ref h2, .ref g7, .ref g8, .ref g9, .ref g10, .ref h4, .ref g11, .ref g12, .ref g13, .ref g14, .ref g15, .int 0]), (h2, oC 3 [.ref h3, .int 1]), (h3, aI Y 6 (upd (fun _ => 0) 0 (-1))), (h4, oC 3 [.ref g16, .int 0]), (h5, oC 11 [.ref h1, .ref h6, .ref h8, .ref g17, .ref g18]), (h6, oC 3 [.ref h7, .int 0]), (h7, aI Y 6 (fun _ => 0)), (h8, oC 3 [.ref g19, .int 0]), (h9, aJ Y 1 (fun _ => 0))] | 1 => [(h0, oC 12 [.ref h1, .ref g0, .ref g1, .ref g2, .ref h5, .ref g3, .ref g4, .ref g5, .ref g6, .long 0]), (h1, oC 2 [.ref h2, .ref g7, .ref g8, .ref g9, .ref g10, .ref h4, .ref g11, .ref g12, .ref g13, .ref g14, .ref g15, .int 0]), (h2, oC 3 [.ref h3, .int 1]), (h3, aI Y 6 (upd (fun _ => 0) 0 (-1))), (h4, oC 3 [.ref g16, .int 0]), (h5, oC 11 [.ref h1, .ref h6, .ref h8, .ref g17, .ref g18]), (h6, oC 3 [.ref h7, .int 0]), (h7, aI Y 6 (fun _ => 0)), (h8, oC 3 [.ref g19, .int 0]), (h9, aJ Y 1 (fun _ => 0))] | _ => [(h0, oC 12 [.ref h1, .ref g0, .ref g1, .ref g2, .ref h5, .ref g3, .ref g4, .ref g5, .ref g6, .long 0]), (h1, oC 2 [.ref h2, .ref g7, .ref g8, .ref g9, .ref g10, .ref h4, .ref g11, .ref g12, .ref g13, .ref g14, .ref g15, .int 0]), (h2, oC 3 [.ref h3, .int 1]), (h3, aI Y 6 (upd (fun _ => 0) 0 (-1))), (h4, oC 3 [.ref g16, .int 0]), (h5, oC 11 [.ref h1, .ref h6, .ref h8, .ref g17, .ref g18]), (h6, oC 3 [.ref h7, .int 6]), (h7, aI Y 6 (upd (upd (upd (upd (upd (upd (upd (fun _ => 0) 0 (-1)) 1 (-1)) 2 (-1)) 3 (-1)) 4 (-1)) 5 (-1)) 0 0)), (h8, oC 3 [.ref g19, .int 0]), (h9, aJ Y 1 (vp_updL (fun _ => 0) 0 0))]) (va_A [(h0, oC 12 [.ref h1, .ref g0, .ref g1, .ref g2, .ref h5, .ref g3, .ref g4, .ref g5, .ref g6, .long 0]), (h1, oC 2 [.ref h2, .ref g7, .ref g8, .ref g9, .ref g10, .ref h4, .ref g11, .ref g12, .ref g13, .ref g14, .ref g15, .int 0]), (h2, oC 3 [.ref h3, .int 1]), (h3, aI Y 6 (upd (fun _ => 0) 0 (-1))), (h4, oC 3 [.ref g16, .int 0]), (h5, oC 11 [.ref h1, .ref h6, .ref h8, .ref g17, .ref g18]), (h6, oC 3 [.ref h7, .int 0]), (h7, aI Y 6 (fun _ => 0)), (h8, oC 3 [.ref g19, .int 0]), (h9, aJ Y 1 (fun _ => 0))] sz)) 1 6 (va_A [(h0, oC 12 [.ref h1, .ref g0, .ref g1, .ref g2, .ref h5, .ref g3, .ref g4, .ref g5, .ref g6, .long 0]), (h1, oC 2 [.ref h2, .ref g7, .ref g8, .ref g9, .ref g10, .ref h4, .ref g11, .ref g12, .ref g13, .ref g14, .ref g15, .int 0]), (h2, oC 3 [.ref h3, .int 1]), (h3, aI Y 6 (upd (fun _ => 0) 0 (-1))), (h4, oC 3 [.ref g16, .int 0]), (h5, oC 11 [.ref h1, .ref h6, .ref h8, .ref g17, .ref g18]), (h6, oC 3 [.ref h7, .int 0]), (h7, aI Y 6 (fun _ => 0)), (h8, oC 3 [.ref g19, .int 0]), (h9, aJ Y 1 (fun _ => 0))] sz) :=
  metH_of (by decide +kernel) (Nat.le_of_ble_eq_true rfl) (fun p e s m args below meth c B EB htab hsz => by
    have B : VB p s m args meth c D Y (va_A [(h0, oC 12 [.ref h1, .ref g0, .ref g1, .ref g2, .ref h5, .ref g3, .ref g4, .ref g5, .ref g6, .long 0]), (h1, oC 2 [.ref h2, .ref g7, .ref g8, .ref g9, .ref g10, .ref h4, .ref g11, .ref g12, .ref g13, .ref g14, .ref g15, .int 0]), (h2, oC 3 [.ref h3, .int 1]), (h3, aI Y 6 (upd (fun _ => 0) 0 (-1))), (h4, oC 3 [.ref g16, .int 0]), (h5, oC 11 [.ref h1, .ref h6, .ref h8, .ref g17, .ref g18]), (h6, oC 3 [.ref h7, .int 0]), (h7, aI Y 6 (fun _ => 0)), (h8, oC 3 [.ref g19, .int 0]), (h9, aJ Y 1 (fun _ => 0))] sz) cL_continuations 4 RL (some .int) := B
    refine V_aload_n 0 B dL_continuations_0 2 rfl ?_
    refine V_iconst 1 B (v := 0) dL_continuations_1 (by decide +kernel) ?_
    refine V_aload_n 2 B dL_continuations_2 0 rfl ?_
    refine V_iload_n 3 B dL_continuations_3 1 rfl ?_
    refine V_xvi 4 B EB (st := [.int 0, .ref h9]) (As := [.int p0]) (fun sz => mX11_continuations_1 l hl9 D Y (h0) (h1) (g0) (g1) (g2) (h5) (g3) (g4) (g5) (g6) (h2) (g7) (g8) (g9) (g10) (h4) (g11) (g12) (g13) (g14) (g15) (h3) (g16) (h6) (h8) (g17) (g18) (h7) (g19) (p0) sz) glV_RL_66 ⟨rfl, rfl⟩ ⟨(Nat.le_of_ble_eq_true rfl), (Nat.le_of_ble_eq_true rfl)⟩ ⟨(Nat.le_of_ble_eq_true rfl), (Nat.le_of_ble_eq_true rfl)⟩ [0, 0, 0, 0, 0, 0, 0, 0, 0] rfl 12 0 rfl rfl rfl rfl (Nat.le_of_ble_eq_true rfl) rfl (fun _ _ _ => rfl) (fun _ _ _ => rfl) dL_continuations_4 (fun E u0 w0 => ?_) (fun r0 u0 w0 => ?_)
    ·
      rcases w0 with ⟨rfl, k1⟩ | ⟨rfl, k2, k3⟩
      ·
        refine VX_catch 4 B htab [] (0, 9, 12, 18) [] rfl "java/lang/IndexOutOfBoundsException" (fun z hz => nomatch hz) rfl (by decide) (mT5 103 rfl rfl) (EB.2.2.2.1 _ (List.mem_of_getElem? (i := 1) rfl)) 12 rfl (fun q9 => ?_)
        refine V_ws [(h0, oC 12 [.ref h1, .ref g0, .ref g1, .ref g2, .ref h5, .ref g3, .ref g4, .ref g5, .ref g6, .long 0]), (h1, oC 2 [.ref h2, .ref g7, .ref g8, .ref g9, .ref g10, .ref h4, .ref g11, .ref g12, .ref g13, .ref g14, .ref g15, .int 0]), (h2, oC 3 [.ref h3, .int 1]), (h3, aI Y 6 (upd (fun _ => 0) 0 (-1))), (h4, oC 3 [.ref g16, .int 0]), (h5, oC 11 [.ref h1, .ref h6, .ref h8, .ref g17, .ref g18]), (h6, oC 3 [.ref h7, .int 0]), (h7, aI Y 6 (fun _ => 0)), (h8, oC 3 [.ref g19, .int 0]), (h9, aJ Y 1 (fun _ => 0))] rfl ?_
        refine V_astore_n 12 B (lv2 := [(3, .ref q9), (0, .ref h0), (1, .int p0), (2, .ref h9)]) dL_continuations_12 (by decide) rfl ?_
        refine V_iconst 13 B (v := 1) dL_continuations_13 (by decide +kernel) ?_
        exact V_iret 14 B dL_continuations_14 0 (Or.inl ⟨rfl, k1, rfl⟩) rfl
      ·
        refine VX_catch 4 B htab [] (0, 9, 12, 18) [] rfl "java/lang/IndexOutOfBoundsException" (fun z hz => nomatch hz) rfl (by decide) (mT5 103 rfl rfl) (EB.2.2.2.1 _ (List.mem_of_getElem? (i := 1) rfl)) 12 rfl (fun q9 => ?_)
        refine V_ws [(h0, oC 12 [.ref h1, .ref g0, .ref g1, .ref g2, .ref h5, .ref g3, .ref g4, .ref g5, .ref g6, .long 0]), (h1, oC 2 [.ref h2, .ref g7, .ref g8, .ref g9, .ref g10, .ref h4, .ref g11, .ref g12, .ref g13, .ref g14, .ref g15, .int 0]), (h2, oC 3 [.ref h3, .int 1]), (h3, aI Y 6 (upd (fun _ => 0) 0 (-1))), (h4, oC 3 [.ref g16, .int 0]), (h5, oC 11 [.ref h1, .ref h6, .ref h8, .ref g17, .ref g18]), (h6, oC 3 [.ref h7, .int 0]), (h7, aI Y 6 (fun _ => 0)), (h8, oC 3 [.ref g19, .int 0]), (h9, aJ Y 1 (fun _ => 0))] rfl ?_
        refine V_astore_n 12 B (lv2 := [(3, .ref q9), (0, .ref h0), (1, .int p0), (2, .ref h9)]) dL_continuations_12 (by decide) rfl ?_
        refine V_iconst 13 B (v := 1) dL_continuations_13 (by decide +kernel) ?_
        exact V_iret 14 B dL_continuations_14 1 (Or.inr (Or.inl ⟨rfl, k2, k3, rfl⟩)) rfl
    ·
      obtain ⟨k4, rfl⟩ := w0
      refine V_ws [(h0, oC 12 [.ref h1, .ref g0, .ref g1, .ref g2, .ref h5, .ref g3, .ref g4, .ref g5, .ref g6, .long 0]), (h1, oC 2 [.ref h2, .ref g7, .ref g8, .ref g9, .ref g10, .ref h4, .ref g11, .ref g12, .ref g13, .ref g14, .ref g15, .int 0]), (h2, oC 3 [.ref h3, .int 1]), (h3, aI Y 6 (upd (fun _ => 0) 0 (-1))), (h4, oC 3 [.ref g16, .int 0]), (h5, oC 11 [.ref h1, .ref h6, .ref h8, .ref g17, .ref g18]), (h6, oC 3 [.ref h7, .int 6]), (h7, aI Y 6 (upd (upd (upd (upd (upd (upd (upd (fun _ => 0) 0 (-1)) 1 (-1)) 2 (-1)) 3 (-1)) 4 (-1)) 5 (-1)) 0 0)), (h8, oC 3 [.ref g19, .int 0]), (h9, aJ Y 1 (fun _ => 0))] rfl ?_
      obtain rfl : p0 = 0 := k4
      refine V_i2l 7 B (v := 0) dL_continuations_7 (by decide +kernel) ?_
      refine V_last 8 B 9 rfl (vpin _ _ (by decide +kernel)) dL_continuations_8 [(h0, oC 12 [.ref h1, .ref g0, .ref g1, .ref g2, .ref h5, .ref g3, .ref g4, .ref g5, .ref g6, .long 0]), (h1, oC 2 [.ref h2, .ref g7, .ref g8, .ref g9, .ref g10, .ref h4, .ref g11, .ref g12, .ref g13, .ref g14, .ref g15, .int 0]), (h2, oC 3 [.ref h3, .int 1]), (h3, aI Y 6 (upd (fun _ => 0) 0 (-1))), (h4, oC 3 [.ref g16, .int 0]), (h5, oC 11 [.ref h1, .ref h6, .ref h8, .ref g17, .ref g18]), (h6, oC 3 [.ref h7, .int 6]), (h7, aI Y 6 (upd (upd (upd (upd (upd (upd (upd (fun _ => 0) 0 (-1)) 1 (-1)) 2 (-1)) 3 (-1)) 4 (-1)) 5 (-1)) 0 0)), (h8, oC 3 [.ref g19, .int 0]), (h9, aJ Y 1 (vp_updL (fun _ => 0) 0 0))] rfl ?_
      refine V_goto 9 B 15 dL_continuations_9 (by decide) ?_
      refine V_iconst 15 B (v := 0) dL_continuations_15 (by decide +kernel) ?_
      exact V_iret 16 B dL_continuations_16 2 (Or.inr (Or.inr ⟨rfl, rfl, rfl⟩)) rfl)
set_option maxRecDepth 100000 in
set_option maxHeartbeats 4000000 in
theorem mX12_continuations_2 (l : Launch) (D : va_G) (Y : Nat → ClassId) (h0 : Nat) (h1 : Nat) (g0 : Nat) (g1 : Nat) (g2 : Nat) (g3 : Nat) (g4 : Nat) (sz : Nat) : Met l yX12_continuations (WSm yX12_continuations cX12_continuations 2 (some .int)) (mkR 2 0 0 46) (PreC D Y [.ref h0, .int 0] [(h0, oC 13 [.ref h1, .ref g0, .int 0, .ref g1, .ref g2, .int 0, .int 0, .int 0, .int (-1), .int 0, .int 0, .int 0, .long 0, .ref g3, .ref g4, .int 0, .int 0]), (h1, aI Y 3640 (clB 0 (fun _ => 0)))] sz) (QI D (fun (r : Int32) (u : Unit) => 0 = r) (fun (_ : Unit) => [(h0, oC 13 [.ref h1, .ref g0, .int 0, .ref g1, .ref g2, .int 0, .int 0, .int 0, .int (-1), .int 0, .int 0, .int 0, .long 0, .ref g3, .ref g4, .int 0, .int 0]), (h1, aI Y 3640 (clB 0 (fun _ => 0)))]) (va_A [(h0, oC 13 [.ref h1, .ref g0, .int 0, .ref g1, .ref g2, .int 0, .int 0, .int 0, .int (-1), .int 0, .int 0, .int 0, .long 0, .ref g3, .ref g4, .int 0, .int 0]), (h1, aI Y 3640 (clB 0 (fun _ => 0)))] sz)) 0 0 (va_A [(h0, oC 13 [.ref h1, .ref g0, .int 0, .ref g1, .ref g2, .int 0, .int 0, .int 0, .int (-1), .int 0, .int 0, .int 0, .long 0, .ref g3, .ref g4, .int 0, .int 0]), (h1, aI Y 3640 (clB 0 (fun _ => 0)))] sz) :=
  met_of (by decide +kernel) (Nat.le_of_ble_eq_true rfl) (fun p e s m args below meth c B hin hsz => by
    have B : VB p s m args meth c D Y (va_A [(h0, oC 13 [.ref h1, .ref g0, .int 0, .ref g1, .ref g2, .int 0, .int 0, .int 0, .int (-1), .int 0, .int 0, .int 0, .long 0, .ref g3, .ref g4, .int 0, .int 0]), (h1, aI Y 3640 (clB 0 (fun _ => 0)))] sz) cX12_continuations 2 RX12 (some .int) := B
    refine V_aload_n 0 B dX12_continuations_0 0 rfl ?_
    refine V_iconst 1 B (v := 0) dX12_continuations_1 (by decide +kernel) ?_
    refine V_put 2 B gp_RX12_38 0 rfl (Nat.le_of_ble_eq_true rfl) rfl rfl dX12_continuations_2 [(h0, oC 13 [.ref h1, .ref g0, .int 0, .ref g1, .ref g2, .int 0, .int 0, .int 0, .int (-1), .int 0, .int 0, .int 0, .long 0, .ref g3, .ref g4, .int 0, .int 0]), (h1, aI Y 3640 (clB 0 (fun _ => 0)))] rfl ?_
    refine V_aload_n 5 B dX12_continuations_5 0 rfl ?_
    refine V_aload_n 6 B dX12_continuations_6 0 rfl ?_
    refine V_iload_n 7 B dX12_continuations_7 1 rfl ?_
    refine V_cvi 8 B (st := [.ref h0]) (As := [.int 0]) (fun sz => mX12_isMode_2 l D Y (h0) (h1) (g0) (g1) (g2) (g3) (g4) sz) glV_RX12_91 ⟨rfl, rfl⟩ ⟨(Nat.le_of_ble_eq_true rfl), (Nat.le_of_ble_eq_true rfl)⟩ ⟨(Nat.le_of_ble_eq_true rfl), (Nat.le_of_ble_eq_true rfl)⟩ [0, 0] rfl 13 0 rfl rfl rfl rfl (Nat.le_of_ble_eq_true rfl) rfl (fun _ _ _ => rfl) dX12_continuations_8 (fun r0 u0 w0 => ?_)
    obtain rfl := w0
    refine V_ws [(h0, oC 13 [.ref h1, .ref g0, .int 0, .ref g1, .ref g2, .int 0, .int 0, .int 0, .int (-1), .int 0, .int 0, .int 0, .long 0, .ref g3, .ref g4, .int 0, .int 0]), (h1, aI Y 3640 (clB 0 (fun _ => 0)))] rfl ?_
    refine V_if_ne_t 11 B 18 dX12_continuations_11 (by decide) (by decide +kernel) ?_
    refine V_iconst 18 B (v := 0) dX12_continuations_18 (by decide +kernel) ?_
    refine V_iconst 19 B (v := 1) dX12_continuations_19 (by decide +kernel) ?_
    refine V_cvi 20 B (st := []) (As := [.int 0, .int 1]) (fun sz => mX12_throwsIf_2 l D Y (h0) (h1) (g0) (g1) (g2) (g3) (g4) sz) glV_RX12_69 ⟨rfl, rfl⟩ ⟨(Nat.le_of_ble_eq_true rfl), (Nat.le_of_ble_eq_true rfl)⟩ ⟨(Nat.le_of_ble_eq_true rfl), (Nat.le_of_ble_eq_true rfl)⟩ [0] rfl 13 0 rfl rfl rfl rfl (Nat.le_of_ble_eq_true rfl) rfl (fun _ _ _ => rfl) dX12_continuations_20 (fun r1 u1 w1 => ?_)
    obtain rfl := w1
    refine V_ws [(h0, oC 13 [.ref h1, .ref g0, .int 0, .ref g1, .ref g2, .int 0, .int 0, .int 0, .int (-1), .int 0, .int 0, .int 0, .long 0, .ref g3, .ref g4, .int 0, .int 0]), (h1, aI Y 3640 (clB 0 (fun _ => 0)))] rfl ?_
    refine V_if_eq_t 23 B 30 dX12_continuations_23 (by decide) (by decide +kernel) ?_
    refine V_aload_n 30 B dX12_continuations_30 0 rfl ?_
    refine V_iload_n 31 B dX12_continuations_31 1 rfl ?_
    refine V_sipush 32 B (v := 3624) dX12_continuations_32 (by decide +kernel) ?_
    refine V_cvi 35 B (st := []) (As := [.int 0, .int 3624]) (fun sz => mX12_continued_1 l D Y (h0) (h1) (g0) (g1) (g2) (g3) (g4) sz) glV_RX12_160 ⟨rfl, rfl⟩ ⟨(Nat.le_of_ble_eq_true rfl), (Nat.le_of_ble_eq_true rfl)⟩ ⟨(Nat.le_of_ble_eq_true rfl), (Nat.le_of_ble_eq_true rfl)⟩ [0, 0] rfl 13 0 rfl rfl rfl rfl (Nat.le_of_ble_eq_true rfl) rfl (fun _ _ _ => rfl) dX12_continuations_35 (fun r2 u2 w2 => ?_)
    obtain rfl := w2
    refine V_ws [(h0, oC 13 [.ref h1, .ref g0, .int 0, .ref g1, .ref g2, .int 0, .int 0, .int 0, .int (-1), .int 0, .int 0, .int 0, .long 0, .ref g3, .ref g4, .int 0, .int 0]), (h1, aI Y 3640 (clB 0 (fun _ => 0)))] rfl ?_
    exact V_iret 38 B dX12_continuations_38 () rfl rfl)
theorem dL_law_1561 : decode cL_law 1561 = .ok (.aload_n 1, 1) := by decide +kernel
theorem dL_law_1562 : decode cL_law 1562 = .ok (.aload_n 0, 1) := by decide +kernel
theorem dL_law_1563 : decode cL_law 1563 = .ok (.iload 4, 2) := by decide +kernel
theorem dL_law_1565 : decode cL_law 1565 = .ok (.iconst 1, 1) := by decide +kernel
theorem dL_law_1566 : decode cL_law 1566 = .ok (.iadd, 1) := by decide +kernel
theorem dL_law_1567 : decode cL_law 1567 = .ok (.iaload, 1) := by decide +kernel
theorem dL_law_1568 : decode cL_law 1568 = .ok (.aload_n 3, 1) := by decide +kernel
theorem dL_law_1569 : decode cL_law 1569 = .ok (.invokestatic 246, 3) := by decide +kernel
theorem glH_RL_246 : GLH RL 246 yL_continuations cL_continuations 4 (some .int) [(0, 9, 12, 18)] 3 := ⟨⟨(mT6 56 rfl rfl), (mT6 57 rfl rfl), (mT1 0 rfl rfl), (mT6 58 rfl rfl)⟩, by decide +kernel⟩
theorem dL_law_1572 : decode cL_law 1572 = .ok (.istore 5, 2) := by decide +kernel
theorem dL_law_1574 : decode cL_law 1574 = .ok (.aload_n 2, 1) := by decide +kernel
theorem dL_law_1575 : decode cL_law 1575 = .ok (.aload_n 0, 1) := by decide +kernel
theorem dL_law_1576 : decode cL_law 1576 = .ok (.iload 4, 2) := by decide +kernel
theorem dL_law_1578 : decode cL_law 1578 = .ok (.iconst 1, 1) := by decide +kernel
theorem dL_law_1579 : decode cL_law 1579 = .ok (.iadd, 1) := by decide +kernel
theorem dL_law_1580 : decode cL_law 1580 = .ok (.iaload, 1) := by decide +kernel
theorem dL_law_1581 : decode cL_law 1581 = .ok (.invokevirtual 248, 3) := by decide +kernel
theorem glV_RL_248 : GLV RL 248 yX12_continuations RX12 cX12_continuations 2 (some .int) 1 := ⟨⟨(mT8 184 rfl rfl), (mT8 185 rfl rfl), (mT8 186 rfl rfl), (mT1 13 rfl rfl), (mT8 187 rfl rfl)⟩, by decide +kernel⟩
theorem dL_law_1584 : decode cL_law 1584 = .ok (.istore 6, 2) := by decide +kernel
theorem dL_law_1586 : decode cL_law 1586 = .ok (.aload_n 2, 1) := by decide +kernel
theorem dL_law_1587 : decode cL_law 1587 = .ok (.invokevirtual 182, 3) := by decide +kernel
theorem dL_law_1590 : decode cL_law 1590 = .ok (.iload 5, 2) := by decide +kernel
theorem dL_law_1592 : decode cL_law 1592 = .ok (.if_icmp .eq 5, 3) := by decide +kernel
theorem dL_law_1597 : decode cL_law 1597 = .ok (.iload 5, 2) := by decide +kernel
theorem dL_law_1599 : decode cL_law 1599 = .ok (.ifCond .ne 15, 3) := by decide +kernel
theorem dL_law_1614 : decode cL_law 1614 = .ok (.goto 1718, 3) := by decide +kernel
theorem dL_law_1602 : decode cL_law 1602 = .ok (.aload_n 3, 1) := by decide +kernel
theorem dL_law_1603 : decode cL_law 1603 = .ok (.iconst 0, 1) := by decide +kernel
theorem dL_law_1604 : decode cL_law 1604 = .ok (.laload, 1) := by decide +kernel
theorem dL_law_1605 : decode cL_law 1605 = .ok (.iload 6, 2) := by decide +kernel
theorem dL_law_1607 : decode cL_law 1607 = .ok (.i2l, 1) := by decide +kernel
theorem dL_law_1608 : decode cL_law 1608 = .ok (.lcmp, 1) := by decide +kernel
theorem dL_law_1609 : decode cL_law 1609 = .ok (.ifCond .eq 5, 3) := by decide +kernel
set_option maxRecDepth 100000 in
set_option maxHeartbeats 4000000 in
theorem law_c26 {p : Program} {l : Launch} {e : Env} {s : State} {m : MethodId} {below : List Frame} {meth : Method} {c : Code} {b : Nat} {xs : Nat → Int32} {D : va_G} {Y : Nat → ClassId} (B : VB p s m #[Value.ref b] meth c D Y (fun q => s.heap.size ≤ q) cL_law 8 RL ret) (EB : EX (fun q => s.heap.size ≤ q) s s.heap) (hl9 : l.stackTraces = false) (hX : va_X b 6 xs s s.heap) (hbl : b < s.heap.size) (hbA : ¬ (fun q => s.heap.size ≤ q) b) (x0 x1 x30 x59 x88 x117 x126 x127 x129 x132 x2 x4 x6 x8 x10 x12 x14 x16 x18 x20 x27 x3 x13 x118 x120 x122 x124 x119 x121 m0 m1 m2 m3 m4 m5 m6 o0 : Nat) (p1 : Int32) (e1 : xs 1 = p1) : V p l e room_1 s m #[Value.ref b] below meth c D (fun q => s.heap.size ≤ q) 8 149 10574 (lw_Z below #[Value.ref b] s) 1561 [(4, .int 0), (3, .ref o0), (2, .ref m0), (1, .ref x0), (0, .ref b)] [] [(x0, oC 12 [.ref x1, .ref x30, .ref x59, .ref x88, .ref x117, .ref x126, .ref x127, .ref x129, .ref x132, .long 0]), (x1, oC 2 [.ref x2, .ref x4, .ref x6, .ref x8, .ref x10, .ref x12, .ref x14, .ref x16, .ref x18, .ref x20, .ref x27, .int 0]), (x2, oC 3 [.ref x3, .int 1]), (x3, aI Y 6 (upd (fun _ => 0) 0 (-1))), (x12, oC 3 [.ref x13, .int 0]), (x117, oC 11 [.ref x1, .ref x118, .ref x120, .ref x122, .ref x124]), (x118, oC 3 [.ref x119, .int 0]), (x119, aI Y 6 (fun _ => 0)), (x120, oC 3 [.ref x121, .int 0]), (m0, oC 13 [.ref m1, .ref m2, .int 0, .ref m3, .ref m4, .int 0, .int 0, .int 0, .int (-1), .int 0, .int 0, .int 0, .long 0, .ref m5, .ref m6, .int 0, .int 0]), (m1, aI Y 3640 (clB 0 (fun _ => 0))), (o0, aJ Y 1 (fun _ => 0))] := by
  refine V_aload_n 1561 B dL_law_1561 3 rfl ?_
  refine V_aload_n 1562 B dL_law_1562 4 rfl ?_
  refine V_iload 1563 B dL_law_1563 0 rfl ?_
  refine V_iconst 1565 B (v := 1) dL_law_1565 (by decide +kernel) ?_
  refine V_iadd 1566 B (v := 1) dL_law_1566 (by decide +kernel) ?_
  refine V_sld 1567 B hX hbl hbA (v := p1) (vpin _ _ (by decide +kernel)) dL_law_1567 e1 ?_
  refine V_aload_n 1568 B dL_law_1568 1 rfl ?_
  refine V_hsi 1569 B EB (st := []) (As := [.ref x0, .int p1, .ref o0]) (fun sz => mL_continuations_1 l hl9 D Y (x0) (o0) (x1) (x30) (x59) (x88) (x117) (x126) (x127) (x129) (x132) (x2) (x4) (x6) (x8) (x10) (x12) (x14) (x16) (x18) (x20) (x27) (x3) (x13) (x118) (x120) (x122) (x124) (x119) (x121) (p1) sz) glH_RL_246 ⟨rfl, rfl⟩ ⟨(Nat.le_of_ble_eq_true rfl), (Nat.le_of_ble_eq_true rfl)⟩ ⟨(Nat.le_of_ble_eq_true rfl), (Nat.le_of_ble_eq_true rfl)⟩ [0, 0, 0, 0, 0, 0, 0, 0, 0, 2] rfl rfl (Nat.le_of_ble_eq_true rfl) rfl (fun _ u _ => by
        first | rfl | (split <;> rfl) | (dsimp only; split <;> rfl)) dL_law_1569 (fun r0 u0 w0 => ?_)
  rcases w0 with ⟨rfl, k1, rfl⟩ | ⟨rfl, k2, k3, rfl⟩ | ⟨rfl, k4, rfl⟩
  ·
    refine V_ws [(x0, oC 12 [.ref x1, .ref x30, .ref x59, .ref x88, .ref x117, .ref x126, .ref x127, .ref x129, .ref x132, .long 0]), (x1, oC 2 [.ref x2, .ref x4, .ref x6, .ref x8, .ref x10, .ref x12, .ref x14, .ref x16, .ref x18, .ref x20, .ref x27, .int 0]), (x2, oC 3 [.ref x3, .int 1]), (x3, aI Y 6 (upd (fun _ => 0) 0 (-1))), (x12, oC 3 [.ref x13, .int 0]), (x117, oC 11 [.ref x1, .ref x118, .ref x120, .ref x122, .ref x124]), (x118, oC 3 [.ref x119, .int 0]), (x119, aI Y 6 (fun _ => 0)), (x120, oC 3 [.ref x121, .int 0]), (m0, oC 13 [.ref m1, .ref m2, .int 0, .ref m3, .ref m4, .int 0, .int 0, .int 0, .int (-1), .int 0, .int 0, .int 0, .long 0, .ref m5, .ref m6, .int 0, .int 0]), (m1, aI Y 3640 (clB 0 (fun _ => 0))), (o0, aJ Y 1 (fun _ => 0))] rfl ?_
    refine V_istore 1572 B (lv2 := [(5, .int 1), (4, .int 0), (3, .ref o0), (2, .ref m0), (1, .ref x0), (0, .ref b)]) dL_law_1572 (by decide) rfl ?_
    refine V_aload_n 1574 B dL_law_1574 3 rfl ?_
    refine V_aload_n 1575 B dL_law_1575 5 rfl ?_
    refine V_iload 1576 B dL_law_1576 1 rfl ?_
    refine V_iconst 1578 B (v := 1) dL_law_1578 (by decide +kernel) ?_
    refine V_iadd 1579 B (v := 1) dL_law_1579 (by decide +kernel) ?_
    refine V_sld 1580 B hX hbl hbA (v := p1) (vpin _ _ (by decide +kernel)) dL_law_1580 e1 ?_
    refine V_cvi 1581 B (st := []) (As := [.int p1]) (fun sz => mX12_continuations_1 l D Y (m0) (m1) (m2) (m3) (m4) (m5) (m6) (p1) sz) glV_RL_248 ⟨rfl, rfl⟩ ⟨(Nat.le_of_ble_eq_true rfl), (Nat.le_of_ble_eq_true rfl)⟩ ⟨(Nat.le_of_ble_eq_true rfl), (Nat.le_of_ble_eq_true rfl)⟩ [9, 0] rfl 13 0 rfl rfl rfl rfl (Nat.le_of_ble_eq_true rfl) rfl (fun _ u _ => by
        first | rfl | (split <;> rfl) | (dsimp only; split <;> rfl)) dL_law_1581 (fun r5 u5 w5 => ?_)
    rcases w5 with ⟨rfl, k6, rfl⟩ | ⟨rfl, k7, rfl⟩ | ⟨rfl, k8, rfl⟩
    ·
      refine V_ws [(x0, oC 12 [.ref x1, .ref x30, .ref x59, .ref x88, .ref x117, .ref x126, .ref x127, .ref x129, .ref x132, .long 0]), (x1, oC 2 [.ref x2, .ref x4, .ref x6, .ref x8, .ref x10, .ref x12, .ref x14, .ref x16, .ref x18, .ref x20, .ref x27, .int 0]), (x2, oC 3 [.ref x3, .int 1]), (x3, aI Y 6 (upd (fun _ => 0) 0 (-1))), (x12, oC 3 [.ref x13, .int 0]), (x117, oC 11 [.ref x1, .ref x118, .ref x120, .ref x122, .ref x124]), (x118, oC 3 [.ref x119, .int 0]), (x119, aI Y 6 (fun _ => 0)), (x120, oC 3 [.ref x121, .int 0]), (m0, oC 13 [.ref m1, .ref m2, .int 0, .ref m3, .ref m4, .int 0, .int 0, .int 0, .int (-1), .int 0, .int 0, .int 0, .long 0, .ref m5, .ref m6, .int 0, .int 0]), (m1, aI Y 3640 (clB 0 (fun _ => 0))), (o0, aJ Y 1 (fun _ => 0))] rfl ?_
      exact absurd k6 (q_neh (b_lt k1 (n := (-1)) (by decide +kernel)) (by decide +kernel))
    ·
      refine V_ws [(x0, oC 12 [.ref x1, .ref x30, .ref x59, .ref x88, .ref x117, .ref x126, .ref x127, .ref x129, .ref x132, .long 0]), (x1, oC 2 [.ref x2, .ref x4, .ref x6, .ref x8, .ref x10, .ref x12, .ref x14, .ref x16, .ref x18, .ref x20, .ref x27, .int 0]), (x2, oC 3 [.ref x3, .int 1]), (x3, aI Y 6 (upd (fun _ => 0) 0 (-1))), (x12, oC 3 [.ref x13, .int 0]), (x117, oC 11 [.ref x1, .ref x118, .ref x120, .ref x122, .ref x124]), (x118, oC 3 [.ref x119, .int 0]), (x119, aI Y 6 (fun _ => 0)), (x120, oC 3 [.ref x121, .int 0]), (m0, oC 13 [.ref m1, .ref m2, .int 1, .ref m3, .ref m4, .int 0, .int 0, .int 0, .int (-1), .int 0, .int 0, .int 0, .long 0, .ref m5, .ref m6, .int 0, .int 0]), (m1, aI Y 3640 (clB 0 (fun _ => 0))), (o0, aJ Y 1 (fun _ => 0))] rfl ?_
      refine V_istore 1584 B (lv2 := [(6, .int 0), (5, .int 1), (4, .int 0), (3, .ref o0), (2, .ref m0), (1, .ref x0), (0, .ref b)]) dL_law_1584 (by decide) rfl ?_
      refine V_aload_n 1586 B dL_law_1586 4 rfl ?_
      refine V_cvi 1587 B (st := []) (As := []) (fun sz => mX12_thrown_2 l D Y (m0) (m1) (m2) (m3) (m4) (m5) (m6) sz) glV_RL_182 ⟨rfl, rfl⟩ ⟨(Nat.le_of_ble_eq_true rfl), (Nat.le_of_ble_eq_true rfl)⟩ ⟨(Nat.le_of_ble_eq_true rfl), (Nat.le_of_ble_eq_true rfl)⟩ [9] rfl 13 0 rfl rfl rfl rfl (Nat.le_of_ble_eq_true rfl) rfl (fun _ _ _ => rfl) dL_law_1587 (fun r9 u9 w9 => ?_)
      obtain rfl := w9
      refine V_ws [(x0, oC 12 [.ref x1, .ref x30, .ref x59, .ref x88, .ref x117, .ref x126, .ref x127, .ref x129, .ref x132, .long 0]), (x1, oC 2 [.ref x2, .ref x4, .ref x6, .ref x8, .ref x10, .ref x12, .ref x14, .ref x16, .ref x18, .ref x20, .ref x27, .int 0]), (x2, oC 3 [.ref x3, .int 1]), (x3, aI Y 6 (upd (fun _ => 0) 0 (-1))), (x12, oC 3 [.ref x13, .int 0]), (x117, oC 11 [.ref x1, .ref x118, .ref x120, .ref x122, .ref x124]), (x118, oC 3 [.ref x119, .int 0]), (x119, aI Y 6 (fun _ => 0)), (x120, oC 3 [.ref x121, .int 0]), (m0, oC 13 [.ref m1, .ref m2, .int 1, .ref m3, .ref m4, .int 0, .int 0, .int 0, .int (-1), .int 0, .int 0, .int 0, .long 0, .ref m5, .ref m6, .int 0, .int 0]), (m1, aI Y 3640 (clB 0 (fun _ => 0))), (o0, aJ Y 1 (fun _ => 0))] rfl ?_
      refine V_iload 1590 B dL_law_1590 1 rfl ?_
      refine V_icmp_eq_t 1592 B 1597 dL_law_1592 (by decide) (by decide +kernel) ?_
      refine V_iload 1597 B dL_law_1597 1 rfl ?_
      refine V_if_ne_t 1599 B 1614 dL_law_1599 (by decide) (by decide +kernel) ?_
      refine V_goto 1614 B 3332 dL_law_1614 (by decide) ?_
      refine V_iinc 3332 B (v := 6) (lv2 := [(4, .int 6), (6, .int 0), (5, .int 1), (3, .ref o0), (2, .ref m0), (1, .ref x0), (0, .ref b)]) dL_law_3332 2 rfl (by decide +kernel) (by decide) rfl ?_
      refine V_goto 3335 B 23 dL_law_3335 (by decide) ?_
      refine V_iload 23 B dL_law_23 0 rfl ?_
      refine V_aload_n 25 B dL_law_25 6 rfl ?_
      refine V_slen 26 B hX hbl hbA (v := 6) (by decide +kernel) dL_law_26 ?_
      refine V_bipush 27 B (v := 6) dL_law_27 (by decide +kernel) ?_
      refine V_isub 29 B (v := 0) dL_law_29 (by decide +kernel) ?_
      refine V_icmp_gt_t 30 B 3338 dL_law_30 (by decide) (by decide +kernel) ?_
      exact law_end B (Nat.le_of_ble_eq_true rfl) (Nat.le_of_ble_eq_true rfl) dL_law_3338 dL_law_3339
    ·
      refine V_ws [(x0, oC 12 [.ref x1, .ref x30, .ref x59, .ref x88, .ref x117, .ref x126, .ref x127, .ref x129, .ref x132, .long 0]), (x1, oC 2 [.ref x2, .ref x4, .ref x6, .ref x8, .ref x10, .ref x12, .ref x14, .ref x16, .ref x18, .ref x20, .ref x27, .int 0]), (x2, oC 3 [.ref x3, .int 1]), (x3, aI Y 6 (upd (fun _ => 0) 0 (-1))), (x12, oC 3 [.ref x13, .int 0]), (x117, oC 11 [.ref x1, .ref x118, .ref x120, .ref x122, .ref x124]), (x118, oC 3 [.ref x119, .int 0]), (x119, aI Y 6 (fun _ => 0)), (x120, oC 3 [.ref x121, .int 0]), (m0, oC 13 [.ref m1, .ref m2, .int 1, .ref m3, .ref m4, .int 0, .int 0, .int 0, .int (-1), .int 0, .int 0, .int 0, .long 0, .ref m5, .ref m6, .int 0, .int 0]), (m1, aI Y 3640 (clB 0 (fun _ => 0))), (o0, aJ Y 1 (fun _ => 0))] rfl ?_
      exact (q_abs (b_gt k8 (n := 1) (by decide +kernel)) (b_lt k1 (n := (-1)) (by decide +kernel)) (by decide +kernel)).elim
  ·
    refine V_ws [(x0, oC 12 [.ref x1, .ref x30, .ref x59, .ref x88, .ref x117, .ref x126, .ref x127, .ref x129, .ref x132, .long 0]), (x1, oC 2 [.ref x2, .ref x4, .ref x6, .ref x8, .ref x10, .ref x12, .ref x14, .ref x16, .ref x18, .ref x20, .ref x27, .int 0]), (x2, oC 3 [.ref x3, .int 1]), (x3, aI Y 6 (upd (fun _ => 0) 0 (-1))), (x12, oC 3 [.ref x13, .int 0]), (x117, oC 11 [.ref x1, .ref x118, .ref x120, .ref x122, .ref x124]), (x118, oC 3 [.ref x119, .int 0]), (x119, aI Y 6 (fun _ => 0)), (x120, oC 3 [.ref x121, .int 0]), (m0, oC 13 [.ref m1, .ref m2, .int 0, .ref m3, .ref m4, .int 0, .int 0, .int 0, .int (-1), .int 0, .int 0, .int 0, .long 0, .ref m5, .ref m6, .int 0, .int 0]), (m1, aI Y 3640 (clB 0 (fun _ => 0))), (o0, aJ Y 1 (fun _ => 0))] rfl ?_
    refine V_istore 1572 B (lv2 := [(5, .int 1), (4, .int 0), (3, .ref o0), (2, .ref m0), (1, .ref x0), (0, .ref b)]) dL_law_1572 (by decide) rfl ?_
    refine V_aload_n 1574 B dL_law_1574 3 rfl ?_
    refine V_aload_n 1575 B dL_law_1575 5 rfl ?_
    refine V_iload 1576 B dL_law_1576 1 rfl ?_
    refine V_iconst 1578 B (v := 1) dL_law_1578 (by decide +kernel) ?_
    refine V_iadd 1579 B (v := 1) dL_law_1579 (by decide +kernel) ?_
    refine V_sld 1580 B hX hbl hbA (v := p1) (vpin _ _ (by decide +kernel)) dL_law_1580 e1 ?_
    refine V_cvi 1581 B (st := []) (As := [.int p1]) (fun sz => mX12_continuations_1 l D Y (m0) (m1) (m2) (m3) (m4) (m5) (m6) (p1) sz) glV_RL_248 ⟨rfl, rfl⟩ ⟨(Nat.le_of_ble_eq_true rfl), (Nat.le_of_ble_eq_true rfl)⟩ ⟨(Nat.le_of_ble_eq_true rfl), (Nat.le_of_ble_eq_true rfl)⟩ [9, 0] rfl 13 0 rfl rfl rfl rfl (Nat.le_of_ble_eq_true rfl) rfl (fun _ u _ => by
        first | rfl | (split <;> rfl) | (dsimp only; split <;> rfl)) dL_law_1581 (fun r10 u10 w10 => ?_)
    rcases w10 with ⟨rfl, k11, rfl⟩ | ⟨rfl, k12, rfl⟩ | ⟨rfl, k13, rfl⟩
    ·
      refine V_ws [(x0, oC 12 [.ref x1, .ref x30, .ref x59, .ref x88, .ref x117, .ref x126, .ref x127, .ref x129, .ref x132, .long 0]), (x1, oC 2 [.ref x2, .ref x4, .ref x6, .ref x8, .ref x10, .ref x12, .ref x14, .ref x16, .ref x18, .ref x20, .ref x27, .int 0]), (x2, oC 3 [.ref x3, .int 1]), (x3, aI Y 6 (upd (fun _ => 0) 0 (-1))), (x12, oC 3 [.ref x13, .int 0]), (x117, oC 11 [.ref x1, .ref x118, .ref x120, .ref x122, .ref x124]), (x118, oC 3 [.ref x119, .int 0]), (x119, aI Y 6 (fun _ => 0)), (x120, oC 3 [.ref x121, .int 0]), (m0, oC 13 [.ref m1, .ref m2, .int 0, .ref m3, .ref m4, .int 0, .int 0, .int 0, .int (-1), .int 0, .int 0, .int 0, .long 0, .ref m5, .ref m6, .int 0, .int 0]), (m1, aI Y 3640 (clB 0 (fun _ => 0))), (o0, aJ Y 1 (fun _ => 0))] rfl ?_
      exact absurd k11 (q_nel (b_ge k3 (n := 1) (by decide +kernel)) (by decide +kernel))
    ·
      refine V_ws [(x0, oC 12 [.ref x1, .ref x30, .ref x59, .ref x88, .ref x117, .ref x126, .ref x127, .ref x129, .ref x132, .long 0]), (x1, oC 2 [.ref x2, .ref x4, .ref x6, .ref x8, .ref x10, .ref x12, .ref x14, .ref x16, .ref x18, .ref x20, .ref x27, .int 0]), (x2, oC 3 [.ref x3, .int 1]), (x3, aI Y 6 (upd (fun _ => 0) 0 (-1))), (x12, oC 3 [.ref x13, .int 0]), (x117, oC 11 [.ref x1, .ref x118, .ref x120, .ref x122, .ref x124]), (x118, oC 3 [.ref x119, .int 0]), (x119, aI Y 6 (fun _ => 0)), (x120, oC 3 [.ref x121, .int 0]), (m0, oC 13 [.ref m1, .ref m2, .int 1, .ref m3, .ref m4, .int 0, .int 0, .int 0, .int (-1), .int 0, .int 0, .int 0, .long 0, .ref m5, .ref m6, .int 0, .int 0]), (m1, aI Y 3640 (clB 0 (fun _ => 0))), (o0, aJ Y 1 (fun _ => 0))] rfl ?_
      exact (q_abs (b_ge k3 (n := 1) (by decide +kernel)) (b_lt k12 (n := (-1)) (by decide +kernel)) (by decide +kernel)).elim
    ·
      refine V_ws [(x0, oC 12 [.ref x1, .ref x30, .ref x59, .ref x88, .ref x117, .ref x126, .ref x127, .ref x129, .ref x132, .long 0]), (x1, oC 2 [.ref x2, .ref x4, .ref x6, .ref x8, .ref x10, .ref x12, .ref x14, .ref x16, .ref x18, .ref x20, .ref x27, .int 0]), (x2, oC 3 [.ref x3, .int 1]), (x3, aI Y 6 (upd (fun _ => 0) 0 (-1))), (x12, oC 3 [.ref x13, .int 0]), (x117, oC 11 [.ref x1, .ref x118, .ref x120, .ref x122, .ref x124]), (x118, oC 3 [.ref x119, .int 0]), (x119, aI Y 6 (fun _ => 0)), (x120, oC 3 [.ref x121, .int 0]), (m0, oC 13 [.ref m1, .ref m2, .int 1, .ref m3, .ref m4, .int 0, .int 0, .int 0, .int (-1), .int 0, .int 0, .int 0, .long 0, .ref m5, .ref m6, .int 0, .int 0]), (m1, aI Y 3640 (clB 0 (fun _ => 0))), (o0, aJ Y 1 (fun _ => 0))] rfl ?_
      refine V_istore 1584 B (lv2 := [(6, .int 0), (5, .int 1), (4, .int 0), (3, .ref o0), (2, .ref m0), (1, .ref x0), (0, .ref b)]) dL_law_1584 (by decide) rfl ?_
      refine V_aload_n 1586 B dL_law_1586 4 rfl ?_
      refine V_cvi 1587 B (st := []) (As := []) (fun sz => mX12_thrown_2 l D Y (m0) (m1) (m2) (m3) (m4) (m5) (m6) sz) glV_RL_182 ⟨rfl, rfl⟩ ⟨(Nat.le_of_ble_eq_true rfl), (Nat.le_of_ble_eq_true rfl)⟩ ⟨(Nat.le_of_ble_eq_true rfl), (Nat.le_of_ble_eq_true rfl)⟩ [9] rfl 13 0 rfl rfl rfl rfl (Nat.le_of_ble_eq_true rfl) rfl (fun _ _ _ => rfl) dL_law_1587 (fun r14 u14 w14 => ?_)
      obtain rfl := w14
      refine V_ws [(x0, oC 12 [.ref x1, .ref x30, .ref x59, .ref x88, .ref x117, .ref x126, .ref x127, .ref x129, .ref x132, .long 0]), (x1, oC 2 [.ref x2, .ref x4, .ref x6, .ref x8, .ref x10, .ref x12, .ref x14, .ref x16, .ref x18, .ref x20, .ref x27, .int 0]), (x2, oC 3 [.ref x3, .int 1]), (x3, aI Y 6 (upd (fun _ => 0) 0 (-1))), (x12, oC 3 [.ref x13, .int 0]), (x117, oC 11 [.ref x1, .ref x118, .ref x120, .ref x122, .ref x124]), (x118, oC 3 [.ref x119, .int 0]), (x119, aI Y 6 (fun _ => 0)), (x120, oC 3 [.ref x121, .int 0]), (m0, oC 13 [.ref m1, .ref m2, .int 1, .ref m3, .ref m4, .int 0, .int 0, .int 0, .int (-1), .int 0, .int 0, .int 0, .long 0, .ref m5, .ref m6, .int 0, .int 0]), (m1, aI Y 3640 (clB 0 (fun _ => 0))), (o0, aJ Y 1 (fun _ => 0))] rfl ?_
      refine V_iload 1590 B dL_law_1590 1 rfl ?_
      refine V_icmp_eq_t 1592 B 1597 dL_law_1592 (by decide) (by decide +kernel) ?_
      refine V_iload 1597 B dL_law_1597 1 rfl ?_
      refine V_if_ne_t 1599 B 1614 dL_law_1599 (by decide) (by decide +kernel) ?_
      refine V_goto 1614 B 3332 dL_law_1614 (by decide) ?_
      refine V_iinc 3332 B (v := 6) (lv2 := [(4, .int 6), (6, .int 0), (5, .int 1), (3, .ref o0), (2, .ref m0), (1, .ref x0), (0, .ref b)]) dL_law_3332 2 rfl (by decide +kernel) (by decide) rfl ?_
      refine V_goto 3335 B 23 dL_law_3335 (by decide) ?_
      refine V_iload 23 B dL_law_23 0 rfl ?_
      refine V_aload_n 25 B dL_law_25 6 rfl ?_
      refine V_slen 26 B hX hbl hbA (v := 6) (by decide +kernel) dL_law_26 ?_
      refine V_bipush 27 B (v := 6) dL_law_27 (by decide +kernel) ?_
      refine V_isub 29 B (v := 0) dL_law_29 (by decide +kernel) ?_
      refine V_icmp_gt_t 30 B 3338 dL_law_30 (by decide) (by decide +kernel) ?_
      exact law_end B (Nat.le_of_ble_eq_true rfl) (Nat.le_of_ble_eq_true rfl) dL_law_3338 dL_law_3339
  ·
    refine V_ws [(x0, oC 12 [.ref x1, .ref x30, .ref x59, .ref x88, .ref x117, .ref x126, .ref x127, .ref x129, .ref x132, .long 0]), (x1, oC 2 [.ref x2, .ref x4, .ref x6, .ref x8, .ref x10, .ref x12, .ref x14, .ref x16, .ref x18, .ref x20, .ref x27, .int 0]), (x2, oC 3 [.ref x3, .int 1]), (x3, aI Y 6 (upd (fun _ => 0) 0 (-1))), (x12, oC 3 [.ref x13, .int 0]), (x117, oC 11 [.ref x1, .ref x118, .ref x120, .ref x122, .ref x124]), (x118, oC 3 [.ref x119, .int 6]), (x119, aI Y 6 (upd (upd (upd (upd (upd (upd (upd (fun _ => 0) 0 (-1)) 1 (-1)) 2 (-1)) 3 (-1)) 4 (-1)) 5 (-1)) 0 0)), (x120, oC 3 [.ref x121, .int 0]), (m0, oC 13 [.ref m1, .ref m2, .int 0, .ref m3, .ref m4, .int 0, .int 0, .int 0, .int (-1), .int 0, .int 0, .int 0, .long 0, .ref m5, .ref m6, .int 0, .int 0]), (m1, aI Y 3640 (clB 0 (fun _ => 0))), (o0, aJ Y 1 (vp_updL (fun _ => 0) 0 0))] rfl ?_
    obtain rfl : p1 = 0 := k4
    refine V_istore 1572 B (lv2 := [(5, .int 0), (4, .int 0), (3, .ref o0), (2, .ref m0), (1, .ref x0), (0, .ref b)]) dL_law_1572 (by decide) rfl ?_
    refine V_aload_n 1574 B dL_law_1574 3 rfl ?_
    refine V_aload_n 1575 B dL_law_1575 5 rfl ?_
    refine V_iload 1576 B dL_law_1576 1 rfl ?_
    refine V_iconst 1578 B (v := 1) dL_law_1578 (by decide +kernel) ?_
    refine V_iadd 1579 B (v := 1) dL_law_1579 (by decide +kernel) ?_
    refine V_sld 1580 B hX hbl hbA (v := 0) (vpin _ _ (by decide +kernel)) dL_law_1580 e1 ?_
    refine V_cvi 1581 B (st := []) (As := [.int 0]) (fun sz => mX12_continuations_2 l D Y (m0) (m1) (m2) (m3) (m4) (m5) (m6) sz) glV_RL_248 ⟨rfl, rfl⟩ ⟨(Nat.le_of_ble_eq_true rfl), (Nat.le_of_ble_eq_true rfl)⟩ ⟨(Nat.le_of_ble_eq_true rfl), (Nat.le_of_ble_eq_true rfl)⟩ [9, 0] rfl 13 0 rfl rfl rfl rfl (Nat.le_of_ble_eq_true rfl) rfl (fun _ _ _ => rfl) dL_law_1581 (fun r15 u15 w15 => ?_)
    obtain rfl := w15
    refine V_ws [(x0, oC 12 [.ref x1, .ref x30, .ref x59, .ref x88, .ref x117, .ref x126, .ref x127, .ref x129, .ref x132, .long 0]), (x1, oC 2 [.ref x2, .ref x4, .ref x6, .ref x8, .ref x10, .ref x12, .ref x14, .ref x16, .ref x18, .ref x20, .ref x27, .int 0]), (x2, oC 3 [.ref x3, .int 1]), (x3, aI Y 6 (upd (fun _ => 0) 0 (-1))), (x12, oC 3 [.ref x13, .int 0]), (x117, oC 11 [.ref x1, .ref x118, .ref x120, .ref x122, .ref x124]), (x118, oC 3 [.ref x119, .int 6]), (x119, aI Y 6 (upd (upd (upd (upd (upd (upd (upd (fun _ => 0) 0 (-1)) 1 (-1)) 2 (-1)) 3 (-1)) 4 (-1)) 5 (-1)) 0 0)), (x120, oC 3 [.ref x121, .int 0]), (m0, oC 13 [.ref m1, .ref m2, .int 0, .ref m3, .ref m4, .int 0, .int 0, .int 0, .int (-1), .int 0, .int 0, .int 0, .long 0, .ref m5, .ref m6, .int 0, .int 0]), (m1, aI Y 3640 (clB 0 (fun _ => 0))), (o0, aJ Y 1 (vp_updL (fun _ => 0) 0 0))] rfl ?_
    refine V_istore 1584 B (lv2 := [(6, .int 0), (5, .int 0), (4, .int 0), (3, .ref o0), (2, .ref m0), (1, .ref x0), (0, .ref b)]) dL_law_1584 (by decide) rfl ?_
    refine V_aload_n 1586 B dL_law_1586 4 rfl ?_
    refine V_cvi 1587 B (st := []) (As := []) (fun sz => mX12_thrown_1 l D Y (m0) (m1) (m2) (m3) (m4) (m5) (m6) sz) glV_RL_182 ⟨rfl, rfl⟩ ⟨(Nat.le_of_ble_eq_true rfl), (Nat.le_of_ble_eq_true rfl)⟩ ⟨(Nat.le_of_ble_eq_true rfl), (Nat.le_of_ble_eq_true rfl)⟩ [9] rfl 13 0 rfl rfl rfl rfl (Nat.le_of_ble_eq_true rfl) rfl (fun _ _ _ => rfl) dL_law_1587 (fun r16 u16 w16 => ?_)
    obtain rfl := w16
    refine V_ws [(x0, oC 12 [.ref x1, .ref x30, .ref x59, .ref x88, .ref x117, .ref x126, .ref x127, .ref x129, .ref x132, .long 0]), (x1, oC 2 [.ref x2, .ref x4, .ref x6, .ref x8, .ref x10, .ref x12, .ref x14, .ref x16, .ref x18, .ref x20, .ref x27, .int 0]), (x2, oC 3 [.ref x3, .int 1]), (x3, aI Y 6 (upd (fun _ => 0) 0 (-1))), (x12, oC 3 [.ref x13, .int 0]), (x117, oC 11 [.ref x1, .ref x118, .ref x120, .ref x122, .ref x124]), (x118, oC 3 [.ref x119, .int 6]), (x119, aI Y 6 (upd (upd (upd (upd (upd (upd (upd (fun _ => 0) 0 (-1)) 1 (-1)) 2 (-1)) 3 (-1)) 4 (-1)) 5 (-1)) 0 0)), (x120, oC 3 [.ref x121, .int 0]), (m0, oC 13 [.ref m1, .ref m2, .int 0, .ref m3, .ref m4, .int 0, .int 0, .int 0, .int (-1), .int 0, .int 0, .int 0, .long 0, .ref m5, .ref m6, .int 0, .int 0]), (m1, aI Y 3640 (clB 0 (fun _ => 0))), (o0, aJ Y 1 (vp_updL (fun _ => 0) 0 0))] rfl ?_
    refine V_iload 1590 B dL_law_1590 1 rfl ?_
    refine V_icmp_eq_t 1592 B 1597 dL_law_1592 (by decide) (by decide +kernel) ?_
    refine V_iload 1597 B dL_law_1597 1 rfl ?_
    refine V_if_ne_f 1599 B 1614 dL_law_1599 (by decide) (by decide +kernel) ?_
    refine V_aload_n 1602 B dL_law_1602 3 rfl ?_
    refine V_iconst 1603 B (v := 0) dL_law_1603 (by decide +kernel) ?_
    refine V_lald 1604 B (v := 0) 11 rfl (vpin _ _ (by decide +kernel)) dL_law_1604 rfl ?_
    refine V_iload 1605 B dL_law_1605 0 rfl ?_
    refine V_i2l 1607 B (v := 0) dL_law_1607 (by decide +kernel) ?_
    refine V_lcmp 1608 B (v := 0) dL_law_1608 (by decide +kernel) ?_
    refine V_if_eq_t 1609 B 1614 dL_law_1609 (by decide) (by decide +kernel) ?_
    refine V_goto 1614 B 3332 dL_law_1614 (by decide) ?_
    refine V_iinc 3332 B (v := 6) (lv2 := [(4, .int 6), (6, .int 0), (5, .int 0), (3, .ref o0), (2, .ref m0), (1, .ref x0), (0, .ref b)]) dL_law_3332 2 rfl (by decide +kernel) (by decide) rfl ?_
    refine V_goto 3335 B 23 dL_law_3335 (by decide) ?_
    refine V_iload 23 B dL_law_23 0 rfl ?_
    refine V_aload_n 25 B dL_law_25 6 rfl ?_
    refine V_slen 26 B hX hbl hbA (v := 6) (by decide +kernel) dL_law_26 ?_
    refine V_bipush 27 B (v := 6) dL_law_27 (by decide +kernel) ?_
    refine V_isub 29 B (v := 0) dL_law_29 (by decide +kernel) ?_
    refine V_icmp_gt_t 30 B 3338 dL_law_30 (by decide) (by decide +kernel) ?_
    exact law_end B (Nat.le_of_ble_eq_true rfl) (Nat.le_of_ble_eq_true rfl) dL_law_3338 dL_law_3339
theorem dL_visible_0 : decode cL_visible 0 = .ok (.aload_n 2, 1) := by decide +kernel
theorem dL_visible_1 : decode cL_visible 1 = .ok (.iconst 0, 1) := by decide +kernel
theorem dL_visible_2 : decode cL_visible 2 = .ok (.aload_n 0, 1) := by decide +kernel
theorem dL_visible_3 : decode cL_visible 3 = .ok (.iload_n 1, 1) := by decide +kernel
theorem dL_visible_4 : decode cL_visible 4 = .ok (.invokevirtual 69, 3) := by decide +kernel
theorem glV_RL_69 : GLV RL 69 yX11_visible RX11 cX11_visible 2 (some .int) 1 := ⟨⟨(mT6 77 rfl rfl), (mT6 78 rfl rfl), (mT6 79 rfl rfl), (mT1 1 rfl rfl), (mT6 80 rfl rfl)⟩, by decide +kernel⟩
theorem dL_visible_12 : decode cL_visible 12 = .ok (.astore_n 3, 1) := by decide +kernel
theorem dL_visible_13 : decode cL_visible 13 = .ok (.iconst 1, 1) := by decide +kernel
theorem dL_visible_14 : decode cL_visible 14 = .ok (.ireturn, 1) := by decide +kernel
theorem dL_visible_7 : decode cL_visible 7 = .ok (.i2l, 1) := by decide +kernel
theorem dL_visible_8 : decode cL_visible 8 = .ok (.lastore, 1) := by decide +kernel
theorem dL_visible_9 : decode cL_visible 9 = .ok (.goto 6, 3) := by decide +kernel
theorem dL_visible_15 : decode cL_visible 15 = .ok (.iconst 0, 1) := by decide +kernel
theorem dL_visible_16 : decode cL_visible 16 = .ok (.ireturn, 1) := by decide +kernel
set_option maxRecDepth 100000 in
set_option maxHeartbeats 4000000 in
theorem mL_visible_1 (l : Launch) (hl9 : l.stackTraces = false) (D : va_G) (Y : Nat → ClassId) (h0 : Nat) (h9 : Nat) (h1 : Nat) (g0 : Nat) (g1 : Nat) (g2 : Nat) (h5 : Nat) (g3 : Nat) (g4 : Nat) (g5 : Nat) (g6 : Nat) (h2 : Nat) (g7 : Nat) (g8 : Nat) (g9 : Nat) (g10 : Nat) (h4 : Nat) (g11 : Nat) (g12 : Nat) (g13 : Nat) (g14 : Nat) (g15 : Nat) (h3 : Nat) (g16 : Nat) (h6 : Nat) (h8 : Nat) (g17 : Nat) (g18 : Nat) (h7 : Nat) (g19 : Nat) (p0 : Int32) (sz : Nat) : Met l yL_visible (Cond.codeWith yL_visible cL_visible 4 (some .int) [(0, 9, 12, 18)] :: lw_good) (mkR 8 1 6 124) (PreX D Y [.ref h0, .int p0, .ref h9] [(h0, oC 12 [.ref h1, .ref g0, .ref g1, .ref g2, .ref h5, .ref g3, .ref g4, .ref g5, .ref g6, .long 0]), (h1, oC 2 [.ref h2, .ref g7, .ref g8, .ref g9, .ref g10, .ref h4, .ref g11, .ref g12, .ref g13, .ref g14, .ref g15, .int 0]), (h2, oC 3 [.ref h3, .int 1]), (h3, aI Y 6 (upd (fun _ => 0) 0 (-1))), (h4, oC 3 [.ref g16, .int 0]), (h5, oC 11 [.ref h1, .ref h6, .ref h8, .ref g17, .ref g18]), (h6, oC 3 [.ref h7, .int 0]), (h7, aI Y 6 (fun _ => 0)), (h8, oC 3 [.ref g19, .int 0]), (h9, aJ Y 1 (fun _ => 0))] sz) (QI D (fun (r : Int32) (u : Nat) => (u = 0 ∧ p0 < 0 ∧ 1 = r) ∨ (u = 1 ∧ ¬ p0 < 0 ∧ 1 ≤ p0 ∧ 1 = r) ∨ (u = 2 ∧ p0 = 0 ∧ 0 = r)) (fun (u : Nat) => match u with | 0 => [(h0, oC 12 [.ref h1, .ref g0, .ref g1, .ref g2, .ref h5, .ref g3, .ref g4, .ref g5, .ref g6, .long 0]), (h1, oC 2 [.ref h2, .ref g7, .ref g8, .ref g9, .ref g10, .ref h4, .ref g11, .ref g12, .ref g13, .ref g14, .ref g15, .int 0]), (h2, oC 3 [.ref h3, .int 1]), (h3, aI Y 6 (upd (fun _ => 0) 0 (-1))), (h4, oC 3 [.ref g16, .int 0]), (h5, oC 11 [.ref h1, .ref h6, .ref h8, .ref g17, .ref g18]), (h6, oC 3 [.ref h7, .int 0]), (h7, aI Y 6 (fun _ => 0)), (h8, oC 3 [.ref g19, .int 0]), (h9, aJ Y 1 (fun _ => 0))] | 1 => [(h0, oC 12 [.ref h1, .ref g0, .ref g1, .ref g2, .ref h5, .ref g3, .ref g4, .ref g5, .ref g6, .long 0]), (h1, oC 2 [.ref h2, .ref g7, .ref g8, .ref g9, .ref g10, .ref h4, .ref g11, .ref g12, .ref g13, .ref g14, .ref g15, .int 0]), (h2, oC 3 [.ref h3, .int 1]), (h3, aI Y 6 (upd (fun _ => 0) 0 (-1))), (h4, oC 3 [.ref g16, .int 0]), (h5, oC 11 [.ref h1, .ref h6, .ref h8, .ref g17, .ref g18]), (h6, oC 3 [.ref h7, .int 0]), (h7, aI Y 6 (fun _ => 0)), (h8, oC 3 [.ref g19, .int 0]), (h9, aJ Y 1 (fun _ => 0))] | _ => [(h0, oC 12 [.ref h1, .ref g0, .ref g1, .ref g2, .ref h5, .ref g3, .ref g4, .ref g5, .ref g6, .long 0]), (h1, oC 2 [.ref h2, .ref g7, .ref g8, .ref g9, .ref g10, .ref h4, .ref g11, .ref g12, .ref g13, .ref g14, .ref g15, .int 0]), (h2, oC 3 [.ref h3, .int 1]), (h3, aI Y 6 (upd (fun _ => 0) 0 (-1))), (h4, oC 3 [.ref g16, .int 0]), (h5, oC 11 [.ref h1, .ref h6, .ref h8, .ref g17, .ref g18]), (h6, oC 3 [.ref h7, .int 6]), (h7, aI Y 6 (upd (upd (upd (upd (upd (upd (upd (fun _ => 0) 0 (-1)) 1 (-1)) 2 (-1)) 3 (-1)) 4 (-1)) 5 (-1)) 0 0)), (h8, oC 3 [.ref g19, .int 0]), (h9, aJ Y 1 (vp_updL (fun _ => 0) 0 0))]) (va_A [(h0, oC 12 [.ref h1, .ref g0, .ref g1, .ref g2, .ref h5, .ref g3, .ref g4, .ref g5, .ref g6, .long 0]), (h1, oC 2 [.ref h2, .ref g7, .ref g8, .ref g9, .ref g10, .ref h4, .ref g11, .ref g12, .ref g13, .ref g14, .ref g15, .int 0]), (h2, oC 3 [.ref h3, .int 1]), (h3, aI Y 6 (upd (fun _ => 0) 0 (-1))), (h4, oC 3 [.ref g16, .int 0]), (h5, oC 11 [.ref h1, .ref h6, .ref h8, .ref g17, .ref g18]), (h6, oC 3 [.ref h7, .int 0]), (h7, aI Y 6 (fun _ => 0)), (h8, oC 3 [.ref g19, .int 0]), (h9, aJ Y 1 (fun _ => 0))] sz)) 1 6 (va_A [(h0, oC 12 [.ref h1, .ref g0, .ref g1, .ref g2, .ref h5, .ref g3, .ref g4, .ref g5, .ref g6, .long 0]), (h1, oC 2 [.ref h2, .ref g7, .ref g8, .ref g9, .ref g10, .ref h4, .ref g11, .ref g12, .ref g13, .ref g14, .ref g15, .int 0]), (h2, oC 3 [.ref h3, .int 1]), (h3, aI Y 6 (upd (fun _ => 0) 0 (-1))), (h4, oC 3 [.ref g16, .int 0]), (h5, oC 11 [.ref h1, .ref h6, .ref h8, .ref g17, .ref g18]), (h6, oC 3 [.ref h7, .int 0]), (h7, aI Y 6 (fun _ => 0)), (h8, oC 3 [.ref g19, .int 0]), (h9, aJ Y 1 (fun _ => 0))] sz) :=
  metH_of (by decide +kernel) (Nat.le_of_ble_eq_true rfl) (fun p e s m args below meth c B EB htab hsz => by
    have B : VB p s m args meth c D Y (va_A [(h0, oC 12 [.ref h1, .ref g0, .ref g1, .ref g2, .ref h5, .ref g3, .ref g4, .ref g5, .ref g6, .long 0]), (h1, oC 2 [.ref h2, .ref g7, .ref g8, .ref g9, .ref g10, .ref h4, .ref g11, .ref g12, .ref g13, .ref g14, .ref g15, .int 0]), (h2, oC 3 [.ref h3, .int 1]), (h3, aI Y 6 (upd (fun _ => 0) 0 (-1))), (h4, oC 3 [.ref g16, .int 0]), (h5, oC 11 [.ref h1, .ref h6, .ref h8, .ref g17, .ref g18]), (h6, oC 3 [.ref h7, .int 0]), (h7, aI Y 6 (fun _ => 0)), (h8, oC 3 [.ref g19, .int 0]), (h9, aJ Y 1 (fun _ => 0))] sz) cL_visible 4 RL (some .int) := B
    refine V_aload_n 0 B dL_visible_0 2 rfl ?_
    refine V_iconst 1 B (v := 0) dL_visible_1 (by decide +kernel) ?_
    refine V_aload_n 2 B dL_visible_2 0 rfl ?_
    refine V_iload_n 3 B dL_visible_3 1 rfl ?_
    refine V_xvi 4 B EB (st := [.int 0, .ref h9]) (As := [.int p0]) (fun sz => mX11_visible_1 l hl9 D Y (h0) (h1) (g0) (g1) (g2) (h5) (g3) (g4) (g5) (g6) (h2) (g7) (g8) (g9) (g10) (h4) (g11) (g12) (g13) (g14) (g15) (h3) (g16) (h6) (h8) (g17) (g18) (h7) (g19) (p0) sz) glV_RL_69 ⟨rfl, rfl⟩ ⟨(Nat.le_of_ble_eq_true rfl), (Nat.le_of_ble_eq_true rfl)⟩ ⟨(Nat.le_of_ble_eq_true rfl), (Nat.le_of_ble_eq_true rfl)⟩ [0, 0, 0, 0, 0, 0, 0, 0, 0] rfl 12 0 rfl rfl rfl rfl (Nat.le_of_ble_eq_true rfl) rfl (fun _ _ _ => rfl) (fun _ _ _ => rfl) dL_visible_4 (fun E u0 w0 => ?_) (fun r0 u0 w0 => ?_)
    ·
      rcases w0 with ⟨rfl, k1⟩ | ⟨rfl, k2, k3⟩
      ·
        refine VX_catch 4 B htab [] (0, 9, 12, 18) [] rfl "java/lang/IndexOutOfBoundsException" (fun z hz => nomatch hz) rfl (by decide) (mT5 103 rfl rfl) (EB.2.2.2.1 _ (List.mem_of_getElem? (i := 1) rfl)) 12 rfl (fun q9 => ?_)
        refine V_ws [(h0, oC 12 [.ref h1, .ref g0, .ref g1, .ref g2, .ref h5, .ref g3, .ref g4, .ref g5, .ref g6, .long 0]), (h1, oC 2 [.ref h2, .ref g7, .ref g8, .ref g9, .ref g10, .ref h4, .ref g11, .ref g12, .ref g13, .ref g14, .ref g15, .int 0]), (h2, oC 3 [.ref h3, .int 1]), (h3, aI Y 6 (upd (fun _ => 0) 0 (-1))), (h4, oC 3 [.ref g16, .int 0]), (h5, oC 11 [.ref h1, .ref h6, .ref h8, .ref g17, .ref g18]), (h6, oC 3 [.ref h7, .int 0]), (h7, aI Y 6 (fun _ => 0)), (h8, oC 3 [.ref g19, .int 0]), (h9, aJ Y 1 (fun _ => 0))] rfl ?_
        refine V_astore_n 12 B (lv2 := [(3, .ref q9), (0, .ref h0), (1, .int p0), (2, .ref h9)]) dL_visible_12 (by decide) rfl ?_
        refine V_iconst 13 B (v := 1) dL_visible_13 (by decide +kernel) ?_
        exact V_iret 14 B dL_visible_14 0 (Or.inl ⟨rfl, k1, rfl⟩) rfl
      ·
        refine VX_catch 4 B htab [] (0, 9, 12, 18) [] rfl "java/lang/IndexOutOfBoundsException" (fun z hz => nomatch hz) rfl (by decide) (mT5 103 rfl rfl) (EB.2.2.2.1 _ (List.mem_of_getElem? (i := 1) rfl)) 12 rfl (fun q9 => ?_)
        refine V_ws [(h0, oC 12 [.ref h1, .ref g0, .ref g1, .ref g2, .ref h5, .ref g3, .ref g4, .ref g5, .ref g6, .long 0]), (h1, oC 2 [.ref h2, .ref g7, .ref g8, .ref g9, .ref g10, .ref h4, .ref g11, .ref g12, .ref g13, .ref g14, .ref g15, .int 0]), (h2, oC 3 [.ref h3, .int 1]), (h3, aI Y 6 (upd (fun _ => 0) 0 (-1))), (h4, oC 3 [.ref g16, .int 0]), (h5, oC 11 [.ref h1, .ref h6, .ref h8, .ref g17, .ref g18]), (h6, oC 3 [.ref h7, .int 0]), (h7, aI Y 6 (fun _ => 0)), (h8, oC 3 [.ref g19, .int 0]), (h9, aJ Y 1 (fun _ => 0))] rfl ?_
        refine V_astore_n 12 B (lv2 := [(3, .ref q9), (0, .ref h0), (1, .int p0), (2, .ref h9)]) dL_visible_12 (by decide) rfl ?_
        refine V_iconst 13 B (v := 1) dL_visible_13 (by decide +kernel) ?_
        exact V_iret 14 B dL_visible_14 1 (Or.inr (Or.inl ⟨rfl, k2, k3, rfl⟩)) rfl
    ·
      obtain ⟨k4, rfl⟩ := w0
      refine V_ws [(h0, oC 12 [.ref h1, .ref g0, .ref g1, .ref g2, .ref h5, .ref g3, .ref g4, .ref g5, .ref g6, .long 0]), (h1, oC 2 [.ref h2, .ref g7, .ref g8, .ref g9, .ref g10, .ref h4, .ref g11, .ref g12, .ref g13, .ref g14, .ref g15, .int 0]), (h2, oC 3 [.ref h3, .int 1]), (h3, aI Y 6 (upd (fun _ => 0) 0 (-1))), (h4, oC 3 [.ref g16, .int 0]), (h5, oC 11 [.ref h1, .ref h6, .ref h8, .ref g17, .ref g18]), (h6, oC 3 [.ref h7, .int 6]), (h7, aI Y 6 (upd (upd (upd (upd (upd (upd (upd (fun _ => 0) 0 (-1)) 1 (-1)) 2 (-1)) 3 (-1)) 4 (-1)) 5 (-1)) 0 0)), (h8, oC 3 [.ref g19, .int 0]), (h9, aJ Y 1 (fun _ => 0))] rfl ?_
      obtain rfl : p0 = 0 := k4
      refine V_i2l 7 B (v := 0) dL_visible_7 (by decide +kernel) ?_
      refine V_last 8 B 9 rfl (vpin _ _ (by decide +kernel)) dL_visible_8 [(h0, oC 12 [.ref h1, .ref g0, .ref g1, .ref g2, .ref h5, .ref g3, .ref g4, .ref g5, .ref g6, .long 0]), (h1, oC 2 [.ref h2, .ref g7, .ref g8, .ref g9, .ref g10, .ref h4, .ref g11, .ref g12, .ref g13, .ref g14, .ref g15, .int 0]), (h2, oC 3 [.ref h3, .int 1]), (h3, aI Y 6 (upd (fun _ => 0) 0 (-1))), (h4, oC 3 [.ref g16, .int 0]), (h5, oC 11 [.ref h1, .ref h6, .ref h8, .ref g17, .ref g18]), (h6, oC 3 [.ref h7, .int 6]), (h7, aI Y 6 (upd (upd (upd (upd (upd (upd (upd (fun _ => 0) 0 (-1)) 1 (-1)) 2 (-1)) 3 (-1)) 4 (-1)) 5 (-1)) 0 0)), (h8, oC 3 [.ref g19, .int 0]), (h9, aJ Y 1 (vp_updL (fun _ => 0) 0 0))] rfl ?_
      refine V_goto 9 B 15 dL_visible_9 (by decide) ?_
      refine V_iconst 15 B (v := 0) dL_visible_15 (by decide +kernel) ?_
      exact V_iret 16 B dL_visible_16 2 (Or.inr (Or.inr ⟨rfl, rfl, rfl⟩)) rfl)
set_option maxRecDepth 100000 in
set_option maxHeartbeats 4000000 in
theorem mX12_visible_2 (l : Launch) (D : va_G) (Y : Nat → ClassId) (h0 : Nat) (h1 : Nat) (g0 : Nat) (g1 : Nat) (g2 : Nat) (g3 : Nat) (g4 : Nat) (sz : Nat) : Met l yX12_visible (WSm yX12_visible cX12_visible 2 (some .int)) (mkR 2 0 0 46) (PreC D Y [.ref h0, .int 0] [(h0, oC 13 [.ref h1, .ref g0, .int 0, .ref g1, .ref g2, .int 0, .int 0, .int 0, .int (-1), .int 0, .int 0, .int 0, .long 0, .ref g3, .ref g4, .int 0, .int 0]), (h1, aI Y 3640 (clB 0 (fun _ => 0)))] sz) (QI D (fun (r : Int32) (u : Unit) => 0 = r) (fun (_ : Unit) => [(h0, oC 13 [.ref h1, .ref g0, .int 0, .ref g1, .ref g2, .int 0, .int 0, .int 0, .int (-1), .int 0, .int 0, .int 0, .long 0, .ref g3, .ref g4, .int 0, .int 0]), (h1, aI Y 3640 (clB 0 (fun _ => 0)))]) (va_A [(h0, oC 13 [.ref h1, .ref g0, .int 0, .ref g1, .ref g2, .int 0, .int 0, .int 0, .int (-1), .int 0, .int 0, .int 0, .long 0, .ref g3, .ref g4, .int 0, .int 0]), (h1, aI Y 3640 (clB 0 (fun _ => 0)))] sz)) 0 0 (va_A [(h0, oC 13 [.ref h1, .ref g0, .int 0, .ref g1, .ref g2, .int 0, .int 0, .int 0, .int (-1), .int 0, .int 0, .int 0, .long 0, .ref g3, .ref g4, .int 0, .int 0]), (h1, aI Y 3640 (clB 0 (fun _ => 0)))] sz) :=
  met_of (by decide +kernel) (Nat.le_of_ble_eq_true rfl) (fun p e s m args below meth c B hin hsz => by
    have B : VB p s m args meth c D Y (va_A [(h0, oC 13 [.ref h1, .ref g0, .int 0, .ref g1, .ref g2, .int 0, .int 0, .int 0, .int (-1), .int 0, .int 0, .int 0, .long 0, .ref g3, .ref g4, .int 0, .int 0]), (h1, aI Y 3640 (clB 0 (fun _ => 0)))] sz) cX12_visible 2 RX12 (some .int) := B
    refine V_aload_n 0 B dX12_visible_0 0 rfl ?_
    refine V_iconst 1 B (v := 0) dX12_visible_1 (by decide +kernel) ?_
    refine V_put 2 B gp_RX12_38 0 rfl (Nat.le_of_ble_eq_true rfl) rfl rfl dX12_visible_2 [(h0, oC 13 [.ref h1, .ref g0, .int 0, .ref g1, .ref g2, .int 0, .int 0, .int 0, .int (-1), .int 0, .int 0, .int 0, .long 0, .ref g3, .ref g4, .int 0, .int 0]), (h1, aI Y 3640 (clB 0 (fun _ => 0)))] rfl ?_
    refine V_aload_n 5 B dX12_visible_5 0 rfl ?_
    refine V_aload_n 6 B dX12_visible_6 0 rfl ?_
    refine V_iload_n 7 B dX12_visible_7 1 rfl ?_
    refine V_cvi 8 B (st := [.ref h0]) (As := [.int 0]) (fun sz => mX12_isMode_2 l D Y (h0) (h1) (g0) (g1) (g2) (g3) (g4) sz) glV_RX12_91 ⟨rfl, rfl⟩ ⟨(Nat.le_of_ble_eq_true rfl), (Nat.le_of_ble_eq_true rfl)⟩ ⟨(Nat.le_of_ble_eq_true rfl), (Nat.le_of_ble_eq_true rfl)⟩ [0, 0] rfl 13 0 rfl rfl rfl rfl (Nat.le_of_ble_eq_true rfl) rfl (fun _ _ _ => rfl) dX12_visible_8 (fun r0 u0 w0 => ?_)
    obtain rfl := w0
    refine V_ws [(h0, oC 13 [.ref h1, .ref g0, .int 0, .ref g1, .ref g2, .int 0, .int 0, .int 0, .int (-1), .int 0, .int 0, .int 0, .long 0, .ref g3, .ref g4, .int 0, .int 0]), (h1, aI Y 3640 (clB 0 (fun _ => 0)))] rfl ?_
    refine V_if_ne_t 11 B 18 dX12_visible_11 (by decide) (by decide +kernel) ?_
    refine V_iconst 18 B (v := 0) dX12_visible_18 (by decide +kernel) ?_
    refine V_iconst 19 B (v := 1) dX12_visible_19 (by decide +kernel) ?_
    refine V_cvi 20 B (st := []) (As := [.int 0, .int 1]) (fun sz => mX12_throwsIf_2 l D Y (h0) (h1) (g0) (g1) (g2) (g3) (g4) sz) glV_RX12_69 ⟨rfl, rfl⟩ ⟨(Nat.le_of_ble_eq_true rfl), (Nat.le_of_ble_eq_true rfl)⟩ ⟨(Nat.le_of_ble_eq_true rfl), (Nat.le_of_ble_eq_true rfl)⟩ [0] rfl 13 0 rfl rfl rfl rfl (Nat.le_of_ble_eq_true rfl) rfl (fun _ _ _ => rfl) dX12_visible_20 (fun r1 u1 w1 => ?_)
    obtain rfl := w1
    refine V_ws [(h0, oC 13 [.ref h1, .ref g0, .int 0, .ref g1, .ref g2, .int 0, .int 0, .int 0, .int (-1), .int 0, .int 0, .int 0, .long 0, .ref g3, .ref g4, .int 0, .int 0]), (h1, aI Y 3640 (clB 0 (fun _ => 0)))] rfl ?_
    refine V_if_eq_t 23 B 30 dX12_visible_23 (by decide) (by decide +kernel) ?_
    refine V_aload_n 30 B dX12_visible_30 0 rfl ?_
    refine V_iload_n 31 B dX12_visible_31 1 rfl ?_
    refine V_cvi 32 B (st := []) (As := [.int 0]) (fun sz => mX12_visibleCount_1 l D Y (h0) (h1) (g0) (g1) (g2) (g3) (g4) sz) glV_RX12_163 ⟨rfl, rfl⟩ ⟨(Nat.le_of_ble_eq_true rfl), (Nat.le_of_ble_eq_true rfl)⟩ ⟨(Nat.le_of_ble_eq_true rfl), (Nat.le_of_ble_eq_true rfl)⟩ [0, 0] rfl 13 0 rfl rfl rfl rfl (Nat.le_of_ble_eq_true rfl) rfl (fun _ _ _ => rfl) dX12_visible_32 (fun r2 u2 w2 => ?_)
    obtain rfl := w2
    refine V_ws [(h0, oC 13 [.ref h1, .ref g0, .int 0, .ref g1, .ref g2, .int 0, .int 0, .int 0, .int (-1), .int 0, .int 0, .int 0, .long 0, .ref g3, .ref g4, .int 0, .int 0]), (h1, aI Y 3640 (clB 0 (fun _ => 0)))] rfl ?_
    exact V_iret 35 B dX12_visible_35 () rfl rfl)
theorem dL_law_1617 : decode cL_law 1617 = .ok (.aload_n 1, 1) := by decide +kernel
theorem dL_law_1618 : decode cL_law 1618 = .ok (.aload_n 0, 1) := by decide +kernel
theorem dL_law_1619 : decode cL_law 1619 = .ok (.iload 4, 2) := by decide +kernel
theorem dL_law_1621 : decode cL_law 1621 = .ok (.iconst 1, 1) := by decide +kernel
theorem dL_law_1622 : decode cL_law 1622 = .ok (.iadd, 1) := by decide +kernel
theorem dL_law_1623 : decode cL_law 1623 = .ok (.iaload, 1) := by decide +kernel
theorem dL_law_1624 : decode cL_law 1624 = .ok (.aload_n 3, 1) := by decide +kernel
theorem dL_law_1625 : decode cL_law 1625 = .ok (.invokestatic 249, 3) := by decide +kernel
theorem glH_RL_249 : GLH RL 249 yL_visible cL_visible 4 (some .int) [(0, 9, 12, 18)] 3 := ⟨⟨(mT6 74 rfl rfl), (mT6 75 rfl rfl), (mT1 0 rfl rfl), (mT6 76 rfl rfl)⟩, by decide +kernel⟩
theorem dL_law_1628 : decode cL_law 1628 = .ok (.istore 5, 2) := by decide +kernel
theorem dL_law_1630 : decode cL_law 1630 = .ok (.aload_n 2, 1) := by decide +kernel
theorem dL_law_1631 : decode cL_law 1631 = .ok (.aload_n 0, 1) := by decide +kernel
theorem dL_law_1632 : decode cL_law 1632 = .ok (.iload 4, 2) := by decide +kernel
theorem dL_law_1634 : decode cL_law 1634 = .ok (.iconst 1, 1) := by decide +kernel
theorem dL_law_1635 : decode cL_law 1635 = .ok (.iadd, 1) := by decide +kernel
theorem dL_law_1636 : decode cL_law 1636 = .ok (.iaload, 1) := by decide +kernel
theorem dL_law_1637 : decode cL_law 1637 = .ok (.invokevirtual 251, 3) := by decide +kernel
theorem glV_RL_251 : GLV RL 251 yX12_visible RX12 cX12_visible 2 (some .int) 1 := ⟨⟨(mT8 192 rfl rfl), (mT8 193 rfl rfl), (mT8 194 rfl rfl), (mT1 13 rfl rfl), (mT8 195 rfl rfl)⟩, by decide +kernel⟩
theorem dL_law_1640 : decode cL_law 1640 = .ok (.istore 6, 2) := by decide +kernel
theorem dL_law_1642 : decode cL_law 1642 = .ok (.aload_n 2, 1) := by decide +kernel
theorem dL_law_1643 : decode cL_law 1643 = .ok (.invokevirtual 182, 3) := by decide +kernel
theorem dL_law_1646 : decode cL_law 1646 = .ok (.iload 5, 2) := by decide +kernel
theorem dL_law_1648 : decode cL_law 1648 = .ok (.if_icmp .eq 5, 3) := by decide +kernel
theorem dL_law_1653 : decode cL_law 1653 = .ok (.iload 5, 2) := by decide +kernel
theorem dL_law_1655 : decode cL_law 1655 = .ok (.ifCond .ne 15, 3) := by decide +kernel
theorem dL_law_1670 : decode cL_law 1670 = .ok (.goto 1662, 3) := by decide +kernel
theorem dL_law_1658 : decode cL_law 1658 = .ok (.aload_n 3, 1) := by decide +kernel
theorem dL_law_1659 : decode cL_law 1659 = .ok (.iconst 0, 1) := by decide +kernel
theorem dL_law_1660 : decode cL_law 1660 = .ok (.laload, 1) := by decide +kernel
theorem dL_law_1661 : decode cL_law 1661 = .ok (.iload 6, 2) := by decide +kernel
theorem dL_law_1663 : decode cL_law 1663 = .ok (.i2l, 1) := by decide +kernel
theorem dL_law_1664 : decode cL_law 1664 = .ok (.lcmp, 1) := by decide +kernel
theorem dL_law_1665 : decode cL_law 1665 = .ok (.ifCond .eq 5, 3) := by decide +kernel
set_option maxRecDepth 100000 in
set_option maxHeartbeats 4000000 in
theorem law_c27 {p : Program} {l : Launch} {e : Env} {s : State} {m : MethodId} {below : List Frame} {meth : Method} {c : Code} {b : Nat} {xs : Nat → Int32} {D : va_G} {Y : Nat → ClassId} (B : VB p s m #[Value.ref b] meth c D Y (fun q => s.heap.size ≤ q) cL_law 8 RL ret) (EB : EX (fun q => s.heap.size ≤ q) s s.heap) (hl9 : l.stackTraces = false) (hX : va_X b 6 xs s s.heap) (hbl : b < s.heap.size) (hbA : ¬ (fun q => s.heap.size ≤ q) b) (x0 x1 x30 x59 x88 x117 x126 x127 x129 x132 x2 x4 x6 x8 x10 x12 x14 x16 x18 x20 x27 x3 x13 x118 x120 x122 x124 x119 x121 m0 m1 m2 m3 m4 m5 m6 o0 : Nat) (p1 : Int32) (e1 : xs 1 = p1) : V p l e room_1 s m #[Value.ref b] below meth c D (fun q => s.heap.size ≤ q) 8 149 10574 (lw_Z below #[Value.ref b] s) 1617 [(4, .int 0), (3, .ref o0), (2, .ref m0), (1, .ref x0), (0, .ref b)] [] [(x0, oC 12 [.ref x1, .ref x30, .ref x59, .ref x88, .ref x117, .ref x126, .ref x127, .ref x129, .ref x132, .long 0]), (x1, oC 2 [.ref x2, .ref x4, .ref x6, .ref x8, .ref x10, .ref x12, .ref x14, .ref x16, .ref x18, .ref x20, .ref x27, .int 0]), (x2, oC 3 [.ref x3, .int 1]), (x3, aI Y 6 (upd (fun _ => 0) 0 (-1))), (x12, oC 3 [.ref x13, .int 0]), (x117, oC 11 [.ref x1, .ref x118, .ref x120, .ref x122, .ref x124]), (x118, oC 3 [.ref x119, .int 0]), (x119, aI Y 6 (fun _ => 0)), (x120, oC 3 [.ref x121, .int 0]), (m0, oC 13 [.ref m1, .ref m2, .int 0, .ref m3, .ref m4, .int 0, .int 0, .int 0, .int (-1), .int 0, .int 0, .int 0, .long 0, .ref m5, .ref m6, .int 0, .int 0]), (m1, aI Y 3640 (clB 0 (fun _ => 0))), (o0, aJ Y 1 (fun _ => 0))] := by
  refine V_aload_n 1617 B dL_law_1617 3 rfl ?_
  refine V_aload_n 1618 B dL_law_1618 4 rfl ?_
  refine V_iload 1619 B dL_law_1619 0 rfl ?_
  refine V_iconst 1621 B (v := 1) dL_law_1621 (by decide +kernel) ?_
  refine V_iadd 1622 B (v := 1) dL_law_1622 (by decide +kernel) ?_
  refine V_sld 1623 B hX hbl hbA (v := p1) (vpin _ _ (by decide +kernel)) dL_law_1623 e1 ?_
  refine V_aload_n 1624 B dL_law_1624 1 rfl ?_
  refine V_hsi 1625 B EB (st := []) (As := [.ref x0, .int p1, .ref o0]) (fun sz => mL_visible_1 l hl9 D Y (x0) (o0) (x1) (x30) (x59) (x88) (x117) (x126) (x127) (x129) (x132) (x2) (x4) (x6) (x8) (x10) (x12) (x14) (x16) (x18) (x20) (x27) (x3) (x13) (x118) (x120) (x122) (x124) (x119) (x121) (p1) sz) glH_RL_249 ⟨rfl, rfl⟩ ⟨(Nat.le_of_ble_eq_true rfl), (Nat.le_of_ble_eq_true rfl)⟩ ⟨(Nat.le_of_ble_eq_true rfl), (Nat.le_of_ble_eq_true rfl)⟩ [0, 0, 0, 0, 0, 0, 0, 0, 0, 2] rfl rfl (Nat.le_of_ble_eq_true rfl) rfl (fun _ u _ => by
        first | rfl | (split <;> rfl) | (dsimp only; split <;> rfl)) dL_law_1625 (fun r0 u0 w0 => ?_)
  rcases w0 with ⟨rfl, k1, rfl⟩ | ⟨rfl, k2, k3, rfl⟩ | ⟨rfl, k4, rfl⟩
  ·
    refine V_ws [(x0, oC 12 [.ref x1, .ref x30, .ref x59, .ref x88, .ref x117, .ref x126, .ref x127, .ref x129, .ref x132, .long 0]), (x1, oC 2 [.ref x2, .ref x4, .ref x6, .ref x8, .ref x10, .ref x12, .ref x14, .ref x16, .ref x18, .ref x20, .ref x27, .int 0]), (x2, oC 3 [.ref x3, .int 1]), (x3, aI Y 6 (upd (fun _ => 0) 0 (-1))), (x12, oC 3 [.ref x13, .int 0]), (x117, oC 11 [.ref x1, .ref x118, .ref x120, .ref x122, .ref x124]), (x118, oC 3 [.ref x119, .int 0]), (x119, aI Y 6 (fun _ => 0)), (x120, oC 3 [.ref x121, .int 0]), (m0, oC 13 [.ref m1, .ref m2, .int 0, .ref m3, .ref m4, .int 0, .int 0, .int 0, .int (-1), .int 0, .int 0, .int 0, .long 0, .ref m5, .ref m6, .int 0, .int 0]), (m1, aI Y 3640 (clB 0 (fun _ => 0))), (o0, aJ Y 1 (fun _ => 0))] rfl ?_
    refine V_istore 1628 B (lv2 := [(5, .int 1), (4, .int 0), (3, .ref o0), (2, .ref m0), (1, .ref x0), (0, .ref b)]) dL_law_1628 (by decide) rfl ?_
    refine V_aload_n 1630 B dL_law_1630 3 rfl ?_
    refine V_aload_n 1631 B dL_law_1631 5 rfl ?_
    refine V_iload 1632 B dL_law_1632 1 rfl ?_
    refine V_iconst 1634 B (v := 1) dL_law_1634 (by decide +kernel) ?_
    refine V_iadd 1635 B (v := 1) dL_law_1635 (by decide +kernel) ?_
    refine V_sld 1636 B hX hbl hbA (v := p1) (vpin _ _ (by decide +kernel)) dL_law_1636 e1 ?_
    refine V_cvi 1637 B (st := []) (As := [.int p1]) (fun sz => mX12_visible_1 l D Y (m0) (m1) (m2) (m3) (m4) (m5) (m6) (p1) sz) glV_RL_251 ⟨rfl, rfl⟩ ⟨(Nat.le_of_ble_eq_true rfl), (Nat.le_of_ble_eq_true rfl)⟩ ⟨(Nat.le_of_ble_eq_true rfl), (Nat.le_of_ble_eq_true rfl)⟩ [9, 0] rfl 13 0 rfl rfl rfl rfl (Nat.le_of_ble_eq_true rfl) rfl (fun _ u _ => by
        first | rfl | (split <;> rfl) | (dsimp only; split <;> rfl)) dL_law_1637 (fun r5 u5 w5 => ?_)
    rcases w5 with ⟨rfl, k6, rfl⟩ | ⟨rfl, k7, rfl⟩ | ⟨rfl, k8, rfl⟩
    ·
      refine V_ws [(x0, oC 12 [.ref x1, .ref x30, .ref x59, .ref x88, .ref x117, .ref x126, .ref x127, .ref x129, .ref x132, .long 0]), (x1, oC 2 [.ref x2, .ref x4, .ref x6, .ref x8, .ref x10, .ref x12, .ref x14, .ref x16, .ref x18, .ref x20, .ref x27, .int 0]), (x2, oC 3 [.ref x3, .int 1]), (x3, aI Y 6 (upd (fun _ => 0) 0 (-1))), (x12, oC 3 [.ref x13, .int 0]), (x117, oC 11 [.ref x1, .ref x118, .ref x120, .ref x122, .ref x124]), (x118, oC 3 [.ref x119, .int 0]), (x119, aI Y 6 (fun _ => 0)), (x120, oC 3 [.ref x121, .int 0]), (m0, oC 13 [.ref m1, .ref m2, .int 0, .ref m3, .ref m4, .int 0, .int 0, .int 0, .int (-1), .int 0, .int 0, .int 0, .long 0, .ref m5, .ref m6, .int 0, .int 0]), (m1, aI Y 3640 (clB 0 (fun _ => 0))), (o0, aJ Y 1 (fun _ => 0))] rfl ?_
      exact absurd k6 (q_neh (b_lt k1 (n := (-1)) (by decide +kernel)) (by decide +kernel))
    ·
      refine V_ws [(x0, oC 12 [.ref x1, .ref x30, .ref x59, .ref x88, .ref x117, .ref x126, .ref x127, .ref x129, .ref x132, .long 0]), (x1, oC 2 [.ref x2, .ref x4, .ref x6, .ref x8, .ref x10, .ref x12, .ref x14, .ref x16, .ref x18, .ref x20, .ref x27, .int 0]), (x2, oC 3 [.ref x3, .int 1]), (x3, aI Y 6 (upd (fun _ => 0) 0 (-1))), (x12, oC 3 [.ref x13, .int 0]), (x117, oC 11 [.ref x1, .ref x118, .ref x120, .ref x122, .ref x124]), (x118, oC 3 [.ref x119, .int 0]), (x119, aI Y 6 (fun _ => 0)), (x120, oC 3 [.ref x121, .int 0]), (m0, oC 13 [.ref m1, .ref m2, .int 1, .ref m3, .ref m4, .int 0, .int 0, .int 0, .int (-1), .int 0, .int 0, .int 0, .long 0, .ref m5, .ref m6, .int 0, .int 0]), (m1, aI Y 3640 (clB 0 (fun _ => 0))), (o0, aJ Y 1 (fun _ => 0))] rfl ?_
      refine V_istore 1640 B (lv2 := [(6, .int 0), (5, .int 1), (4, .int 0), (3, .ref o0), (2, .ref m0), (1, .ref x0), (0, .ref b)]) dL_law_1640 (by decide) rfl ?_
      refine V_aload_n 1642 B dL_law_1642 4 rfl ?_
      refine V_cvi 1643 B (st := []) (As := []) (fun sz => mX12_thrown_2 l D Y (m0) (m1) (m2) (m3) (m4) (m5) (m6) sz) glV_RL_182 ⟨rfl, rfl⟩ ⟨(Nat.le_of_ble_eq_true rfl), (Nat.le_of_ble_eq_true rfl)⟩ ⟨(Nat.le_of_ble_eq_true rfl), (Nat.le_of_ble_eq_true rfl)⟩ [9] rfl 13 0 rfl rfl rfl rfl (Nat.le_of_ble_eq_true rfl) rfl (fun _ _ _ => rfl) dL_law_1643 (fun r9 u9 w9 => ?_)
      obtain rfl := w9
      refine V_ws [(x0, oC 12 [.ref x1, .ref x30, .ref x59, .ref x88, .ref x117, .ref x126, .ref x127, .ref x129, .ref x132, .long 0]), (x1, oC 2 [.ref x2, .ref x4, .ref x6, .ref x8, .ref x10, .ref x12, .ref x14, .ref x16, .ref x18, .ref x20, .ref x27, .int 0]), (x2, oC 3 [.ref x3, .int 1]), (x3, aI Y 6 (upd (fun _ => 0) 0 (-1))), (x12, oC 3 [.ref x13, .int 0]), (x117, oC 11 [.ref x1, .ref x118, .ref x120, .ref x122, .ref x124]), (x118, oC 3 [.ref x119, .int 0]), (x119, aI Y 6 (fun _ => 0)), (x120, oC 3 [.ref x121, .int 0]), (m0, oC 13 [.ref m1, .ref m2, .int 1, .ref m3, .ref m4, .int 0, .int 0, .int 0, .int (-1), .int 0, .int 0, .int 0, .long 0, .ref m5, .ref m6, .int 0, .int 0]), (m1, aI Y 3640 (clB 0 (fun _ => 0))), (o0, aJ Y 1 (fun _ => 0))] rfl ?_
      refine V_iload 1646 B dL_law_1646 1 rfl ?_
      refine V_icmp_eq_t 1648 B 1653 dL_law_1648 (by decide) (by decide +kernel) ?_
      refine V_iload 1653 B dL_law_1653 1 rfl ?_
      refine V_if_ne_t 1655 B 1670 dL_law_1655 (by decide) (by decide +kernel) ?_
      refine V_goto 1670 B 3332 dL_law_1670 (by decide) ?_
      refine V_iinc 3332 B (v := 6) (lv2 := [(4, .int 6), (6, .int 0), (5, .int 1), (3, .ref o0), (2, .ref m0), (1, .ref x0), (0, .ref b)]) dL_law_3332 2 rfl (by decide +kernel) (by decide) rfl ?_
      refine V_goto 3335 B 23 dL_law_3335 (by decide) ?_
      refine V_iload 23 B dL_law_23 0 rfl ?_
      refine V_aload_n 25 B dL_law_25 6 rfl ?_
      refine V_slen 26 B hX hbl hbA (v := 6) (by decide +kernel) dL_law_26 ?_
      refine V_bipush 27 B (v := 6) dL_law_27 (by decide +kernel) ?_
      refine V_isub 29 B (v := 0) dL_law_29 (by decide +kernel) ?_
      refine V_icmp_gt_t 30 B 3338 dL_law_30 (by decide) (by decide +kernel) ?_
      exact law_end B (Nat.le_of_ble_eq_true rfl) (Nat.le_of_ble_eq_true rfl) dL_law_3338 dL_law_3339
    ·
      refine V_ws [(x0, oC 12 [.ref x1, .ref x30, .ref x59, .ref x88, .ref x117, .ref x126, .ref x127, .ref x129, .ref x132, .long 0]), (x1, oC 2 [.ref x2, .ref x4, .ref x6, .ref x8, .ref x10, .ref x12, .ref x14, .ref x16, .ref x18, .ref x20, .ref x27, .int 0]), (x2, oC 3 [.ref x3, .int 1]), (x3, aI Y 6 (upd (fun _ => 0) 0 (-1))), (x12, oC 3 [.ref x13, .int 0]), (x117, oC 11 [.ref x1, .ref x118, .ref x120, .ref x122, .ref x124]), (x118, oC 3 [.ref x119, .int 0]), (x119, aI Y 6 (fun _ => 0)), (x120, oC 3 [.ref x121, .int 0]), (m0, oC 13 [.ref m1, .ref m2, .int 1, .ref m3, .ref m4, .int 0, .int 0, .int 0, .int (-1), .int 0, .int 0, .int 0, .long 0, .ref m5, .ref m6, .int 0, .int 0]), (m1, aI Y 3640 (clB 0 (fun _ => 0))), (o0, aJ Y 1 (fun _ => 0))] rfl ?_
      exact (q_abs (b_gt k8 (n := 1) (by decide +kernel)) (b_lt k1 (n := (-1)) (by decide +kernel)) (by decide +kernel)).elim
  ·
    refine V_ws [(x0, oC 12 [.ref x1, .ref x30, .ref x59, .ref x88, .ref x117, .ref x126, .ref x127, .ref x129, .ref x132, .long 0]), (x1, oC 2 [.ref x2, .ref x4, .ref x6, .ref x8, .ref x10, .ref x12, .ref x14, .ref x16, .ref x18, .ref x20, .ref x27, .int 0]), (x2, oC 3 [.ref x3, .int 1]), (x3, aI Y 6 (upd (fun _ => 0) 0 (-1))), (x12, oC 3 [.ref x13, .int 0]), (x117, oC 11 [.ref x1, .ref x118, .ref x120, .ref x122, .ref x124]), (x118, oC 3 [.ref x119, .int 0]), (x119, aI Y 6 (fun _ => 0)), (x120, oC 3 [.ref x121, .int 0]), (m0, oC 13 [.ref m1, .ref m2, .int 0, .ref m3, .ref m4, .int 0, .int 0, .int 0, .int (-1), .int 0, .int 0, .int 0, .long 0, .ref m5, .ref m6, .int 0, .int 0]), (m1, aI Y 3640 (clB 0 (fun _ => 0))), (o0, aJ Y 1 (fun _ => 0))] rfl ?_
    refine V_istore 1628 B (lv2 := [(5, .int 1), (4, .int 0), (3, .ref o0), (2, .ref m0), (1, .ref x0), (0, .ref b)]) dL_law_1628 (by decide) rfl ?_
    refine V_aload_n 1630 B dL_law_1630 3 rfl ?_
    refine V_aload_n 1631 B dL_law_1631 5 rfl ?_
    refine V_iload 1632 B dL_law_1632 1 rfl ?_
    refine V_iconst 1634 B (v := 1) dL_law_1634 (by decide +kernel) ?_
    refine V_iadd 1635 B (v := 1) dL_law_1635 (by decide +kernel) ?_
    refine V_sld 1636 B hX hbl hbA (v := p1) (vpin _ _ (by decide +kernel)) dL_law_1636 e1 ?_
    refine V_cvi 1637 B (st := []) (As := [.int p1]) (fun sz => mX12_visible_1 l D Y (m0) (m1) (m2) (m3) (m4) (m5) (m6) (p1) sz) glV_RL_251 ⟨rfl, rfl⟩ ⟨(Nat.le_of_ble_eq_true rfl), (Nat.le_of_ble_eq_true rfl)⟩ ⟨(Nat.le_of_ble_eq_true rfl), (Nat.le_of_ble_eq_true rfl)⟩ [9, 0] rfl 13 0 rfl rfl rfl rfl (Nat.le_of_ble_eq_true rfl) rfl (fun _ u _ => by
        first | rfl | (split <;> rfl) | (dsimp only; split <;> rfl)) dL_law_1637 (fun r10 u10 w10 => ?_)
    rcases w10 with ⟨rfl, k11, rfl⟩ | ⟨rfl, k12, rfl⟩ | ⟨rfl, k13, rfl⟩
    ·
      refine V_ws [(x0, oC 12 [.ref x1, .ref x30, .ref x59, .ref x88, .ref x117, .ref x126, .ref x127, .ref x129, .ref x132, .long 0]), (x1, oC 2 [.ref x2, .ref x4, .ref x6, .ref x8, .ref x10, .ref x12, .ref x14, .ref x16, .ref x18, .ref x20, .ref x27, .int 0]), (x2, oC 3 [.ref x3, .int 1]), (x3, aI Y 6 (upd (fun _ => 0) 0 (-1))), (x12, oC 3 [.ref x13, .int 0]), (x117, oC 11 [.ref x1, .ref x118, .ref x120, .ref x122, .ref x124]), (x118, oC 3 [.ref x119, .int 0]), (x119, aI Y 6 (fun _ => 0)), (x120, oC 3 [.ref x121, .int 0]), (m0, oC 13 [.ref m1, .ref m2, .int 0, .ref m3, .ref m4, .int 0, .int 0, .int 0, .int (-1), .int 0, .int 0, .int 0, .long 0, .ref m5, .ref m6, .int 0, .int 0]), (m1, aI Y 3640 (clB 0 (fun _ => 0))), (o0, aJ Y 1 (fun _ => 0))] rfl ?_
      exact absurd k11 (q_nel (b_ge k3 (n := 1) (by decide +kernel)) (by decide +kernel))
    ·
      refine V_ws [(x0, oC 12 [.ref x1, .ref x30, .ref x59, .ref x88, .ref x117, .ref x126, .ref x127, .ref x129, .ref x132, .long 0]), (x1, oC 2 [.ref x2, .ref x4, .ref x6, .ref x8, .ref x10, .ref x12, .ref x14, .ref x16, .ref x18, .ref x20, .ref x27, .int 0]), (x2, oC 3 [.ref x3, .int 1]), (x3, aI Y 6 (upd (fun _ => 0) 0 (-1))), (x12, oC 3 [.ref x13, .int 0]), (x117, oC 11 [.ref x1, .ref x118, .ref x120, .ref x122, .ref x124]), (x118, oC 3 [.ref x119, .int 0]), (x119, aI Y 6 (fun _ => 0)), (x120, oC 3 [.ref x121, .int 0]), (m0, oC 13 [.ref m1, .ref m2, .int 1, .ref m3, .ref m4, .int 0, .int 0, .int 0, .int (-1), .int 0, .int 0, .int 0, .long 0, .ref m5, .ref m6, .int 0, .int 0]), (m1, aI Y 3640 (clB 0 (fun _ => 0))), (o0, aJ Y 1 (fun _ => 0))] rfl ?_
      exact (q_abs (b_ge k3 (n := 1) (by decide +kernel)) (b_lt k12 (n := (-1)) (by decide +kernel)) (by decide +kernel)).elim
    ·
      refine V_ws [(x0, oC 12 [.ref x1, .ref x30, .ref x59, .ref x88, .ref x117, .ref x126, .ref x127, .ref x129, .ref x132, .long 0]), (x1, oC 2 [.ref x2, .ref x4, .ref x6, .ref x8, .ref x10, .ref x12, .ref x14, .ref x16, .ref x18, .ref x20, .ref x27, .int 0]), (x2, oC 3 [.ref x3, .int 1]), (x3, aI Y 6 (upd (fun _ => 0) 0 (-1))), (x12, oC 3 [.ref x13, .int 0]), (x117, oC 11 [.ref x1, .ref x118, .ref x120, .ref x122, .ref x124]), (x118, oC 3 [.ref x119, .int 0]), (x119, aI Y 6 (fun _ => 0)), (x120, oC 3 [.ref x121, .int 0]), (m0, oC 13 [.ref m1, .ref m2, .int 1, .ref m3, .ref m4, .int 0, .int 0, .int 0, .int (-1), .int 0, .int 0, .int 0, .long 0, .ref m5, .ref m6, .int 0, .int 0]), (m1, aI Y 3640 (clB 0 (fun _ => 0))), (o0, aJ Y 1 (fun _ => 0))] rfl ?_
      refine V_istore 1640 B (lv2 := [(6, .int 0), (5, .int 1), (4, .int 0), (3, .ref o0), (2, .ref m0), (1, .ref x0), (0, .ref b)]) dL_law_1640 (by decide) rfl ?_
      refine V_aload_n 1642 B dL_law_1642 4 rfl ?_
      refine V_cvi 1643 B (st := []) (As := []) (fun sz => mX12_thrown_2 l D Y (m0) (m1) (m2) (m3) (m4) (m5) (m6) sz) glV_RL_182 ⟨rfl, rfl⟩ ⟨(Nat.le_of_ble_eq_true rfl), (Nat.le_of_ble_eq_true rfl)⟩ ⟨(Nat.le_of_ble_eq_true rfl), (Nat.le_of_ble_eq_true rfl)⟩ [9] rfl 13 0 rfl rfl rfl rfl (Nat.le_of_ble_eq_true rfl) rfl (fun _ _ _ => rfl) dL_law_1643 (fun r14 u14 w14 => ?_)
      obtain rfl := w14
      refine V_ws [(x0, oC 12 [.ref x1, .ref x30, .ref x59, .ref x88, .ref x117, .ref x126, .ref x127, .ref x129, .ref x132, .long 0]), (x1, oC 2 [.ref x2, .ref x4, .ref x6, .ref x8, .ref x10, .ref x12, .ref x14, .ref x16, .ref x18, .ref x20, .ref x27, .int 0]), (x2, oC 3 [.ref x3, .int 1]), (x3, aI Y 6 (upd (fun _ => 0) 0 (-1))), (x12, oC 3 [.ref x13, .int 0]), (x117, oC 11 [.ref x1, .ref x118, .ref x120, .ref x122, .ref x124]), (x118, oC 3 [.ref x119, .int 0]), (x119, aI Y 6 (fun _ => 0)), (x120, oC 3 [.ref x121, .int 0]), (m0, oC 13 [.ref m1, .ref m2, .int 1, .ref m3, .ref m4, .int 0, .int 0, .int 0, .int (-1), .int 0, .int 0, .int 0, .long 0, .ref m5, .ref m6, .int 0, .int 0]), (m1, aI Y 3640 (clB 0 (fun _ => 0))), (o0, aJ Y 1 (fun _ => 0))] rfl ?_
      refine V_iload 1646 B dL_law_1646 1 rfl ?_
      refine V_icmp_eq_t 1648 B 1653 dL_law_1648 (by decide) (by decide +kernel) ?_
      refine V_iload 1653 B dL_law_1653 1 rfl ?_
      refine V_if_ne_t 1655 B 1670 dL_law_1655 (by decide) (by decide +kernel) ?_
      refine V_goto 1670 B 3332 dL_law_1670 (by decide) ?_
      refine V_iinc 3332 B (v := 6) (lv2 := [(4, .int 6), (6, .int 0), (5, .int 1), (3, .ref o0), (2, .ref m0), (1, .ref x0), (0, .ref b)]) dL_law_3332 2 rfl (by decide +kernel) (by decide) rfl ?_
      refine V_goto 3335 B 23 dL_law_3335 (by decide) ?_
      refine V_iload 23 B dL_law_23 0 rfl ?_
      refine V_aload_n 25 B dL_law_25 6 rfl ?_
      refine V_slen 26 B hX hbl hbA (v := 6) (by decide +kernel) dL_law_26 ?_
      refine V_bipush 27 B (v := 6) dL_law_27 (by decide +kernel) ?_
      refine V_isub 29 B (v := 0) dL_law_29 (by decide +kernel) ?_
      refine V_icmp_gt_t 30 B 3338 dL_law_30 (by decide) (by decide +kernel) ?_
      exact law_end B (Nat.le_of_ble_eq_true rfl) (Nat.le_of_ble_eq_true rfl) dL_law_3338 dL_law_3339
  ·
    refine V_ws [(x0, oC 12 [.ref x1, .ref x30, .ref x59, .ref x88, .ref x117, .ref x126, .ref x127, .ref x129, .ref x132, .long 0]), (x1, oC 2 [.ref x2, .ref x4, .ref x6, .ref x8, .ref x10, .ref x12, .ref x14, .ref x16, .ref x18, .ref x20, .ref x27, .int 0]), (x2, oC 3 [.ref x3, .int 1]), (x3, aI Y 6 (upd (fun _ => 0) 0 (-1))), (x12, oC 3 [.ref x13, .int 0]), (x117, oC 11 [.ref x1, .ref x118, .ref x120, .ref x122, .ref x124]), (x118, oC 3 [.ref x119, .int 6]), (x119, aI Y 6 (upd (upd (upd (upd (upd (upd (upd (fun _ => 0) 0 (-1)) 1 (-1)) 2 (-1)) 3 (-1)) 4 (-1)) 5 (-1)) 0 0)), (x120, oC 3 [.ref x121, .int 0]), (m0, oC 13 [.ref m1, .ref m2, .int 0, .ref m3, .ref m4, .int 0, .int 0, .int 0, .int (-1), .int 0, .int 0, .int 0, .long 0, .ref m5, .ref m6, .int 0, .int 0]), (m1, aI Y 3640 (clB 0 (fun _ => 0))), (o0, aJ Y 1 (vp_updL (fun _ => 0) 0 0))] rfl ?_
    obtain rfl : p1 = 0 := k4
    refine V_istore 1628 B (lv2 := [(5, .int 0), (4, .int 0), (3, .ref o0), (2, .ref m0), (1, .ref x0), (0, .ref b)]) dL_law_1628 (by decide) rfl ?_
    refine V_aload_n 1630 B dL_law_1630 3 rfl ?_
    refine V_aload_n 1631 B dL_law_1631 5 rfl ?_
    refine V_iload 1632 B dL_law_1632 1 rfl ?_
    refine V_iconst 1634 B (v := 1) dL_law_1634 (by decide +kernel) ?_
    refine V_iadd 1635 B (v := 1) dL_law_1635 (by decide +kernel) ?_
    refine V_sld 1636 B hX hbl hbA (v := 0) (vpin _ _ (by decide +kernel)) dL_law_1636 e1 ?_
    refine V_cvi 1637 B (st := []) (As := [.int 0]) (fun sz => mX12_visible_2 l D Y (m0) (m1) (m2) (m3) (m4) (m5) (m6) sz) glV_RL_251 ⟨rfl, rfl⟩ ⟨(Nat.le_of_ble_eq_true rfl), (Nat.le_of_ble_eq_true rfl)⟩ ⟨(Nat.le_of_ble_eq_true rfl), (Nat.le_of_ble_eq_true rfl)⟩ [9, 0] rfl 13 0 rfl rfl rfl rfl (Nat.le_of_ble_eq_true rfl) rfl (fun _ _ _ => rfl) dL_law_1637 (fun r15 u15 w15 => ?_)
    obtain rfl := w15
    refine V_ws [(x0, oC 12 [.ref x1, .ref x30, .ref x59, .ref x88, .ref x117, .ref x126, .ref x127, .ref x129, .ref x132, .long 0]), (x1, oC 2 [.ref x2, .ref x4, .ref x6, .ref x8, .ref x10, .ref x12, .ref x14, .ref x16, .ref x18, .ref x20, .ref x27, .int 0]), (x2, oC 3 [.ref x3, .int 1]), (x3, aI Y 6 (upd (fun _ => 0) 0 (-1))), (x12, oC 3 [.ref x13, .int 0]), (x117, oC 11 [.ref x1, .ref x118, .ref x120, .ref x122, .ref x124]), (x118, oC 3 [.ref x119, .int 6]), (x119, aI Y 6 (upd (upd (upd (upd (upd (upd (upd (fun _ => 0) 0 (-1)) 1 (-1)) 2 (-1)) 3 (-1)) 4 (-1)) 5 (-1)) 0 0)), (x120, oC 3 [.ref x121, .int 0]), (m0, oC 13 [.ref m1, .ref m2, .int 0, .ref m3, .ref m4, .int 0, .int 0, .int 0, .int (-1), .int 0, .int 0, .int 0, .long 0, .ref m5, .ref m6, .int 0, .int 0]), (m1, aI Y 3640 (clB 0 (fun _ => 0))), (o0, aJ Y 1 (vp_updL (fun _ => 0) 0 0))] rfl ?_
    refine V_istore 1640 B (lv2 := [(6, .int 0), (5, .int 0), (4, .int 0), (3, .ref o0), (2, .ref m0), (1, .ref x0), (0, .ref b)]) dL_law_1640 (by decide) rfl ?_
    refine V_aload_n 1642 B dL_law_1642 4 rfl ?_
    refine V_cvi 1643 B (st := []) (As := []) (fun sz => mX12_thrown_1 l D Y (m0) (m1) (m2) (m3) (m4) (m5) (m6) sz) glV_RL_182 ⟨rfl, rfl⟩ ⟨(Nat.le_of_ble_eq_true rfl), (Nat.le_of_ble_eq_true rfl)⟩ ⟨(Nat.le_of_ble_eq_true rfl), (Nat.le_of_ble_eq_true rfl)⟩ [9] rfl 13 0 rfl rfl rfl rfl (Nat.le_of_ble_eq_true rfl) rfl (fun _ _ _ => rfl) dL_law_1643 (fun r16 u16 w16 => ?_)
    obtain rfl := w16
    refine V_ws [(x0, oC 12 [.ref x1, .ref x30, .ref x59, .ref x88, .ref x117, .ref x126, .ref x127, .ref x129, .ref x132, .long 0]), (x1, oC 2 [.ref x2, .ref x4, .ref x6, .ref x8, .ref x10, .ref x12, .ref x14, .ref x16, .ref x18, .ref x20, .ref x27, .int 0]), (x2, oC 3 [.ref x3, .int 1]), (x3, aI Y 6 (upd (fun _ => 0) 0 (-1))), (x12, oC 3 [.ref x13, .int 0]), (x117, oC 11 [.ref x1, .ref x118, .ref x120, .ref x122, .ref x124]), (x118, oC 3 [.ref x119, .int 6]), (x119, aI Y 6 (upd (upd (upd (upd (upd (upd (upd (fun _ => 0) 0 (-1)) 1 (-1)) 2 (-1)) 3 (-1)) 4 (-1)) 5 (-1)) 0 0)), (x120, oC 3 [.ref x121, .int 0]), (m0, oC 13 [.ref m1, .ref m2, .int 0, .ref m3, .ref m4, .int 0, .int 0, .int 0, .int (-1), .int 0, .int 0, .int 0, .long 0, .ref m5, .ref m6, .int 0, .int 0]), (m1, aI Y 3640 (clB 0 (fun _ => 0))), (o0, aJ Y 1 (vp_updL (fun _ => 0) 0 0))] rfl ?_
    refine V_iload 1646 B dL_law_1646 1 rfl ?_
    refine V_icmp_eq_t 1648 B 1653 dL_law_1648 (by decide) (by decide +kernel) ?_
    refine V_iload 1653 B dL_law_1653 1 rfl ?_
    refine V_if_ne_f 1655 B 1670 dL_law_1655 (by decide) (by decide +kernel) ?_
    refine V_aload_n 1658 B dL_law_1658 3 rfl ?_
    refine V_iconst 1659 B (v := 0) dL_law_1659 (by decide +kernel) ?_
    refine V_lald 1660 B (v := 0) 11 rfl (vpin _ _ (by decide +kernel)) dL_law_1660 rfl ?_
    refine V_iload 1661 B dL_law_1661 0 rfl ?_
    refine V_i2l 1663 B (v := 0) dL_law_1663 (by decide +kernel) ?_
    refine V_lcmp 1664 B (v := 0) dL_law_1664 (by decide +kernel) ?_
    refine V_if_eq_t 1665 B 1670 dL_law_1665 (by decide) (by decide +kernel) ?_
    refine V_goto 1670 B 3332 dL_law_1670 (by decide) ?_
    refine V_iinc 3332 B (v := 6) (lv2 := [(4, .int 6), (6, .int 0), (5, .int 0), (3, .ref o0), (2, .ref m0), (1, .ref x0), (0, .ref b)]) dL_law_3332 2 rfl (by decide +kernel) (by decide) rfl ?_
    refine V_goto 3335 B 23 dL_law_3335 (by decide) ?_
    refine V_iload 23 B dL_law_23 0 rfl ?_
    refine V_aload_n 25 B dL_law_25 6 rfl ?_
    refine V_slen 26 B hX hbl hbA (v := 6) (by decide +kernel) dL_law_26 ?_
    refine V_bipush 27 B (v := 6) dL_law_27 (by decide +kernel) ?_
    refine V_isub 29 B (v := 0) dL_law_29 (by decide +kernel) ?_
    refine V_icmp_gt_t 30 B 3338 dL_law_30 (by decide) (by decide +kernel) ?_
    exact law_end B (Nat.le_of_ble_eq_true rfl) (Nat.le_of_ble_eq_true rfl) dL_law_3338 dL_law_3339
theorem dL_visibleAt_0 : decode cL_visibleAt 0 = .ok (.aload_n 3, 1) := by decide +kernel
theorem dL_visibleAt_1 : decode cL_visibleAt 1 = .ok (.iconst 0, 1) := by decide +kernel
theorem dL_visibleAt_2 : decode cL_visibleAt 2 = .ok (.aload_n 0, 1) := by decide +kernel
theorem dL_visibleAt_3 : decode cL_visibleAt 3 = .ok (.iload_n 1, 1) := by decide +kernel
theorem dL_visibleAt_4 : decode cL_visibleAt 4 = .ok (.iload_n 2, 1) := by decide +kernel
theorem dL_visibleAt_5 : decode cL_visibleAt 5 = .ok (.invokevirtual 72, 3) := by decide +kernel
theorem glV_RL_72 : GLV RL 72 yX11_visibleAt RX11 cX11_visibleAt 3 (some .int) 2 := ⟨⟨(mT6 84 rfl rfl), (mT6 85 rfl rfl), (mT6 86 rfl rfl), (mT1 1 rfl rfl), (mT6 87 rfl rfl)⟩, by decide +kernel⟩
theorem dL_visibleAt_13 : decode cL_visibleAt 13 = .ok (.astore 4, 2) := by decide +kernel
theorem dL_visibleAt_15 : decode cL_visibleAt 15 = .ok (.iconst 1, 1) := by decide +kernel
theorem dL_visibleAt_16 : decode cL_visibleAt 16 = .ok (.ireturn, 1) := by decide +kernel
theorem dL_visibleAt_8 : decode cL_visibleAt 8 = .ok (.i2l, 1) := by decide +kernel
theorem dL_visibleAt_9 : decode cL_visibleAt 9 = .ok (.lastore, 1) := by decide +kernel
theorem dL_visibleAt_10 : decode cL_visibleAt 10 = .ok (.goto 7, 3) := by decide +kernel
theorem dL_visibleAt_17 : decode cL_visibleAt 17 = .ok (.iconst 0, 1) := by decide +kernel
theorem dL_visibleAt_18 : decode cL_visibleAt 18 = .ok (.ireturn, 1) := by decide +kernel
set_option maxRecDepth 100000 in
set_option maxHeartbeats 4000000 in
theorem mL_visibleAt_1 (l : Launch) (hl9 : l.stackTraces = false) (D : va_G) (Y : Nat → ClassId) (h0 : Nat) (h9 : Nat) (h1 : Nat) (g0 : Nat) (g1 : Nat) (g2 : Nat) (h5 : Nat) (g3 : Nat) (g4 : Nat) (g5 : Nat) (g6 : Nat) (h2 : Nat) (g7 : Nat) (g8 : Nat) (g9 : Nat) (g10 : Nat) (h4 : Nat) (g11 : Nat) (g12 : Nat) (g13 : Nat) (g14 : Nat) (g15 : Nat) (h3 : Nat) (g16 : Nat) (h6 : Nat) (h8 : Nat) (g17 : Nat) (g18 : Nat) (h7 : Nat) (g19 : Nat) (p0 : Int32) (p1 : Int32) (sz : Nat) : Met l yL_visibleAt (Cond.codeWith yL_visibleAt cL_visibleAt 5 (some .int) [(0, 10, 13, 18)] :: lw_good) (mkR 8 1 6 125) (PreX D Y [.ref h0, .int p0, .int p1, .ref h9] [(h0, oC 12 [.ref h1, .ref g0, .ref g1, .ref g2, .ref h5, .ref g3, .ref g4, .ref g5, .ref g6, .long 0]), (h1, oC 2 [.ref h2, .ref g7, .ref g8, .ref g9, .ref g10, .ref h4, .ref g11, .ref g12, .ref g13, .ref g14, .ref g15, .int 0]), (h2, oC 3 [.ref h3, .int 1]), (h3, aI Y 6 (upd (fun _ => 0) 0 (-1))), (h4, oC 3 [.ref g16, .int 0]), (h5, oC 11 [.ref h1, .ref h6, .ref h8, .ref g17, .ref g18]), (h6, oC 3 [.ref h7, .int 0]), (h7, aI Y 6 (fun _ => 0)), (h8, oC 3 [.ref g19, .int 0]), (h9, aJ Y 1 (fun _ => 0))] sz) (QI D (fun (r : Int32) (u : Nat) => (u = 0 ∧ p0 < 0 ∧ 1 = r) ∨ (u = 1 ∧ ¬ p0 < 0 ∧ 1 ≤ p0 ∧ 1 = r) ∨ (u = 2 ∧ p0 = 0 ∧ p1 < 0 ∧ 0 = r) ∨ (u = 3 ∧ p0 = 0 ∧ ¬ p1 < 0 ∧ 0 = r)) (fun (u : Nat) => match u with | 0 => [(h0, oC 12 [.ref h1, .ref g0, .ref g1, .ref g2, .ref h5, .ref g3, .ref g4, .ref g5, .ref g6, .long 0]), (h1, oC 2 [.ref h2, .ref g7, .ref g8, .ref g9, .ref g10, .ref h4, .ref g11, .ref g12, .ref g13, .ref g14, .ref g15, .int 0]), (h2, oC 3 [.ref h3, .int 1]), (h3, aI Y 6 (upd (fun _ => 0) 0 (-1))), (h4, oC 3 [.ref g16, .int 0]), (h5, oC 11 [.ref h1, .ref h6, .ref h8, .ref g17, .ref g18]), (h6, oC 3 [.ref h7, .int 0]), (h7, aI Y 6 (fun _ => 0)), (h8, oC 3 [.ref g19, .int 0]), (h9, aJ Y 1 (fun _ => 0))] | 1 => [(h0, oC 12 [.ref h1, .ref g0, .ref g1, .ref g2, .ref h5, .ref g3, .ref g4, .ref g5, .ref g6, .long 0]), (h1, oC 2 [.ref h2, .ref g7, .ref g8, .ref g9, .ref g10, .ref h4, .ref g11, .ref g12, .ref g13, .ref g14, .ref g15, .int 0]), (h2, oC 3 [.ref h3, .int 1]), (h3, aI Y 6 (upd (fun _ => 0) 0 (-1))), (h4, oC 3 [.ref g16, .int 0]), (h5, oC 11 [.ref h1, .ref h6, .ref h8, .ref g17, .ref g18]), (h6, oC 3 [.ref h7, .int 0]), (h7, aI Y 6 (fun _ => 0)), (h8, oC 3 [.ref g19, .int 0]), (h9, aJ Y 1 (fun _ => 0))] | 2 => [(h0, oC 12 [.ref h1, .ref g0, .ref g1, .ref g2, .ref h5, .ref g3, .ref g4, .ref g5, .ref g6, .long 0]), (h1, oC 2 [.ref h2, .ref g7, .ref g8, .ref g9, .ref g10, .ref h4, .ref g11, .ref g12, .ref g13, .ref g14, .ref g15, .int 0]), (h2, oC 3 [.ref h3, .int 1]), (h3, aI Y 6 (upd (fun _ => 0) 0 (-1))), (h4, oC 3 [.ref g16, .int 0]), (h5, oC 11 [.ref h1, .ref h6, .ref h8, .ref g17, .ref g18]), (h6, oC 3 [.ref h7, .int 6]), (h7, aI Y 6 (upd (upd (upd (upd (upd (upd (upd (fun _ => 0) 0 (-1)) 1 (-1)) 2 (-1)) 3 (-1)) 4 (-1)) 5 (-1)) 0 0)), (h8, oC 3 [.ref g19, .int 0]), (h9, aJ Y 1 (vp_updL (fun _ => 0) 0 (-1)))] | _ => [(h0, oC 12 [.ref h1, .ref g0, .ref g1, .ref g2, .ref h5, .ref g3, .ref g4, .ref g5, .ref g6, .long 0]), (h1, oC 2 [.ref h2, .ref g7, .ref g8, .ref g9, .ref g10, .ref h4, .ref g11, .ref g12, .ref g13, .ref g14, .ref g15, .int 0]), (h2, oC 3 [.ref h3, .int 1]), (h3, aI Y 6 (upd (fun _ => 0) 0 (-1))), (h4, oC 3 [.ref g16, .int 0]), (h5, oC 11 [.ref h1, .ref h6, .ref h8, .ref g17, .ref g18]), (h6, oC 3 [.ref h7, .int 6]), (h7, aI Y 6 (upd (upd (upd (upd (upd (upd (upd (fun _ => 0) 0 (-1)) 1 (-1)) 2 (-1)) 3 (-1)) 4 (-1)) 5 (-1)) 0 0)), (h8, oC 3 [.ref g19, .int 0]), (h9, aJ Y 1 (vp_updL (fun _ => 0) 0 (-1)))]) (va_A [(h0, oC 12 [.ref h1, .ref g0, .ref g1, .ref g2, .ref h5, .ref g3, .ref g4, .ref g5, .ref g6, .long 0]), (h1, oC 2 [.ref h2, .ref g7, .ref g8, .ref g9, .ref g10, .ref h4, .ref g11, .ref g12, .ref g13, .ref g14, .ref g15, .int 0]), (h2, oC 3 [.ref h3, .int 1]), (h3, aI Y 6 (upd (fun _ => 0) 0 (-1))), (h4, oC 3 [.ref g16, .int 0]), (h5, oC 11 [.ref h1, .ref h6, .ref h8, .ref g17, .ref g18]), (h6, oC 3 [.ref h7, .int 0]), (h7, aI Y 6 (fun _ => 0)), (h8, oC 3 [.ref g19, .int 0]), (h9, aJ Y 1 (fun _ => 0))] sz)) 1 6 (va_A [(h0, oC 12 [.ref h1, .ref g0, .ref g1, .ref g2, .ref h5, .ref g3, .ref g4, .ref g5, .ref g6, .long 0]), (h1, oC 2 [.ref h2, .ref g7, .ref g8, .ref g9, .ref g10, .ref h4, .ref g11, .ref g12, .ref g13, .ref g14, .ref g15, .int 0]), (h2, oC 3 [.ref h3, .int 1]), (h3, aI Y 6 (upd (fun _ => 0) 0 (-1))), (h4, oC 3 [.ref g16, .int 0]), (h5, oC 11 [.ref h1, .ref h6, .ref h8, .ref g17, .ref g18]), (h6, oC 3 [.ref h7, .int 0]), (h7, aI Y 6 (fun _ => 0)), (h8, oC 3 [.ref g19, .int 0]), (h9, aJ Y 1 (fun _ => 0))] sz) :=
  metH_of (by decide +kernel) (Nat.le_of_ble_eq_true rfl) (fun p e s m args below meth c B EB htab hsz => by
    have B : VB p s m args meth c D Y (va_A [(h0, oC 12 [.ref h1, .ref g0, .ref g1, .ref g2, .ref h5, .ref g3, .ref g4, .ref g5, .ref g6, .long 0]), (h1, oC 2 [.ref h2, .ref g7, .ref g8, .ref g9, .ref g10, .ref h4, .ref g11, .ref g12, .ref g13, .ref g14, .ref g15, .int 0]), (h2, oC 3 [.ref h3, .int 1]), (h3, aI Y 6 (upd (fun _ => 0) 0 (-1))), (h4, oC 3 [.ref g16, .int 0]), (h5, oC 11 [.ref h1, .ref h6, .ref h8, .ref g17, .ref g18]), (h6, oC 3 [.ref h7, .int 0]), (h7, aI Y 6 (fun _ => 0)), (h8, oC 3 [.ref g19, .int 0]), (h9, aJ Y 1 (fun _ => 0))] sz) cL_visibleAt 5 RL (some .int) := B
    refine V_aload_n 0 B dL_visibleAt_0 3 rfl ?_
    refine V_iconst 1 B (v := 0) dL_visibleAt_1 (by decide +kernel) ?_
    refine V_aload_n 2 B dL_visibleAt_2 0 rfl ?_
    refine V_iload_n 3 B dL_visibleAt_3 1 rfl ?_
    refine V_iload_n 4 B dL_visibleAt_4 2 rfl ?_
    refine V_xvi 5 B EB (st := [.int 0, .ref h9]) (As := [.int p0, .int p1]) (fun sz => mX11_visibleAt_1 l hl9 D Y (h0) (h1) (g0) (g1) (g2) (h5) (g3) (g4) (g5) (g6) (h2) (g7) (g8) (g9) (g10) (h4) (g11) (g12) (g13) (g14) (g15) (h3) (g16) (h6) (h8) (g17) (g18) (h7) (g19) (p0) (p1) sz) glV_RL_72 ⟨rfl, rfl⟩ ⟨(Nat.le_of_ble_eq_true rfl), (Nat.le_of_ble_eq_true rfl)⟩ ⟨(Nat.le_of_ble_eq_true rfl), (Nat.le_of_ble_eq_true rfl)⟩ [0, 0, 0, 0, 0, 0, 0, 0, 0] rfl 12 0 rfl rfl rfl rfl (Nat.le_of_ble_eq_true rfl) rfl (fun _ _ _ => rfl) (fun _ _ _ => rfl) dL_visibleAt_5 (fun E u0 w0 => ?_) (fun r0 u0 w0 => ?_)
    ·
      rcases w0 with ⟨rfl, k1⟩ | ⟨rfl, k2, k3⟩
      ·
        refine VX_catch 5 B htab [] (0, 10, 13, 18) [] rfl "java/lang/IndexOutOfBoundsException" (fun z hz => nomatch hz) rfl (by decide) (mT5 103 rfl rfl) (EB.2.2.2.1 _ (List.mem_of_getElem? (i := 1) rfl)) 13 rfl (fun q9 => ?_)
        refine V_ws [(h0, oC 12 [.ref h1, .ref g0, .ref g1, .ref g2, .ref h5, .ref g3, .ref g4, .ref g5, .ref g6, .long 0]), (h1, oC 2 [.ref h2, .ref g7, .ref g8, .ref g9, .ref g10, .ref h4, .ref g11, .ref g12, .ref g13, .ref g14, .ref g15, .int 0]), (h2, oC 3 [.ref h3, .int 1]), (h3, aI Y 6 (upd (fun _ => 0) 0 (-1))), (h4, oC 3 [.ref g16, .int 0]), (h5, oC 11 [.ref h1, .ref h6, .ref h8, .ref g17, .ref g18]), (h6, oC 3 [.ref h7, .int 0]), (h7, aI Y 6 (fun _ => 0)), (h8, oC 3 [.ref g19, .int 0]), (h9, aJ Y 1 (fun _ => 0))] rfl ?_
        refine V_astore 13 B (lv2 := [(4, .ref q9), (0, .ref h0), (1, .int p0), (2, .int p1), (3, .ref h9)]) dL_visibleAt_13 (by decide) rfl ?_
        refine V_iconst 15 B (v := 1) dL_visibleAt_15 (by decide +kernel) ?_
        exact V_iret 16 B dL_visibleAt_16 0 (Or.inl ⟨rfl, k1, rfl⟩) rfl
      ·
        refine VX_catch 5 B htab [] (0, 10, 13, 18) [] rfl "java/lang/IndexOutOfBoundsException" (fun z hz => nomatch hz) rfl (by decide) (mT5 103 rfl rfl) (EB.2.2.2.1 _ (List.mem_of_getElem? (i := 1) rfl)) 13 rfl (fun q9 => ?_)
        refine V_ws [(h0, oC 12 [.ref h1, .ref g0, .ref g1, .ref g2, .ref h5, .ref g3, .ref g4, .ref g5, .ref g6, .long 0]), (h1, oC 2 [.ref h2, .ref g7, .ref g8, .ref g9, .ref g10, .ref h4, .ref g11, .ref g12, .ref g13, .ref g14, .ref g15, .int 0]), (h2, oC 3 [.ref h3, .int 1]), (h3, aI Y 6 (upd (fun _ => 0) 0 (-1))), (h4, oC 3 [.ref g16, .int 0]), (h5, oC 11 [.ref h1, .ref h6, .ref h8, .ref g17, .ref g18]), (h6, oC 3 [.ref h7, .int 0]), (h7, aI Y 6 (fun _ => 0)), (h8, oC 3 [.ref g19, .int 0]), (h9, aJ Y 1 (fun _ => 0))] rfl ?_
        refine V_astore 13 B (lv2 := [(4, .ref q9), (0, .ref h0), (1, .int p0), (2, .int p1), (3, .ref h9)]) dL_visibleAt_13 (by decide) rfl ?_
        refine V_iconst 15 B (v := 1) dL_visibleAt_15 (by decide +kernel) ?_
        exact V_iret 16 B dL_visibleAt_16 1 (Or.inr (Or.inl ⟨rfl, k2, k3, rfl⟩)) rfl
    ·
      rcases w0 with ⟨k4, k5, rfl⟩ | ⟨k6, k7, rfl⟩
      ·
        refine V_ws [(h0, oC 12 [.ref h1, .ref g0, .ref g1, .ref g2, .ref h5, .ref g3, .ref g4, .ref g5, .ref g6, .long 0]), (h1, oC 2 [.ref h2, .ref g7, .ref g8, .ref g9, .ref g10, .ref h4, .ref g11, .ref g12, .ref g13, .ref g14, .ref g15, .int 0]), (h2, oC 3 [.ref h3, .int 1]), (h3, aI Y 6 (upd (fun _ => 0) 0 (-1))), (h4, oC 3 [.ref g16, .int 0]), (h5, oC 11 [.ref h1, .ref h6, .ref h8, .ref g17, .ref g18]), (h6, oC 3 [.ref h7, .int 6]), (h7, aI Y 6 (upd (upd (upd (upd (upd (upd (upd (fun _ => 0) 0 (-1)) 1 (-1)) 2 (-1)) 3 (-1)) 4 (-1)) 5 (-1)) 0 0)), (h8, oC 3 [.ref g19, .int 0]), (h9, aJ Y 1 (fun _ => 0))] rfl ?_
        obtain rfl : p0 = 0 := k4
        refine V_i2l 8 B (v := (-1)) dL_visibleAt_8 (by decide +kernel) ?_
        refine V_last 9 B 9 rfl (vpin _ _ (by decide +kernel)) dL_visibleAt_9 [(h0, oC 12 [.ref h1, .ref g0, .ref g1, .ref g2, .ref h5, .ref g3, .ref g4, .ref g5, .ref g6, .long 0]), (h1, oC 2 [.ref h2, .ref g7, .ref g8, .ref g9, .ref g10, .ref h4, .ref g11, .ref g12, .ref g13, .ref g14, .ref g15, .int 0]), (h2, oC 3 [.ref h3, .int 1]), (h3, aI Y 6 (upd (fun _ => 0) 0 (-1))), (h4, oC 3 [.ref g16, .int 0]), (h5, oC 11 [.ref h1, .ref h6, .ref h8, .ref g17, .ref g18]), (h6, oC 3 [.ref h7, .int 6]), (h7, aI Y 6 (upd (upd (upd (upd (upd (upd (upd (fun _ => 0) 0 (-1)) 1 (-1)) 2 (-1)) 3 (-1)) 4 (-1)) 5 (-1)) 0 0)), (h8, oC 3 [.ref g19, .int 0]), (h9, aJ Y 1 (vp_updL (fun _ => 0) 0 (-1)))] rfl ?_
        refine V_goto 10 B 17 dL_visibleAt_10 (by decide) ?_
        refine V_iconst 17 B (v := 0) dL_visibleAt_17 (by decide +kernel) ?_
        exact V_iret 18 B dL_visibleAt_18 2 (Or.inr (Or.inr (Or.inl ⟨rfl, rfl, k5, rfl⟩))) rfl
      ·
        refine V_ws [(h0, oC 12 [.ref h1, .ref g0, .ref g1, .ref g2, .ref h5, .ref g3, .ref g4, .ref g5, .ref g6, .long 0]), (h1, oC 2 [.ref h2, .ref g7, .ref g8, .ref g9, .ref g10, .ref h4, .ref g11, .ref g12, .ref g13, .ref g14, .ref g15, .int 0]), (h2, oC 3 [.ref h3, .int 1]), (h3, aI Y 6 (upd (fun _ => 0) 0 (-1))), (h4, oC 3 [.ref g16, .int 0]), (h5, oC 11 [.ref h1, .ref h6, .ref h8, .ref g17, .ref g18]), (h6, oC 3 [.ref h7, .int 6]), (h7, aI Y 6 (upd (upd (upd (upd (upd (upd (upd (fun _ => 0) 0 (-1)) 1 (-1)) 2 (-1)) 3 (-1)) 4 (-1)) 5 (-1)) 0 0)), (h8, oC 3 [.ref g19, .int 0]), (h9, aJ Y 1 (fun _ => 0))] rfl ?_
        obtain rfl : p0 = 0 := k6
        refine V_i2l 8 B (v := (-1)) dL_visibleAt_8 (by decide +kernel) ?_
        refine V_last 9 B 9 rfl (vpin _ _ (by decide +kernel)) dL_visibleAt_9 [(h0, oC 12 [.ref h1, .ref g0, .ref g1, .ref g2, .ref h5, .ref g3, .ref g4, .ref g5, .ref g6, .long 0]), (h1, oC 2 [.ref h2, .ref g7, .ref g8, .ref g9, .ref g10, .ref h4, .ref g11, .ref g12, .ref g13, .ref g14, .ref g15, .int 0]), (h2, oC 3 [.ref h3, .int 1]), (h3, aI Y 6 (upd (fun _ => 0) 0 (-1))), (h4, oC 3 [.ref g16, .int 0]), (h5, oC 11 [.ref h1, .ref h6, .ref h8, .ref g17, .ref g18]), (h6, oC 3 [.ref h7, .int 6]), (h7, aI Y 6 (upd (upd (upd (upd (upd (upd (upd (fun _ => 0) 0 (-1)) 1 (-1)) 2 (-1)) 3 (-1)) 4 (-1)) 5 (-1)) 0 0)), (h8, oC 3 [.ref g19, .int 0]), (h9, aJ Y 1 (vp_updL (fun _ => 0) 0 (-1)))] rfl ?_
        refine V_goto 10 B 17 dL_visibleAt_10 (by decide) ?_
        refine V_iconst 17 B (v := 0) dL_visibleAt_17 (by decide +kernel) ?_
        exact V_iret 18 B dL_visibleAt_18 3 (Or.inr (Or.inr (Or.inr ⟨rfl, rfl, k7, rfl⟩))) rfl)
set_option maxRecDepth 100000 in
set_option maxHeartbeats 4000000 in
theorem mX12_visibleAt_2 (l : Launch) (D : va_G) (Y : Nat → ClassId) (h0 : Nat) (h1 : Nat) (g0 : Nat) (g1 : Nat) (g2 : Nat) (g3 : Nat) (g4 : Nat) (p0 : Int32) (sz : Nat) : Met l yX12_visibleAt (WSm yX12_visibleAt cX12_visibleAt 6 (some .int)) (mkR 2 0 0 46) (PreC D Y [.ref h0, .int 0, .int p0] [(h0, oC 13 [.ref h1, .ref g0, .int 0, .ref g1, .ref g2, .int 0, .int 0, .int 0, .int (-1), .int 0, .int 0, .int 0, .long 0, .ref g3, .ref g4, .int 0, .int 0]), (h1, aI Y 3640 (clB 0 (fun _ => 0)))] sz) (QI D (fun (r : Int32) (u : Unit) => (-1) = r) (fun (_ : Unit) => [(h0, oC 13 [.ref h1, .ref g0, .int 0, .ref g1, .ref g2, .int 0, .int 0, .int 0, .int (-1), .int 0, .int 0, .int 0, .long 0, .ref g3, .ref g4, .int 0, .int 0]), (h1, aI Y 3640 (clB 0 (fun _ => 0)))]) (va_A [(h0, oC 13 [.ref h1, .ref g0, .int 0, .ref g1, .ref g2, .int 0, .int 0, .int 0, .int (-1), .int 0, .int 0, .int 0, .long 0, .ref g3, .ref g4, .int 0, .int 0]), (h1, aI Y 3640 (clB 0 (fun _ => 0)))] sz)) 0 0 (va_A [(h0, oC 13 [.ref h1, .ref g0, .int 0, .ref g1, .ref g2, .int 0, .int 0, .int 0, .int (-1), .int 0, .int 0, .int 0, .long 0, .ref g3, .ref g4, .int 0, .int 0]), (h1, aI Y 3640 (clB 0 (fun _ => 0)))] sz) :=
  met_of (by decide +kernel) (Nat.le_of_ble_eq_true rfl) (fun p e s m args below meth c B hin hsz => by
    have B : VB p s m args meth c D Y (va_A [(h0, oC 13 [.ref h1, .ref g0, .int 0, .ref g1, .ref g2, .int 0, .int 0, .int 0, .int (-1), .int 0, .int 0, .int 0, .long 0, .ref g3, .ref g4, .int 0, .int 0]), (h1, aI Y 3640 (clB 0 (fun _ => 0)))] sz) cX12_visibleAt 6 RX12 (some .int) := B
    refine V_aload_n 0 B dX12_visibleAt_0 0 rfl ?_
    refine V_iconst 1 B (v := 0) dX12_visibleAt_1 (by decide +kernel) ?_
    refine V_put 2 B gp_RX12_38 0 rfl (Nat.le_of_ble_eq_true rfl) rfl rfl dX12_visibleAt_2 [(h0, oC 13 [.ref h1, .ref g0, .int 0, .ref g1, .ref g2, .int 0, .int 0, .int 0, .int (-1), .int 0, .int 0, .int 0, .long 0, .ref g3, .ref g4, .int 0, .int 0]), (h1, aI Y 3640 (clB 0 (fun _ => 0)))] rfl ?_
    refine V_aload_n 5 B dX12_visibleAt_5 0 rfl ?_
    refine V_aload_n 6 B dX12_visibleAt_6 0 rfl ?_
    refine V_iload_n 7 B dX12_visibleAt_7 1 rfl ?_
    refine V_cvi 8 B (st := [.ref h0]) (As := [.int 0]) (fun sz => mX12_isMode_2 l D Y (h0) (h1) (g0) (g1) (g2) (g3) (g4) sz) glV_RX12_91 ⟨rfl, rfl⟩ ⟨(Nat.le_of_ble_eq_true rfl), (Nat.le_of_ble_eq_true rfl)⟩ ⟨(Nat.le_of_ble_eq_true rfl), (Nat.le_of_ble_eq_true rfl)⟩ [0, 0] rfl 13 0 rfl rfl rfl rfl (Nat.le_of_ble_eq_true rfl) rfl (fun _ _ _ => rfl) dX12_visibleAt_8 (fun r0 u0 w0 => ?_)
    obtain rfl := w0
    refine V_ws [(h0, oC 13 [.ref h1, .ref g0, .int 0, .ref g1, .ref g2, .int 0, .int 0, .int 0, .int (-1), .int 0, .int 0, .int 0, .long 0, .ref g3, .ref g4, .int 0, .int 0]), (h1, aI Y 3640 (clB 0 (fun _ => 0)))] rfl ?_
    refine V_if_ne_t 11 B 18 dX12_visibleAt_11 (by decide) (by decide +kernel) ?_
    refine V_iconst 18 B (v := 0) dX12_visibleAt_18 (by decide +kernel) ?_
    refine V_iconst 19 B (v := 1) dX12_visibleAt_19 (by decide +kernel) ?_
    refine V_cvi 20 B (st := []) (As := [.int 0, .int 1]) (fun sz => mX12_throwsIf_2 l D Y (h0) (h1) (g0) (g1) (g2) (g3) (g4) sz) glV_RX12_69 ⟨rfl, rfl⟩ ⟨(Nat.le_of_ble_eq_true rfl), (Nat.le_of_ble_eq_true rfl)⟩ ⟨(Nat.le_of_ble_eq_true rfl), (Nat.le_of_ble_eq_true rfl)⟩ [0] rfl 13 0 rfl rfl rfl rfl (Nat.le_of_ble_eq_true rfl) rfl (fun _ _ _ => rfl) dX12_visibleAt_20 (fun r1 u1 w1 => ?_)
    obtain rfl := w1
    refine V_ws [(h0, oC 13 [.ref h1, .ref g0, .int 0, .ref g1, .ref g2, .int 0, .int 0, .int 0, .int (-1), .int 0, .int 0, .int 0, .long 0, .ref g3, .ref g4, .int 0, .int 0]), (h1, aI Y 3640 (clB 0 (fun _ => 0)))] rfl ?_
    refine V_if_eq_t 23 B 28 dX12_visibleAt_23 (by decide) (by decide +kernel) ?_
    refine V_iconst 28 B (v := 0) dX12_visibleAt_28 (by decide +kernel) ?_
    refine V_istore_n 29 B (lv2 := [(3, .int 0), (0, .ref h0), (1, .int 0), (2, .int p0)]) dX12_visibleAt_29 (by decide) rfl ?_
    refine V_iload_n 30 B dX12_visibleAt_30 0 rfl ?_
    refine V_aload_n 31 B dX12_visibleAt_31 1 rfl ?_
    refine V_get 32 B gf_RX12_9 0 rfl rfl dX12_visibleAt_32 ?_
    refine V_iconst 35 B (v := 3) dX12_visibleAt_35 (by decide +kernel) ?_
    refine V_iald 36 B (v := 0) 1 rfl (vpin _ _ (by decide +kernel)) dX12_visibleAt_36 rfl ?_
    refine V_icmp_ge_t 37 B 125 dX12_visibleAt_37 (by decide) (by decide +kernel) ?_
    refine V_iconst 125 B (v := (-1)) dX12_visibleAt_125 (by decide +kernel) ?_
    exact V_iret 126 B dX12_visibleAt_126 () rfl rfl)
