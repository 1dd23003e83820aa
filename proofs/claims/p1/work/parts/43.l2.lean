theorem dL_addCommand_0 : decode cL_addCommand 0 = .ok (.aload_n 3, 1) := by decide +kernel
theorem dL_addCommand_1 : decode cL_addCommand 1 = .ok (.iconst 0, 1) := by decide +kernel
theorem dL_addCommand_2 : decode cL_addCommand 2 = .ok (.aload_n 0, 1) := by decide +kernel
theorem dL_addCommand_3 : decode cL_addCommand 3 = .ok (.iload_n 1, 1) := by decide +kernel
theorem dL_addCommand_4 : decode cL_addCommand 4 = .ok (.iload_n 2, 1) := by decide +kernel
theorem dL_addCommand_5 : decode cL_addCommand 5 = .ok (.invokevirtual 26, 3) := by decide +kernel
theorem glV_RL_26 : GLV RL 26 yX11_addCommand RX11 cX11_addCommand 3 (some .int) 2 := ⟨⟨(mT5 173 rfl rfl), (mT5 174 rfl rfl), (mT5 175 rfl rfl), (mT1 1 rfl rfl), (mT5 176 rfl rfl)⟩, by decide +kernel⟩
theorem dL_addCommand_13 : decode cL_addCommand 13 = .ok (.astore 4, 2) := by decide +kernel
theorem dL_addCommand_15 : decode cL_addCommand 15 = .ok (.iconst 1, 1) := by decide +kernel
theorem dL_addCommand_16 : decode cL_addCommand 16 = .ok (.ireturn, 1) := by decide +kernel
theorem dL_addCommand_17 : decode cL_addCommand 17 = .ok (.astore 4, 2) := by decide +kernel
theorem dL_addCommand_19 : decode cL_addCommand 19 = .ok (.iconst 2, 1) := by decide +kernel
theorem dL_addCommand_20 : decode cL_addCommand 20 = .ok (.ireturn, 1) := by decide +kernel
theorem dL_addCommand_8 : decode cL_addCommand 8 = .ok (.i2l, 1) := by decide +kernel
theorem dL_addCommand_9 : decode cL_addCommand 9 = .ok (.lastore, 1) := by decide +kernel
theorem dL_addCommand_10 : decode cL_addCommand 10 = .ok (.goto 11, 3) := by decide +kernel
theorem dL_addCommand_21 : decode cL_addCommand 21 = .ok (.iconst 0, 1) := by decide +kernel
theorem dL_addCommand_22 : decode cL_addCommand 22 = .ok (.ireturn, 1) := by decide +kernel
set_option maxRecDepth 100000 in
set_option maxHeartbeats 4000000 in
theorem mL_addCommand_1 (l : Launch) (hl9 : l.stackTraces = false) (D : va_G) (Y : Nat → ClassId) (h0 : Nat) (h9 : Nat) (h1 : Nat) (g0 : Nat) (g1 : Nat) (g2 : Nat) (g3 : Nat) (g4 : Nat) (g5 : Nat) (g6 : Nat) (g7 : Nat) (h2 : Nat) (h3 : Nat) (h5 : Nat) (h7 : Nat) (g8 : Nat) (g9 : Nat) (g10 : Nat) (g11 : Nat) (g12 : Nat) (g13 : Nat) (g14 : Nat) (g15 : Nat) (h4 : Nat) (h6 : Nat) (h8 : Nat) (p0 : Int32) (p1 : Int32) (sz : Nat) : Met l yL_addCommand (Cond.codeWith yL_addCommand cL_addCommand 5 (some .int) [(0, 10, 13, 13), (0, 10, 17, 18)] :: lw_good) (mkR 8 1 6 125) (PreX D Y [.ref h0, .int p0, .int p1, .ref h9] [(h0, oC 12 [.ref h1, .ref g0, .ref g1, .ref g2, .ref g3, .ref g4, .ref g5, .ref g6, .ref g7, .long 0]), (h1, oC 2 [.ref h2, .ref h3, .ref h5, .ref h7, .ref g8, .ref g9, .ref g10, .ref g11, .ref g12, .ref g13, .ref g14, .int 0]), (h2, oC 3 [.ref g15, .int 1]), (h3, oC 3 [.ref h4, .int 0]), (h4, aI Y 40 (fun _ => 0)), (h5, oC 3 [.ref h6, .int 0]), (h6, aI Y 40 (fun _ => 0)), (h7, oC 3 [.ref h8, .int 0]), (h8, aI Y 40 (fun _ => 0)), (h9, aJ Y 1 (fun _ => 0))] sz) (QI D (fun (r : Int32) (u : Nat) => (u = 0 ∧ p0 < 0 ∧ 1 = r) ∨ (u = 1 ∧ p0 = 1 ∧ p1 < 0 ∧ 2 = r) ∨ (u = 2 ∧ p0 = 1 ∧ ¬ p1 < 0 ∧ 1 ≤ p1 ∧ 2 = r) ∨ (u = 3 ∧ ¬ p0 < 0 ∧ ¬ p0 < 3 ∧ 1 = r) ∨ (u = 4 ∧ ¬ p0 < 0 ∧ p0 < 3 ∧ ¬ p0 = 1 ∧ ¬ p0 = 1 ∧ 0 = r) ∨ (u = 5 ∧ p0 = 1 ∧ p1 = 0 ∧ 0 = r)) (fun (u : Nat) => match u with | 0 => [(h0, oC 12 [.ref h1, .ref g0, .ref g1, .ref g2, .ref g3, .ref g4, .ref g5, .ref g6, .ref g7, .long 0]), (h1, oC 2 [.ref h2, .ref h3, .ref h5, .ref h7, .ref g8, .ref g9, .ref g10, .ref g11, .ref g12, .ref g13, .ref g14, .int 0]), (h2, oC 3 [.ref g15, .int 1]), (h3, oC 3 [.ref h4, .int 0]), (h4, aI Y 40 (fun _ => 0)), (h5, oC 3 [.ref h6, .int 0]), (h6, aI Y 40 (fun _ => 0)), (h7, oC 3 [.ref h8, .int 0]), (h8, aI Y 40 (fun _ => 0)), (h9, aJ Y 1 (fun _ => 0))] | 1 => [(h0, oC 12 [.ref h1, .ref g0, .ref g1, .ref g2, .ref g3, .ref g4, .ref g5, .ref g6, .ref g7, .long 0]), (h1, oC 2 [.ref h2, .ref h3, .ref h5, .ref h7, .ref g8, .ref g9, .ref g10, .ref g11, .ref g12, .ref g13, .ref g14, .int 0]), (h2, oC 3 [.ref g15, .int 1]), (h3, oC 3 [.ref h4, .int 0]), (h4, aI Y 40 (fun _ => 0)), (h5, oC 3 [.ref h6, .int 0]), (h6, aI Y 40 (fun _ => 0)), (h7, oC 3 [.ref h8, .int 0]), (h8, aI Y 40 (fun _ => 0)), (h9, aJ Y 1 (fun _ => 0))] | 2 => [(h0, oC 12 [.ref h1, .ref g0, .ref g1, .ref g2, .ref g3, .ref g4, .ref g5, .ref g6, .ref g7, .long 0]), (h1, oC 2 [.ref h2, .ref h3, .ref h5, .ref h7, .ref g8, .ref g9, .ref g10, .ref g11, .ref g12, .ref g13, .ref g14, .int 0]), (h2, oC 3 [.ref g15, .int 1]), (h3, oC 3 [.ref h4, .int 0]), (h4, aI Y 40 (fun _ => 0)), (h5, oC 3 [.ref h6, .int 0]), (h6, aI Y 40 (fun _ => 0)), (h7, oC 3 [.ref h8, .int 0]), (h8, aI Y 40 (fun _ => 0)), (h9, aJ Y 1 (fun _ => 0))] | 3 => [(h0, oC 12 [.ref h1, .ref g0, .ref g1, .ref g2, .ref g3, .ref g4, .ref g5, .ref g6, .ref g7, .long 0]), (h1, oC 2 [.ref h2, .ref h3, .ref h5, .ref h7, .ref g8, .ref g9, .ref g10, .ref g11, .ref g12, .ref g13, .ref g14, .int 0]), (h2, oC 3 [.ref g15, .int 1]), (h3, oC 3 [.ref h4, .int 0]), (h4, aI Y 40 (fun _ => 0)), (h5, oC 3 [.ref h6, .int 0]), (h6, aI Y 40 (fun _ => 0)), (h7, oC 3 [.ref h8, .int 0]), (h8, aI Y 40 (fun _ => 0)), (h9, aJ Y 1 (fun _ => 0))] | 4 => [(h0, oC 12 [.ref h1, .ref g0, .ref g1, .ref g2, .ref g3, .ref g4, .ref g5, .ref g6, .ref g7, .long 0]), (h1, oC 2 [.ref h2, .ref h3, .ref h5, .ref h7, .ref g8, .ref g9, .ref g10, .ref g11, .ref g12, .ref g13, .ref g14, .int 0]), (h2, oC 3 [.ref g15, .int 1]), (h3, oC 3 [.ref h4, .int 1]), (h4, aI Y 40 (upd (fun _ => 0) 0 p0)), (h5, oC 3 [.ref h6, .int 1]), (h6, aI Y 40 (upd (fun _ => 0) 0 (-1))), (h7, oC 3 [.ref h8, .int 1]), (h8, aI Y 40 (upd (fun _ => 0) 0 0)), (h9, aJ Y 1 (vp_updL (fun _ => 0) 0 0))] | _ => [(h0, oC 12 [.ref h1, .ref g0, .ref g1, .ref g2, .ref g3, .ref g4, .ref g5, .ref g6, .ref g7, .long 0]), (h1, oC 2 [.ref h2, .ref h3, .ref h5, .ref h7, .ref g8, .ref g9, .ref g10, .ref g11, .ref g12, .ref g13, .ref g14, .int 0]), (h2, oC 3 [.ref g15, .int 1]), (h3, oC 3 [.ref h4, .int 1]), (h4, aI Y 40 (upd (fun _ => 0) 0 1)), (h5, oC 3 [.ref h6, .int 1]), (h6, aI Y 40 (upd (fun _ => 0) 0 0)), (h7, oC 3 [.ref h8, .int 1]), (h8, aI Y 40 (upd (fun _ => 0) 0 0)), (h9, aJ Y 1 (vp_updL (fun _ => 0) 0 0))]) (va_A [(h0, oC 12 [.ref h1, .ref g0, .ref g1, .ref g2, .ref g3, .ref g4, .ref g5, .ref g6, .ref g7, .long 0]), (h1, oC 2 [.ref h2, .ref h3, .ref h5, .ref h7, .ref g8, .ref g9, .ref g10, .ref g11, .ref g12, .ref g13, .ref g14, .int 0]), (h2, oC 3 [.ref g15, .int 1]), (h3, oC 3 [.ref h4, .int 0]), (h4, aI Y 40 (fun _ => 0)), (h5, oC 3 [.ref h6, .int 0]), (h6, aI Y 40 (fun _ => 0)), (h7, oC 3 [.ref h8, .int 0]), (h8, aI Y 40 (fun _ => 0)), (h9, aJ Y 1 (fun _ => 0))] sz)) 1 6 (va_A [(h0, oC 12 [.ref h1, .ref g0, .ref g1, .ref g2, .ref g3, .ref g4, .ref g5, .ref g6, .ref g7, .long 0]), (h1, oC 2 [.ref h2, .ref h3, .ref h5, .ref h7, .ref g8, .ref g9, .ref g10, .ref g11, .ref g12, .ref g13, .ref g14, .int 0]), (h2, oC 3 [.ref g15, .int 1]), (h3, oC 3 [.ref h4, .int 0]), (h4, aI Y 40 (fun _ => 0)), (h5, oC 3 [.ref h6, .int 0]), (h6, aI Y 40 (fun _ => 0)), (h7, oC 3 [.ref h8, .int 0]), (h8, aI Y 40 (fun _ => 0)), (h9, aJ Y 1 (fun _ => 0))] sz) :=
  metH_of (by decide +kernel) (Nat.le_of_ble_eq_true rfl) (fun p e s m args below meth c B EB htab hsz => by
    have B : VB p s m args meth c D Y (va_A [(h0, oC 12 [.ref h1, .ref g0, .ref g1, .ref g2, .ref g3, .ref g4, .ref g5, .ref g6, .ref g7, .long 0]), (h1, oC 2 [.ref h2, .ref h3, .ref h5, .ref h7, .ref g8, .ref g9, .ref g10, .ref g11, .ref g12, .ref g13, .ref g14, .int 0]), (h2, oC 3 [.ref g15, .int 1]), (h3, oC 3 [.ref h4, .int 0]), (h4, aI Y 40 (fun _ => 0)), (h5, oC 3 [.ref h6, .int 0]), (h6, aI Y 40 (fun _ => 0)), (h7, oC 3 [.ref h8, .int 0]), (h8, aI Y 40 (fun _ => 0)), (h9, aJ Y 1 (fun _ => 0))] sz) cL_addCommand 5 RL (some .int) := B
    refine V_aload_n 0 B dL_addCommand_0 3 rfl ?_
    refine V_iconst 1 B (v := 0) dL_addCommand_1 (by decide +kernel) ?_
    refine V_aload_n 2 B dL_addCommand_2 0 rfl ?_
    refine V_iload_n 3 B dL_addCommand_3 1 rfl ?_
    refine V_iload_n 4 B dL_addCommand_4 2 rfl ?_
    refine V_xvi 5 B EB (st := [.int 0, .ref h9]) (As := [.int p0, .int p1]) (fun sz => mX11_addCommand_1 l hl9 D Y (h0) (h1) (g0) (g1) (g2) (g3) (g4) (g5) (g6) (g7) (h2) (h3) (h5) (h7) (g8) (g9) (g10) (g11) (g12) (g13) (g14) (g15) (h4) (h6) (h8) (p0) (p1) sz) glV_RL_26 ⟨rfl, rfl⟩ ⟨(Nat.le_of_ble_eq_true rfl), (Nat.le_of_ble_eq_true rfl)⟩ ⟨(Nat.le_of_ble_eq_true rfl), (Nat.le_of_ble_eq_true rfl)⟩ [0, 0, 0, 0, 0, 0, 0, 0, 0] rfl 12 0 rfl rfl rfl rfl (Nat.le_of_ble_eq_true rfl) rfl (fun _ u _ => by
        first | rfl | (split <;> rfl) | (dsimp only; split <;> rfl)) (fun _ _ _ => rfl) dL_addCommand_5 (fun E u0 w0 => ?_) (fun r0 u0 w0 => ?_)
    ·
      rcases w0 with ⟨rfl, k1⟩ | ⟨rfl, k2, k3⟩ | ⟨rfl, k4, k5, k6⟩ | ⟨rfl, k7, k8⟩
      ·
        refine VX_catch 5 B htab [] (0, 10, 13, 13) [(0, 10, 17, 18)] rfl "java/lang/IllegalArgumentException" (fun z hz => nomatch hz) rfl (by decide) (mT5 20 rfl rfl) (EB.2.2.2.1 _ (List.mem_of_getElem? (i := 0) rfl)) 13 rfl (fun q9 => ?_)
        refine V_ws [(h0, oC 12 [.ref h1, .ref g0, .ref g1, .ref g2, .ref g3, .ref g4, .ref g5, .ref g6, .ref g7, .long 0]), (h1, oC 2 [.ref h2, .ref h3, .ref h5, .ref h7, .ref g8, .ref g9, .ref g10, .ref g11, .ref g12, .ref g13, .ref g14, .int 0]), (h2, oC 3 [.ref g15, .int 1]), (h3, oC 3 [.ref h4, .int 0]), (h4, aI Y 40 (fun _ => 0)), (h5, oC 3 [.ref h6, .int 0]), (h6, aI Y 40 (fun _ => 0)), (h7, oC 3 [.ref h8, .int 0]), (h8, aI Y 40 (fun _ => 0)), (h9, aJ Y 1 (fun _ => 0))] rfl ?_
        refine V_astore 13 B (lv2 := [(4, .ref q9), (0, .ref h0), (1, .int p0), (2, .int p1), (3, .ref h9)]) dL_addCommand_13 (by decide) rfl ?_
        refine V_iconst 15 B (v := 1) dL_addCommand_15 (by decide +kernel) ?_
        exact V_iret 16 B dL_addCommand_16 0 (Or.inl ⟨rfl, k1, rfl⟩) rfl
      ·
        obtain rfl : p0 = 1 := k2
        refine VX_catch 5 B htab [(0, 10, 13, 13)] (0, 10, 17, 18) [] rfl "java/lang/IndexOutOfBoundsException" (fun z hz => by
        obtain rfl := List.mem_singleton.mp hz
        exact Or.inr ⟨by decide, _, B.1.2.2.2.2 _ (mT5 20 rfl rfl), EB.2.2.2.2.1 _ (List.mem_of_getElem? (i := 0) rfl)⟩) rfl (by decide) (mT5 103 rfl rfl) (EB.2.2.2.1 _ (List.mem_of_getElem? (i := 1) rfl)) 17 rfl (fun q9 => ?_)
        refine V_ws [(h0, oC 12 [.ref h1, .ref g0, .ref g1, .ref g2, .ref g3, .ref g4, .ref g5, .ref g6, .ref g7, .long 0]), (h1, oC 2 [.ref h2, .ref h3, .ref h5, .ref h7, .ref g8, .ref g9, .ref g10, .ref g11, .ref g12, .ref g13, .ref g14, .int 0]), (h2, oC 3 [.ref g15, .int 1]), (h3, oC 3 [.ref h4, .int 0]), (h4, aI Y 40 (fun _ => 0)), (h5, oC 3 [.ref h6, .int 0]), (h6, aI Y 40 (fun _ => 0)), (h7, oC 3 [.ref h8, .int 0]), (h8, aI Y 40 (fun _ => 0)), (h9, aJ Y 1 (fun _ => 0))] rfl ?_
        refine V_astore 17 B (lv2 := [(4, .ref q9), (0, .ref h0), (1, .int 1), (2, .int p1), (3, .ref h9)]) dL_addCommand_17 (by decide) rfl ?_
        refine V_iconst 19 B (v := 2) dL_addCommand_19 (by decide +kernel) ?_
        exact V_iret 20 B dL_addCommand_20 1 (Or.inr (Or.inl ⟨rfl, rfl, k3, rfl⟩)) rfl
      ·
        obtain rfl : p0 = 1 := k4
        refine VX_catch 5 B htab [(0, 10, 13, 13)] (0, 10, 17, 18) [] rfl "java/lang/IndexOutOfBoundsException" (fun z hz => by
        obtain rfl := List.mem_singleton.mp hz
        exact Or.inr ⟨by decide, _, B.1.2.2.2.2 _ (mT5 20 rfl rfl), EB.2.2.2.2.1 _ (List.mem_of_getElem? (i := 0) rfl)⟩) rfl (by decide) (mT5 103 rfl rfl) (EB.2.2.2.1 _ (List.mem_of_getElem? (i := 1) rfl)) 17 rfl (fun q9 => ?_)
        refine V_ws [(h0, oC 12 [.ref h1, .ref g0, .ref g1, .ref g2, .ref g3, .ref g4, .ref g5, .ref g6, .ref g7, .long 0]), (h1, oC 2 [.ref h2, .ref h3, .ref h5, .ref h7, .ref g8, .ref g9, .ref g10, .ref g11, .ref g12, .ref g13, .ref g14, .int 0]), (h2, oC 3 [.ref g15, .int 1]), (h3, oC 3 [.ref h4, .int 0]), (h4, aI Y 40 (fun _ => 0)), (h5, oC 3 [.ref h6, .int 0]), (h6, aI Y 40 (fun _ => 0)), (h7, oC 3 [.ref h8, .int 0]), (h8, aI Y 40 (fun _ => 0)), (h9, aJ Y 1 (fun _ => 0))] rfl ?_
        refine V_astore 17 B (lv2 := [(4, .ref q9), (0, .ref h0), (1, .int 1), (2, .int p1), (3, .ref h9)]) dL_addCommand_17 (by decide) rfl ?_
        refine V_iconst 19 B (v := 2) dL_addCommand_19 (by decide +kernel) ?_
        exact V_iret 20 B dL_addCommand_20 2 (Or.inr (Or.inr (Or.inl ⟨rfl, rfl, k5, k6, rfl⟩))) rfl
      ·
        refine VX_catch 5 B htab [] (0, 10, 13, 13) [(0, 10, 17, 18)] rfl "java/lang/IllegalArgumentException" (fun z hz => nomatch hz) rfl (by decide) (mT5 20 rfl rfl) (EB.2.2.2.1 _ (List.mem_of_getElem? (i := 0) rfl)) 13 rfl (fun q9 => ?_)
        refine V_ws [(h0, oC 12 [.ref h1, .ref g0, .ref g1, .ref g2, .ref g3, .ref g4, .ref g5, .ref g6, .ref g7, .long 0]), (h1, oC 2 [.ref h2, .ref h3, .ref h5, .ref h7, .ref g8, .ref g9, .ref g10, .ref g11, .ref g12, .ref g13, .ref g14, .int 0]), (h2, oC 3 [.ref g15, .int 1]), (h3, oC 3 [.ref h4, .int 0]), (h4, aI Y 40 (fun _ => 0)), (h5, oC 3 [.ref h6, .int 0]), (h6, aI Y 40 (fun _ => 0)), (h7, oC 3 [.ref h8, .int 0]), (h8, aI Y 40 (fun _ => 0)), (h9, aJ Y 1 (fun _ => 0))] rfl ?_
        refine V_astore 13 B (lv2 := [(4, .ref q9), (0, .ref h0), (1, .int p0), (2, .int p1), (3, .ref h9)]) dL_addCommand_13 (by decide) rfl ?_
        refine V_iconst 15 B (v := 1) dL_addCommand_15 (by decide +kernel) ?_
        exact V_iret 16 B dL_addCommand_16 3 (Or.inr (Or.inr (Or.inr (Or.inl ⟨rfl, k7, k8, rfl⟩)))) rfl
    ·
      rcases w0 with ⟨rfl, k9, k10, k11, k12, rfl⟩ | ⟨rfl, k13, k14, rfl⟩
      ·
        refine V_ws [(h0, oC 12 [.ref h1, .ref g0, .ref g1, .ref g2, .ref g3, .ref g4, .ref g5, .ref g6, .ref g7, .long 0]), (h1, oC 2 [.ref h2, .ref h3, .ref h5, .ref h7, .ref g8, .ref g9, .ref g10, .ref g11, .ref g12, .ref g13, .ref g14, .int 0]), (h2, oC 3 [.ref g15, .int 1]), (h3, oC 3 [.ref h4, .int 1]), (h4, aI Y 40 (upd (fun _ => 0) 0 p0)), (h5, oC 3 [.ref h6, .int 1]), (h6, aI Y 40 (upd (fun _ => 0) 0 (-1))), (h7, oC 3 [.ref h8, .int 1]), (h8, aI Y 40 (upd (fun _ => 0) 0 0)), (h9, aJ Y 1 (fun _ => 0))] rfl ?_
        refine V_i2l 8 B (v := 0) dL_addCommand_8 (by decide +kernel) ?_
        refine V_last 9 B 9 rfl (vpin _ _ (by decide +kernel)) dL_addCommand_9 [(h0, oC 12 [.ref h1, .ref g0, .ref g1, .ref g2, .ref g3, .ref g4, .ref g5, .ref g6, .ref g7, .long 0]), (h1, oC 2 [.ref h2, .ref h3, .ref h5, .ref h7, .ref g8, .ref g9, .ref g10, .ref g11, .ref g12, .ref g13, .ref g14, .int 0]), (h2, oC 3 [.ref g15, .int 1]), (h3, oC 3 [.ref h4, .int 1]), (h4, aI Y 40 (upd (fun _ => 0) 0 p0)), (h5, oC 3 [.ref h6, .int 1]), (h6, aI Y 40 (upd (fun _ => 0) 0 (-1))), (h7, oC 3 [.ref h8, .int 1]), (h8, aI Y 40 (upd (fun _ => 0) 0 0)), (h9, aJ Y 1 (vp_updL (fun _ => 0) 0 0))] rfl ?_
        refine V_goto 10 B 21 dL_addCommand_10 (by decide) ?_
        refine V_iconst 21 B (v := 0) dL_addCommand_21 (by decide +kernel) ?_
        exact V_iret 22 B dL_addCommand_22 4 (Or.inr (Or.inr (Or.inr (Or.inr (Or.inl ⟨rfl, k9, k10, k11, k12, rfl⟩))))) rfl
      ·
        refine V_ws [(h0, oC 12 [.ref h1, .ref g0, .ref g1, .ref g2, .ref g3, .ref g4, .ref g5, .ref g6, .ref g7, .long 0]), (h1, oC 2 [.ref h2, .ref h3, .ref h5, .ref h7, .ref g8, .ref g9, .ref g10, .ref g11, .ref g12, .ref g13, .ref g14, .int 0]), (h2, oC 3 [.ref g15, .int 1]), (h3, oC 3 [.ref h4, .int 1]), (h4, aI Y 40 (upd (fun _ => 0) 0 1)), (h5, oC 3 [.ref h6, .int 1]), (h6, aI Y 40 (upd (fun _ => 0) 0 0)), (h7, oC 3 [.ref h8, .int 1]), (h8, aI Y 40 (upd (fun _ => 0) 0 0)), (h9, aJ Y 1 (fun _ => 0))] rfl ?_
        obtain rfl : p0 = 1 := k13
        obtain rfl : p1 = 0 := k14
        refine V_i2l 8 B (v := 0) dL_addCommand_8 (by decide +kernel) ?_
        refine V_last 9 B 9 rfl (vpin _ _ (by decide +kernel)) dL_addCommand_9 [(h0, oC 12 [.ref h1, .ref g0, .ref g1, .ref g2, .ref g3, .ref g4, .ref g5, .ref g6, .ref g7, .long 0]), (h1, oC 2 [.ref h2, .ref h3, .ref h5, .ref h7, .ref g8, .ref g9, .ref g10, .ref g11, .ref g12, .ref g13, .ref g14, .int 0]), (h2, oC 3 [.ref g15, .int 1]), (h3, oC 3 [.ref h4, .int 1]), (h4, aI Y 40 (upd (fun _ => 0) 0 1)), (h5, oC 3 [.ref h6, .int 1]), (h6, aI Y 40 (upd (fun _ => 0) 0 0)), (h7, oC 3 [.ref h8, .int 1]), (h8, aI Y 40 (upd (fun _ => 0) 0 0)), (h9, aJ Y 1 (vp_updL (fun _ => 0) 0 0))] rfl ?_
        refine V_goto 10 B 21 dL_addCommand_10 (by decide) ?_
        refine V_iconst 21 B (v := 0) dL_addCommand_21 (by decide +kernel) ?_
        exact V_iret 22 B dL_addCommand_22 5 (Or.inr (Or.inr (Or.inr (Or.inr (Or.inr ⟨rfl, rfl, rfl, rfl⟩))))) rfl)
set_option maxRecDepth 100000 in
set_option maxHeartbeats 4000000 in
theorem mX12_inRange_2 (l : Launch) (D : va_G) (Y : Nat → ClassId)  (sz : Nat) : Met l yX12_inRange (WSm yX12_inRange cX12_inRange 6 (some .boolean)) (mkR 0 0 0 0) (PreC D Y [.long 1, .long 0, .long 2] [] sz) (QI D (fun (r : Int32) (u : Unit) => 1 = r) (fun (_ : Unit) => []) (va_A [] sz)) 0 0 (va_A [] sz) :=
  met_of (by decide +kernel) (Nat.le_of_ble_eq_true rfl) (fun p e s m args below meth c B hin hsz => by
    have B : VB p s m args meth c D Y (va_A [] sz) cX12_inRange 6 RX12 (some .boolean) := B
    refine V_lload_n 0 B dX12_inRange_0 0 rfl ?_
    refine V_lload_n 1 B dX12_inRange_1 1 rfl ?_
    refine V_lcmp 2 B (v := 1) dX12_inRange_2 (by decide +kernel) ?_
    refine V_if_lt_f 3 B 17 dX12_inRange_3 (by decide) (by decide +kernel) ?_
    refine V_lload_n 6 B dX12_inRange_6 0 rfl ?_
    refine V_lload 7 B dX12_inRange_7 2 rfl ?_
    refine V_lcmp 9 B (v := (-1)) dX12_inRange_9 (by decide +kernel) ?_
    refine V_if_gt_f 10 B 17 dX12_inRange_10 (by decide) (by decide +kernel) ?_
    refine V_iconst 13 B (v := 1) dX12_inRange_13 (by decide +kernel) ?_
    refine V_goto 14 B 18 dX12_inRange_14 (by decide) ?_
    exact V_zret 18 B rfl dX12_inRange_18 () rfl rfl)
set_option maxRecDepth 100000 in
set_option maxHeartbeats 4000000 in
theorem mX12_addCommand_2 (l : Launch) (D : va_G) (Y : Nat → ClassId) (h0 : Nat) (h1 : Nat) (g0 : Nat) (g1 : Nat) (g2 : Nat) (g3 : Nat) (g4 : Nat) (p0 : Int32) (sz : Nat) : Met l yX12_addCommand (WSm yX12_addCommand cX12_addCommand 4 (some .int)) (mkR 2 0 0 46) (PreC D Y [.ref h0, .int 1, .int p0] [(h0, oC 13 [.ref h1, .ref g0, .int 0, .ref g1, .ref g2, .int 0, .int 0, .int 0, .int (-1), .int 0, .int 0, .int 0, .long 0, .ref g3, .ref g4, .int 0, .int 0]), (h1, aI Y 3640 (clB 0 (fun _ => 0)))] sz) (QI D (fun (r : Int32) (u : Nat) => (u = 0 ∧ p0 = 0 ∧ 0 = r) ∨ (u = 1 ∧ p0 < 0 ∧ 0 = r) ∨ (u = 2 ∧ 0 < p0 ∧ 0 = r)) (fun (u : Nat) => match u with | 0 => [(h0, oC 13 [.ref h1, .ref g0, .int 0, .ref g1, .ref g2, .int 0, .int 0, .int 0, .int (-1), .int 0, .int 0, .int 0, .long 0, .ref g3, .ref g4, .int 0, .int 0]), (h1, aI Y 3640 (upd (upd (upd (upd (clB 0 (fun _ => 0)) 34 1) 35 0) 36 0) 1 1))] | 1 => [(h0, oC 13 [.ref h1, .ref g0, .int 2, .ref g1, .ref g2, .int 0, .int 0, .int 0, .int (-1), .int 0, .int 0, .int 0, .long 0, .ref g3, .ref g4, .int 0, .int 0]), (h1, aI Y 3640 (clB 0 (fun _ => 0)))] | _ => [(h0, oC 13 [.ref h1, .ref g0, .int 2, .ref g1, .ref g2, .int 0, .int 0, .int 0, .int (-1), .int 0, .int 0, .int 0, .long 0, .ref g3, .ref g4, .int 0, .int 0]), (h1, aI Y 3640 (clB 0 (fun _ => 0)))]) (va_A [(h0, oC 13 [.ref h1, .ref g0, .int 0, .ref g1, .ref g2, .int 0, .int 0, .int 0, .int (-1), .int 0, .int 0, .int 0, .long 0, .ref g3, .ref g4, .int 0, .int 0]), (h1, aI Y 3640 (clB 0 (fun _ => 0)))] sz)) 0 0 (va_A [(h0, oC 13 [.ref h1, .ref g0, .int 0, .ref g1, .ref g2, .int 0, .int 0, .int 0, .int (-1), .int 0, .int 0, .int 0, .long 0, .ref g3, .ref g4, .int 0, .int 0]), (h1, aI Y 3640 (clB 0 (fun _ => 0)))] sz) :=
  met_of (by decide +kernel) (Nat.le_of_ble_eq_true rfl) (fun p e s m args below meth c B hin hsz => by
    have B : VB p s m args meth c D Y (va_A [(h0, oC 13 [.ref h1, .ref g0, .int 0, .ref g1, .ref g2, .int 0, .int 0, .int 0, .int (-1), .int 0, .int 0, .int 0, .long 0, .ref g3, .ref g4, .int 0, .int 0]), (h1, aI Y 3640 (clB 0 (fun _ => 0)))] sz) cX12_addCommand 4 RX12 (some .int) := B
    refine V_aload_n 0 B dX12_addCommand_0 0 rfl ?_
    refine V_iconst 1 B (v := 0) dX12_addCommand_1 (by decide +kernel) ?_
    refine V_put 2 B gp_RX12_38 0 rfl (Nat.le_of_ble_eq_true rfl) rfl rfl dX12_addCommand_2 [(h0, oC 13 [.ref h1, .ref g0, .int 0, .ref g1, .ref g2, .int 0, .int 0, .int 0, .int (-1), .int 0, .int 0, .int 0, .long 0, .ref g3, .ref g4, .int 0, .int 0]), (h1, aI Y 3640 (clB 0 (fun _ => 0)))] rfl ?_
    refine V_aload_n 5 B dX12_addCommand_5 0 rfl ?_
    refine V_iload_n 6 B dX12_addCommand_6 1 rfl ?_
    refine V_i2l 7 B (v := 1) dX12_addCommand_7 (by decide +kernel) ?_
    refine V_lconst 8 B (v := 0) dX12_addCommand_8 (by decide +kernel) ?_
    refine V_ldc2 9 B (v := 2) dX12_addCommand_9 (mT8 45 rfl rfl) ?_
    refine V_csi 12 B (st := [.ref h0]) (As := [.long 1, .long 0, .long 2]) (fun sz => mX12_inRange_2 l D Y  sz) glS_RX12_41 ⟨rfl, rfl⟩ ⟨(Nat.le_of_ble_eq_true rfl), (Nat.le_of_ble_eq_true rfl)⟩ ⟨(Nat.le_of_ble_eq_true rfl), (Nat.le_of_ble_eq_true rfl)⟩ [] rfl rfl (Nat.le_of_ble_eq_true rfl) rfl (fun _ _ _ => rfl) dX12_addCommand_12 (fun r0 u0 w0 => ?_)
    obtain rfl := w0
    refine V_ws [(h0, oC 13 [.ref h1, .ref g0, .int 0, .ref g1, .ref g2, .int 0, .int 0, .int 0, .int (-1), .int 0, .int 0, .int 0, .long 0, .ref g3, .ref g4, .int 0, .int 0]), (h1, aI Y 3640 (clB 0 (fun _ => 0)))] rfl ?_
    refine V_if_ne_t 15 B 22 dX12_addCommand_15 (by decide) (by decide +kernel) ?_
    refine V_iconst 22 B (v := 0) dX12_addCommand_22 (by decide +kernel) ?_
    refine V_iconst 23 B (v := 1) dX12_addCommand_23 (by decide +kernel) ?_
    refine V_cvi 24 B (st := []) (As := [.int 0, .int 1]) (fun sz => mX12_throwsIf_2 l D Y (h0) (h1) (g0) (g1) (g2) (g3) (g4) sz) glV_RX12_69 ⟨rfl, rfl⟩ ⟨(Nat.le_of_ble_eq_true rfl), (Nat.le_of_ble_eq_true rfl)⟩ ⟨(Nat.le_of_ble_eq_true rfl), (Nat.le_of_ble_eq_true rfl)⟩ [0] rfl 13 0 rfl rfl rfl rfl (Nat.le_of_ble_eq_true rfl) rfl (fun _ _ _ => rfl) dX12_addCommand_24 (fun r1 u1 w1 => ?_)
    obtain rfl := w1
    refine V_ws [(h0, oC 13 [.ref h1, .ref g0, .int 0, .ref g1, .ref g2, .int 0, .int 0, .int 0, .int (-1), .int 0, .int 0, .int 0, .long 0, .ref g3, .ref g4, .int 0, .int 0]), (h1, aI Y 3640 (clB 0 (fun _ => 0)))] rfl ?_
    refine V_if_ne_f 27 B 56 dX12_addCommand_27 (by decide) (by decide +kernel) ?_
    refine V_aload_n 30 B dX12_addCommand_30 0 rfl ?_
    refine V_iload_n 31 B dX12_addCommand_31 1 rfl ?_
    refine V_iconst 32 B (v := 1) dX12_addCommand_32 (by decide +kernel) ?_
    refine V_icmp_ne_f 33 B 48 dX12_addCommand_33 (by decide) (by decide +kernel) ?_
    refine V_aload_n 36 B dX12_addCommand_36 0 rfl ?_
    refine V_iload_n 37 B dX12_addCommand_37 2 rfl ?_
    refine V_cvi 38 B (st := [.ref h0]) (As := [.int p0]) (fun sz => mX12_isMode_1 l D Y (h0) (h1) (g0) (g1) (g2) (g3) (g4) (p0) sz) glV_RX12_91 ⟨rfl, rfl⟩ ⟨(Nat.le_of_ble_eq_true rfl), (Nat.le_of_ble_eq_true rfl)⟩ ⟨(Nat.le_of_ble_eq_true rfl), (Nat.le_of_ble_eq_true rfl)⟩ [0, 0] rfl 13 0 rfl rfl rfl rfl (Nat.le_of_ble_eq_true rfl) rfl (fun _ _ _ => rfl) dX12_addCommand_38 (fun r2 u2 w2 => ?_)
    rcases w2 with ⟨k3, rfl⟩ | ⟨k4, rfl⟩ | ⟨k5, rfl⟩
    ·
      refine V_ws [(h0, oC 13 [.ref h1, .ref g0, .int 0, .ref g1, .ref g2, .int 0, .int 0, .int 0, .int (-1), .int 0, .int 0, .int 0, .long 0, .ref g3, .ref g4, .int 0, .int 0]), (h1, aI Y 3640 (clB 0 (fun _ => 0)))] rfl ?_
      obtain rfl : p0 = 0 := k3
      refine V_if_ne_t 41 B 48 dX12_addCommand_41 (by decide) (by decide +kernel) ?_
      refine V_iconst 48 B (v := 0) dX12_addCommand_48 (by decide +kernel) ?_
      refine V_iconst 49 B (v := 2) dX12_addCommand_49 (by decide +kernel) ?_
      refine V_cvi 50 B (st := []) (As := [.int 0, .int 2]) (fun sz => mX12_throwsIf_3 l D Y (h0) (h1) (g0) (g1) (g2) (g3) (g4) sz) glV_RX12_69 ⟨rfl, rfl⟩ ⟨(Nat.le_of_ble_eq_true rfl), (Nat.le_of_ble_eq_true rfl)⟩ ⟨(Nat.le_of_ble_eq_true rfl), (Nat.le_of_ble_eq_true rfl)⟩ [0] rfl 13 0 rfl rfl rfl rfl (Nat.le_of_ble_eq_true rfl) rfl (fun _ _ _ => rfl) dX12_addCommand_50 (fun r6 u6 w6 => ?_)
      obtain rfl := w6
      refine V_ws [(h0, oC 13 [.ref h1, .ref g0, .int 0, .ref g1, .ref g2, .int 0, .int 0, .int 0, .int (-1), .int 0, .int 0, .int 0, .long 0, .ref g3, .ref g4, .int 0, .int 0]), (h1, aI Y 3640 (clB 0 (fun _ => 0)))] rfl ?_
      refine V_if_eq_t 53 B 58 dX12_addCommand_53 (by decide) (by decide +kernel) ?_
      refine V_aload_n 58 B dX12_addCommand_58 0 rfl ?_
      refine V_get 59 B gf_RX12_9 0 rfl rfl dX12_addCommand_59 ?_
      refine V_iconst 62 B (v := 1) dX12_addCommand_62 (by decide +kernel) ?_
      refine V_iald 63 B (v := 0) 1 rfl (vpin _ _ (by decide +kernel)) dX12_addCommand_63 rfl ?_
      refine V_bipush 64 B (v := 40) dX12_addCommand_64 (by decide +kernel) ?_
      refine V_icmp_ne_t 66 B 72 dX12_addCommand_66 (by decide) (by decide +kernel) ?_
      refine V_bipush 72 B (v := 34) dX12_addCommand_72 (by decide +kernel) ?_
      refine V_iconst 74 B (v := 3) dX12_addCommand_74 (by decide +kernel) ?_
      refine V_aload_n 75 B dX12_addCommand_75 0 rfl ?_
      refine V_get 76 B gf_RX12_9 0 rfl rfl dX12_addCommand_76 ?_
      refine V_iconst 79 B (v := 1) dX12_addCommand_79 (by decide +kernel) ?_
      refine V_iald 80 B (v := 0) 1 rfl (vpin _ _ (by decide +kernel)) dX12_addCommand_80 rfl ?_
      refine V_imul 81 B (v := 0) dX12_addCommand_81 (by decide +kernel) ?_
      refine V_iadd 82 B (v := 34) dX12_addCommand_82 (by decide +kernel) ?_
      refine V_istore_n 83 B (lv2 := [(3, .int 34), (0, .ref h0), (1, .int 1), (2, .int 0)]) dX12_addCommand_83 (by decide) rfl ?_
      refine V_aload_n 84 B dX12_addCommand_84 1 rfl ?_
      refine V_get 85 B gf_RX12_9 0 rfl rfl dX12_addCommand_85 ?_
      refine V_iload_n 88 B dX12_addCommand_88 0 rfl ?_
      refine V_iconst 89 B (v := 0) dX12_addCommand_89 (by decide +kernel) ?_
      refine V_iadd 90 B (v := 34) dX12_addCommand_90 (by decide +kernel) ?_
      refine V_iload_n 91 B dX12_addCommand_91 2 rfl ?_
      refine V_iast 92 B 1 rfl (vpin _ _ (by decide +kernel)) dX12_addCommand_92 [(h0, oC 13 [.ref h1, .ref g0, .int 0, .ref g1, .ref g2, .int 0, .int 0, .int 0, .int (-1), .int 0, .int 0, .int 0, .long 0, .ref g3, .ref g4, .int 0, .int 0]), (h1, aI Y 3640 (upd (clB 0 (fun _ => 0)) 34 1))] rfl ?_
      refine V_aload_n 93 B dX12_addCommand_93 1 rfl ?_
      refine V_get 94 B gf_RX12_9 0 rfl rfl dX12_addCommand_94 ?_
      refine V_iload_n 97 B dX12_addCommand_97 0 rfl ?_
      refine V_iconst 98 B (v := 1) dX12_addCommand_98 (by decide +kernel) ?_
      refine V_iadd 99 B (v := 35) dX12_addCommand_99 (by decide +kernel) ?_
      refine V_iload_n 100 B dX12_addCommand_100 2 rfl ?_
      refine V_iconst 101 B (v := 1) dX12_addCommand_101 (by decide +kernel) ?_
      refine V_icmp_ne_f 102 B 109 dX12_addCommand_102 (by decide) (by decide +kernel) ?_
      refine V_iload_n 105 B dX12_addCommand_105 3 rfl ?_
      refine V_goto 106 B 110 dX12_addCommand_106 (by decide) ?_
      refine V_iast 110 B 1 rfl (vpin _ _ (by decide +kernel)) dX12_addCommand_110 [(h0, oC 13 [.ref h1, .ref g0, .int 0, .ref g1, .ref g2, .int 0, .int 0, .int 0, .int (-1), .int 0, .int 0, .int 0, .long 0, .ref g3, .ref g4, .int 0, .int 0]), (h1, aI Y 3640 (upd (upd (clB 0 (fun _ => 0)) 34 1) 35 0))] rfl ?_
      refine V_aload_n 111 B dX12_addCommand_111 1 rfl ?_
      refine V_get 112 B gf_RX12_9 0 rfl rfl dX12_addCommand_112 ?_
      refine V_iload_n 115 B dX12_addCommand_115 0 rfl ?_
      refine V_iconst 116 B (v := 2) dX12_addCommand_116 (by decide +kernel) ?_
      refine V_iadd 117 B (v := 36) dX12_addCommand_117 (by decide +kernel) ?_
      refine V_iconst 118 B (v := 0) dX12_addCommand_118 (by decide +kernel) ?_
      refine V_iast 119 B 1 rfl (vpin _ _ (by decide +kernel)) dX12_addCommand_119 [(h0, oC 13 [.ref h1, .ref g0, .int 0, .ref g1, .ref g2, .int 0, .int 0, .int 0, .int (-1), .int 0, .int 0, .int 0, .long 0, .ref g3, .ref g4, .int 0, .int 0]), (h1, aI Y 3640 (upd (upd (upd (clB 0 (fun _ => 0)) 34 1) 35 0) 36 0))] rfl ?_
      refine V_aload_n 120 B dX12_addCommand_120 1 rfl ?_
      refine V_get 121 B gf_RX12_9 0 rfl rfl dX12_addCommand_121 ?_
      refine V_iconst 124 B (v := 1) dX12_addCommand_124 (by decide +kernel) ?_
      refine V_dup2_11 125 B dX12_addCommand_125 rfl rfl ?_
      refine V_iald 126 B (v := 0) 1 rfl (vpin _ _ (by decide +kernel)) dX12_addCommand_126 rfl ?_
      refine V_iconst 127 B (v := 1) dX12_addCommand_127 (by decide +kernel) ?_
      refine V_iadd 128 B (v := 1) dX12_addCommand_128 (by decide +kernel) ?_
      refine V_iast 129 B 1 rfl (vpin _ _ (by decide +kernel)) dX12_addCommand_129 [(h0, oC 13 [.ref h1, .ref g0, .int 0, .ref g1, .ref g2, .int 0, .int 0, .int 0, .int (-1), .int 0, .int 0, .int 0, .long 0, .ref g3, .ref g4, .int 0, .int 0]), (h1, aI Y 3640 (upd (upd (upd (upd (clB 0 (fun _ => 0)) 34 1) 35 0) 36 0) 1 1))] rfl ?_
      refine V_aload_n 130 B dX12_addCommand_130 1 rfl ?_
      refine V_get 131 B gf_RX12_9 0 rfl rfl dX12_addCommand_131 ?_
      refine V_iconst 134 B (v := 1) dX12_addCommand_134 (by decide +kernel) ?_
      refine V_iald 135 B (v := 1) 1 rfl (vpin _ _ (by decide +kernel)) dX12_addCommand_135 rfl ?_
      refine V_iconst 136 B (v := 1) dX12_addCommand_136 (by decide +kernel) ?_
      refine V_isub 137 B (v := 0) dX12_addCommand_137 (by decide +kernel) ?_
      exact V_iret 138 B dX12_addCommand_138 0 (Or.inl ⟨rfl, rfl, rfl⟩) rfl
    ·
      refine V_ws [(h0, oC 13 [.ref h1, .ref g0, .int 0, .ref g1, .ref g2, .int 0, .int 0, .int 0, .int (-1), .int 0, .int 0, .int 0, .long 0, .ref g3, .ref g4, .int 0, .int 0]), (h1, aI Y 3640 (clB 0 (fun _ => 0)))] rfl ?_
      refine V_if_ne_f 41 B 48 dX12_addCommand_41 (by decide) (by decide +kernel) ?_
      refine V_iconst 44 B (v := 1) dX12_addCommand_44 (by decide +kernel) ?_
      refine V_goto 45 B 49 dX12_addCommand_45 (by decide) ?_
      refine V_iconst 49 B (v := 2) dX12_addCommand_49 (by decide +kernel) ?_
      refine V_cvi 50 B (st := []) (As := [.int 1, .int 2]) (fun sz => mX12_throwsIf_4 l D Y (h0) (h1) (g0) (g1) (g2) (g3) (g4) sz) glV_RX12_69 ⟨rfl, rfl⟩ ⟨(Nat.le_of_ble_eq_true rfl), (Nat.le_of_ble_eq_true rfl)⟩ ⟨(Nat.le_of_ble_eq_true rfl), (Nat.le_of_ble_eq_true rfl)⟩ [0] rfl 13 0 rfl rfl rfl rfl (Nat.le_of_ble_eq_true rfl) rfl (fun _ _ _ => rfl) dX12_addCommand_50 (fun r7 u7 w7 => ?_)
      obtain rfl := w7
      refine V_ws [(h0, oC 13 [.ref h1, .ref g0, .int 2, .ref g1, .ref g2, .int 0, .int 0, .int 0, .int (-1), .int 0, .int 0, .int 0, .long 0, .ref g3, .ref g4, .int 0, .int 0]), (h1, aI Y 3640 (clB 0 (fun _ => 0)))] rfl ?_
      refine V_if_eq_f 53 B 58 dX12_addCommand_53 (by decide) (by decide +kernel) ?_
      refine V_iconst 56 B (v := 0) dX12_addCommand_56 (by decide +kernel) ?_
      exact V_iret 57 B dX12_addCommand_57 1 (Or.inr (Or.inl ⟨rfl, k4, rfl⟩)) rfl
    ·
      refine V_ws [(h0, oC 13 [.ref h1, .ref g0, .int 0, .ref g1, .ref g2, .int 0, .int 0, .int 0, .int (-1), .int 0, .int 0, .int 0, .long 0, .ref g3, .ref g4, .int 0, .int 0]), (h1, aI Y 3640 (clB 0 (fun _ => 0)))] rfl ?_
      refine V_if_ne_f 41 B 48 dX12_addCommand_41 (by decide) (by decide +kernel) ?_
      refine V_iconst 44 B (v := 1) dX12_addCommand_44 (by decide +kernel) ?_
      refine V_goto 45 B 49 dX12_addCommand_45 (by decide) ?_
      refine V_iconst 49 B (v := 2) dX12_addCommand_49 (by decide +kernel) ?_
      refine V_cvi 50 B (st := []) (As := [.int 1, .int 2]) (fun sz => mX12_throwsIf_4 l D Y (h0) (h1) (g0) (g1) (g2) (g3) (g4) sz) glV_RX12_69 ⟨rfl, rfl⟩ ⟨(Nat.le_of_ble_eq_true rfl), (Nat.le_of_ble_eq_true rfl)⟩ ⟨(Nat.le_of_ble_eq_true rfl), (Nat.le_of_ble_eq_true rfl)⟩ [0] rfl 13 0 rfl rfl rfl rfl (Nat.le_of_ble_eq_true rfl) rfl (fun _ _ _ => rfl) dX12_addCommand_50 (fun r8 u8 w8 => ?_)
      obtain rfl := w8
      refine V_ws [(h0, oC 13 [.ref h1, .ref g0, .int 2, .ref g1, .ref g2, .int 0, .int 0, .int 0, .int (-1), .int 0, .int 0, .int 0, .long 0, .ref g3, .ref g4, .int 0, .int 0]), (h1, aI Y 3640 (clB 0 (fun _ => 0)))] rfl ?_
      refine V_if_eq_f 53 B 58 dX12_addCommand_53 (by decide) (by decide +kernel) ?_
      refine V_iconst 56 B (v := 0) dX12_addCommand_56 (by decide +kernel) ?_
      exact V_iret 57 B dX12_addCommand_57 2 (Or.inr (Or.inr ⟨rfl, k5, rfl⟩)) rfl)
set_option maxRecDepth 100000 in
set_option maxHeartbeats 4000000 in
theorem mX12_thrown_3 (l : Launch) (D : va_G) (Y : Nat → ClassId) (h0 : Nat) (g0 : Nat) (g1 : Nat) (g2 : Nat) (g3 : Nat) (g4 : Nat) (g5 : Nat) (sz : Nat) : Met l yX12_thrown (WSm yX12_thrown cX12_thrown 1 (some .int)) (mkR 0 0 0 0) (PreC D Y [.ref h0] [(h0, oC 13 [.ref g0, .ref g1, .int 2, .ref g2, .ref g3, .int 0, .int 0, .int 0, .int (-1), .int 0, .int 0, .int 0, .long 0, .ref g4, .ref g5, .int 0, .int 0])] sz) (QI D (fun (r : Int32) (u : Unit) => 2 = r) (fun (_ : Unit) => [(h0, oC 13 [.ref g0, .ref g1, .int 2, .ref g2, .ref g3, .int 0, .int 0, .int 0, .int (-1), .int 0, .int 0, .int 0, .long 0, .ref g4, .ref g5, .int 0, .int 0])]) (va_A [(h0, oC 13 [.ref g0, .ref g1, .int 2, .ref g2, .ref g3, .int 0, .int 0, .int 0, .int (-1), .int 0, .int 0, .int 0, .long 0, .ref g4, .ref g5, .int 0, .int 0])] sz)) 0 0 (va_A [(h0, oC 13 [.ref g0, .ref g1, .int 2, .ref g2, .ref g3, .int 0, .int 0, .int 0, .int (-1), .int 0, .int 0, .int 0, .long 0, .ref g4, .ref g5, .int 0, .int 0])] sz) :=
  met_of (by decide +kernel) (Nat.le_of_ble_eq_true rfl) (fun p e s m args below meth c B hin hsz => by
    have B : VB p s m args meth c D Y (va_A [(h0, oC 13 [.ref g0, .ref g1, .int 2, .ref g2, .ref g3, .int 0, .int 0, .int 0, .int (-1), .int 0, .int 0, .int 0, .long 0, .ref g4, .ref g5, .int 0, .int 0])] sz) cX12_thrown 1 RX12 (some .int) := B
    refine V_aload_n 0 B dX12_thrown_0 0 rfl ?_
    refine V_get 1 B gf_RX12_38 0 rfl rfl dX12_thrown_1 ?_
    exact V_iret 4 B dX12_thrown_4 () rfl rfl)
set_option maxRecDepth 100000 in
set_option maxHeartbeats 4000000 in
theorem mX12_addCommand_3 (l : Launch) (D : va_G) (Y : Nat → ClassId) (h0 : Nat) (h1 : Nat) (g0 : Nat) (g1 : Nat) (g2 : Nat) (g3 : Nat) (g4 : Nat) (sz : Nat) : Met l yX12_addCommand (WSm yX12_addCommand cX12_addCommand 4 (some .int)) (mkR 2 0 0 46) (PreC D Y [.ref h0, .int 1, .int 0] [(h0, oC 13 [.ref h1, .ref g0, .int 0, .ref g1, .ref g2, .int 0, .int 0, .int 0, .int (-1), .int 0, .int 0, .int 0, .long 0, .ref g3, .ref g4, .int 0, .int 0]), (h1, aI Y 3640 (clB 0 (fun _ => 0)))] sz) (QI D (fun (r : Int32) (u : Unit) => 0 = r) (fun (_ : Unit) => [(h0, oC 13 [.ref h1, .ref g0, .int 0, .ref g1, .ref g2, .int 0, .int 0, .int 0, .int (-1), .int 0, .int 0, .int 0, .long 0, .ref g3, .ref g4, .int 0, .int 0]), (h1, aI Y 3640 (upd (upd (upd (upd (clB 0 (fun _ => 0)) 34 1) 35 0) 36 0) 1 1))]) (va_A [(h0, oC 13 [.ref h1, .ref g0, .int 0, .ref g1, .ref g2, .int 0, .int 0, .int 0, .int (-1), .int 0, .int 0, .int 0, .long 0, .ref g3, .ref g4, .int 0, .int 0]), (h1, aI Y 3640 (clB 0 (fun _ => 0)))] sz)) 0 0 (va_A [(h0, oC 13 [.ref h1, .ref g0, .int 0, .ref g1, .ref g2, .int 0, .int 0, .int 0, .int (-1), .int 0, .int 0, .int 0, .long 0, .ref g3, .ref g4, .int 0, .int 0]), (h1, aI Y 3640 (clB 0 (fun _ => 0)))] sz) :=
  met_of (by decide +kernel) (Nat.le_of_ble_eq_true rfl) (fun p e s m args below meth c B hin hsz => by
    have B : VB p s m args meth c D Y (va_A [(h0, oC 13 [.ref h1, .ref g0, .int 0, .ref g1, .ref g2, .int 0, .int 0, .int 0, .int (-1), .int 0, .int 0, .int 0, .long 0, .ref g3, .ref g4, .int 0, .int 0]), (h1, aI Y 3640 (clB 0 (fun _ => 0)))] sz) cX12_addCommand 4 RX12 (some .int) := B
    refine V_aload_n 0 B dX12_addCommand_0 0 rfl ?_
    refine V_iconst 1 B (v := 0) dX12_addCommand_1 (by decide +kernel) ?_
    refine V_put 2 B gp_RX12_38 0 rfl (Nat.le_of_ble_eq_true rfl) rfl rfl dX12_addCommand_2 [(h0, oC 13 [.ref h1, .ref g0, .int 0, .ref g1, .ref g2, .int 0, .int 0, .int 0, .int (-1), .int 0, .int 0, .int 0, .long 0, .ref g3, .ref g4, .int 0, .int 0]), (h1, aI Y 3640 (clB 0 (fun _ => 0)))] rfl ?_
    refine V_aload_n 5 B dX12_addCommand_5 0 rfl ?_
    refine V_iload_n 6 B dX12_addCommand_6 1 rfl ?_
    refine V_i2l 7 B (v := 1) dX12_addCommand_7 (by decide +kernel) ?_
    refine V_lconst 8 B (v := 0) dX12_addCommand_8 (by decide +kernel) ?_
    refine V_ldc2 9 B (v := 2) dX12_addCommand_9 (mT8 45 rfl rfl) ?_
    refine V_csi 12 B (st := [.ref h0]) (As := [.long 1, .long 0, .long 2]) (fun sz => mX12_inRange_2 l D Y  sz) glS_RX12_41 ⟨rfl, rfl⟩ ⟨(Nat.le_of_ble_eq_true rfl), (Nat.le_of_ble_eq_true rfl)⟩ ⟨(Nat.le_of_ble_eq_true rfl), (Nat.le_of_ble_eq_true rfl)⟩ [] rfl rfl (Nat.le_of_ble_eq_true rfl) rfl (fun _ _ _ => rfl) dX12_addCommand_12 (fun r0 u0 w0 => ?_)
    obtain rfl := w0
    refine V_ws [(h0, oC 13 [.ref h1, .ref g0, .int 0, .ref g1, .ref g2, .int 0, .int 0, .int 0, .int (-1), .int 0, .int 0, .int 0, .long 0, .ref g3, .ref g4, .int 0, .int 0]), (h1, aI Y 3640 (clB 0 (fun _ => 0)))] rfl ?_
    refine V_if_ne_t 15 B 22 dX12_addCommand_15 (by decide) (by decide +kernel) ?_
    refine V_iconst 22 B (v := 0) dX12_addCommand_22 (by decide +kernel) ?_
    refine V_iconst 23 B (v := 1) dX12_addCommand_23 (by decide +kernel) ?_
    refine V_cvi 24 B (st := []) (As := [.int 0, .int 1]) (fun sz => mX12_throwsIf_2 l D Y (h0) (h1) (g0) (g1) (g2) (g3) (g4) sz) glV_RX12_69 ⟨rfl, rfl⟩ ⟨(Nat.le_of_ble_eq_true rfl), (Nat.le_of_ble_eq_true rfl)⟩ ⟨(Nat.le_of_ble_eq_true rfl), (Nat.le_of_ble_eq_true rfl)⟩ [0] rfl 13 0 rfl rfl rfl rfl (Nat.le_of_ble_eq_true rfl) rfl (fun _ _ _ => rfl) dX12_addCommand_24 (fun r1 u1 w1 => ?_)
    obtain rfl := w1
    refine V_ws [(h0, oC 13 [.ref h1, .ref g0, .int 0, .ref g1, .ref g2, .int 0, .int 0, .int 0, .int (-1), .int 0, .int 0, .int 0, .long 0, .ref g3, .ref g4, .int 0, .int 0]), (h1, aI Y 3640 (clB 0 (fun _ => 0)))] rfl ?_
    refine V_if_ne_f 27 B 56 dX12_addCommand_27 (by decide) (by decide +kernel) ?_
    refine V_aload_n 30 B dX12_addCommand_30 0 rfl ?_
    refine V_iload_n 31 B dX12_addCommand_31 1 rfl ?_
    refine V_iconst 32 B (v := 1) dX12_addCommand_32 (by decide +kernel) ?_
    refine V_icmp_ne_f 33 B 48 dX12_addCommand_33 (by decide) (by decide +kernel) ?_
    refine V_aload_n 36 B dX12_addCommand_36 0 rfl ?_
    refine V_iload_n 37 B dX12_addCommand_37 2 rfl ?_
    refine V_cvi 38 B (st := [.ref h0]) (As := [.int 0]) (fun sz => mX12_isMode_2 l D Y (h0) (h1) (g0) (g1) (g2) (g3) (g4) sz) glV_RX12_91 ⟨rfl, rfl⟩ ⟨(Nat.le_of_ble_eq_true rfl), (Nat.le_of_ble_eq_true rfl)⟩ ⟨(Nat.le_of_ble_eq_true rfl), (Nat.le_of_ble_eq_true rfl)⟩ [0, 0] rfl 13 0 rfl rfl rfl rfl (Nat.le_of_ble_eq_true rfl) rfl (fun _ _ _ => rfl) dX12_addCommand_38 (fun r2 u2 w2 => ?_)
    obtain rfl := w2
    refine V_ws [(h0, oC 13 [.ref h1, .ref g0, .int 0, .ref g1, .ref g2, .int 0, .int 0, .int 0, .int (-1), .int 0, .int 0, .int 0, .long 0, .ref g3, .ref g4, .int 0, .int 0]), (h1, aI Y 3640 (clB 0 (fun _ => 0)))] rfl ?_
    refine V_if_ne_t 41 B 48 dX12_addCommand_41 (by decide) (by decide +kernel) ?_
    refine V_iconst 48 B (v := 0) dX12_addCommand_48 (by decide +kernel) ?_
    refine V_iconst 49 B (v := 2) dX12_addCommand_49 (by decide +kernel) ?_
    refine V_cvi 50 B (st := []) (As := [.int 0, .int 2]) (fun sz => mX12_throwsIf_3 l D Y (h0) (h1) (g0) (g1) (g2) (g3) (g4) sz) glV_RX12_69 ⟨rfl, rfl⟩ ⟨(Nat.le_of_ble_eq_true rfl), (Nat.le_of_ble_eq_true rfl)⟩ ⟨(Nat.le_of_ble_eq_true rfl), (Nat.le_of_ble_eq_true rfl)⟩ [0] rfl 13 0 rfl rfl rfl rfl (Nat.le_of_ble_eq_true rfl) rfl (fun _ _ _ => rfl) dX12_addCommand_50 (fun r3 u3 w3 => ?_)
    obtain rfl := w3
    refine V_ws [(h0, oC 13 [.ref h1, .ref g0, .int 0, .ref g1, .ref g2, .int 0, .int 0, .int 0, .int (-1), .int 0, .int 0, .int 0, .long 0, .ref g3, .ref g4, .int 0, .int 0]), (h1, aI Y 3640 (clB 0 (fun _ => 0)))] rfl ?_
    refine V_if_eq_t 53 B 58 dX12_addCommand_53 (by decide) (by decide +kernel) ?_
    refine V_aload_n 58 B dX12_addCommand_58 0 rfl ?_
    refine V_get 59 B gf_RX12_9 0 rfl rfl dX12_addCommand_59 ?_
    refine V_iconst 62 B (v := 1) dX12_addCommand_62 (by decide +kernel) ?_
    refine V_iald 63 B (v := 0) 1 rfl (vpin _ _ (by decide +kernel)) dX12_addCommand_63 rfl ?_
    refine V_bipush 64 B (v := 40) dX12_addCommand_64 (by decide +kernel) ?_
    refine V_icmp_ne_t 66 B 72 dX12_addCommand_66 (by decide) (by decide +kernel) ?_
    refine V_bipush 72 B (v := 34) dX12_addCommand_72 (by decide +kernel) ?_
    refine V_iconst 74 B (v := 3) dX12_addCommand_74 (by decide +kernel) ?_
    refine V_aload_n 75 B dX12_addCommand_75 0 rfl ?_
    refine V_get 76 B gf_RX12_9 0 rfl rfl dX12_addCommand_76 ?_
    refine V_iconst 79 B (v := 1) dX12_addCommand_79 (by decide +kernel) ?_
    refine V_iald 80 B (v := 0) 1 rfl (vpin _ _ (by decide +kernel)) dX12_addCommand_80 rfl ?_
    refine V_imul 81 B (v := 0) dX12_addCommand_81 (by decide +kernel) ?_
    refine V_iadd 82 B (v := 34) dX12_addCommand_82 (by decide +kernel) ?_
    refine V_istore_n 83 B (lv2 := [(3, .int 34), (0, .ref h0), (1, .int 1), (2, .int 0)]) dX12_addCommand_83 (by decide) rfl ?_
    refine V_aload_n 84 B dX12_addCommand_84 1 rfl ?_
    refine V_get 85 B gf_RX12_9 0 rfl rfl dX12_addCommand_85 ?_
    refine V_iload_n 88 B dX12_addCommand_88 0 rfl ?_
    refine V_iconst 89 B (v := 0) dX12_addCommand_89 (by decide +kernel) ?_
    refine V_iadd 90 B (v := 34) dX12_addCommand_90 (by decide +kernel) ?_
    refine V_iload_n 91 B dX12_addCommand_91 2 rfl ?_
    refine V_iast 92 B 1 rfl (vpin _ _ (by decide +kernel)) dX12_addCommand_92 [(h0, oC 13 [.ref h1, .ref g0, .int 0, .ref g1, .ref g2, .int 0, .int 0, .int 0, .int (-1), .int 0, .int 0, .int 0, .long 0, .ref g3, .ref g4, .int 0, .int 0]), (h1, aI Y 3640 (upd (clB 0 (fun _ => 0)) 34 1))] rfl ?_
    refine V_aload_n 93 B dX12_addCommand_93 1 rfl ?_
    refine V_get 94 B gf_RX12_9 0 rfl rfl dX12_addCommand_94 ?_
    refine V_iload_n 97 B dX12_addCommand_97 0 rfl ?_
    refine V_iconst 98 B (v := 1) dX12_addCommand_98 (by decide +kernel) ?_
    refine V_iadd 99 B (v := 35) dX12_addCommand_99 (by decide +kernel) ?_
    refine V_iload_n 100 B dX12_addCommand_100 2 rfl ?_
    refine V_iconst 101 B (v := 1) dX12_addCommand_101 (by decide +kernel) ?_
    refine V_icmp_ne_f 102 B 109 dX12_addCommand_102 (by decide) (by decide +kernel) ?_
    refine V_iload_n 105 B dX12_addCommand_105 3 rfl ?_
    refine V_goto 106 B 110 dX12_addCommand_106 (by decide) ?_
    refine V_iast 110 B 1 rfl (vpin _ _ (by decide +kernel)) dX12_addCommand_110 [(h0, oC 13 [.ref h1, .ref g0, .int 0, .ref g1, .ref g2, .int 0, .int 0, .int 0, .int (-1), .int 0, .int 0, .int 0, .long 0, .ref g3, .ref g4, .int 0, .int 0]), (h1, aI Y 3640 (upd (upd (clB 0 (fun _ => 0)) 34 1) 35 0))] rfl ?_
    refine V_aload_n 111 B dX12_addCommand_111 1 rfl ?_
    refine V_get 112 B gf_RX12_9 0 rfl rfl dX12_addCommand_112 ?_
    refine V_iload_n 115 B dX12_addCommand_115 0 rfl ?_
    refine V_iconst 116 B (v := 2) dX12_addCommand_116 (by decide +kernel) ?_
    refine V_iadd 117 B (v := 36) dX12_addCommand_117 (by decide +kernel) ?_
    refine V_iconst 118 B (v := 0) dX12_addCommand_118 (by decide +kernel) ?_
    refine V_iast 119 B 1 rfl (vpin _ _ (by decide +kernel)) dX12_addCommand_119 [(h0, oC 13 [.ref h1, .ref g0, .int 0, .ref g1, .ref g2, .int 0, .int 0, .int 0, .int (-1), .int 0, .int 0, .int 0, .long 0, .ref g3, .ref g4, .int 0, .int 0]), (h1, aI Y 3640 (upd (upd (upd (clB 0 (fun _ => 0)) 34 1) 35 0) 36 0))] rfl ?_
    refine V_aload_n 120 B dX12_addCommand_120 1 rfl ?_
    refine V_get 121 B gf_RX12_9 0 rfl rfl dX12_addCommand_121 ?_
    refine V_iconst 124 B (v := 1) dX12_addCommand_124 (by decide +kernel) ?_
    refine V_dup2_11 125 B dX12_addCommand_125 rfl rfl ?_
    refine V_iald 126 B (v := 0) 1 rfl (vpin _ _ (by decide +kernel)) dX12_addCommand_126 rfl ?_
    refine V_iconst 127 B (v := 1) dX12_addCommand_127 (by decide +kernel) ?_
    refine V_iadd 128 B (v := 1) dX12_addCommand_128 (by decide +kernel) ?_
    refine V_iast 129 B 1 rfl (vpin _ _ (by decide +kernel)) dX12_addCommand_129 [(h0, oC 13 [.ref h1, .ref g0, .int 0, .ref g1, .ref g2, .int 0, .int 0, .int 0, .int (-1), .int 0, .int 0, .int 0, .long 0, .ref g3, .ref g4, .int 0, .int 0]), (h1, aI Y 3640 (upd (upd (upd (upd (clB 0 (fun _ => 0)) 34 1) 35 0) 36 0) 1 1))] rfl ?_
    refine V_aload_n 130 B dX12_addCommand_130 1 rfl ?_
    refine V_get 131 B gf_RX12_9 0 rfl rfl dX12_addCommand_131 ?_
    refine V_iconst 134 B (v := 1) dX12_addCommand_134 (by decide +kernel) ?_
    refine V_iald 135 B (v := 1) 1 rfl (vpin _ _ (by decide +kernel)) dX12_addCommand_135 rfl ?_
    refine V_iconst 136 B (v := 1) dX12_addCommand_136 (by decide +kernel) ?_
    refine V_isub 137 B (v := 0) dX12_addCommand_137 (by decide +kernel) ?_
    exact V_iret 138 B dX12_addCommand_138 () rfl rfl)
theorem dL_law_736 : decode cL_law 736 = .ok (.aload_n 1, 1) := by decide +kernel
theorem dL_law_737 : decode cL_law 737 = .ok (.aload_n 0, 1) := by decide +kernel
theorem dL_law_738 : decode cL_law 738 = .ok (.iload 4, 2) := by decide +kernel
theorem dL_law_740 : decode cL_law 740 = .ok (.iconst 1, 1) := by decide +kernel
theorem dL_law_741 : decode cL_law 741 = .ok (.iadd, 1) := by decide +kernel
theorem dL_law_742 : decode cL_law 742 = .ok (.iaload, 1) := by decide +kernel
theorem dL_law_743 : decode cL_law 743 = .ok (.aload_n 0, 1) := by decide +kernel
theorem dL_law_744 : decode cL_law 744 = .ok (.iload 4, 2) := by decide +kernel
theorem dL_law_746 : decode cL_law 746 = .ok (.iconst 2, 1) := by decide +kernel
theorem dL_law_747 : decode cL_law 747 = .ok (.iadd, 1) := by decide +kernel
theorem dL_law_748 : decode cL_law 748 = .ok (.iaload, 1) := by decide +kernel
theorem dL_law_749 : decode cL_law 749 = .ok (.aload_n 3, 1) := by decide +kernel
theorem dL_law_750 : decode cL_law 750 = .ok (.invokestatic 202, 3) := by decide +kernel
theorem glH_RL_202 : GLH RL 202 yL_addCommand cL_addCommand 5 (some .int) [(0, 10, 13, 13), (0, 10, 17, 18)] 4 := ⟨⟨(mT5 170 rfl rfl), (mT5 171 rfl rfl), (mT1 0 rfl rfl), (mT5 172 rfl rfl)⟩, by decide +kernel⟩
theorem dL_law_753 : decode cL_law 753 = .ok (.istore 5, 2) := by decide +kernel
theorem dL_law_755 : decode cL_law 755 = .ok (.aload_n 2, 1) := by decide +kernel
theorem dL_law_756 : decode cL_law 756 = .ok (.aload_n 0, 1) := by decide +kernel
theorem dL_law_757 : decode cL_law 757 = .ok (.iload 4, 2) := by decide +kernel
theorem dL_law_759 : decode cL_law 759 = .ok (.iconst 1, 1) := by decide +kernel
theorem dL_law_760 : decode cL_law 760 = .ok (.iadd, 1) := by decide +kernel
theorem dL_law_761 : decode cL_law 761 = .ok (.iaload, 1) := by decide +kernel
theorem dL_law_762 : decode cL_law 762 = .ok (.aload_n 0, 1) := by decide +kernel
theorem dL_law_763 : decode cL_law 763 = .ok (.iload 4, 2) := by decide +kernel
theorem dL_law_765 : decode cL_law 765 = .ok (.iconst 2, 1) := by decide +kernel
theorem dL_law_766 : decode cL_law 766 = .ok (.iadd, 1) := by decide +kernel
theorem dL_law_767 : decode cL_law 767 = .ok (.iaload, 1) := by decide +kernel
theorem dL_law_768 : decode cL_law 768 = .ok (.invokevirtual 205, 3) := by decide +kernel
theorem glV_RL_205 : GLV RL 205 yX12_addCommand RX12 cX12_addCommand 4 (some .int) 2 := ⟨⟨(mT8 41 rfl rfl), (mT8 42 rfl rfl), (mT8 43 rfl rfl), (mT1 13 rfl rfl), (mT8 44 rfl rfl)⟩, by decide +kernel⟩
theorem dL_law_771 : decode cL_law 771 = .ok (.istore 6, 2) := by decide +kernel
theorem dL_law_773 : decode cL_law 773 = .ok (.aload_n 2, 1) := by decide +kernel
theorem dL_law_774 : decode cL_law 774 = .ok (.invokevirtual 182, 3) := by decide +kernel
theorem dL_law_777 : decode cL_law 777 = .ok (.iload 5, 2) := by decide +kernel
theorem dL_law_779 : decode cL_law 779 = .ok (.if_icmp .eq 5, 3) := by decide +kernel
theorem dL_law_784 : decode cL_law 784 = .ok (.iload 5, 2) := by decide +kernel
theorem dL_law_786 : decode cL_law 786 = .ok (.ifCond .ne 15, 3) := by decide +kernel
theorem dL_law_801 : decode cL_law 801 = .ok (.goto 2531, 3) := by decide +kernel
theorem dL_law_789 : decode cL_law 789 = .ok (.aload_n 3, 1) := by decide +kernel
theorem dL_law_790 : decode cL_law 790 = .ok (.iconst 0, 1) := by decide +kernel
theorem dL_law_791 : decode cL_law 791 = .ok (.laload, 1) := by decide +kernel
theorem dL_law_792 : decode cL_law 792 = .ok (.iload 6, 2) := by decide +kernel
theorem dL_law_794 : decode cL_law 794 = .ok (.i2l, 1) := by decide +kernel
theorem dL_law_795 : decode cL_law 795 = .ok (.lcmp, 1) := by decide +kernel
theorem dL_law_796 : decode cL_law 796 = .ok (.ifCond .eq 5, 3) := by decide +kernel
set_option maxRecDepth 100000 in
set_option maxHeartbeats 4000000 in
theorem law_c12 {p : Program} {l : Launch} {e : Env} {s : State} {m : MethodId} {below : List Frame} {meth : Method} {c : Code} {b : Nat} {xs : Nat → Int32} {D : va_G} {Y : Nat → ClassId} (B : VB p s m #[Value.ref b] meth c D Y (fun q => s.heap.size ≤ q) cL_law 8 RL ret) (EB : EX (fun q => s.heap.size ≤ q) s s.heap) (hl9 : l.stackTraces = false) (hX : va_X b 6 xs s s.heap) (hbl : b < s.heap.size) (hbA : ¬ (fun q => s.heap.size ≤ q) b) (x0 x1 x30 x59 x88 x117 x126 x127 x129 x132 x2 x4 x6 x8 x10 x12 x14 x16 x18 x20 x27 x3 x5 x7 x9 m0 m1 m2 m3 m4 m5 m6 o0 : Nat) (p1 p2 : Int32) (e1 : xs 1 = p1) (e2 : xs 2 = p2) : V p l e room_1 s m #[Value.ref b] below meth c D (fun q => s.heap.size ≤ q) 8 149 10574 (lw_Z below #[Value.ref b] s) 736 [(4, .int 0), (3, .ref o0), (2, .ref m0), (1, .ref x0), (0, .ref b)] [] [(x0, oC 12 [.ref x1, .ref x30, .ref x59, .ref x88, .ref x117, .ref x126, .ref x127, .ref x129, .ref x132, .long 0]), (x1, oC 2 [.ref x2, .ref x4, .ref x6, .ref x8, .ref x10, .ref x12, .ref x14, .ref x16, .ref x18, .ref x20, .ref x27, .int 0]), (x2, oC 3 [.ref x3, .int 1]), (x4, oC 3 [.ref x5, .int 0]), (x5, aI Y 40 (fun _ => 0)), (x6, oC 3 [.ref x7, .int 0]), (x7, aI Y 40 (fun _ => 0)), (x8, oC 3 [.ref x9, .int 0]), (x9, aI Y 40 (fun _ => 0)), (m0, oC 13 [.ref m1, .ref m2, .int 0, .ref m3, .ref m4, .int 0, .int 0, .int 0, .int (-1), .int 0, .int 0, .int 0, .long 0, .ref m5, .ref m6, .int 0, .int 0]), (m1, aI Y 3640 (clB 0 (fun _ => 0))), (o0, aJ Y 1 (fun _ => 0))] := by
  refine V_aload_n 736 B dL_law_736 3 rfl ?_
  refine V_aload_n 737 B dL_law_737 4 rfl ?_
  refine V_iload 738 B dL_law_738 0 rfl ?_
  refine V_iconst 740 B (v := 1) dL_law_740 (by decide +kernel) ?_
  refine V_iadd 741 B (v := 1) dL_law_741 (by decide +kernel) ?_
  refine V_sld 742 B hX hbl hbA (v := p1) (vpin _ _ (by decide +kernel)) dL_law_742 e1 ?_
  refine V_aload_n 743 B dL_law_743 4 rfl ?_
  refine V_iload 744 B dL_law_744 0 rfl ?_
  refine V_iconst 746 B (v := 2) dL_law_746 (by decide +kernel) ?_
  refine V_iadd 747 B (v := 2) dL_law_747 (by decide +kernel) ?_
  refine V_sld 748 B hX hbl hbA (v := p2) (vpin _ _ (by decide +kernel)) dL_law_748 e2 ?_
  refine V_aload_n 749 B dL_law_749 1 rfl ?_
  refine V_hsi 750 B EB (st := []) (As := [.ref x0, .int p1, .int p2, .ref o0]) (fun sz => mL_addCommand_1 l hl9 D Y (x0) (o0) (x1) (x30) (x59) (x88) (x117) (x126) (x127) (x129) (x132) (x2) (x4) (x6) (x8) (x10) (x12) (x14) (x16) (x18) (x20) (x27) (x3) (x5) (x7) (x9) (p1) (p2) sz) glH_RL_202 ⟨rfl, rfl⟩ ⟨(Nat.le_of_ble_eq_true rfl), (Nat.le_of_ble_eq_true rfl)⟩ ⟨(Nat.le_of_ble_eq_true rfl), (Nat.le_of_ble_eq_true rfl)⟩ [0, 0, 0, 0, 0, 0, 0, 0, 0, 2] rfl rfl (Nat.le_of_ble_eq_true rfl) rfl (fun _ u _ => by
        first | rfl | (split <;> rfl) | (dsimp only; split <;> rfl)) dL_law_750 (fun r0 u0 w0 => ?_)
  rcases w0 with ⟨rfl, k1, rfl⟩ | ⟨rfl, k2, k3, rfl⟩ | ⟨rfl, k4, k5, k6, rfl⟩ | ⟨rfl, k7, k8, rfl⟩ | ⟨rfl, k9, k10, k11, k12, rfl⟩ | ⟨rfl, k13, k14, rfl⟩
  ·
    refine V_ws [(x0, oC 12 [.ref x1, .ref x30, .ref x59, .ref x88, .ref x117, .ref x126, .ref x127, .ref x129, .ref x132, .long 0]), (x1, oC 2 [.ref x2, .ref x4, .ref x6, .ref x8, .ref x10, .ref x12, .ref x14, .ref x16, .ref x18, .ref x20, .ref x27, .int 0]), (x2, oC 3 [.ref x3, .int 1]), (x4, oC 3 [.ref x5, .int 0]), (x5, aI Y 40 (fun _ => 0)), (x6, oC 3 [.ref x7, .int 0]), (x7, aI Y 40 (fun _ => 0)), (x8, oC 3 [.ref x9, .int 0]), (x9, aI Y 40 (fun _ => 0)), (m0, oC 13 [.ref m1, .ref m2, .int 0, .ref m3, .ref m4, .int 0, .int 0, .int 0, .int (-1), .int 0, .int 0, .int 0, .long 0, .ref m5, .ref m6, .int 0, .int 0]), (m1, aI Y 3640 (clB 0 (fun _ => 0))), (o0, aJ Y 1 (fun _ => 0))] rfl ?_
    refine V_istore 753 B (lv2 := [(5, .int 1), (4, .int 0), (3, .ref o0), (2, .ref m0), (1, .ref x0), (0, .ref b)]) dL_law_753 (by decide) rfl ?_
    refine V_aload_n 755 B dL_law_755 3 rfl ?_
    refine V_aload_n 756 B dL_law_756 5 rfl ?_
    refine V_iload 757 B dL_law_757 1 rfl ?_
    refine V_iconst 759 B (v := 1) dL_law_759 (by decide +kernel) ?_
    refine V_iadd 760 B (v := 1) dL_law_760 (by decide +kernel) ?_
    refine V_sld 761 B hX hbl hbA (v := p1) (vpin _ _ (by decide +kernel)) dL_law_761 e1 ?_
    refine V_aload_n 762 B dL_law_762 5 rfl ?_
    refine V_iload 763 B dL_law_763 1 rfl ?_
    refine V_iconst 765 B (v := 2) dL_law_765 (by decide +kernel) ?_
    refine V_iadd 766 B (v := 2) dL_law_766 (by decide +kernel) ?_
    refine V_sld 767 B hX hbl hbA (v := p2) (vpin _ _ (by decide +kernel)) dL_law_767 e2 ?_
    refine V_cvi 768 B (st := []) (As := [.int p1, .int p2]) (fun sz => mX12_addCommand_1 l D Y (m0) (m1) (m2) (m3) (m4) (m5) (m6) (p1) (p2) sz) glV_RL_205 ⟨rfl, rfl⟩ ⟨(Nat.le_of_ble_eq_true rfl), (Nat.le_of_ble_eq_true rfl)⟩ ⟨(Nat.le_of_ble_eq_true rfl), (Nat.le_of_ble_eq_true rfl)⟩ [9, 0] rfl 13 0 rfl rfl rfl rfl (Nat.le_of_ble_eq_true rfl) rfl (fun _ u _ => by
        first | rfl | (split <;> rfl) | (dsimp only; split <;> rfl)) dL_law_768 (fun r15 u15 w15 => ?_)
    rcases w15 with ⟨rfl, k16, k17, k18, k19, rfl⟩ | ⟨rfl, k20, k21, rfl⟩ | ⟨rfl, k22, k23, rfl⟩ | ⟨rfl, k24, k25, rfl⟩ | ⟨rfl, k26, rfl⟩ | ⟨rfl, k27, rfl⟩
    ·
      refine V_ws [(x0, oC 12 [.ref x1, .ref x30, .ref x59, .ref x88, .ref x117, .ref x126, .ref x127, .ref x129, .ref x132, .long 0]), (x1, oC 2 [.ref x2, .ref x4, .ref x6, .ref x8, .ref x10, .ref x12, .ref x14, .ref x16, .ref x18, .ref x20, .ref x27, .int 0]), (x2, oC 3 [.ref x3, .int 1]), (x4, oC 3 [.ref x5, .int 0]), (x5, aI Y 40 (fun _ => 0)), (x6, oC 3 [.ref x7, .int 0]), (x7, aI Y 40 (fun _ => 0)), (x8, oC 3 [.ref x9, .int 0]), (x9, aI Y 40 (fun _ => 0)), (m0, oC 13 [.ref m1, .ref m2, .int 0, .ref m3, .ref m4, .int 0, .int 0, .int 0, .int (-1), .int 0, .int 0, .int 0, .long 0, .ref m5, .ref m6, .int 0, .int 0]), (m1, aI Y 3640 (upd (upd (upd (upd (clB 0 (fun _ => 0)) 34 p1) 35 (-1)) 36 0) 1 1)), (o0, aJ Y 1 (fun _ => 0))] rfl ?_
      exact (q_abs (b_nlt k16 (n := 0) (by decide +kernel)) (b_lt k1 (n := (-1)) (by decide +kernel)) (by decide +kernel)).elim
    ·
      refine V_ws [(x0, oC 12 [.ref x1, .ref x30, .ref x59, .ref x88, .ref x117, .ref x126, .ref x127, .ref x129, .ref x132, .long 0]), (x1, oC 2 [.ref x2, .ref x4, .ref x6, .ref x8, .ref x10, .ref x12, .ref x14, .ref x16, .ref x18, .ref x20, .ref x27, .int 0]), (x2, oC 3 [.ref x3, .int 1]), (x4, oC 3 [.ref x5, .int 0]), (x5, aI Y 40 (fun _ => 0)), (x6, oC 3 [.ref x7, .int 0]), (x7, aI Y 40 (fun _ => 0)), (x8, oC 3 [.ref x9, .int 0]), (x9, aI Y 40 (fun _ => 0)), (m0, oC 13 [.ref m1, .ref m2, .int 0, .ref m3, .ref m4, .int 0, .int 0, .int 0, .int (-1), .int 0, .int 0, .int 0, .long 0, .ref m5, .ref m6, .int 0, .int 0]), (m1, aI Y 3640 (upd (upd (upd (upd (clB 0 (fun _ => 0)) 34 1) 35 0) 36 0) 1 1)), (o0, aJ Y 1 (fun _ => 0))] rfl ?_
      exact absurd k20 (q_neh (b_lt k1 (n := (-1)) (by decide +kernel)) (by decide +kernel))
    ·
      refine V_ws [(x0, oC 12 [.ref x1, .ref x30, .ref x59, .ref x88, .ref x117, .ref x126, .ref x127, .ref x129, .ref x132, .long 0]), (x1, oC 2 [.ref x2, .ref x4, .ref x6, .ref x8, .ref x10, .ref x12, .ref x14, .ref x16, .ref x18, .ref x20, .ref x27, .int 0]), (x2, oC 3 [.ref x3, .int 1]), (x4, oC 3 [.ref x5, .int 0]), (x5, aI Y 40 (fun _ => 0)), (x6, oC 3 [.ref x7, .int 0]), (x7, aI Y 40 (fun _ => 0)), (x8, oC 3 [.ref x9, .int 0]), (x9, aI Y 40 (fun _ => 0)), (m0, oC 13 [.ref m1, .ref m2, .int 2, .ref m3, .ref m4, .int 0, .int 0, .int 0, .int (-1), .int 0, .int 0, .int 0, .long 0, .ref m5, .ref m6, .int 0, .int 0]), (m1, aI Y 3640 (clB 0 (fun _ => 0))), (o0, aJ Y 1 (fun _ => 0))] rfl ?_
      exact absurd k22 (q_neh (b_lt k1 (n := (-1)) (by decide +kernel)) (by decide +kernel))
    ·
      refine V_ws [(x0, oC 12 [.ref x1, .ref x30, .ref x59, .ref x88, .ref x117, .ref x126, .ref x127, .ref x129, .ref x132, .long 0]), (x1, oC 2 [.ref x2, .ref x4, .ref x6, .ref x8, .ref x10, .ref x12, .ref x14, .ref x16, .ref x18, .ref x20, .ref x27, .int 0]), (x2, oC 3 [.ref x3, .int 1]), (x4, oC 3 [.ref x5, .int 0]), (x5, aI Y 40 (fun _ => 0)), (x6, oC 3 [.ref x7, .int 0]), (x7, aI Y 40 (fun _ => 0)), (x8, oC 3 [.ref x9, .int 0]), (x9, aI Y 40 (fun _ => 0)), (m0, oC 13 [.ref m1, .ref m2, .int 2, .ref m3, .ref m4, .int 0, .int 0, .int 0, .int (-1), .int 0, .int 0, .int 0, .long 0, .ref m5, .ref m6, .int 0, .int 0]), (m1, aI Y 3640 (clB 0 (fun _ => 0))), (o0, aJ Y 1 (fun _ => 0))] rfl ?_
      exact absurd k24 (q_neh (b_lt k1 (n := (-1)) (by decide +kernel)) (by decide +kernel))
    ·
      refine V_ws [(x0, oC 12 [.ref x1, .ref x30, .ref x59, .ref x88, .ref x117, .ref x126, .ref x127, .ref x129, .ref x132, .long 0]), (x1, oC 2 [.ref x2, .ref x4, .ref x6, .ref x8, .ref x10, .ref x12, .ref x14, .ref x16, .ref x18, .ref x20, .ref x27, .int 0]), (x2, oC 3 [.ref x3, .int 1]), (x4, oC 3 [.ref x5, .int 0]), (x5, aI Y 40 (fun _ => 0)), (x6, oC 3 [.ref x7, .int 0]), (x7, aI Y 40 (fun _ => 0)), (x8, oC 3 [.ref x9, .int 0]), (x9, aI Y 40 (fun _ => 0)), (m0, oC 13 [.ref m1, .ref m2, .int 1, .ref m3, .ref m4, .int 0, .int 0, .int 0, .int (-1), .int 0, .int 0, .int 0, .long 0, .ref m5, .ref m6, .int 0, .int 0]), (m1, aI Y 3640 (clB 0 (fun _ => 0))), (o0, aJ Y 1 (fun _ => 0))] rfl ?_
      refine V_istore 771 B (lv2 := [(6, .int 0), (5, .int 1), (4, .int 0), (3, .ref o0), (2, .ref m0), (1, .ref x0), (0, .ref b)]) dL_law_771 (by decide) rfl ?_
      refine V_aload_n 773 B dL_law_773 4 rfl ?_
      refine V_cvi 774 B (st := []) (As := []) (fun sz => mX12_thrown_2 l D Y (m0) (m1) (m2) (m3) (m4) (m5) (m6) sz) glV_RL_182 ⟨rfl, rfl⟩ ⟨(Nat.le_of_ble_eq_true rfl), (Nat.le_of_ble_eq_true rfl)⟩ ⟨(Nat.le_of_ble_eq_true rfl), (Nat.le_of_ble_eq_true rfl)⟩ [9] rfl 13 0 rfl rfl rfl rfl (Nat.le_of_ble_eq_true rfl) rfl (fun _ _ _ => rfl) dL_law_774 (fun r28 u28 w28 => ?_)
      obtain rfl := w28
      refine V_ws [(x0, oC 12 [.ref x1, .ref x30, .ref x59, .ref x88, .ref x117, .ref x126, .ref x127, .ref x129, .ref x132, .long 0]), (x1, oC 2 [.ref x2, .ref x4, .ref x6, .ref x8, .ref x10, .ref x12, .ref x14, .ref x16, .ref x18, .ref x20, .ref x27, .int 0]), (x2, oC 3 [.ref x3, .int 1]), (x4, oC 3 [.ref x5, .int 0]), (x5, aI Y 40 (fun _ => 0)), (x6, oC 3 [.ref x7, .int 0]), (x7, aI Y 40 (fun _ => 0)), (x8, oC 3 [.ref x9, .int 0]), (x9, aI Y 40 (fun _ => 0)), (m0, oC 13 [.ref m1, .ref m2, .int 1, .ref m3, .ref m4, .int 0, .int 0, .int 0, .int (-1), .int 0, .int 0, .int 0, .long 0, .ref m5, .ref m6, .int 0, .int 0]), (m1, aI Y 3640 (clB 0 (fun _ => 0))), (o0, aJ Y 1 (fun _ => 0))] rfl ?_
      refine V_iload 777 B dL_law_777 1 rfl ?_
      refine V_icmp_eq_t 779 B 784 dL_law_779 (by decide) (by decide +kernel) ?_
      refine V_iload 784 B dL_law_784 1 rfl ?_
      refine V_if_ne_t 786 B 801 dL_law_786 (by decide) (by decide +kernel) ?_
      refine V_goto 801 B 3332 dL_law_801 (by decide) ?_
      refine V_iinc 3332 B (v := 6) (lv2 := [(4, .int 6), (6, .int 0), (5, .int 1), (3, .ref o0), (2, .ref m0), (1, .ref x0), (0, .ref b)]) dL_law_3332 2 rfl (by decide +kernel) (by decide) rfl ?_
      refine V_goto 3335 B 23 dL_law_3335 (by decide) ?_
      refine V_iload 23 B dL_law_23 0 rfl ?_
      refine V_aload_n 25 B dL_law_25 6 rfl ?_
      refine V_slen 26 B hX hbl hbA (v := 6) (by decide +kernel) dL_law_26 ?_
      refine V_bipush 27 B (v := 6) dL_law_27 (by decide +kernel) ?_
      refine V_isub 29 B (v := 0) dL_law_29 (by decide +kernel) ?_
      refine V_icmp_gt_t 30 B 3338 dL_law_30 (by decide) (by decide +kernel) ?_
      exact law_end B (Nat.le_of_ble_eq_true rfl) (Nat.le_of_ble_eq_true rfl) dL_law_3338 dL_law_3339
    ·
      refine V_ws [(x0, oC 12 [.ref x1, .ref x30, .ref x59, .ref x88, .ref x117, .ref x126, .ref x127, .ref x129, .ref x132, .long 0]), (x1, oC 2 [.ref x2, .ref x4, .ref x6, .ref x8, .ref x10, .ref x12, .ref x14, .ref x16, .ref x18, .ref x20, .ref x27, .int 0]), (x2, oC 3 [.ref x3, .int 1]), (x4, oC 3 [.ref x5, .int 0]), (x5, aI Y 40 (fun _ => 0)), (x6, oC 3 [.ref x7, .int 0]), (x7, aI Y 40 (fun _ => 0)), (x8, oC 3 [.ref x9, .int 0]), (x9, aI Y 40 (fun _ => 0)), (m0, oC 13 [.ref m1, .ref m2, .int 1, .ref m3, .ref m4, .int 0, .int 0, .int 0, .int (-1), .int 0, .int 0, .int 0, .long 0, .ref m5, .ref m6, .int 0, .int 0]), (m1, aI Y 3640 (clB 0 (fun _ => 0))), (o0, aJ Y 1 (fun _ => 0))] rfl ?_
      exact (q_abs (b_gt k27 (n := 3) (by decide +kernel)) (b_lt k1 (n := (-1)) (by decide +kernel)) (by decide +kernel)).elim
  ·
    refine V_ws [(x0, oC 12 [.ref x1, .ref x30, .ref x59, .ref x88, .ref x117, .ref x126, .ref x127, .ref x129, .ref x132, .long 0]), (x1, oC 2 [.ref x2, .ref x4, .ref x6, .ref x8, .ref x10, .ref x12, .ref x14, .ref x16, .ref x18, .ref x20, .ref x27, .int 0]), (x2, oC 3 [.ref x3, .int 1]), (x4, oC 3 [.ref x5, .int 0]), (x5, aI Y 40 (fun _ => 0)), (x6, oC 3 [.ref x7, .int 0]), (x7, aI Y 40 (fun _ => 0)), (x8, oC 3 [.ref x9, .int 0]), (x9, aI Y 40 (fun _ => 0)), (m0, oC 13 [.ref m1, .ref m2, .int 0, .ref m3, .ref m4, .int 0, .int 0, .int 0, .int (-1), .int 0, .int 0, .int 0, .long 0, .ref m5, .ref m6, .int 0, .int 0]), (m1, aI Y 3640 (clB 0 (fun _ => 0))), (o0, aJ Y 1 (fun _ => 0))] rfl ?_
    obtain rfl : p1 = 1 := k2
    refine V_istore 753 B (lv2 := [(5, .int 2), (4, .int 0), (3, .ref o0), (2, .ref m0), (1, .ref x0), (0, .ref b)]) dL_law_753 (by decide) rfl ?_
    refine V_aload_n 755 B dL_law_755 3 rfl ?_
    refine V_aload_n 756 B dL_law_756 5 rfl ?_
    refine V_iload 757 B dL_law_757 1 rfl ?_
    refine V_iconst 759 B (v := 1) dL_law_759 (by decide +kernel) ?_
    refine V_iadd 760 B (v := 1) dL_law_760 (by decide +kernel) ?_
    refine V_sld 761 B hX hbl hbA (v := 1) (vpin _ _ (by decide +kernel)) dL_law_761 e1 ?_
    refine V_aload_n 762 B dL_law_762 5 rfl ?_
    refine V_iload 763 B dL_law_763 1 rfl ?_
    refine V_iconst 765 B (v := 2) dL_law_765 (by decide +kernel) ?_
    refine V_iadd 766 B (v := 2) dL_law_766 (by decide +kernel) ?_
    refine V_sld 767 B hX hbl hbA (v := p2) (vpin _ _ (by decide +kernel)) dL_law_767 e2 ?_
    refine V_cvi 768 B (st := []) (As := [.int 1, .int p2]) (fun sz => mX12_addCommand_2 l D Y (m0) (m1) (m2) (m3) (m4) (m5) (m6) (p2) sz) glV_RL_205 ⟨rfl, rfl⟩ ⟨(Nat.le_of_ble_eq_true rfl), (Nat.le_of_ble_eq_true rfl)⟩ ⟨(Nat.le_of_ble_eq_true rfl), (Nat.le_of_ble_eq_true rfl)⟩ [9, 0] rfl 13 0 rfl rfl rfl rfl (Nat.le_of_ble_eq_true rfl) rfl (fun _ u _ => by
        first | rfl | (split <;> rfl) | (dsimp only; split <;> rfl)) dL_law_768 (fun r29 u29 w29 => ?_)
    rcases w29 with ⟨rfl, k30, rfl⟩ | ⟨rfl, k31, rfl⟩ | ⟨rfl, k32, rfl⟩
    ·
      refine V_ws [(x0, oC 12 [.ref x1, .ref x30, .ref x59, .ref x88, .ref x117, .ref x126, .ref x127, .ref x129, .ref x132, .long 0]), (x1, oC 2 [.ref x2, .ref x4, .ref x6, .ref x8, .ref x10, .ref x12, .ref x14, .ref x16, .ref x18, .ref x20, .ref x27, .int 0]), (x2, oC 3 [.ref x3, .int 1]), (x4, oC 3 [.ref x5, .int 0]), (x5, aI Y 40 (fun _ => 0)), (x6, oC 3 [.ref x7, .int 0]), (x7, aI Y 40 (fun _ => 0)), (x8, oC 3 [.ref x9, .int 0]), (x9, aI Y 40 (fun _ => 0)), (m0, oC 13 [.ref m1, .ref m2, .int 0, .ref m3, .ref m4, .int 0, .int 0, .int 0, .int (-1), .int 0, .int 0, .int 0, .long 0, .ref m5, .ref m6, .int 0, .int 0]), (m1, aI Y 3640 (upd (upd (upd (upd (clB 0 (fun _ => 0)) 34 1) 35 0) 36 0) 1 1)), (o0, aJ Y 1 (fun _ => 0))] rfl ?_
      exact absurd k30 (q_neh (b_lt k3 (n := (-1)) (by decide +kernel)) (by decide +kernel))
    ·
      refine V_ws [(x0, oC 12 [.ref x1, .ref x30, .ref x59, .ref x88, .ref x117, .ref x126, .ref x127, .ref x129, .ref x132, .long 0]), (x1, oC 2 [.ref x2, .ref x4, .ref x6, .ref x8, .ref x10, .ref x12, .ref x14, .ref x16, .ref x18, .ref x20, .ref x27, .int 0]), (x2, oC 3 [.ref x3, .int 1]), (x4, oC 3 [.ref x5, .int 0]), (x5, aI Y 40 (fun _ => 0)), (x6, oC 3 [.ref x7, .int 0]), (x7, aI Y 40 (fun _ => 0)), (x8, oC 3 [.ref x9, .int 0]), (x9, aI Y 40 (fun _ => 0)), (m0, oC 13 [.ref m1, .ref m2, .int 2, .ref m3, .ref m4, .int 0, .int 0, .int 0, .int (-1), .int 0, .int 0, .int 0, .long 0, .ref m5, .ref m6, .int 0, .int 0]), (m1, aI Y 3640 (clB 0 (fun _ => 0))), (o0, aJ Y 1 (fun _ => 0))] rfl ?_
      refine V_istore 771 B (lv2 := [(6, .int 0), (5, .int 2), (4, .int 0), (3, .ref o0), (2, .ref m0), (1, .ref x0), (0, .ref b)]) dL_law_771 (by decide) rfl ?_
      refine V_aload_n 773 B dL_law_773 4 rfl ?_
      refine V_cvi 774 B (st := []) (As := []) (fun sz => mX12_thrown_3 l D Y (m0) (m1) (m2) (m3) (m4) (m5) (m6) sz) glV_RL_182 ⟨rfl, rfl⟩ ⟨(Nat.le_of_ble_eq_true rfl), (Nat.le_of_ble_eq_true rfl)⟩ ⟨(Nat.le_of_ble_eq_true rfl), (Nat.le_of_ble_eq_true rfl)⟩ [9] rfl 13 0 rfl rfl rfl rfl (Nat.le_of_ble_eq_true rfl) rfl (fun _ _ _ => rfl) dL_law_774 (fun r33 u33 w33 => ?_)
      obtain rfl := w33
      refine V_ws [(x0, oC 12 [.ref x1, .ref x30, .ref x59, .ref x88, .ref x117, .ref x126, .ref x127, .ref x129, .ref x132, .long 0]), (x1, oC 2 [.ref x2, .ref x4, .ref x6, .ref x8, .ref x10, .ref x12, .ref x14, .ref x16, .ref x18, .ref x20, .ref x27, .int 0]), (x2, oC 3 [.ref x3, .int 1]), (x4, oC 3 [.ref x5, .int 0]), (x5, aI Y 40 (fun _ => 0)), (x6, oC 3 [.ref x7, .int 0]), (x7, aI Y 40 (fun _ => 0)), (x8, oC 3 [.ref x9, .int 0]), (x9, aI Y 40 (fun _ => 0)), (m0, oC 13 [.ref m1, .ref m2, .int 2, .ref m3, .ref m4, .int 0, .int 0, .int 0, .int (-1), .int 0, .int 0, .int 0, .long 0, .ref m5, .ref m6, .int 0, .int 0]), (m1, aI Y 3640 (clB 0 (fun _ => 0))), (o0, aJ Y 1 (fun _ => 0))] rfl ?_
      refine V_iload 777 B dL_law_777 1 rfl ?_
      refine V_icmp_eq_t 779 B 784 dL_law_779 (by decide) (by decide +kernel) ?_
      refine V_iload 784 B dL_law_784 1 rfl ?_
      refine V_if_ne_t 786 B 801 dL_law_786 (by decide) (by decide +kernel) ?_
      refine V_goto 801 B 3332 dL_law_801 (by decide) ?_
      refine V_iinc 3332 B (v := 6) (lv2 := [(4, .int 6), (6, .int 0), (5, .int 2), (3, .ref o0), (2, .ref m0), (1, .ref x0), (0, .ref b)]) dL_law_3332 2 rfl (by decide +kernel) (by decide) rfl ?_
      refine V_goto 3335 B 23 dL_law_3335 (by decide) ?_
      refine V_iload 23 B dL_law_23 0 rfl ?_
      refine V_aload_n 25 B dL_law_25 6 rfl ?_
      refine V_slen 26 B hX hbl hbA (v := 6) (by decide +kernel) dL_law_26 ?_
      refine V_bipush 27 B (v := 6) dL_law_27 (by decide +kernel) ?_
      refine V_isub 29 B (v := 0) dL_law_29 (by decide +kernel) ?_
      refine V_icmp_gt_t 30 B 3338 dL_law_30 (by decide) (by decide +kernel) ?_
      exact law_end B (Nat.le_of_ble_eq_true rfl) (Nat.le_of_ble_eq_true rfl) dL_law_3338 dL_law_3339
    ·
      refine V_ws [(x0, oC 12 [.ref x1, .ref x30, .ref x59, .ref x88, .ref x117, .ref x126, .ref x127, .ref x129, .ref x132, .long 0]), (x1, oC 2 [.ref x2, .ref x4, .ref x6, .ref x8, .ref x10, .ref x12, .ref x14, .ref x16, .ref x18, .ref x20, .ref x27, .int 0]), (x2, oC 3 [.ref x3, .int 1]), (x4, oC 3 [.ref x5, .int 0]), (x5, aI Y 40 (fun _ => 0)), (x6, oC 3 [.ref x7, .int 0]), (x7, aI Y 40 (fun _ => 0)), (x8, oC 3 [.ref x9, .int 0]), (x9, aI Y 40 (fun _ => 0)), (m0, oC 13 [.ref m1, .ref m2, .int 2, .ref m3, .ref m4, .int 0, .int 0, .int 0, .int (-1), .int 0, .int 0, .int 0, .long 0, .ref m5, .ref m6, .int 0, .int 0]), (m1, aI Y 3640 (clB 0 (fun _ => 0))), (o0, aJ Y 1 (fun _ => 0))] rfl ?_
      exact (q_abs (b_gt k32 (n := 1) (by decide +kernel)) (b_lt k3 (n := (-1)) (by decide +kernel)) (by decide +kernel)).elim
  ·
    refine V_ws [(x0, oC 12 [.ref x1, .ref x30, .ref x59, .ref x88, .ref x117, .ref x126, .ref x127, .ref x129, .ref x132, .long 0]), (x1, oC 2 [.ref x2, .ref x4, .ref x6, .ref x8, .ref x10, .ref x12, .ref x14, .ref x16, .ref x18, .ref x20, .ref x27, .int 0]), (x2, oC 3 [.ref x3, .int 1]), (x4, oC 3 [.ref x5, .int 0]), (x5, aI Y 40 (fun _ => 0)), (x6, oC 3 [.ref x7, .int 0]), (x7, aI Y 40 (fun _ => 0)), (x8, oC 3 [.ref x9, .int 0]), (x9, aI Y 40 (fun _ => 0)), (m0, oC 13 [.ref m1, .ref m2, .int 0, .ref m3, .ref m4, .int 0, .int 0, .int 0, .int (-1), .int 0, .int 0, .int 0, .long 0, .ref m5, .ref m6, .int 0, .int 0]), (m1, aI Y 3640 (clB 0 (fun _ => 0))), (o0, aJ Y 1 (fun _ => 0))] rfl ?_
    obtain rfl : p1 = 1 := k4
    refine V_istore 753 B (lv2 := [(5, .int 2), (4, .int 0), (3, .ref o0), (2, .ref m0), (1, .ref x0), (0, .ref b)]) dL_law_753 (by decide) rfl ?_
    refine V_aload_n 755 B dL_law_755 3 rfl ?_
    refine V_aload_n 756 B dL_law_756 5 rfl ?_
    refine V_iload 757 B dL_law_757 1 rfl ?_
    refine V_iconst 759 B (v := 1) dL_law_759 (by decide +kernel) ?_
    refine V_iadd 760 B (v := 1) dL_law_760 (by decide +kernel) ?_
    refine V_sld 761 B hX hbl hbA (v := 1) (vpin _ _ (by decide +kernel)) dL_law_761 e1 ?_
    refine V_aload_n 762 B dL_law_762 5 rfl ?_
    refine V_iload 763 B dL_law_763 1 rfl ?_
    refine V_iconst 765 B (v := 2) dL_law_765 (by decide +kernel) ?_
    refine V_iadd 766 B (v := 2) dL_law_766 (by decide +kernel) ?_
    refine V_sld 767 B hX hbl hbA (v := p2) (vpin _ _ (by decide +kernel)) dL_law_767 e2 ?_
    refine V_cvi 768 B (st := []) (As := [.int 1, .int p2]) (fun sz => mX12_addCommand_2 l D Y (m0) (m1) (m2) (m3) (m4) (m5) (m6) (p2) sz) glV_RL_205 ⟨rfl, rfl⟩ ⟨(Nat.le_of_ble_eq_true rfl), (Nat.le_of_ble_eq_true rfl)⟩ ⟨(Nat.le_of_ble_eq_true rfl), (Nat.le_of_ble_eq_true rfl)⟩ [9, 0] rfl 13 0 rfl rfl rfl rfl (Nat.le_of_ble_eq_true rfl) rfl (fun _ u _ => by
        first | rfl | (split <;> rfl) | (dsimp only; split <;> rfl)) dL_law_768 (fun r34 u34 w34 => ?_)
    rcases w34 with ⟨rfl, k35, rfl⟩ | ⟨rfl, k36, rfl⟩ | ⟨rfl, k37, rfl⟩
    ·
      refine V_ws [(x0, oC 12 [.ref x1, .ref x30, .ref x59, .ref x88, .ref x117, .ref x126, .ref x127, .ref x129, .ref x132, .long 0]), (x1, oC 2 [.ref x2, .ref x4, .ref x6, .ref x8, .ref x10, .ref x12, .ref x14, .ref x16, .ref x18, .ref x20, .ref x27, .int 0]), (x2, oC 3 [.ref x3, .int 1]), (x4, oC 3 [.ref x5, .int 0]), (x5, aI Y 40 (fun _ => 0)), (x6, oC 3 [.ref x7, .int 0]), (x7, aI Y 40 (fun _ => 0)), (x8, oC 3 [.ref x9, .int 0]), (x9, aI Y 40 (fun _ => 0)), (m0, oC 13 [.ref m1, .ref m2, .int 0, .ref m3, .ref m4, .int 0, .int 0, .int 0, .int (-1), .int 0, .int 0, .int 0, .long 0, .ref m5, .ref m6, .int 0, .int 0]), (m1, aI Y 3640 (upd (upd (upd (upd (clB 0 (fun _ => 0)) 34 1) 35 0) 36 0) 1 1)), (o0, aJ Y 1 (fun _ => 0))] rfl ?_
      exact absurd k35 (q_nel (b_ge k6 (n := 1) (by decide +kernel)) (by decide +kernel))
    ·
      refine V_ws [(x0, oC 12 [.ref x1, .ref x30, .ref x59, .ref x88, .ref x117, .ref x126, .ref x127, .ref x129, .ref x132, .long 0]), (x1, oC 2 [.ref x2, .ref x4, .ref x6, .ref x8, .ref x10, .ref x12, .ref x14, .ref x16, .ref x18, .ref x20, .ref x27, .int 0]), (x2, oC 3 [.ref x3, .int 1]), (x4, oC 3 [.ref x5, .int 0]), (x5, aI Y 40 (fun _ => 0)), (x6, oC 3 [.ref x7, .int 0]), (x7, aI Y 40 (fun _ => 0)), (x8, oC 3 [.ref x9, .int 0]), (x9, aI Y 40 (fun _ => 0)), (m0, oC 13 [.ref m1, .ref m2, .int 2, .ref m3, .ref m4, .int 0, .int 0, .int 0, .int (-1), .int 0, .int 0, .int 0, .long 0, .ref m5, .ref m6, .int 0, .int 0]), (m1, aI Y 3640 (clB 0 (fun _ => 0))), (o0, aJ Y 1 (fun _ => 0))] rfl ?_
      exact (q_abs (b_ge k6 (n := 1) (by decide +kernel)) (b_lt k36 (n := (-1)) (by decide +kernel)) (by decide +kernel)).elim
    ·
      refine V_ws [(x0, oC 12 [.ref x1, .ref x30, .ref x59, .ref x88, .ref x117, .ref x126, .ref x127, .ref x129, .ref x132, .long 0]), (x1, oC 2 [.ref x2, .ref x4, .ref x6, .ref x8, .ref x10, .ref x12, .ref x14, .ref x16, .ref x18, .ref x20, .ref x27, .int 0]), (x2, oC 3 [.ref x3, .int 1]), (x4, oC 3 [.ref x5, .int 0]), (x5, aI Y 40 (fun _ => 0)), (x6, oC 3 [.ref x7, .int 0]), (x7, aI Y 40 (fun _ => 0)), (x8, oC 3 [.ref x9, .int 0]), (x9, aI Y 40 (fun _ => 0)), (m0, oC 13 [.ref m1, .ref m2, .int 2, .ref m3, .ref m4, .int 0, .int 0, .int 0, .int (-1), .int 0, .int 0, .int 0, .long 0, .ref m5, .ref m6, .int 0, .int 0]), (m1, aI Y 3640 (clB 0 (fun _ => 0))), (o0, aJ Y 1 (fun _ => 0))] rfl ?_
      refine V_istore 771 B (lv2 := [(6, .int 0), (5, .int 2), (4, .int 0), (3, .ref o0), (2, .ref m0), (1, .ref x0), (0, .ref b)]) dL_law_771 (by decide) rfl ?_
      refine V_aload_n 773 B dL_law_773 4 rfl ?_
      refine V_cvi 774 B (st := []) (As := []) (fun sz => mX12_thrown_3 l D Y (m0) (m1) (m2) (m3) (m4) (m5) (m6) sz) glV_RL_182 ⟨rfl, rfl⟩ ⟨(Nat.le_of_ble_eq_true rfl), (Nat.le_of_ble_eq_true rfl)⟩ ⟨(Nat.le_of_ble_eq_true rfl), (Nat.le_of_ble_eq_true rfl)⟩ [9] rfl 13 0 rfl rfl rfl rfl (Nat.le_of_ble_eq_true rfl) rfl (fun _ _ _ => rfl) dL_law_774 (fun r38 u38 w38 => ?_)
      obtain rfl := w38
      refine V_ws [(x0, oC 12 [.ref x1, .ref x30, .ref x59, .ref x88, .ref x117, .ref x126, .ref x127, .ref x129, .ref x132, .long 0]), (x1, oC 2 [.ref x2, .ref x4, .ref x6, .ref x8, .ref x10, .ref x12, .ref x14, .ref x16, .ref x18, .ref x20, .ref x27, .int 0]), (x2, oC 3 [.ref x3, .int 1]), (x4, oC 3 [.ref x5, .int 0]), (x5, aI Y 40 (fun _ => 0)), (x6, oC 3 [.ref x7, .int 0]), (x7, aI Y 40 (fun _ => 0)), (x8, oC 3 [.ref x9, .int 0]), (x9, aI Y 40 (fun _ => 0)), (m0, oC 13 [.ref m1, .ref m2, .int 2, .ref m3, .ref m4, .int 0, .int 0, .int 0, .int (-1), .int 0, .int 0, .int 0, .long 0, .ref m5, .ref m6, .int 0, .int 0]), (m1, aI Y 3640 (clB 0 (fun _ => 0))), (o0, aJ Y 1 (fun _ => 0))] rfl ?_
      refine V_iload 777 B dL_law_777 1 rfl ?_
      refine V_icmp_eq_t 779 B 784 dL_law_779 (by decide) (by decide +kernel) ?_
      refine V_iload 784 B dL_law_784 1 rfl ?_
      refine V_if_ne_t 786 B 801 dL_law_786 (by decide) (by decide +kernel) ?_
      refine V_goto 801 B 3332 dL_law_801 (by decide) ?_
      refine V_iinc 3332 B (v := 6) (lv2 := [(4, .int 6), (6, .int 0), (5, .int 2), (3, .ref o0), (2, .ref m0), (1, .ref x0), (0, .ref b)]) dL_law_3332 2 rfl (by decide +kernel) (by decide) rfl ?_
      refine V_goto 3335 B 23 dL_law_3335 (by decide) ?_
      refine V_iload 23 B dL_law_23 0 rfl ?_
      refine V_aload_n 25 B dL_law_25 6 rfl ?_
      refine V_slen 26 B hX hbl hbA (v := 6) (by decide +kernel) dL_law_26 ?_
      refine V_bipush 27 B (v := 6) dL_law_27 (by decide +kernel) ?_
      refine V_isub 29 B (v := 0) dL_law_29 (by decide +kernel) ?_
      refine V_icmp_gt_t 30 B 3338 dL_law_30 (by decide) (by decide +kernel) ?_
      exact law_end B (Nat.le_of_ble_eq_true rfl) (Nat.le_of_ble_eq_true rfl) dL_law_3338 dL_law_3339
  ·
    refine V_ws [(x0, oC 12 [.ref x1, .ref x30, .ref x59, .ref x88, .ref x117, .ref x126, .ref x127, .ref x129, .ref x132, .long 0]), (x1, oC 2 [.ref x2, .ref x4, .ref x6, .ref x8, .ref x10, .ref x12, .ref x14, .ref x16, .ref x18, .ref x20, .ref x27, .int 0]), (x2, oC 3 [.ref x3, .int 1]), (x4, oC 3 [.ref x5, .int 0]), (x5, aI Y 40 (fun _ => 0)), (x6, oC 3 [.ref x7, .int 0]), (x7, aI Y 40 (fun _ => 0)), (x8, oC 3 [.ref x9, .int 0]), (x9, aI Y 40 (fun _ => 0)), (m0, oC 13 [.ref m1, .ref m2, .int 0, .ref m3, .ref m4, .int 0, .int 0, .int 0, .int (-1), .int 0, .int 0, .int 0, .long 0, .ref m5, .ref m6, .int 0, .int 0]), (m1, aI Y 3640 (clB 0 (fun _ => 0))), (o0, aJ Y 1 (fun _ => 0))] rfl ?_
    refine V_istore 753 B (lv2 := [(5, .int 1), (4, .int 0), (3, .ref o0), (2, .ref m0), (1, .ref x0), (0, .ref b)]) dL_law_753 (by decide) rfl ?_
    refine V_aload_n 755 B dL_law_755 3 rfl ?_
    refine V_aload_n 756 B dL_law_756 5 rfl ?_
    refine V_iload 757 B dL_law_757 1 rfl ?_
    refine V_iconst 759 B (v := 1) dL_law_759 (by decide +kernel) ?_
    refine V_iadd 760 B (v := 1) dL_law_760 (by decide +kernel) ?_
    refine V_sld 761 B hX hbl hbA (v := p1) (vpin _ _ (by decide +kernel)) dL_law_761 e1 ?_
    refine V_aload_n 762 B dL_law_762 5 rfl ?_
    refine V_iload 763 B dL_law_763 1 rfl ?_
    refine V_iconst 765 B (v := 2) dL_law_765 (by decide +kernel) ?_
    refine V_iadd 766 B (v := 2) dL_law_766 (by decide +kernel) ?_
    refine V_sld 767 B hX hbl hbA (v := p2) (vpin _ _ (by decide +kernel)) dL_law_767 e2 ?_
    refine V_cvi 768 B (st := []) (As := [.int p1, .int p2]) (fun sz => mX12_addCommand_1 l D Y (m0) (m1) (m2) (m3) (m4) (m5) (m6) (p1) (p2) sz) glV_RL_205 ⟨rfl, rfl⟩ ⟨(Nat.le_of_ble_eq_true rfl), (Nat.le_of_ble_eq_true rfl)⟩ ⟨(Nat.le_of_ble_eq_true rfl), (Nat.le_of_ble_eq_true rfl)⟩ [9, 0] rfl 13 0 rfl rfl rfl rfl (Nat.le_of_ble_eq_true rfl) rfl (fun _ u _ => by
        first | rfl | (split <;> rfl) | (dsimp only; split <;> rfl)) dL_law_768 (fun r39 u39 w39 => ?_)
    rcases w39 with ⟨rfl, k40, k41, k42, k43, rfl⟩ | ⟨rfl, k44, k45, rfl⟩ | ⟨rfl, k46, k47, rfl⟩ | ⟨rfl, k48, k49, rfl⟩ | ⟨rfl, k50, rfl⟩ | ⟨rfl, k51, rfl⟩
    ·
      refine V_ws [(x0, oC 12 [.ref x1, .ref x30, .ref x59, .ref x88, .ref x117, .ref x126, .ref x127, .ref x129, .ref x132, .long 0]), (x1, oC 2 [.ref x2, .ref x4, .ref x6, .ref x8, .ref x10, .ref x12, .ref x14, .ref x16, .ref x18, .ref x20, .ref x27, .int 0]), (x2, oC 3 [.ref x3, .int 1]), (x4, oC 3 [.ref x5, .int 0]), (x5, aI Y 40 (fun _ => 0)), (x6, oC 3 [.ref x7, .int 0]), (x7, aI Y 40 (fun _ => 0)), (x8, oC 3 [.ref x9, .int 0]), (x9, aI Y 40 (fun _ => 0)), (m0, oC 13 [.ref m1, .ref m2, .int 0, .ref m3, .ref m4, .int 0, .int 0, .int 0, .int (-1), .int 0, .int 0, .int 0, .long 0, .ref m5, .ref m6, .int 0, .int 0]), (m1, aI Y 3640 (upd (upd (upd (upd (clB 0 (fun _ => 0)) 34 p1) 35 (-1)) 36 0) 1 1)), (o0, aJ Y 1 (fun _ => 0))] rfl ?_
      exact (q_abs (b_nlt k8 (n := 3) (by decide +kernel)) (b_ngt k41 (n := 2) (by decide +kernel)) (by decide +kernel)).elim
    ·
      refine V_ws [(x0, oC 12 [.ref x1, .ref x30, .ref x59, .ref x88, .ref x117, .ref x126, .ref x127, .ref x129, .ref x132, .long 0]), (x1, oC 2 [.ref x2, .ref x4, .ref x6, .ref x8, .ref x10, .ref x12, .ref x14, .ref x16, .ref x18, .ref x20, .ref x27, .int 0]), (x2, oC 3 [.ref x3, .int 1]), (x4, oC 3 [.ref x5, .int 0]), (x5, aI Y 40 (fun _ => 0)), (x6, oC 3 [.ref x7, .int 0]), (x7, aI Y 40 (fun _ => 0)), (x8, oC 3 [.ref x9, .int 0]), (x9, aI Y 40 (fun _ => 0)), (m0, oC 13 [.ref m1, .ref m2, .int 0, .ref m3, .ref m4, .int 0, .int 0, .int 0, .int (-1), .int 0, .int 0, .int 0, .long 0, .ref m5, .ref m6, .int 0, .int 0]), (m1, aI Y 3640 (upd (upd (upd (upd (clB 0 (fun _ => 0)) 34 1) 35 0) 36 0) 1 1)), (o0, aJ Y 1 (fun _ => 0))] rfl ?_
      exact absurd k44 (q_nel (b_nlt k8 (n := 3) (by decide +kernel)) (by decide +kernel))
    ·
      refine V_ws [(x0, oC 12 [.ref x1, .ref x30, .ref x59, .ref x88, .ref x117, .ref x126, .ref x127, .ref x129, .ref x132, .long 0]), (x1, oC 2 [.ref x2, .ref x4, .ref x6, .ref x8, .ref x10, .ref x12, .ref x14, .ref x16, .ref x18, .ref x20, .ref x27, .int 0]), (x2, oC 3 [.ref x3, .int 1]), (x4, oC 3 [.ref x5, .int 0]), (x5, aI Y 40 (fun _ => 0)), (x6, oC 3 [.ref x7, .int 0]), (x7, aI Y 40 (fun _ => 0)), (x8, oC 3 [.ref x9, .int 0]), (x9, aI Y 40 (fun _ => 0)), (m0, oC 13 [.ref m1, .ref m2, .int 2, .ref m3, .ref m4, .int 0, .int 0, .int 0, .int (-1), .int 0, .int 0, .int 0, .long 0, .ref m5, .ref m6, .int 0, .int 0]), (m1, aI Y 3640 (clB 0 (fun _ => 0))), (o0, aJ Y 1 (fun _ => 0))] rfl ?_
      exact absurd k46 (q_nel (b_nlt k8 (n := 3) (by decide +kernel)) (by decide +kernel))
    ·
      refine V_ws [(x0, oC 12 [.ref x1, .ref x30, .ref x59, .ref x88, .ref x117, .ref x126, .ref x127, .ref x129, .ref x132, .long 0]), (x1, oC 2 [.ref x2, .ref x4, .ref x6, .ref x8, .ref x10, .ref x12, .ref x14, .ref x16, .ref x18, .ref x20, .ref x27, .int 0]), (x2, oC 3 [.ref x3, .int 1]), (x4, oC 3 [.ref x5, .int 0]), (x5, aI Y 40 (fun _ => 0)), (x6, oC 3 [.ref x7, .int 0]), (x7, aI Y 40 (fun _ => 0)), (x8, oC 3 [.ref x9, .int 0]), (x9, aI Y 40 (fun _ => 0)), (m0, oC 13 [.ref m1, .ref m2, .int 2, .ref m3, .ref m4, .int 0, .int 0, .int 0, .int (-1), .int 0, .int 0, .int 0, .long 0, .ref m5, .ref m6, .int 0, .int 0]), (m1, aI Y 3640 (clB 0 (fun _ => 0))), (o0, aJ Y 1 (fun _ => 0))] rfl ?_
      exact absurd k48 (q_nel (b_nlt k8 (n := 3) (by decide +kernel)) (by decide +kernel))
    ·
      refine V_ws [(x0, oC 12 [.ref x1, .ref x30, .ref x59, .ref x88, .ref x117, .ref x126, .ref x127, .ref x129, .ref x132, .long 0]), (x1, oC 2 [.ref x2, .ref x4, .ref x6, .ref x8, .ref x10, .ref x12, .ref x14, .ref x16, .ref x18, .ref x20, .ref x27, .int 0]), (x2, oC 3 [.ref x3, .int 1]), (x4, oC 3 [.ref x5, .int 0]), (x5, aI Y 40 (fun _ => 0)), (x6, oC 3 [.ref x7, .int 0]), (x7, aI Y 40 (fun _ => 0)), (x8, oC 3 [.ref x9, .int 0]), (x9, aI Y 40 (fun _ => 0)), (m0, oC 13 [.ref m1, .ref m2, .int 1, .ref m3, .ref m4, .int 0, .int 0, .int 0, .int (-1), .int 0, .int 0, .int 0, .long 0, .ref m5, .ref m6, .int 0, .int 0]), (m1, aI Y 3640 (clB 0 (fun _ => 0))), (o0, aJ Y 1 (fun _ => 0))] rfl ?_
      exact (q_abs (b_nlt k8 (n := 3) (by decide +kernel)) (b_lt k50 (n := (-1)) (by decide +kernel)) (by decide +kernel)).elim
    ·
      refine V_ws [(x0, oC 12 [.ref x1, .ref x30, .ref x59, .ref x88, .ref x117, .ref x126, .ref x127, .ref x129, .ref x132, .long 0]), (x1, oC 2 [.ref x2, .ref x4, .ref x6, .ref x8, .ref x10, .ref x12, .ref x14, .ref x16, .ref x18, .ref x20, .ref x27, .int 0]), (x2, oC 3 [.ref x3, .int 1]), (x4, oC 3 [.ref x5, .int 0]), (x5, aI Y 40 (fun _ => 0)), (x6, oC 3 [.ref x7, .int 0]), (x7, aI Y 40 (fun _ => 0)), (x8, oC 3 [.ref x9, .int 0]), (x9, aI Y 40 (fun _ => 0)), (m0, oC 13 [.ref m1, .ref m2, .int 1, .ref m3, .ref m4, .int 0, .int 0, .int 0, .int (-1), .int 0, .int 0, .int 0, .long 0, .ref m5, .ref m6, .int 0, .int 0]), (m1, aI Y 3640 (clB 0 (fun _ => 0))), (o0, aJ Y 1 (fun _ => 0))] rfl ?_
      refine V_istore 771 B (lv2 := [(6, .int 0), (5, .int 1), (4, .int 0), (3, .ref o0), (2, .ref m0), (1, .ref x0), (0, .ref b)]) dL_law_771 (by decide) rfl ?_
      refine V_aload_n 773 B dL_law_773 4 rfl ?_
      refine V_cvi 774 B (st := []) (As := []) (fun sz => mX12_thrown_2 l D Y (m0) (m1) (m2) (m3) (m4) (m5) (m6) sz) glV_RL_182 ⟨rfl, rfl⟩ ⟨(Nat.le_of_ble_eq_true rfl), (Nat.le_of_ble_eq_true rfl)⟩ ⟨(Nat.le_of_ble_eq_true rfl), (Nat.le_of_ble_eq_true rfl)⟩ [9] rfl 13 0 rfl rfl rfl rfl (Nat.le_of_ble_eq_true rfl) rfl (fun _ _ _ => rfl) dL_law_774 (fun r52 u52 w52 => ?_)
      obtain rfl := w52
      refine V_ws [(x0, oC 12 [.ref x1, .ref x30, .ref x59, .ref x88, .ref x117, .ref x126, .ref x127, .ref x129, .ref x132, .long 0]), (x1, oC 2 [.ref x2, .ref x4, .ref x6, .ref x8, .ref x10, .ref x12, .ref x14, .ref x16, .ref x18, .ref x20, .ref x27, .int 0]), (x2, oC 3 [.ref x3, .int 1]), (x4, oC 3 [.ref x5, .int 0]), (x5, aI Y 40 (fun _ => 0)), (x6, oC 3 [.ref x7, .int 0]), (x7, aI Y 40 (fun _ => 0)), (x8, oC 3 [.ref x9, .int 0]), (x9, aI Y 40 (fun _ => 0)), (m0, oC 13 [.ref m1, .ref m2, .int 1, .ref m3, .ref m4, .int 0, .int 0, .int 0, .int (-1), .int 0, .int 0, .int 0, .long 0, .ref m5, .ref m6, .int 0, .int 0]), (m1, aI Y 3640 (clB 0 (fun _ => 0))), (o0, aJ Y 1 (fun _ => 0))] rfl ?_
      refine V_iload 777 B dL_law_777 1 rfl ?_
      refine V_icmp_eq_t 779 B 784 dL_law_779 (by decide) (by decide +kernel) ?_
      refine V_iload 784 B dL_law_784 1 rfl ?_
      refine V_if_ne_t 786 B 801 dL_law_786 (by decide) (by decide +kernel) ?_
      refine V_goto 801 B 3332 dL_law_801 (by decide) ?_
      refine V_iinc 3332 B (v := 6) (lv2 := [(4, .int 6), (6, .int 0), (5, .int 1), (3, .ref o0), (2, .ref m0), (1, .ref x0), (0, .ref b)]) dL_law_3332 2 rfl (by decide +kernel) (by decide) rfl ?_
      refine V_goto 3335 B 23 dL_law_3335 (by decide) ?_
      refine V_iload 23 B dL_law_23 0 rfl ?_
      refine V_aload_n 25 B dL_law_25 6 rfl ?_
      refine V_slen 26 B hX hbl hbA (v := 6) (by decide +kernel) dL_law_26 ?_
      refine V_bipush 27 B (v := 6) dL_law_27 (by decide +kernel) ?_
      refine V_isub 29 B (v := 0) dL_law_29 (by decide +kernel) ?_
      refine V_icmp_gt_t 30 B 3338 dL_law_30 (by decide) (by decide +kernel) ?_
      exact law_end B (Nat.le_of_ble_eq_true rfl) (Nat.le_of_ble_eq_true rfl) dL_law_3338 dL_law_3339
  ·
    refine V_ws [(x0, oC 12 [.ref x1, .ref x30, .ref x59, .ref x88, .ref x117, .ref x126, .ref x127, .ref x129, .ref x132, .long 0]), (x1, oC 2 [.ref x2, .ref x4, .ref x6, .ref x8, .ref x10, .ref x12, .ref x14, .ref x16, .ref x18, .ref x20, .ref x27, .int 0]), (x2, oC 3 [.ref x3, .int 1]), (x4, oC 3 [.ref x5, .int 1]), (x5, aI Y 40 (upd (fun _ => 0) 0 p1)), (x6, oC 3 [.ref x7, .int 1]), (x7, aI Y 40 (upd (fun _ => 0) 0 (-1))), (x8, oC 3 [.ref x9, .int 1]), (x9, aI Y 40 (upd (fun _ => 0) 0 0)), (m0, oC 13 [.ref m1, .ref m2, .int 0, .ref m3, .ref m4, .int 0, .int 0, .int 0, .int (-1), .int 0, .int 0, .int 0, .long 0, .ref m5, .ref m6, .int 0, .int 0]), (m1, aI Y 3640 (clB 0 (fun _ => 0))), (o0, aJ Y 1 (vp_updL (fun _ => 0) 0 0))] rfl ?_
    refine V_istore 753 B (lv2 := [(5, .int 0), (4, .int 0), (3, .ref o0), (2, .ref m0), (1, .ref x0), (0, .ref b)]) dL_law_753 (by decide) rfl ?_
    refine V_aload_n 755 B dL_law_755 3 rfl ?_
    refine V_aload_n 756 B dL_law_756 5 rfl ?_
    refine V_iload 757 B dL_law_757 1 rfl ?_
    refine V_iconst 759 B (v := 1) dL_law_759 (by decide +kernel) ?_
    refine V_iadd 760 B (v := 1) dL_law_760 (by decide +kernel) ?_
    refine V_sld 761 B hX hbl hbA (v := p1) (vpin _ _ (by decide +kernel)) dL_law_761 e1 ?_
    refine V_aload_n 762 B dL_law_762 5 rfl ?_
    refine V_iload 763 B dL_law_763 1 rfl ?_
    refine V_iconst 765 B (v := 2) dL_law_765 (by decide +kernel) ?_
    refine V_iadd 766 B (v := 2) dL_law_766 (by decide +kernel) ?_
    refine V_sld 767 B hX hbl hbA (v := p2) (vpin _ _ (by decide +kernel)) dL_law_767 e2 ?_
    refine V_cvi 768 B (st := []) (As := [.int p1, .int p2]) (fun sz => mX12_addCommand_1 l D Y (m0) (m1) (m2) (m3) (m4) (m5) (m6) (p1) (p2) sz) glV_RL_205 ⟨rfl, rfl⟩ ⟨(Nat.le_of_ble_eq_true rfl), (Nat.le_of_ble_eq_true rfl)⟩ ⟨(Nat.le_of_ble_eq_true rfl), (Nat.le_of_ble_eq_true rfl)⟩ [9, 0] rfl 13 0 rfl rfl rfl rfl (Nat.le_of_ble_eq_true rfl) rfl (fun _ u _ => by
        first | rfl | (split <;> rfl) | (dsimp only; split <;> rfl)) dL_law_768 (fun r53 u53 w53 => ?_)
    rcases w53 with ⟨rfl, k54, k55, k56, k57, rfl⟩ | ⟨rfl, k58, k59, rfl⟩ | ⟨rfl, k60, k61, rfl⟩ | ⟨rfl, k62, k63, rfl⟩ | ⟨rfl, k64, rfl⟩ | ⟨rfl, k65, rfl⟩
    ·
      refine V_ws [(x0, oC 12 [.ref x1, .ref x30, .ref x59, .ref x88, .ref x117, .ref x126, .ref x127, .ref x129, .ref x132, .long 0]), (x1, oC 2 [.ref x2, .ref x4, .ref x6, .ref x8, .ref x10, .ref x12, .ref x14, .ref x16, .ref x18, .ref x20, .ref x27, .int 0]), (x2, oC 3 [.ref x3, .int 1]), (x4, oC 3 [.ref x5, .int 1]), (x5, aI Y 40 (upd (fun _ => 0) 0 p1)), (x6, oC 3 [.ref x7, .int 1]), (x7, aI Y 40 (upd (fun _ => 0) 0 (-1))), (x8, oC 3 [.ref x9, .int 1]), (x9, aI Y 40 (upd (fun _ => 0) 0 0)), (m0, oC 13 [.ref m1, .ref m2, .int 0, .ref m3, .ref m4, .int 0, .int 0, .int 0, .int (-1), .int 0, .int 0, .int 0, .long 0, .ref m5, .ref m6, .int 0, .int 0]), (m1, aI Y 3640 (upd (upd (upd (upd (clB 0 (fun _ => 0)) 34 p1) 35 (-1)) 36 0) 1 1)), (o0, aJ Y 1 (vp_updL (fun _ => 0) 0 0))] rfl ?_
      refine V_istore 771 B (lv2 := [(6, .int 0), (5, .int 0), (4, .int 0), (3, .ref o0), (2, .ref m0), (1, .ref x0), (0, .ref b)]) dL_law_771 (by decide) rfl ?_
      refine V_aload_n 773 B dL_law_773 4 rfl ?_
      refine V_cvi 774 B (st := []) (As := []) (fun sz => mX12_thrown_1 l D Y (m0) (m1) (m2) (m3) (m4) (m5) (m6) sz) glV_RL_182 ⟨rfl, rfl⟩ ⟨(Nat.le_of_ble_eq_true rfl), (Nat.le_of_ble_eq_true rfl)⟩ ⟨(Nat.le_of_ble_eq_true rfl), (Nat.le_of_ble_eq_true rfl)⟩ [9] rfl 13 0 rfl rfl rfl rfl (Nat.le_of_ble_eq_true rfl) rfl (fun _ _ _ => rfl) dL_law_774 (fun r66 u66 w66 => ?_)
      obtain rfl := w66
      refine V_ws [(x0, oC 12 [.ref x1, .ref x30, .ref x59, .ref x88, .ref x117, .ref x126, .ref x127, .ref x129, .ref x132, .long 0]), (x1, oC 2 [.ref x2, .ref x4, .ref x6, .ref x8, .ref x10, .ref x12, .ref x14, .ref x16, .ref x18, .ref x20, .ref x27, .int 0]), (x2, oC 3 [.ref x3, .int 1]), (x4, oC 3 [.ref x5, .int 1]), (x5, aI Y 40 (upd (fun _ => 0) 0 p1)), (x6, oC 3 [.ref x7, .int 1]), (x7, aI Y 40 (upd (fun _ => 0) 0 (-1))), (x8, oC 3 [.ref x9, .int 1]), (x9, aI Y 40 (upd (fun _ => 0) 0 0)), (m0, oC 13 [.ref m1, .ref m2, .int 0, .ref m3, .ref m4, .int 0, .int 0, .int 0, .int (-1), .int 0, .int 0, .int 0, .long 0, .ref m5, .ref m6, .int 0, .int 0]), (m1, aI Y 3640 (upd (upd (upd (upd (clB 0 (fun _ => 0)) 34 p1) 35 (-1)) 36 0) 1 1)), (o0, aJ Y 1 (vp_updL (fun _ => 0) 0 0))] rfl ?_
      refine V_iload 777 B dL_law_777 1 rfl ?_
      refine V_icmp_eq_t 779 B 784 dL_law_779 (by decide) (by decide +kernel) ?_
      refine V_iload 784 B dL_law_784 1 rfl ?_
      refine V_if_ne_f 786 B 801 dL_law_786 (by decide) (by decide +kernel) ?_
      refine V_aload_n 789 B dL_law_789 3 rfl ?_
      refine V_iconst 790 B (v := 0) dL_law_790 (by decide +kernel) ?_
      refine V_lald 791 B (v := 0) 11 rfl (vpin _ _ (by decide +kernel)) dL_law_791 rfl ?_
      refine V_iload 792 B dL_law_792 0 rfl ?_
      refine V_i2l 794 B (v := 0) dL_law_794 (by decide +kernel) ?_
      refine V_lcmp 795 B (v := 0) dL_law_795 (by decide +kernel) ?_
      refine V_if_eq_t 796 B 801 dL_law_796 (by decide) (by decide +kernel) ?_
      refine V_goto 801 B 3332 dL_law_801 (by decide) ?_
      refine V_iinc 3332 B (v := 6) (lv2 := [(4, .int 6), (6, .int 0), (5, .int 0), (3, .ref o0), (2, .ref m0), (1, .ref x0), (0, .ref b)]) dL_law_3332 2 rfl (by decide +kernel) (by decide) rfl ?_
      refine V_goto 3335 B 23 dL_law_3335 (by decide) ?_
      refine V_iload 23 B dL_law_23 0 rfl ?_
      refine V_aload_n 25 B dL_law_25 6 rfl ?_
      refine V_slen 26 B hX hbl hbA (v := 6) (by decide +kernel) dL_law_26 ?_
      refine V_bipush 27 B (v := 6) dL_law_27 (by decide +kernel) ?_
      refine V_isub 29 B (v := 0) dL_law_29 (by decide +kernel) ?_
      refine V_icmp_gt_t 30 B 3338 dL_law_30 (by decide) (by decide +kernel) ?_
      exact law_end B (Nat.le_of_ble_eq_true rfl) (Nat.le_of_ble_eq_true rfl) dL_law_3338 dL_law_3339
    ·
      refine V_ws [(x0, oC 12 [.ref x1, .ref x30, .ref x59, .ref x88, .ref x117, .ref x126, .ref x127, .ref x129, .ref x132, .long 0]), (x1, oC 2 [.ref x2, .ref x4, .ref x6, .ref x8, .ref x10, .ref x12, .ref x14, .ref x16, .ref x18, .ref x20, .ref x27, .int 0]), (x2, oC 3 [.ref x3, .int 1]), (x4, oC 3 [.ref x5, .int 1]), (x5, aI Y 40 (upd (fun _ => 0) 0 p1)), (x6, oC 3 [.ref x7, .int 1]), (x7, aI Y 40 (upd (fun _ => 0) 0 (-1))), (x8, oC 3 [.ref x9, .int 1]), (x9, aI Y 40 (upd (fun _ => 0) 0 0)), (m0, oC 13 [.ref m1, .ref m2, .int 0, .ref m3, .ref m4, .int 0, .int 0, .int 0, .int (-1), .int 0, .int 0, .int 0, .long 0, .ref m5, .ref m6, .int 0, .int 0]), (m1, aI Y 3640 (upd (upd (upd (upd (clB 0 (fun _ => 0)) 34 1) 35 0) 36 0) 1 1)), (o0, aJ Y 1 (vp_updL (fun _ => 0) 0 0))] rfl ?_
      exact absurd k58 k11
    ·
      refine V_ws [(x0, oC 12 [.ref x1, .ref x30, .ref x59, .ref x88, .ref x117, .ref x126, .ref x127, .ref x129, .ref x132, .long 0]), (x1, oC 2 [.ref x2, .ref x4, .ref x6, .ref x8, .ref x10, .ref x12, .ref x14, .ref x16, .ref x18, .ref x20, .ref x27, .int 0]), (x2, oC 3 [.ref x3, .int 1]), (x4, oC 3 [.ref x5, .int 1]), (x5, aI Y 40 (upd (fun _ => 0) 0 p1)), (x6, oC 3 [.ref x7, .int 1]), (x7, aI Y 40 (upd (fun _ => 0) 0 (-1))), (x8, oC 3 [.ref x9, .int 1]), (x9, aI Y 40 (upd (fun _ => 0) 0 0)), (m0, oC 13 [.ref m1, .ref m2, .int 2, .ref m3, .ref m4, .int 0, .int 0, .int 0, .int (-1), .int 0, .int 0, .int 0, .long 0, .ref m5, .ref m6, .int 0, .int 0]), (m1, aI Y 3640 (clB 0 (fun _ => 0))), (o0, aJ Y 1 (vp_updL (fun _ => 0) 0 0))] rfl ?_
      exact absurd k60 k11
    ·
      refine V_ws [(x0, oC 12 [.ref x1, .ref x30, .ref x59, .ref x88, .ref x117, .ref x126, .ref x127, .ref x129, .ref x132, .long 0]), (x1, oC 2 [.ref x2, .ref x4, .ref x6, .ref x8, .ref x10, .ref x12, .ref x14, .ref x16, .ref x18, .ref x20, .ref x27, .int 0]), (x2, oC 3 [.ref x3, .int 1]), (x4, oC 3 [.ref x5, .int 1]), (x5, aI Y 40 (upd (fun _ => 0) 0 p1)), (x6, oC 3 [.ref x7, .int 1]), (x7, aI Y 40 (upd (fun _ => 0) 0 (-1))), (x8, oC 3 [.ref x9, .int 1]), (x9, aI Y 40 (upd (fun _ => 0) 0 0)), (m0, oC 13 [.ref m1, .ref m2, .int 2, .ref m3, .ref m4, .int 0, .int 0, .int 0, .int (-1), .int 0, .int 0, .int 0, .long 0, .ref m5, .ref m6, .int 0, .int 0]), (m1, aI Y 3640 (clB 0 (fun _ => 0))), (o0, aJ Y 1 (vp_updL (fun _ => 0) 0 0))] rfl ?_
      exact absurd k62 k11
    ·
      refine V_ws [(x0, oC 12 [.ref x1, .ref x30, .ref x59, .ref x88, .ref x117, .ref x126, .ref x127, .ref x129, .ref x132, .long 0]), (x1, oC 2 [.ref x2, .ref x4, .ref x6, .ref x8, .ref x10, .ref x12, .ref x14, .ref x16, .ref x18, .ref x20, .ref x27, .int 0]), (x2, oC 3 [.ref x3, .int 1]), (x4, oC 3 [.ref x5, .int 1]), (x5, aI Y 40 (upd (fun _ => 0) 0 p1)), (x6, oC 3 [.ref x7, .int 1]), (x7, aI Y 40 (upd (fun _ => 0) 0 (-1))), (x8, oC 3 [.ref x9, .int 1]), (x9, aI Y 40 (upd (fun _ => 0) 0 0)), (m0, oC 13 [.ref m1, .ref m2, .int 1, .ref m3, .ref m4, .int 0, .int 0, .int 0, .int (-1), .int 0, .int 0, .int 0, .long 0, .ref m5, .ref m6, .int 0, .int 0]), (m1, aI Y 3640 (clB 0 (fun _ => 0))), (o0, aJ Y 1 (vp_updL (fun _ => 0) 0 0))] rfl ?_
      exact (q_abs (b_nlt k9 (n := 0) (by decide +kernel)) (b_lt k64 (n := (-1)) (by decide +kernel)) (by decide +kernel)).elim
    ·
      refine V_ws [(x0, oC 12 [.ref x1, .ref x30, .ref x59, .ref x88, .ref x117, .ref x126, .ref x127, .ref x129, .ref x132, .long 0]), (x1, oC 2 [.ref x2, .ref x4, .ref x6, .ref x8, .ref x10, .ref x12, .ref x14, .ref x16, .ref x18, .ref x20, .ref x27, .int 0]), (x2, oC 3 [.ref x3, .int 1]), (x4, oC 3 [.ref x5, .int 1]), (x5, aI Y 40 (upd (fun _ => 0) 0 p1)), (x6, oC 3 [.ref x7, .int 1]), (x7, aI Y 40 (upd (fun _ => 0) 0 (-1))), (x8, oC 3 [.ref x9, .int 1]), (x9, aI Y 40 (upd (fun _ => 0) 0 0)), (m0, oC 13 [.ref m1, .ref m2, .int 1, .ref m3, .ref m4, .int 0, .int 0, .int 0, .int (-1), .int 0, .int 0, .int 0, .long 0, .ref m5, .ref m6, .int 0, .int 0]), (m1, aI Y 3640 (clB 0 (fun _ => 0))), (o0, aJ Y 1 (vp_updL (fun _ => 0) 0 0))] rfl ?_
      exact (q_abs (b_gt k65 (n := 3) (by decide +kernel)) (b_lt k10 (n := 2) (by decide +kernel)) (by decide +kernel)).elim
  ·
    refine V_ws [(x0, oC 12 [.ref x1, .ref x30, .ref x59, .ref x88, .ref x117, .ref x126, .ref x127, .ref x129, .ref x132, .long 0]), (x1, oC 2 [.ref x2, .ref x4, .ref x6, .ref x8, .ref x10, .ref x12, .ref x14, .ref x16, .ref x18, .ref x20, .ref x27, .int 0]), (x2, oC 3 [.ref x3, .int 1]), (x4, oC 3 [.ref x5, .int 1]), (x5, aI Y 40 (upd (fun _ => 0) 0 1)), (x6, oC 3 [.ref x7, .int 1]), (x7, aI Y 40 (upd (fun _ => 0) 0 0)), (x8, oC 3 [.ref x9, .int 1]), (x9, aI Y 40 (upd (fun _ => 0) 0 0)), (m0, oC 13 [.ref m1, .ref m2, .int 0, .ref m3, .ref m4, .int 0, .int 0, .int 0, .int (-1), .int 0, .int 0, .int 0, .long 0, .ref m5, .ref m6, .int 0, .int 0]), (m1, aI Y 3640 (clB 0 (fun _ => 0))), (o0, aJ Y 1 (vp_updL (fun _ => 0) 0 0))] rfl ?_
    obtain rfl : p1 = 1 := k13
    obtain rfl : p2 = 0 := k14
    refine V_istore 753 B (lv2 := [(5, .int 0), (4, .int 0), (3, .ref o0), (2, .ref m0), (1, .ref x0), (0, .ref b)]) dL_law_753 (by decide) rfl ?_
    refine V_aload_n 755 B dL_law_755 3 rfl ?_
    refine V_aload_n 756 B dL_law_756 5 rfl ?_
    refine V_iload 757 B dL_law_757 1 rfl ?_
    refine V_iconst 759 B (v := 1) dL_law_759 (by decide +kernel) ?_
    refine V_iadd 760 B (v := 1) dL_law_760 (by decide +kernel) ?_
    refine V_sld 761 B hX hbl hbA (v := 1) (vpin _ _ (by decide +kernel)) dL_law_761 e1 ?_
    refine V_aload_n 762 B dL_law_762 5 rfl ?_
    refine V_iload 763 B dL_law_763 1 rfl ?_
    refine V_iconst 765 B (v := 2) dL_law_765 (by decide +kernel) ?_
    refine V_iadd 766 B (v := 2) dL_law_766 (by decide +kernel) ?_
    refine V_sld 767 B hX hbl hbA (v := 0) (vpin _ _ (by decide +kernel)) dL_law_767 e2 ?_
    refine V_cvi 768 B (st := []) (As := [.int 1, .int 0]) (fun sz => mX12_addCommand_3 l D Y (m0) (m1) (m2) (m3) (m4) (m5) (m6) sz) glV_RL_205 ⟨rfl, rfl⟩ ⟨(Nat.le_of_ble_eq_true rfl), (Nat.le_of_ble_eq_true rfl)⟩ ⟨(Nat.le_of_ble_eq_true rfl), (Nat.le_of_ble_eq_true rfl)⟩ [9, 0] rfl 13 0 rfl rfl rfl rfl (Nat.le_of_ble_eq_true rfl) rfl (fun _ _ _ => rfl) dL_law_768 (fun r67 u67 w67 => ?_)
    obtain rfl := w67
    refine V_ws [(x0, oC 12 [.ref x1, .ref x30, .ref x59, .ref x88, .ref x117, .ref x126, .ref x127, .ref x129, .ref x132, .long 0]), (x1, oC 2 [.ref x2, .ref x4, .ref x6, .ref x8, .ref x10, .ref x12, .ref x14, .ref x16, .ref x18, .ref x20, .ref x27, .int 0]), (x2, oC 3 [.ref x3, .int 1]), (x4, oC 3 [.ref x5, .int 1]), (x5, aI Y 40 (upd (fun _ => 0) 0 1)), (x6, oC 3 [.ref x7, .int 1]), (x7, aI Y 40 (upd (fun _ => 0) 0 0)), (x8, oC 3 [.ref x9, .int 1]), (x9, aI Y 40 (upd (fun _ => 0) 0 0)), (m0, oC 13 [.ref m1, .ref m2, .int 0, .ref m3, .ref m4, .int 0, .int 0, .int 0, .int (-1), .int 0, .int 0, .int 0, .long 0, .ref m5, .ref m6, .int 0, .int 0]), (m1, aI Y 3640 (upd (upd (upd (upd (clB 0 (fun _ => 0)) 34 1) 35 0) 36 0) 1 1)), (o0, aJ Y 1 (vp_updL (fun _ => 0) 0 0))] rfl ?_
    refine V_istore 771 B (lv2 := [(6, .int 0), (5, .int 0), (4, .int 0), (3, .ref o0), (2, .ref m0), (1, .ref x0), (0, .ref b)]) dL_law_771 (by decide) rfl ?_
    refine V_aload_n 773 B dL_law_773 4 rfl ?_
    refine V_cvi 774 B (st := []) (As := []) (fun sz => mX12_thrown_1 l D Y (m0) (m1) (m2) (m3) (m4) (m5) (m6) sz) glV_RL_182 ⟨rfl, rfl⟩ ⟨(Nat.le_of_ble_eq_true rfl), (Nat.le_of_ble_eq_true rfl)⟩ ⟨(Nat.le_of_ble_eq_true rfl), (Nat.le_of_ble_eq_true rfl)⟩ [9] rfl 13 0 rfl rfl rfl rfl (Nat.le_of_ble_eq_true rfl) rfl (fun _ _ _ => rfl) dL_law_774 (fun r68 u68 w68 => ?_)
    obtain rfl := w68
    refine V_ws [(x0, oC 12 [.ref x1, .ref x30, .ref x59, .ref x88, .ref x117, .ref x126, .ref x127, .ref x129, .ref x132, .long 0]), (x1, oC 2 [.ref x2, .ref x4, .ref x6, .ref x8, .ref x10, .ref x12, .ref x14, .ref x16, .ref x18, .ref x20, .ref x27, .int 0]), (x2, oC 3 [.ref x3, .int 1]), (x4, oC 3 [.ref x5, .int 1]), (x5, aI Y 40 (upd (fun _ => 0) 0 1)), (x6, oC 3 [.ref x7, .int 1]), (x7, aI Y 40 (upd (fun _ => 0) 0 0)), (x8, oC 3 [.ref x9, .int 1]), (x9, aI Y 40 (upd (fun _ => 0) 0 0)), (m0, oC 13 [.ref m1, .ref m2, .int 0, .ref m3, .ref m4, .int 0, .int 0, .int 0, .int (-1), .int 0, .int 0, .int 0, .long 0, .ref m5, .ref m6, .int 0, .int 0]), (m1, aI Y 3640 (upd (upd (upd (upd (clB 0 (fun _ => 0)) 34 1) 35 0) 36 0) 1 1)), (o0, aJ Y 1 (vp_updL (fun _ => 0) 0 0))] rfl ?_
    refine V_iload 777 B dL_law_777 1 rfl ?_
    refine V_icmp_eq_t 779 B 784 dL_law_779 (by decide) (by decide +kernel) ?_
    refine V_iload 784 B dL_law_784 1 rfl ?_
    refine V_if_ne_f 786 B 801 dL_law_786 (by decide) (by decide +kernel) ?_
    refine V_aload_n 789 B dL_law_789 3 rfl ?_
    refine V_iconst 790 B (v := 0) dL_law_790 (by decide +kernel) ?_
    refine V_lald 791 B (v := 0) 11 rfl (vpin _ _ (by decide +kernel)) dL_law_791 rfl ?_
    refine V_iload 792 B dL_law_792 0 rfl ?_
    refine V_i2l 794 B (v := 0) dL_law_794 (by decide +kernel) ?_
    refine V_lcmp 795 B (v := 0) dL_law_795 (by decide +kernel) ?_
    refine V_if_eq_t 796 B 801 dL_law_796 (by decide) (by decide +kernel) ?_
    refine V_goto 801 B 3332 dL_law_801 (by decide) ?_
    refine V_iinc 3332 B (v := 6) (lv2 := [(4, .int 6), (6, .int 0), (5, .int 0), (3, .ref o0), (2, .ref m0), (1, .ref x0), (0, .ref b)]) dL_law_3332 2 rfl (by decide +kernel) (by decide) rfl ?_
    refine V_goto 3335 B 23 dL_law_3335 (by decide) ?_
    refine V_iload 23 B dL_law_23 0 rfl ?_
    refine V_aload_n 25 B dL_law_25 6 rfl ?_
    refine V_slen 26 B hX hbl hbA (v := 6) (by decide +kernel) dL_law_26 ?_
    refine V_bipush 27 B (v := 6) dL_law_27 (by decide +kernel) ?_
    refine V_isub 29 B (v := 0) dL_law_29 (by decide +kernel) ?_
    refine V_icmp_gt_t 30 B 3338 dL_law_30 (by decide) (by decide +kernel) ?_
    exact law_end B (Nat.le_of_ble_eq_true rfl) (Nat.le_of_ble_eq_true rfl) dL_law_3338 dL_law_3339
theorem dL_command_0 : decode cL_command 0 = .ok (.aload_n 3, 1) := by decide +kernel
theorem dL_command_1 : decode cL_command 1 = .ok (.iconst 0, 1) := by decide +kernel
theorem dL_command_2 : decode cL_command 2 = .ok (.aload_n 0, 1) := by decide +kernel
theorem dL_command_3 : decode cL_command 3 = .ok (.iload_n 1, 1) := by decide +kernel
theorem dL_command_4 : decode cL_command 4 = .ok (.iload_n 2, 1) := by decide +kernel
theorem dL_command_5 : decode cL_command 5 = .ok (.invokevirtual 30, 3) := by decide +kernel
theorem glV_RL_30 : GLV RL 30 yX11_command RX11 cX11_command 3 (some .int) 2 := ⟨⟨(mT5 183 rfl rfl), (mT5 184 rfl rfl), (mT5 185 rfl rfl), (mT1 1 rfl rfl), (mT5 186 rfl rfl)⟩, by decide +kernel⟩
theorem dL_command_13 : decode cL_command 13 = .ok (.astore 4, 2) := by decide +kernel
theorem dL_command_15 : decode cL_command 15 = .ok (.iconst 1, 1) := by decide +kernel
theorem dL_command_16 : decode cL_command 16 = .ok (.ireturn, 1) := by decide +kernel
set_option maxRecDepth 100000 in
set_option maxHeartbeats 4000000 in
theorem mL_command_1 (l : Launch) (hl9 : l.stackTraces = false) (D : va_G) (Y : Nat → ClassId) (h0 : Nat) (g0 : Nat) (h1 : Nat) (g1 : Nat) (g2 : Nat) (g3 : Nat) (g4 : Nat) (g5 : Nat) (g6 : Nat) (g7 : Nat) (g8 : Nat) (g9 : Nat) (h2 : Nat) (g10 : Nat) (g11 : Nat) (g12 : Nat) (g13 : Nat) (g14 : Nat) (g15 : Nat) (g16 : Nat) (g17 : Nat) (g18 : Nat) (g19 : Nat) (p0 : Int32) (p1 : Int32) (sz : Nat) : Met l yL_command (Cond.codeWith yL_command cL_command 5 (some .int) [(0, 10, 13, 18)] :: lw_good) (mkR 8 1 6 125) (PreX D Y [.ref h0, .int p0, .int p1, .ref g0] [(h0, oC 12 [.ref h1, .ref g1, .ref g2, .ref g3, .ref g4, .ref g5, .ref g6, .ref g7, .ref g8, .long 0]), (h1, oC 2 [.ref g9, .ref h2, .ref g10, .ref g11, .ref g12, .ref g13, .ref g14, .ref g15, .ref g16, .ref g17, .ref g18, .int 0]), (h2, oC 3 [.ref g19, .int 0])] sz) (QI D (fun (r : Int32) (u : Unit) => (p0 < 0 ∧ 1 = r) ∨ (¬ p0 < 0 ∧ 1 = r)) (fun (_ : Unit) => [(h0, oC 12 [.ref h1, .ref g1, .ref g2, .ref g3, .ref g4, .ref g5, .ref g6, .ref g7, .ref g8, .long 0]), (h1, oC 2 [.ref g9, .ref h2, .ref g10, .ref g11, .ref g12, .ref g13, .ref g14, .ref g15, .ref g16, .ref g17, .ref g18, .int 0]), (h2, oC 3 [.ref g19, .int 0])]) (va_A [(h0, oC 12 [.ref h1, .ref g1, .ref g2, .ref g3, .ref g4, .ref g5, .ref g6, .ref g7, .ref g8, .long 0]), (h1, oC 2 [.ref g9, .ref h2, .ref g10, .ref g11, .ref g12, .ref g13, .ref g14, .ref g15, .ref g16, .ref g17, .ref g18, .int 0]), (h2, oC 3 [.ref g19, .int 0])] sz)) 1 6 (va_A [(h0, oC 12 [.ref h1, .ref g1, .ref g2, .ref g3, .ref g4, .ref g5, .ref g6, .ref g7, .ref g8, .long 0]), (h1, oC 2 [.ref g9, .ref h2, .ref g10, .ref g11, .ref g12, .ref g13, .ref g14, .ref g15, .ref g16, .ref g17, .ref g18, .int 0]), (h2, oC 3 [.ref g19, .int 0])] sz) :=
  metH_of (by decide +kernel) (Nat.le_of_ble_eq_true rfl) (fun p e s m args below meth c B EB htab hsz => by
    have B : VB p s m args meth c D Y (va_A [(h0, oC 12 [.ref h1, .ref g1, .ref g2, .ref g3, .ref g4, .ref g5, .ref g6, .ref g7, .ref g8, .long 0]), (h1, oC 2 [.ref g9, .ref h2, .ref g10, .ref g11, .ref g12, .ref g13, .ref g14, .ref g15, .ref g16, .ref g17, .ref g18, .int 0]), (h2, oC 3 [.ref g19, .int 0])] sz) cL_command 5 RL (some .int) := B
    refine V_aload_n 0 B dL_command_0 3 rfl ?_
    refine V_iconst 1 B (v := 0) dL_command_1 (by decide +kernel) ?_
    refine V_aload_n 2 B dL_command_2 0 rfl ?_
    refine V_iload_n 3 B dL_command_3 1 rfl ?_
    refine V_iload_n 4 B dL_command_4 2 rfl ?_
    refine V_xvi 5 B EB (st := [.int 0, .ref g0]) (As := [.int p0, .int p1]) (fun sz => mX11_command_1 l hl9 D Y (h0) (h1) (g1) (g2) (g3) (g4) (g5) (g6) (g7) (g8) (g9) (h2) (g10) (g11) (g12) (g13) (g14) (g15) (g16) (g17) (g18) (g19) (p0) (p1) sz) glV_RL_30 ⟨rfl, rfl⟩ ⟨(Nat.le_of_ble_eq_true rfl), (Nat.le_of_ble_eq_true rfl)⟩ ⟨(Nat.le_of_ble_eq_true rfl), (Nat.le_of_ble_eq_true rfl)⟩ [0, 0, 0] rfl 12 0 rfl rfl rfl rfl (Nat.le_of_ble_eq_true rfl) rfl (fun _ _ _ => rfl) (fun _ _ _ => rfl) dL_command_5 (fun E u0 w0 => ?_) (fun r0 u0 w0 => ?_)
    ·
      rcases w0 with ⟨rfl, k1⟩ | ⟨rfl, k2⟩
      ·
        refine VX_catch 5 B htab [] (0, 10, 13, 18) [] rfl "java/lang/IndexOutOfBoundsException" (fun z hz => nomatch hz) rfl (by decide) (mT5 103 rfl rfl) (EB.2.2.2.1 _ (List.mem_of_getElem? (i := 1) rfl)) 13 rfl (fun q9 => ?_)
        refine V_ws [(h0, oC 12 [.ref h1, .ref g1, .ref g2, .ref g3, .ref g4, .ref g5, .ref g6, .ref g7, .ref g8, .long 0]), (h1, oC 2 [.ref g9, .ref h2, .ref g10, .ref g11, .ref g12, .ref g13, .ref g14, .ref g15, .ref g16, .ref g17, .ref g18, .int 0]), (h2, oC 3 [.ref g19, .int 0])] rfl ?_
        refine V_astore 13 B (lv2 := [(4, .ref q9), (0, .ref h0), (1, .int p0), (2, .int p1), (3, .ref g0)]) dL_command_13 (by decide) rfl ?_
        refine V_iconst 15 B (v := 1) dL_command_15 (by decide +kernel) ?_
        exact V_iret 16 B dL_command_16 () (Or.inl ⟨k1, rfl⟩) rfl
      ·
        refine VX_catch 5 B htab [] (0, 10, 13, 18) [] rfl "java/lang/IndexOutOfBoundsException" (fun z hz => nomatch hz) rfl (by decide) (mT5 103 rfl rfl) (EB.2.2.2.1 _ (List.mem_of_getElem? (i := 1) rfl)) 13 rfl (fun q9 => ?_)
        refine V_ws [(h0, oC 12 [.ref h1, .ref g1, .ref g2, .ref g3, .ref g4, .ref g5, .ref g6, .ref g7, .ref g8, .long 0]), (h1, oC 2 [.ref g9, .ref h2, .ref g10, .ref g11, .ref g12, .ref g13, .ref g14, .ref g15, .ref g16, .ref g17, .ref g18, .int 0]), (h2, oC 3 [.ref g19, .int 0])] rfl ?_
        refine V_astore 13 B (lv2 := [(4, .ref q9), (0, .ref h0), (1, .int p0), (2, .int p1), (3, .ref g0)]) dL_command_13 (by decide) rfl ?_
        refine V_iconst 15 B (v := 1) dL_command_15 (by decide +kernel) ?_
        exact V_iret 16 B dL_command_16 () (Or.inr ⟨k2, rfl⟩) rfl
    ·
      exact w0.elim)
theorem dL_law_804 : decode cL_law 804 = .ok (.aload_n 1, 1) := by decide +kernel
theorem dL_law_805 : decode cL_law 805 = .ok (.aload_n 0, 1) := by decide +kernel
theorem dL_law_806 : decode cL_law 806 = .ok (.iload 4, 2) := by decide +kernel
theorem dL_law_808 : decode cL_law 808 = .ok (.iconst 1, 1) := by decide +kernel
theorem dL_law_809 : decode cL_law 809 = .ok (.iadd, 1) := by decide +kernel
theorem dL_law_810 : decode cL_law 810 = .ok (.iaload, 1) := by decide +kernel
theorem dL_law_811 : decode cL_law 811 = .ok (.aload_n 0, 1) := by decide +kernel
theorem dL_law_812 : decode cL_law 812 = .ok (.iload 4, 2) := by decide +kernel
theorem dL_law_814 : decode cL_law 814 = .ok (.iconst 2, 1) := by decide +kernel
theorem dL_law_815 : decode cL_law 815 = .ok (.iadd, 1) := by decide +kernel
theorem dL_law_816 : decode cL_law 816 = .ok (.iaload, 1) := by decide +kernel
theorem dL_law_817 : decode cL_law 817 = .ok (.aload_n 3, 1) := by decide +kernel
theorem dL_law_818 : decode cL_law 818 = .ok (.invokestatic 206, 3) := by decide +kernel
theorem glH_RL_206 : GLH RL 206 yL_command cL_command 5 (some .int) [(0, 10, 13, 18)] 4 := ⟨⟨(mT5 180 rfl rfl), (mT5 181 rfl rfl), (mT1 0 rfl rfl), (mT5 182 rfl rfl)⟩, by decide +kernel⟩
theorem dL_law_821 : decode cL_law 821 = .ok (.istore 5, 2) := by decide +kernel
theorem dL_law_823 : decode cL_law 823 = .ok (.aload_n 2, 1) := by decide +kernel
theorem dL_law_824 : decode cL_law 824 = .ok (.aload_n 0, 1) := by decide +kernel
theorem dL_law_825 : decode cL_law 825 = .ok (.iload 4, 2) := by decide +kernel
theorem dL_law_827 : decode cL_law 827 = .ok (.iconst 1, 1) := by decide +kernel
theorem dL_law_828 : decode cL_law 828 = .ok (.iadd, 1) := by decide +kernel
theorem dL_law_829 : decode cL_law 829 = .ok (.iaload, 1) := by decide +kernel
theorem dL_law_830 : decode cL_law 830 = .ok (.aload_n 0, 1) := by decide +kernel
theorem dL_law_831 : decode cL_law 831 = .ok (.iload 4, 2) := by decide +kernel
theorem dL_law_833 : decode cL_law 833 = .ok (.iconst 2, 1) := by decide +kernel
theorem dL_law_834 : decode cL_law 834 = .ok (.iadd, 1) := by decide +kernel
theorem dL_law_835 : decode cL_law 835 = .ok (.iaload, 1) := by decide +kernel
theorem dL_law_836 : decode cL_law 836 = .ok (.invokevirtual 208, 3) := by decide +kernel
theorem glV_RL_208 : GLV RL 208 yX12_command RX12 cX12_command 3 (some .int) 2 := ⟨⟨(mT8 46 rfl rfl), (mT8 47 rfl rfl), (mT8 48 rfl rfl), (mT1 13 rfl rfl), (mT8 49 rfl rfl)⟩, by decide +kernel⟩
theorem dL_law_839 : decode cL_law 839 = .ok (.istore 6, 2) := by decide +kernel
theorem dL_law_841 : decode cL_law 841 = .ok (.aload_n 2, 1) := by decide +kernel
theorem dL_law_842 : decode cL_law 842 = .ok (.invokevirtual 182, 3) := by decide +kernel
theorem dL_law_845 : decode cL_law 845 = .ok (.iload 5, 2) := by decide +kernel
theorem dL_law_847 : decode cL_law 847 = .ok (.if_icmp .eq 5, 3) := by decide +kernel
theorem dL_law_852 : decode cL_law 852 = .ok (.iload 5, 2) := by decide +kernel
theorem dL_law_854 : decode cL_law 854 = .ok (.ifCond .ne 15, 3) := by decide +kernel
theorem dL_law_869 : decode cL_law 869 = .ok (.goto 2463, 3) := by decide +kernel
set_option maxRecDepth 100000 in
set_option maxHeartbeats 4000000 in
theorem law_c13 {p : Program} {l : Launch} {e : Env} {s : State} {m : MethodId} {below : List Frame} {meth : Method} {c : Code} {b : Nat} {xs : Nat → Int32} {D : va_G} {Y : Nat → ClassId} (B : VB p s m #[Value.ref b] meth c D Y (fun q => s.heap.size ≤ q) cL_law 8 RL ret) (EB : EX (fun q => s.heap.size ≤ q) s s.heap) (hl9 : l.stackTraces = false) (hX : va_X b 6 xs s s.heap) (hbl : b < s.heap.size) (hbA : ¬ (fun q => s.heap.size ≤ q) b) (x0 x1 x30 x59 x88 x117 x126 x127 x129 x132 x2 x4 x6 x8 x10 x12 x14 x16 x18 x20 x27 x5 m0 m1 m2 m3 m4 m5 m6 o0 : Nat) (p1 p2 : Int32) (e1 : xs 1 = p1) (e2 : xs 2 = p2) : V p l e room_1 s m #[Value.ref b] below meth c D (fun q => s.heap.size ≤ q) 8 149 10574 (lw_Z below #[Value.ref b] s) 804 [(4, .int 0), (3, .ref o0), (2, .ref m0), (1, .ref x0), (0, .ref b)] [] [(x0, oC 12 [.ref x1, .ref x30, .ref x59, .ref x88, .ref x117, .ref x126, .ref x127, .ref x129, .ref x132, .long 0]), (x1, oC 2 [.ref x2, .ref x4, .ref x6, .ref x8, .ref x10, .ref x12, .ref x14, .ref x16, .ref x18, .ref x20, .ref x27, .int 0]), (x4, oC 3 [.ref x5, .int 0]), (m0, oC 13 [.ref m1, .ref m2, .int 0, .ref m3, .ref m4, .int 0, .int 0, .int 0, .int (-1), .int 0, .int 0, .int 0, .long 0, .ref m5, .ref m6, .int 0, .int 0]), (m1, aI Y 3640 (clB 0 (fun _ => 0)))] := by
  refine V_aload_n 804 B dL_law_804 3 rfl ?_
  refine V_aload_n 805 B dL_law_805 4 rfl ?_
  refine V_iload 806 B dL_law_806 0 rfl ?_
  refine V_iconst 808 B (v := 1) dL_law_808 (by decide +kernel) ?_
  refine V_iadd 809 B (v := 1) dL_law_809 (by decide +kernel) ?_
  refine V_sld 810 B hX hbl hbA (v := p1) (vpin _ _ (by decide +kernel)) dL_law_810 e1 ?_
  refine V_aload_n 811 B dL_law_811 4 rfl ?_
  refine V_iload 812 B dL_law_812 0 rfl ?_
  refine V_iconst 814 B (v := 2) dL_law_814 (by decide +kernel) ?_
  refine V_iadd 815 B (v := 2) dL_law_815 (by decide +kernel) ?_
  refine V_sld 816 B hX hbl hbA (v := p2) (vpin _ _ (by decide +kernel)) dL_law_816 e2 ?_
  refine V_aload_n 817 B dL_law_817 1 rfl ?_
  refine V_hsi 818 B EB (st := []) (As := [.ref x0, .int p1, .int p2, .ref o0]) (fun sz => mL_command_1 l hl9 D Y (x0) (o0) (x1) (x30) (x59) (x88) (x117) (x126) (x127) (x129) (x132) (x2) (x4) (x6) (x8) (x10) (x12) (x14) (x16) (x18) (x20) (x27) (x5) (p1) (p2) sz) glH_RL_206 ⟨rfl, rfl⟩ ⟨(Nat.le_of_ble_eq_true rfl), (Nat.le_of_ble_eq_true rfl)⟩ ⟨(Nat.le_of_ble_eq_true rfl), (Nat.le_of_ble_eq_true rfl)⟩ [0, 0, 0] rfl rfl (Nat.le_of_ble_eq_true rfl) rfl (fun _ _ _ => rfl) dL_law_818 (fun r0 u0 w0 => ?_)
  rcases w0 with ⟨k1, rfl⟩ | ⟨k2, rfl⟩
  ·
    refine V_ws [(x0, oC 12 [.ref x1, .ref x30, .ref x59, .ref x88, .ref x117, .ref x126, .ref x127, .ref x129, .ref x132, .long 0]), (x1, oC 2 [.ref x2, .ref x4, .ref x6, .ref x8, .ref x10, .ref x12, .ref x14, .ref x16, .ref x18, .ref x20, .ref x27, .int 0]), (x4, oC 3 [.ref x5, .int 0]), (m0, oC 13 [.ref m1, .ref m2, .int 0, .ref m3, .ref m4, .int 0, .int 0, .int 0, .int (-1), .int 0, .int 0, .int 0, .long 0, .ref m5, .ref m6, .int 0, .int 0]), (m1, aI Y 3640 (clB 0 (fun _ => 0)))] rfl ?_
    refine V_istore 821 B (lv2 := [(5, .int 1), (4, .int 0), (3, .ref o0), (2, .ref m0), (1, .ref x0), (0, .ref b)]) dL_law_821 (by decide) rfl ?_
    refine V_aload_n 823 B dL_law_823 3 rfl ?_
    refine V_aload_n 824 B dL_law_824 5 rfl ?_
    refine V_iload 825 B dL_law_825 1 rfl ?_
    refine V_iconst 827 B (v := 1) dL_law_827 (by decide +kernel) ?_
    refine V_iadd 828 B (v := 1) dL_law_828 (by decide +kernel) ?_
    refine V_sld 829 B hX hbl hbA (v := p1) (vpin _ _ (by decide +kernel)) dL_law_829 e1 ?_
    refine V_aload_n 830 B dL_law_830 5 rfl ?_
    refine V_iload 831 B dL_law_831 1 rfl ?_
    refine V_iconst 833 B (v := 2) dL_law_833 (by decide +kernel) ?_
    refine V_iadd 834 B (v := 2) dL_law_834 (by decide +kernel) ?_
    refine V_sld 835 B hX hbl hbA (v := p2) (vpin _ _ (by decide +kernel)) dL_law_835 e2 ?_
    refine V_cvi 836 B (st := []) (As := [.int p1, .int p2]) (fun sz => mX12_command_1 l D Y (m0) (m1) (m2) (m3) (m4) (m5) (m6) (p1) (p2) sz) glV_RL_208 ⟨rfl, rfl⟩ ⟨(Nat.le_of_ble_eq_true rfl), (Nat.le_of_ble_eq_true rfl)⟩ ⟨(Nat.le_of_ble_eq_true rfl), (Nat.le_of_ble_eq_true rfl)⟩ [3, 0] rfl 13 0 rfl rfl rfl rfl (Nat.le_of_ble_eq_true rfl) rfl (fun _ _ _ => rfl) dL_law_836 (fun r3 u3 w3 => ?_)
    rcases w3 with ⟨k4, rfl⟩ | ⟨k5, rfl⟩
    ·
      refine V_ws [(x0, oC 12 [.ref x1, .ref x30, .ref x59, .ref x88, .ref x117, .ref x126, .ref x127, .ref x129, .ref x132, .long 0]), (x1, oC 2 [.ref x2, .ref x4, .ref x6, .ref x8, .ref x10, .ref x12, .ref x14, .ref x16, .ref x18, .ref x20, .ref x27, .int 0]), (x4, oC 3 [.ref x5, .int 0]), (m0, oC 13 [.ref m1, .ref m2, .int 1, .ref m3, .ref m4, .int 0, .int 0, .int 0, .int (-1), .int 0, .int 0, .int 0, .long 0, .ref m5, .ref m6, .int 0, .int 0]), (m1, aI Y 3640 (clB 0 (fun _ => 0)))] rfl ?_
      refine V_istore 839 B (lv2 := [(6, .int 0), (5, .int 1), (4, .int 0), (3, .ref o0), (2, .ref m0), (1, .ref x0), (0, .ref b)]) dL_law_839 (by decide) rfl ?_
      refine V_aload_n 841 B dL_law_841 4 rfl ?_
      refine V_cvi 842 B (st := []) (As := []) (fun sz => mX12_thrown_2 l D Y (m0) (m1) (m2) (m3) (m4) (m5) (m6) sz) glV_RL_182 ⟨rfl, rfl⟩ ⟨(Nat.le_of_ble_eq_true rfl), (Nat.le_of_ble_eq_true rfl)⟩ ⟨(Nat.le_of_ble_eq_true rfl), (Nat.le_of_ble_eq_true rfl)⟩ [3] rfl 13 0 rfl rfl rfl rfl (Nat.le_of_ble_eq_true rfl) rfl (fun _ _ _ => rfl) dL_law_842 (fun r6 u6 w6 => ?_)
      obtain rfl := w6
      refine V_ws [(x0, oC 12 [.ref x1, .ref x30, .ref x59, .ref x88, .ref x117, .ref x126, .ref x127, .ref x129, .ref x132, .long 0]), (x1, oC 2 [.ref x2, .ref x4, .ref x6, .ref x8, .ref x10, .ref x12, .ref x14, .ref x16, .ref x18, .ref x20, .ref x27, .int 0]), (x4, oC 3 [.ref x5, .int 0]), (m0, oC 13 [.ref m1, .ref m2, .int 1, .ref m3, .ref m4, .int 0, .int 0, .int 0, .int (-1), .int 0, .int 0, .int 0, .long 0, .ref m5, .ref m6, .int 0, .int 0]), (m1, aI Y 3640 (clB 0 (fun _ => 0)))] rfl ?_
      refine V_iload 845 B dL_law_845 1 rfl ?_
      refine V_icmp_eq_t 847 B 852 dL_law_847 (by decide) (by decide +kernel) ?_
      refine V_iload 852 B dL_law_852 1 rfl ?_
      refine V_if_ne_t 854 B 869 dL_law_854 (by decide) (by decide +kernel) ?_
      refine V_goto 869 B 3332 dL_law_869 (by decide) ?_
      refine V_iinc 3332 B (v := 6) (lv2 := [(4, .int 6), (6, .int 0), (5, .int 1), (3, .ref o0), (2, .ref m0), (1, .ref x0), (0, .ref b)]) dL_law_3332 2 rfl (by decide +kernel) (by decide) rfl ?_
      refine V_goto 3335 B 23 dL_law_3335 (by decide) ?_
      refine V_iload 23 B dL_law_23 0 rfl ?_
      refine V_aload_n 25 B dL_law_25 6 rfl ?_
      refine V_slen 26 B hX hbl hbA (v := 6) (by decide +kernel) dL_law_26 ?_
      refine V_bipush 27 B (v := 6) dL_law_27 (by decide +kernel) ?_
      refine V_isub 29 B (v := 0) dL_law_29 (by decide +kernel) ?_
      refine V_icmp_gt_t 30 B 3338 dL_law_30 (by decide) (by decide +kernel) ?_
      exact law_end B (Nat.le_of_ble_eq_true rfl) (Nat.le_of_ble_eq_true rfl) dL_law_3338 dL_law_3339
    ·
      refine V_ws [(x0, oC 12 [.ref x1, .ref x30, .ref x59, .ref x88, .ref x117, .ref x126, .ref x127, .ref x129, .ref x132, .long 0]), (x1, oC 2 [.ref x2, .ref x4, .ref x6, .ref x8, .ref x10, .ref x12, .ref x14, .ref x16, .ref x18, .ref x20, .ref x27, .int 0]), (x4, oC 3 [.ref x5, .int 0]), (m0, oC 13 [.ref m1, .ref m2, .int 1, .ref m3, .ref m4, .int 0, .int 0, .int 0, .int (-1), .int 0, .int 0, .int 0, .long 0, .ref m5, .ref m6, .int 0, .int 0]), (m1, aI Y 3640 (clB 0 (fun _ => 0)))] rfl ?_
      exact (q_abs (b_gt k5 (n := 0) (by decide +kernel)) (b_lt k1 (n := (-1)) (by decide +kernel)) (by decide +kernel)).elim
  ·
    refine V_ws [(x0, oC 12 [.ref x1, .ref x30, .ref x59, .ref x88, .ref x117, .ref x126, .ref x127, .ref x129, .ref x132, .long 0]), (x1, oC 2 [.ref x2, .ref x4, .ref x6, .ref x8, .ref x10, .ref x12, .ref x14, .ref x16, .ref x18, .ref x20, .ref x27, .int 0]), (x4, oC 3 [.ref x5, .int 0]), (m0, oC 13 [.ref m1, .ref m2, .int 0, .ref m3, .ref m4, .int 0, .int 0, .int 0, .int (-1), .int 0, .int 0, .int 0, .long 0, .ref m5, .ref m6, .int 0, .int 0]), (m1, aI Y 3640 (clB 0 (fun _ => 0)))] rfl ?_
    refine V_istore 821 B (lv2 := [(5, .int 1), (4, .int 0), (3, .ref o0), (2, .ref m0), (1, .ref x0), (0, .ref b)]) dL_law_821 (by decide) rfl ?_
    refine V_aload_n 823 B dL_law_823 3 rfl ?_
    refine V_aload_n 824 B dL_law_824 5 rfl ?_
    refine V_iload 825 B dL_law_825 1 rfl ?_
    refine V_iconst 827 B (v := 1) dL_law_827 (by decide +kernel) ?_
    refine V_iadd 828 B (v := 1) dL_law_828 (by decide +kernel) ?_
    refine V_sld 829 B hX hbl hbA (v := p1) (vpin _ _ (by decide +kernel)) dL_law_829 e1 ?_
    refine V_aload_n 830 B dL_law_830 5 rfl ?_
    refine V_iload 831 B dL_law_831 1 rfl ?_
    refine V_iconst 833 B (v := 2) dL_law_833 (by decide +kernel) ?_
    refine V_iadd 834 B (v := 2) dL_law_834 (by decide +kernel) ?_
    refine V_sld 835 B hX hbl hbA (v := p2) (vpin _ _ (by decide +kernel)) dL_law_835 e2 ?_
    refine V_cvi 836 B (st := []) (As := [.int p1, .int p2]) (fun sz => mX12_command_1 l D Y (m0) (m1) (m2) (m3) (m4) (m5) (m6) (p1) (p2) sz) glV_RL_208 ⟨rfl, rfl⟩ ⟨(Nat.le_of_ble_eq_true rfl), (Nat.le_of_ble_eq_true rfl)⟩ ⟨(Nat.le_of_ble_eq_true rfl), (Nat.le_of_ble_eq_true rfl)⟩ [3, 0] rfl 13 0 rfl rfl rfl rfl (Nat.le_of_ble_eq_true rfl) rfl (fun _ _ _ => rfl) dL_law_836 (fun r7 u7 w7 => ?_)
    rcases w7 with ⟨k8, rfl⟩ | ⟨k9, rfl⟩
    ·
      refine V_ws [(x0, oC 12 [.ref x1, .ref x30, .ref x59, .ref x88, .ref x117, .ref x126, .ref x127, .ref x129, .ref x132, .long 0]), (x1, oC 2 [.ref x2, .ref x4, .ref x6, .ref x8, .ref x10, .ref x12, .ref x14, .ref x16, .ref x18, .ref x20, .ref x27, .int 0]), (x4, oC 3 [.ref x5, .int 0]), (m0, oC 13 [.ref m1, .ref m2, .int 1, .ref m3, .ref m4, .int 0, .int 0, .int 0, .int (-1), .int 0, .int 0, .int 0, .long 0, .ref m5, .ref m6, .int 0, .int 0]), (m1, aI Y 3640 (clB 0 (fun _ => 0)))] rfl ?_
      exact (q_abs (b_nlt k2 (n := 0) (by decide +kernel)) (b_lt k8 (n := (-1)) (by decide +kernel)) (by decide +kernel)).elim
    ·
      refine V_ws [(x0, oC 12 [.ref x1, .ref x30, .ref x59, .ref x88, .ref x117, .ref x126, .ref x127, .ref x129, .ref x132, .long 0]), (x1, oC 2 [.ref x2, .ref x4, .ref x6, .ref x8, .ref x10, .ref x12, .ref x14, .ref x16, .ref x18, .ref x20, .ref x27, .int 0]), (x4, oC 3 [.ref x5, .int 0]), (m0, oC 13 [.ref m1, .ref m2, .int 1, .ref m3, .ref m4, .int 0, .int 0, .int 0, .int (-1), .int 0, .int 0, .int 0, .long 0, .ref m5, .ref m6, .int 0, .int 0]), (m1, aI Y 3640 (clB 0 (fun _ => 0)))] rfl ?_
      refine V_istore 839 B (lv2 := [(6, .int 0), (5, .int 1), (4, .int 0), (3, .ref o0), (2, .ref m0), (1, .ref x0), (0, .ref b)]) dL_law_839 (by decide) rfl ?_
      refine V_aload_n 841 B dL_law_841 4 rfl ?_
      refine V_cvi 842 B (st := []) (As := []) (fun sz => mX12_thrown_2 l D Y (m0) (m1) (m2) (m3) (m4) (m5) (m6) sz) glV_RL_182 ⟨rfl, rfl⟩ ⟨(Nat.le_of_ble_eq_true rfl), (Nat.le_of_ble_eq_true rfl)⟩ ⟨(Nat.le_of_ble_eq_true rfl), (Nat.le_of_ble_eq_true rfl)⟩ [3] rfl 13 0 rfl rfl rfl rfl (Nat.le_of_ble_eq_true rfl) rfl (fun _ _ _ => rfl) dL_law_842 (fun r10 u10 w10 => ?_)
      obtain rfl := w10
      refine V_ws [(x0, oC 12 [.ref x1, .ref x30, .ref x59, .ref x88, .ref x117, .ref x126, .ref x127, .ref x129, .ref x132, .long 0]), (x1, oC 2 [.ref x2, .ref x4, .ref x6, .ref x8, .ref x10, .ref x12, .ref x14, .ref x16, .ref x18, .ref x20, .ref x27, .int 0]), (x4, oC 3 [.ref x5, .int 0]), (m0, oC 13 [.ref m1, .ref m2, .int 1, .ref m3, .ref m4, .int 0, .int 0, .int 0, .int (-1), .int 0, .int 0, .int 0, .long 0, .ref m5, .ref m6, .int 0, .int 0]), (m1, aI Y 3640 (clB 0 (fun _ => 0)))] rfl ?_
      refine V_iload 845 B dL_law_845 1 rfl ?_
      refine V_icmp_eq_t 847 B 852 dL_law_847 (by decide) (by decide +kernel) ?_
      refine V_iload 852 B dL_law_852 1 rfl ?_
      refine V_if_ne_t 854 B 869 dL_law_854 (by decide) (by decide +kernel) ?_
      refine V_goto 869 B 3332 dL_law_869 (by decide) ?_
      refine V_iinc 3332 B (v := 6) (lv2 := [(4, .int 6), (6, .int 0), (5, .int 1), (3, .ref o0), (2, .ref m0), (1, .ref x0), (0, .ref b)]) dL_law_3332 2 rfl (by decide +kernel) (by decide) rfl ?_
      refine V_goto 3335 B 23 dL_law_3335 (by decide) ?_
      refine V_iload 23 B dL_law_23 0 rfl ?_
      refine V_aload_n 25 B dL_law_25 6 rfl ?_
      refine V_slen 26 B hX hbl hbA (v := 6) (by decide +kernel) dL_law_26 ?_
      refine V_bipush 27 B (v := 6) dL_law_27 (by decide +kernel) ?_
      refine V_isub 29 B (v := 0) dL_law_29 (by decide +kernel) ?_
      refine V_icmp_gt_t 30 B 3338 dL_law_30 (by decide) (by decide +kernel) ?_
      exact law_end B (Nat.le_of_ble_eq_true rfl) (Nat.le_of_ble_eq_true rfl) dL_law_3338 dL_law_3339
theorem dL_law_872 : decode cL_law 872 = .ok (.aload_n 1, 1) := by decide +kernel
theorem dL_law_873 : decode cL_law 873 = .ok (.invokevirtual 209, 3) := by decide +kernel
theorem glV_RL_209 : GLV RL 209 yX11_reserve RX11 cX11_reserve 1 (some .int) 0 := ⟨⟨(mT4 11 rfl rfl), (mT4 12 rfl rfl), (mT4 13 rfl rfl), (mT1 1 rfl rfl), (mT4 14 rfl rfl)⟩, by decide +kernel⟩
theorem dL_law_876 : decode cL_law 876 = .ok (.aload_n 2, 1) := by decide +kernel
theorem dL_law_877 : decode cL_law 877 = .ok (.invokevirtual 212, 3) := by decide +kernel
theorem glV_RL_212 : GLV RL 212 yX12_reserve RX12 cX12_reserve 1 (some .int) 0 := ⟨⟨(mT8 66 rfl rfl), (mT8 67 rfl rfl), (mT8 68 rfl rfl), (mT1 13 rfl rfl), (mT8 69 rfl rfl)⟩, by decide +kernel⟩
theorem dL_law_880 : decode cL_law 880 = .ok (.if_icmp .eq 2452, 3) := by decide +kernel
set_option maxRecDepth 100000 in
set_option maxHeartbeats 4000000 in
theorem law_c14 {p : Program} {l : Launch} {e : Env} {s : State} {m : MethodId} {below : List Frame} {meth : Method} {c : Code} {b : Nat} {xs : Nat → Int32} {D : va_G} {Y : Nat → ClassId} (B : VB p s m #[Value.ref b] meth c D Y (fun q => s.heap.size ≤ q) cL_law 8 RL ret) (EB : EX (fun q => s.heap.size ≤ q) s s.heap) (hl9 : l.stackTraces = false) (hX : va_X b 6 xs s s.heap) (hbl : b < s.heap.size) (hbA : ¬ (fun q => s.heap.size ≤ q) b) (x0 x1 x30 x59 x88 x117 x126 x127 x129 x132 m0 m1 m2 m3 m4 m5 m6 o0 : Nat) : V p l e room_1 s m #[Value.ref b] below meth c D (fun q => s.heap.size ≤ q) 8 149 10574 (lw_Z below #[Value.ref b] s) 872 [(4, .int 0), (3, .ref o0), (2, .ref m0), (1, .ref x0), (0, .ref b)] [] [(x0, oC 12 [.ref x1, .ref x30, .ref x59, .ref x88, .ref x117, .ref x126, .ref x127, .ref x129, .ref x132, .long 0]), (m0, oC 13 [.ref m1, .ref m2, .int 0, .ref m3, .ref m4, .int 0, .int 0, .int 0, .int (-1), .int 0, .int 0, .int 0, .long 0, .ref m5, .ref m6, .int 0, .int 0]), (m1, aI Y 3640 (clB 0 (fun _ => 0)))] := by
  refine V_aload_n 872 B dL_law_872 3 rfl ?_
  refine V_cvi 873 B (st := []) (As := []) (fun sz => mX11_reserve_1 l D Y (x0) (x1) (x30) (x59) (x88) (x117) (x126) (x127) (x129) (x132) sz) glV_RL_209 ⟨rfl, rfl⟩ ⟨(Nat.le_of_ble_eq_true rfl), (Nat.le_of_ble_eq_true rfl)⟩ ⟨(Nat.le_of_ble_eq_true rfl), (Nat.le_of_ble_eq_true rfl)⟩ [0] rfl 12 0 rfl rfl rfl rfl (Nat.le_of_ble_eq_true rfl) rfl (fun _ _ _ => rfl) dL_law_873 (fun r0 u0 w0 => ?_)
  obtain rfl := w0
  refine V_ws [(x0, oC 12 [.ref x1, .ref x30, .ref x59, .ref x88, .ref x117, .ref x126, .ref x127, .ref x129, .ref x132, .long 0]), (m0, oC 13 [.ref m1, .ref m2, .int 0, .ref m3, .ref m4, .int 0, .int 0, .int 0, .int (-1), .int 0, .int 0, .int 0, .long 0, .ref m5, .ref m6, .int 0, .int 0]), (m1, aI Y 3640 (clB 0 (fun _ => 0)))] rfl ?_
  refine V_aload_n 876 B dL_law_876 2 rfl ?_
  refine V_cvi 877 B (st := [.int (-4)]) (As := []) (fun sz => mX12_reserve_1 l D Y (m0) (m1) (m2) (m3) (m4) (m5) (m6) sz) glV_RL_212 ⟨rfl, rfl⟩ ⟨(Nat.le_of_ble_eq_true rfl), (Nat.le_of_ble_eq_true rfl)⟩ ⟨(Nat.le_of_ble_eq_true rfl), (Nat.le_of_ble_eq_true rfl)⟩ [1, 0] rfl 13 0 rfl rfl rfl rfl (Nat.le_of_ble_eq_true rfl) rfl (fun _ _ _ => rfl) dL_law_877 (fun r1 u1 w1 => ?_)
  obtain rfl := w1
  refine V_ws [(x0, oC 12 [.ref x1, .ref x30, .ref x59, .ref x88, .ref x117, .ref x126, .ref x127, .ref x129, .ref x132, .long 0]), (m0, oC 13 [.ref m1, .ref m2, .int 0, .ref m3, .ref m4, .int 0, .int 0, .int 0, .int (-1), .int 0, .int 0, .int 0, .long 0, .ref m5, .ref m6, .int 0, .int 0]), (m1, aI Y 3640 (clB 0 (fun _ => 0)))] rfl ?_
  refine V_icmp_eq_t 880 B 3332 dL_law_880 (by decide) (by decide +kernel) ?_
  refine V_iinc 3332 B (v := 6) (lv2 := [(4, .int 6), (3, .ref o0), (2, .ref m0), (1, .ref x0), (0, .ref b)]) dL_law_3332 0 rfl (by decide +kernel) (by decide) rfl ?_
  refine V_goto 3335 B 23 dL_law_3335 (by decide) ?_
  refine V_iload 23 B dL_law_23 0 rfl ?_
  refine V_aload_n 25 B dL_law_25 4 rfl ?_
  refine V_slen 26 B hX hbl hbA (v := 6) (by decide +kernel) dL_law_26 ?_
  refine V_bipush 27 B (v := 6) dL_law_27 (by decide +kernel) ?_
  refine V_isub 29 B (v := 0) dL_law_29 (by decide +kernel) ?_
  refine V_icmp_gt_t 30 B 3338 dL_law_30 (by decide) (by decide +kernel) ?_
  exact law_end B (Nat.le_of_ble_eq_true rfl) (Nat.le_of_ble_eq_true rfl) dL_law_3338 dL_law_3339
theorem dL_reservedStroke_0 : decode cL_reservedStroke 0 = .ok (.aload_n 3, 1) := by decide +kernel
theorem dL_reservedStroke_1 : decode cL_reservedStroke 1 = .ok (.iconst 0, 1) := by decide +kernel
theorem dL_reservedStroke_2 : decode cL_reservedStroke 2 = .ok (.aload_n 0, 1) := by decide +kernel
theorem dL_reservedStroke_3 : decode cL_reservedStroke 3 = .ok (.iload_n 1, 1) := by decide +kernel
theorem dL_reservedStroke_4 : decode cL_reservedStroke 4 = .ok (.iload_n 2, 1) := by decide +kernel
theorem dL_reservedStroke_5 : decode cL_reservedStroke 5 = .ok (.invokevirtual 33, 3) := by decide +kernel
theorem glV_RL_33 : GLV RL 33 yX11_reservedStroke RX11 cX11_reservedStroke 3 (some .int) 2 := ⟨⟨(mT5 196 rfl rfl), (mT5 197 rfl rfl), (mT5 198 rfl rfl), (mT1 1 rfl rfl), (mT5 199 rfl rfl)⟩, by decide +kernel⟩
theorem dL_reservedStroke_13 : decode cL_reservedStroke 13 = .ok (.astore 4, 2) := by decide +kernel
theorem dL_reservedStroke_15 : decode cL_reservedStroke 15 = .ok (.iconst 1, 1) := by decide +kernel
theorem dL_reservedStroke_16 : decode cL_reservedStroke 16 = .ok (.ireturn, 1) := by decide +kernel
set_option maxRecDepth 100000 in
set_option maxHeartbeats 4000000 in
theorem mL_reservedStroke_1 (l : Launch) (hl9 : l.stackTraces = false) (D : va_G) (Y : Nat → ClassId) (h0 : Nat) (g0 : Nat) (h1 : Nat) (g1 : Nat) (g2 : Nat) (g3 : Nat) (g4 : Nat) (g5 : Nat) (g6 : Nat) (g7 : Nat) (g8 : Nat) (g9 : Nat) (g10 : Nat) (g11 : Nat) (g12 : Nat) (h2 : Nat) (g13 : Nat) (g14 : Nat) (g15 : Nat) (g16 : Nat) (g17 : Nat) (g18 : Nat) (g19 : Nat) (p0 : Int32) (p1 : Int32) (sz : Nat) : Met l yL_reservedStroke (Cond.codeWith yL_reservedStroke cL_reservedStroke 5 (some .int) [(0, 10, 13, 18)] :: lw_good) (mkR 7 1 6 104) (PreX D Y [.ref h0, .int p0, .int p1, .ref g0] [(h0, oC 12 [.ref h1, .ref g1, .ref g2, .ref g3, .ref g4, .ref g5, .ref g6, .ref g7, .ref g8, .long 0]), (h1, oC 2 [.ref g9, .ref g10, .ref g11, .ref g12, .ref h2, .ref g13, .ref g14, .ref g15, .ref g16, .ref g17, .ref g18, .int 0]), (h2, oC 7 [.ref g19, .int 0])] sz) (QI D (fun (r : Int32) (u : Unit) => (p0 < 0 ∧ 1 = r) ∨ (¬ p0 < 0 ∧ 1 = r)) (fun (_ : Unit) => [(h0, oC 12 [.ref h1, .ref g1, .ref g2, .ref g3, .ref g4, .ref g5, .ref g6, .ref g7, .ref g8, .long 0]), (h1, oC 2 [.ref g9, .ref g10, .ref g11, .ref g12, .ref h2, .ref g13, .ref g14, .ref g15, .ref g16, .ref g17, .ref g18, .int 0]), (h2, oC 7 [.ref g19, .int 0])]) (va_A [(h0, oC 12 [.ref h1, .ref g1, .ref g2, .ref g3, .ref g4, .ref g5, .ref g6, .ref g7, .ref g8, .long 0]), (h1, oC 2 [.ref g9, .ref g10, .ref g11, .ref g12, .ref h2, .ref g13, .ref g14, .ref g15, .ref g16, .ref g17, .ref g18, .int 0]), (h2, oC 7 [.ref g19, .int 0])] sz)) 1 6 (va_A [(h0, oC 12 [.ref h1, .ref g1, .ref g2, .ref g3, .ref g4, .ref g5, .ref g6, .ref g7, .ref g8, .long 0]), (h1, oC 2 [.ref g9, .ref g10, .ref g11, .ref g12, .ref h2, .ref g13, .ref g14, .ref g15, .ref g16, .ref g17, .ref g18, .int 0]), (h2, oC 7 [.ref g19, .int 0])] sz) :=
  metH_of (by decide +kernel) (Nat.le_of_ble_eq_true rfl) (fun p e s m args below meth c B EB htab hsz => by
    have B : VB p s m args meth c D Y (va_A [(h0, oC 12 [.ref h1, .ref g1, .ref g2, .ref g3, .ref g4, .ref g5, .ref g6, .ref g7, .ref g8, .long 0]), (h1, oC 2 [.ref g9, .ref g10, .ref g11, .ref g12, .ref h2, .ref g13, .ref g14, .ref g15, .ref g16, .ref g17, .ref g18, .int 0]), (h2, oC 7 [.ref g19, .int 0])] sz) cL_reservedStroke 5 RL (some .int) := B
    refine V_aload_n 0 B dL_reservedStroke_0 3 rfl ?_
    refine V_iconst 1 B (v := 0) dL_reservedStroke_1 (by decide +kernel) ?_
    refine V_aload_n 2 B dL_reservedStroke_2 0 rfl ?_
    refine V_iload_n 3 B dL_reservedStroke_3 1 rfl ?_
    refine V_iload_n 4 B dL_reservedStroke_4 2 rfl ?_
    refine V_xvi 5 B EB (st := [.int 0, .ref g0]) (As := [.int p0, .int p1]) (fun sz => mX11_reservedStroke_1 l hl9 D Y (h0) (h1) (g1) (g2) (g3) (g4) (g5) (g6) (g7) (g8) (g9) (g10) (g11) (g12) (h2) (g13) (g14) (g15) (g16) (g17) (g18) (g19) (p0) (p1) sz) glV_RL_33 ⟨rfl, rfl⟩ ⟨(Nat.le_of_ble_eq_true rfl), (Nat.le_of_ble_eq_true rfl)⟩ ⟨(Nat.le_of_ble_eq_true rfl), (Nat.le_of_ble_eq_true rfl)⟩ [0, 0, 0] rfl 12 0 rfl rfl rfl rfl (Nat.le_of_ble_eq_true rfl) rfl (fun _ _ _ => rfl) (fun _ _ _ => rfl) dL_reservedStroke_5 (fun E u0 w0 => ?_) (fun r0 u0 w0 => ?_)
    ·
      rcases w0 with ⟨rfl, k1⟩ | ⟨rfl, k2⟩
      ·
        refine VX_catch 5 B htab [] (0, 10, 13, 18) [] rfl "java/lang/IndexOutOfBoundsException" (fun z hz => nomatch hz) rfl (by decide) (mT5 103 rfl rfl) (EB.2.2.2.1 _ (List.mem_of_getElem? (i := 1) rfl)) 13 rfl (fun q9 => ?_)
        refine V_ws [(h0, oC 12 [.ref h1, .ref g1, .ref g2, .ref g3, .ref g4, .ref g5, .ref g6, .ref g7, .ref g8, .long 0]), (h1, oC 2 [.ref g9, .ref g10, .ref g11, .ref g12, .ref h2, .ref g13, .ref g14, .ref g15, .ref g16, .ref g17, .ref g18, .int 0]), (h2, oC 7 [.ref g19, .int 0])] rfl ?_
        refine V_astore 13 B (lv2 := [(4, .ref q9), (0, .ref h0), (1, .int p0), (2, .int p1), (3, .ref g0)]) dL_reservedStroke_13 (by decide) rfl ?_
        refine V_iconst 15 B (v := 1) dL_reservedStroke_15 (by decide +kernel) ?_
        exact V_iret 16 B dL_reservedStroke_16 () (Or.inl ⟨k1, rfl⟩) rfl
      ·
        refine VX_catch 5 B htab [] (0, 10, 13, 18) [] rfl "java/lang/IndexOutOfBoundsException" (fun z hz => nomatch hz) rfl (by decide) (mT5 103 rfl rfl) (EB.2.2.2.1 _ (List.mem_of_getElem? (i := 1) rfl)) 13 rfl (fun q9 => ?_)
        refine V_ws [(h0, oC 12 [.ref h1, .ref g1, .ref g2, .ref g3, .ref g4, .ref g5, .ref g6, .ref g7, .ref g8, .long 0]), (h1, oC 2 [.ref g9, .ref g10, .ref g11, .ref g12, .ref h2, .ref g13, .ref g14, .ref g15, .ref g16, .ref g17, .ref g18, .int 0]), (h2, oC 7 [.ref g19, .int 0])] rfl ?_
        refine V_astore 13 B (lv2 := [(4, .ref q9), (0, .ref h0), (1, .int p0), (2, .int p1), (3, .ref g0)]) dL_reservedStroke_13 (by decide) rfl ?_
        refine V_iconst 15 B (v := 1) dL_reservedStroke_15 (by decide +kernel) ?_
        exact V_iret 16 B dL_reservedStroke_16 () (Or.inr ⟨k2, rfl⟩) rfl
    ·
      exact w0.elim)
