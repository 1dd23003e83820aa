theorem dL_cheapest_0 : decode cL_cheapest 0 = .ok (.aload 4, 2) := by decide +kernel
theorem dL_cheapest_2 : decode cL_cheapest 2 = .ok (.iconst 0, 1) := by decide +kernel
theorem dL_cheapest_3 : decode cL_cheapest 3 = .ok (.aload_n 0, 1) := by decide +kernel
theorem dL_cheapest_4 : decode cL_cheapest 4 = .ok (.iload_n 1, 1) := by decide +kernel
theorem dL_cheapest_5 : decode cL_cheapest 5 = .ok (.iload_n 2, 1) := by decide +kernel
theorem dL_cheapest_6 : decode cL_cheapest 6 = .ok (.iload_n 3, 1) := by decide +kernel
theorem dL_cheapest_7 : decode cL_cheapest 7 = .ok (.invokevirtual 93, 3) := by decide +kernel
theorem glV_RL_93 : GLV RL 93 yX11_cheapest RX11 cX11_cheapest 6 (some .int) 3 := ⟨⟨(mT6 172 rfl rfl), (mT6 173 rfl rfl), (mT6 174 rfl rfl), (mT1 1 rfl rfl), (mT6 175 rfl rfl)⟩, by decide +kernel⟩
theorem dL_cheapest_15 : decode cL_cheapest 15 = .ok (.astore 5, 2) := by decide +kernel
theorem dL_cheapest_17 : decode cL_cheapest 17 = .ok (.iconst 1, 1) := by decide +kernel
theorem dL_cheapest_18 : decode cL_cheapest 18 = .ok (.ireturn, 1) := by decide +kernel
theorem dL_cheapest_19 : decode cL_cheapest 19 = .ok (.astore 5, 2) := by decide +kernel
theorem dL_cheapest_21 : decode cL_cheapest 21 = .ok (.iconst 2, 1) := by decide +kernel
theorem dL_cheapest_22 : decode cL_cheapest 22 = .ok (.ireturn, 1) := by decide +kernel
theorem dL_cheapest_10 : decode cL_cheapest 10 = .ok (.i2l, 1) := by decide +kernel
theorem dL_cheapest_11 : decode cL_cheapest 11 = .ok (.lastore, 1) := by decide +kernel
theorem dL_cheapest_12 : decode cL_cheapest 12 = .ok (.goto 11, 3) := by decide +kernel
theorem dL_cheapest_23 : decode cL_cheapest 23 = .ok (.iconst 0, 1) := by decide +kernel
theorem dL_cheapest_24 : decode cL_cheapest 24 = .ok (.ireturn, 1) := by decide +kernel
set_option maxRecDepth 100000 in
set_option maxHeartbeats 4000000 in
theorem mL_cheapest_1 (l : Launch) (hl9 : l.stackTraces = false) (D : va_G) (Y : Nat → ClassId) (h0 : Nat) (h10 : Nat) (h1 : Nat) (g0 : Nat) (g1 : Nat) (g2 : Nat) (h7 : Nat) (g3 : Nat) (g4 : Nat) (g5 : Nat) (g6 : Nat) (h2 : Nat) (g7 : Nat) (g8 : Nat) (g9 : Nat) (h4 : Nat) (h6 : Nat) (g10 : Nat) (g11 : Nat) (g12 : Nat) (g13 : Nat) (g14 : Nat) (h3 : Nat) (h5 : Nat) (g15 : Nat) (g16 : Nat) (g17 : Nat) (h8 : Nat) (g18 : Nat) (h9 : Nat) (p0 : Int32) (p1 : Int32) (sz : Nat) : Met l yL_cheapest (Cond.codeWith yL_cheapest cL_cheapest 6 (some .int) [(0, 12, 15, 18), (0, 12, 19, 13)] :: lw_good) (mkR 8 2 12 171) (PreX D Y [.ref h0, .int p0, .int p1, .int 0, .ref h10] [(h0, oC 12 [.ref h1, .ref g0, .ref g1, .ref g2, .ref h7, .ref g3, .ref g4, .ref g5, .ref g6, .long 0]), (h1, oC 2 [.ref h2, .ref g7, .ref g8, .ref g9, .ref h4, .ref h6, .ref g10, .ref g11, .ref g12, .ref g13, .ref g14, .int 0]), (h2, oC 3 [.ref h3, .int 1]), (h3, aI Y 6 (upd (fun _ => 0) 0 (-1))), (h4, oC 7 [.ref h5, .int 0]), (h5, aJ Y 6 (fun _ => 0)), (h6, oC 3 [.ref g15, .int 0]), (h7, oC 11 [.ref h1, .ref g16, .ref g17, .ref h8, .ref g18]), (h8, oC 7 [.ref h9, .int 0]), (h9, aJ Y 86 (fun _ => 0)), (h10, aJ Y 1 (fun _ => 0))] sz) (QI D (fun (r : Int32) (u : Nat) => (u = 0 ∧ p0 < 0 ∧ 1 = r) ∨ (u = 1 ∧ ¬ p0 < 0 ∧ 1 ≤ p0 ∧ 1 = r) ∨ (u = 2 ∧ p0 = 0 ∧ p1 < 1 ∧ 2 = r) ∨ (u = 3 ∧ p0 = 0 ∧ ¬ p1 < 1 ∧ ¬ p1 ≤ 2 ∧ 2 = r) ∨ (u = 4 ∧ p0 = 0 ∧ ¬ p1 < 1 ∧ p1 ≤ 2 ∧ ¬ p1 = 1 ∧ 0 = r) ∨ (u = 5 ∧ p0 = 0 ∧ p1 = 1 ∧ 0 = r)) (fun (u : Nat) => match u with | 0 => [(h0, oC 12 [.ref h1, .ref g0, .ref g1, .ref g2, .ref h7, .ref g3, .ref g4, .ref g5, .ref g6, .long 0]), (h1, oC 2 [.ref h2, .ref g7, .ref g8, .ref g9, .ref h4, .ref h6, .ref g10, .ref g11, .ref g12, .ref g13, .ref g14, .int 0]), (h2, oC 3 [.ref h3, .int 1]), (h3, aI Y 6 (upd (fun _ => 0) 0 (-1))), (h4, oC 7 [.ref h5, .int 0]), (h5, aJ Y 6 (fun _ => 0)), (h6, oC 3 [.ref g15, .int 0]), (h7, oC 11 [.ref h1, .ref g16, .ref g17, .ref h8, .ref g18]), (h8, oC 7 [.ref h9, .int 0]), (h9, aJ Y 86 (fun _ => 0)), (h10, aJ Y 1 (fun _ => 0))] | 1 => [(h0, oC 12 [.ref h1, .ref g0, .ref g1, .ref g2, .ref h7, .ref g3, .ref g4, .ref g5, .ref g6, .long 0]), (h1, oC 2 [.ref h2, .ref g7, .ref g8, .ref g9, .ref h4, .ref h6, .ref g10, .ref g11, .ref g12, .ref g13, .ref g14, .int 0]), (h2, oC 3 [.ref h3, .int 1]), (h3, aI Y 6 (upd (fun _ => 0) 0 (-1))), (h4, oC 7 [.ref h5, .int 0]), (h5, aJ Y 6 (fun _ => 0)), (h6, oC 3 [.ref g15, .int 0]), (h7, oC 11 [.ref h1, .ref g16, .ref g17, .ref h8, .ref g18]), (h8, oC 7 [.ref h9, .int 0]), (h9, aJ Y 86 (fun _ => 0)), (h10, aJ Y 1 (fun _ => 0))] | 2 => [(h0, oC 12 [.ref h1, .ref g0, .ref g1, .ref g2, .ref h7, .ref g3, .ref g4, .ref g5, .ref g6, .long 0]), (h1, oC 2 [.ref h2, .ref g7, .ref g8, .ref g9, .ref h4, .ref h6, .ref g10, .ref g11, .ref g12, .ref g13, .ref g14, .int 0]), (h2, oC 3 [.ref h3, .int 1]), (h3, aI Y 6 (upd (fun _ => 0) 0 (-1))), (h4, oC 7 [.ref h5, .int 0]), (h5, aJ Y 6 (fun _ => 0)), (h6, oC 3 [.ref g15, .int 0]), (h7, oC 11 [.ref h1, .ref g16, .ref g17, .ref h8, .ref g18]), (h8, oC 7 [.ref h9, .int 0]), (h9, aJ Y 86 (fun _ => 0)), (h10, aJ Y 1 (fun _ => 0))] | 3 => [(h0, oC 12 [.ref h1, .ref g0, .ref g1, .ref g2, .ref h7, .ref g3, .ref g4, .ref g5, .ref g6, .long 0]), (h1, oC 2 [.ref h2, .ref g7, .ref g8, .ref g9, .ref h4, .ref h6, .ref g10, .ref g11, .ref g12, .ref g13, .ref g14, .int 0]), (h2, oC 3 [.ref h3, .int 1]), (h3, aI Y 6 (upd (fun _ => 0) 0 (-1))), (h4, oC 7 [.ref h5, .int 0]), (h5, aJ Y 6 (fun _ => 0)), (h6, oC 3 [.ref g15, .int 0]), (h7, oC 11 [.ref h1, .ref g16, .ref g17, .ref h8, .ref g18]), (h8, oC 7 [.ref h9, .int 0]), (h9, aJ Y 86 (fun _ => 0)), (h10, aJ Y 1 (fun _ => 0))] | 4 => [(h0, oC 12 [.ref h1, .ref g0, .ref g1, .ref g2, .ref h7, .ref g3, .ref g4, .ref g5, .ref g6, .long 134479872]), (h1, oC 2 [.ref h2, .ref g7, .ref g8, .ref g9, .ref h4, .ref h6, .ref g10, .ref g11, .ref g12, .ref g13, .ref g14, .int 0]), (h2, oC 3 [.ref h3, .int 1]), (h3, aI Y 6 (upd (fun _ => 0) 0 (-1))), (h4, oC 7 [.ref h5, .int 0]), (h5, aJ Y 6 (fun _ => 0)), (h6, oC 3 [.ref g15, .int 0]), (h7, oC 11 [.ref h1, .ref g16, .ref g17, .ref h8, .ref g18]), (h8, oC 7 [.ref h9, .int 0]), (h9, aJ Y 86 (fun _ => 0)), (h10, aJ Y 1 (vp_updL (fun _ => 0) 0 2))] | _ => [(h0, oC 12 [.ref h1, .ref g0, .ref g1, .ref g2, .ref h7, .ref g3, .ref g4, .ref g5, .ref g6, .long 134217728]), (h1, oC 2 [.ref h2, .ref g7, .ref g8, .ref g9, .ref h4, .ref h6, .ref g10, .ref g11, .ref g12, .ref g13, .ref g14, .int 0]), (h2, oC 3 [.ref h3, .int 1]), (h3, aI Y 6 (upd (fun _ => 0) 0 (-1))), (h4, oC 7 [.ref h5, .int 0]), (h5, aJ Y 6 (fun _ => 0)), (h6, oC 3 [.ref g15, .int 0]), (h7, oC 11 [.ref h1, .ref g16, .ref g17, .ref h8, .ref g18]), (h8, oC 7 [.ref h9, .int 0]), (h9, aJ Y 86 (fun _ => 0)), (h10, aJ Y 1 (vp_updL (fun _ => 0) 0 1))]) (va_A [(h0, oC 12 [.ref h1, .ref g0, .ref g1, .ref g2, .ref h7, .ref g3, .ref g4, .ref g5, .ref g6, .long 0]), (h1, oC 2 [.ref h2, .ref g7, .ref g8, .ref g9, .ref h4, .ref h6, .ref g10, .ref g11, .ref g12, .ref g13, .ref g14, .int 0]), (h2, oC 3 [.ref h3, .int 1]), (h3, aI Y 6 (upd (fun _ => 0) 0 (-1))), (h4, oC 7 [.ref h5, .int 0]), (h5, aJ Y 6 (fun _ => 0)), (h6, oC 3 [.ref g15, .int 0]), (h7, oC 11 [.ref h1, .ref g16, .ref g17, .ref h8, .ref g18]), (h8, oC 7 [.ref h9, .int 0]), (h9, aJ Y 86 (fun _ => 0)), (h10, aJ Y 1 (fun _ => 0))] sz)) 2 12 (va_A [(h0, oC 12 [.ref h1, .ref g0, .ref g1, .ref g2, .ref h7, .ref g3, .ref g4, .ref g5, .ref g6, .long 0]), (h1, oC 2 [.ref h2, .ref g7, .ref g8, .ref g9, .ref h4, .ref h6, .ref g10, .ref g11, .ref g12, .ref g13, .ref g14, .int 0]), (h2, oC 3 [.ref h3, .int 1]), (h3, aI Y 6 (upd (fun _ => 0) 0 (-1))), (h4, oC 7 [.ref h5, .int 0]), (h5, aJ Y 6 (fun _ => 0)), (h6, oC 3 [.ref g15, .int 0]), (h7, oC 11 [.ref h1, .ref g16, .ref g17, .ref h8, .ref g18]), (h8, oC 7 [.ref h9, .int 0]), (h9, aJ Y 86 (fun _ => 0)), (h10, aJ Y 1 (fun _ => 0))] sz) :=
  metH_of (by decide +kernel) (Nat.le_of_ble_eq_true rfl) (fun p e s m args below meth c B EB htab hsz => by
    have B : VB p s m args meth c D Y (va_A [(h0, oC 12 [.ref h1, .ref g0, .ref g1, .ref g2, .ref h7, .ref g3, .ref g4, .ref g5, .ref g6, .long 0]), (h1, oC 2 [.ref h2, .ref g7, .ref g8, .ref g9, .ref h4, .ref h6, .ref g10, .ref g11, .ref g12, .ref g13, .ref g14, .int 0]), (h2, oC 3 [.ref h3, .int 1]), (h3, aI Y 6 (upd (fun _ => 0) 0 (-1))), (h4, oC 7 [.ref h5, .int 0]), (h5, aJ Y 6 (fun _ => 0)), (h6, oC 3 [.ref g15, .int 0]), (h7, oC 11 [.ref h1, .ref g16, .ref g17, .ref h8, .ref g18]), (h8, oC 7 [.ref h9, .int 0]), (h9, aJ Y 86 (fun _ => 0)), (h10, aJ Y 1 (fun _ => 0))] sz) cL_cheapest 6 RL (some .int) := B
    refine V_aload 0 B dL_cheapest_0 4 rfl ?_
    refine V_iconst 2 B (v := 0) dL_cheapest_2 (by decide +kernel) ?_
    refine V_aload_n 3 B dL_cheapest_3 0 rfl ?_
    refine V_iload_n 4 B dL_cheapest_4 1 rfl ?_
    refine V_iload_n 5 B dL_cheapest_5 2 rfl ?_
    refine V_iload_n 6 B dL_cheapest_6 3 rfl ?_
    refine V_xvi 7 B EB (st := [.int 0, .ref h10]) (As := [.int p0, .int p1, .int 0]) (fun sz => mX11_cheapest_2 l hl9 D Y (h0) (h1) (g0) (g1) (g2) (h7) (g3) (g4) (g5) (g6) (h2) (g7) (g8) (g9) (h4) (h6) (g10) (g11) (g12) (g13) (g14) (h3) (h5) (g15) (g16) (g17) (h8) (g18) (h9) (p0) (p1) sz) glV_RL_93 ⟨rfl, rfl⟩ ⟨(Nat.le_of_ble_eq_true rfl), (Nat.le_of_ble_eq_true rfl)⟩ ⟨(Nat.le_of_ble_eq_true rfl), (Nat.le_of_ble_eq_true rfl)⟩ [0, 0, 0, 0, 0, 0, 0, 0, 0, 0] rfl 12 0 rfl rfl rfl rfl (Nat.le_of_ble_eq_true rfl) rfl (fun _ u _ => by
        first | rfl | (split <;> rfl) | (dsimp only; split <;> rfl)) (fun _ _ _ => rfl) dL_cheapest_7 (fun E u0 w0 => ?_) (fun r0 u0 w0 => ?_)
    ·
      rcases w0 with ⟨rfl, k1⟩ | ⟨rfl, k2, k3⟩ | ⟨rfl, k4, k5⟩ | ⟨rfl, k6, k7, k8⟩
      ·
        refine VX_catch 7 B htab [] (0, 12, 15, 18) [(0, 12, 19, 13)] rfl "java/lang/IndexOutOfBoundsException" (fun z hz => nomatch hz) rfl (by decide) (mT5 103 rfl rfl) (EB.2.2.2.1 _ (List.mem_of_getElem? (i := 1) rfl)) 15 rfl (fun q9 => ?_)
        refine V_ws [(h0, oC 12 [.ref h1, .ref g0, .ref g1, .ref g2, .ref h7, .ref g3, .ref g4, .ref g5, .ref g6, .long 0]), (h1, oC 2 [.ref h2, .ref g7, .ref g8, .ref g9, .ref h4, .ref h6, .ref g10, .ref g11, .ref g12, .ref g13, .ref g14, .int 0]), (h2, oC 3 [.ref h3, .int 1]), (h3, aI Y 6 (upd (fun _ => 0) 0 (-1))), (h4, oC 7 [.ref h5, .int 0]), (h5, aJ Y 6 (fun _ => 0)), (h6, oC 3 [.ref g15, .int 0]), (h7, oC 11 [.ref h1, .ref g16, .ref g17, .ref h8, .ref g18]), (h8, oC 7 [.ref h9, .int 0]), (h9, aJ Y 86 (fun _ => 0)), (h10, aJ Y 1 (fun _ => 0))] rfl ?_
        refine V_astore 15 B (lv2 := [(5, .ref q9), (0, .ref h0), (1, .int p0), (2, .int p1), (3, .int 0), (4, .ref h10)]) dL_cheapest_15 (by decide) rfl ?_
        refine V_iconst 17 B (v := 1) dL_cheapest_17 (by decide +kernel) ?_
        exact V_iret 18 B dL_cheapest_18 0 (Or.inl ⟨rfl, k1, rfl⟩) rfl
      ·
        refine VX_catch 7 B htab [] (0, 12, 15, 18) [(0, 12, 19, 13)] rfl "java/lang/IndexOutOfBoundsException" (fun z hz => nomatch hz) rfl (by decide) (mT5 103 rfl rfl) (EB.2.2.2.1 _ (List.mem_of_getElem? (i := 1) rfl)) 15 rfl (fun q9 => ?_)
        refine V_ws [(h0, oC 12 [.ref h1, .ref g0, .ref g1, .ref g2, .ref h7, .ref g3, .ref g4, .ref g5, .ref g6, .long 0]), (h1, oC 2 [.ref h2, .ref g7, .ref g8, .ref g9, .ref h4, .ref h6, .ref g10, .ref g11, .ref g12, .ref g13, .ref g14, .int 0]), (h2, oC 3 [.ref h3, .int 1]), (h3, aI Y 6 (upd (fun _ => 0) 0 (-1))), (h4, oC 7 [.ref h5, .int 0]), (h5, aJ Y 6 (fun _ => 0)), (h6, oC 3 [.ref g15, .int 0]), (h7, oC 11 [.ref h1, .ref g16, .ref g17, .ref h8, .ref g18]), (h8, oC 7 [.ref h9, .int 0]), (h9, aJ Y 86 (fun _ => 0)), (h10, aJ Y 1 (fun _ => 0))] rfl ?_
        refine V_astore 15 B (lv2 := [(5, .ref q9), (0, .ref h0), (1, .int p0), (2, .int p1), (3, .int 0), (4, .ref h10)]) dL_cheapest_15 (by decide) rfl ?_
        refine V_iconst 17 B (v := 1) dL_cheapest_17 (by decide +kernel) ?_
        exact V_iret 18 B dL_cheapest_18 1 (Or.inr (Or.inl ⟨rfl, k2, k3, rfl⟩)) rfl
      ·
        obtain rfl : p0 = 0 := k4
        refine VX_catch 7 B htab [(0, 12, 15, 18)] (0, 12, 19, 13) [] rfl "java/lang/IllegalArgumentException" (fun z hz => by
        obtain rfl := List.mem_singleton.mp hz
        exact Or.inr ⟨by decide, _, B.1.2.2.2.2 _ (mT5 103 rfl rfl), EB.2.2.2.2.1 _ (List.mem_of_getElem? (i := 1) rfl)⟩) rfl (by decide) (mT5 20 rfl rfl) (EB.2.2.2.1 _ (List.mem_of_getElem? (i := 0) rfl)) 19 rfl (fun q9 => ?_)
        refine V_ws [(h0, oC 12 [.ref h1, .ref g0, .ref g1, .ref g2, .ref h7, .ref g3, .ref g4, .ref g5, .ref g6, .long 0]), (h1, oC 2 [.ref h2, .ref g7, .ref g8, .ref g9, .ref h4, .ref h6, .ref g10, .ref g11, .ref g12, .ref g13, .ref g14, .int 0]), (h2, oC 3 [.ref h3, .int 1]), (h3, aI Y 6 (upd (fun _ => 0) 0 (-1))), (h4, oC 7 [.ref h5, .int 0]), (h5, aJ Y 6 (fun _ => 0)), (h6, oC 3 [.ref g15, .int 0]), (h7, oC 11 [.ref h1, .ref g16, .ref g17, .ref h8, .ref g18]), (h8, oC 7 [.ref h9, .int 0]), (h9, aJ Y 86 (fun _ => 0)), (h10, aJ Y 1 (fun _ => 0))] rfl ?_
        refine V_astore 19 B (lv2 := [(5, .ref q9), (0, .ref h0), (1, .int 0), (2, .int p1), (3, .int 0), (4, .ref h10)]) dL_cheapest_19 (by decide) rfl ?_
        refine V_iconst 21 B (v := 2) dL_cheapest_21 (by decide +kernel) ?_
        exact V_iret 22 B dL_cheapest_22 2 (Or.inr (Or.inr (Or.inl ⟨rfl, rfl, k5, rfl⟩))) rfl
      ·
        obtain rfl : p0 = 0 := k6
        refine VX_catch 7 B htab [(0, 12, 15, 18)] (0, 12, 19, 13) [] rfl "java/lang/IllegalArgumentException" (fun z hz => by
        obtain rfl := List.mem_singleton.mp hz
        exact Or.inr ⟨by decide, _, B.1.2.2.2.2 _ (mT5 103 rfl rfl), EB.2.2.2.2.1 _ (List.mem_of_getElem? (i := 1) rfl)⟩) rfl (by decide) (mT5 20 rfl rfl) (EB.2.2.2.1 _ (List.mem_of_getElem? (i := 0) rfl)) 19 rfl (fun q9 => ?_)
        refine V_ws [(h0, oC 12 [.ref h1, .ref g0, .ref g1, .ref g2, .ref h7, .ref g3, .ref g4, .ref g5, .ref g6, .long 0]), (h1, oC 2 [.ref h2, .ref g7, .ref g8, .ref g9, .ref h4, .ref h6, .ref g10, .ref g11, .ref g12, .ref g13, .ref g14, .int 0]), (h2, oC 3 [.ref h3, .int 1]), (h3, aI Y 6 (upd (fun _ => 0) 0 (-1))), (h4, oC 7 [.ref h5, .int 0]), (h5, aJ Y 6 (fun _ => 0)), (h6, oC 3 [.ref g15, .int 0]), (h7, oC 11 [.ref h1, .ref g16, .ref g17, .ref h8, .ref g18]), (h8, oC 7 [.ref h9, .int 0]), (h9, aJ Y 86 (fun _ => 0)), (h10, aJ Y 1 (fun _ => 0))] rfl ?_
        refine V_astore 19 B (lv2 := [(5, .ref q9), (0, .ref h0), (1, .int 0), (2, .int p1), (3, .int 0), (4, .ref h10)]) dL_cheapest_19 (by decide) rfl ?_
        refine V_iconst 21 B (v := 2) dL_cheapest_21 (by decide +kernel) ?_
        exact V_iret 22 B dL_cheapest_22 3 (Or.inr (Or.inr (Or.inr (Or.inl ⟨rfl, rfl, k7, k8, rfl⟩)))) rfl
    ·
      rcases w0 with ⟨rfl, k9, k10, k11, k12, rfl⟩ | ⟨rfl, k13, k14, rfl⟩
      ·
        refine V_ws [(h0, oC 12 [.ref h1, .ref g0, .ref g1, .ref g2, .ref h7, .ref g3, .ref g4, .ref g5, .ref g6, .long 134479872]), (h1, oC 2 [.ref h2, .ref g7, .ref g8, .ref g9, .ref h4, .ref h6, .ref g10, .ref g11, .ref g12, .ref g13, .ref g14, .int 0]), (h2, oC 3 [.ref h3, .int 1]), (h3, aI Y 6 (upd (fun _ => 0) 0 (-1))), (h4, oC 7 [.ref h5, .int 0]), (h5, aJ Y 6 (fun _ => 0)), (h6, oC 3 [.ref g15, .int 0]), (h7, oC 11 [.ref h1, .ref g16, .ref g17, .ref h8, .ref g18]), (h8, oC 7 [.ref h9, .int 0]), (h9, aJ Y 86 (fun _ => 0)), (h10, aJ Y 1 (fun _ => 0))] rfl ?_
        obtain rfl : p0 = 0 := k9
        refine V_i2l 10 B (v := 2) dL_cheapest_10 (by decide +kernel) ?_
        refine V_last 11 B 10 rfl (vpin _ _ (by decide +kernel)) dL_cheapest_11 [(h0, oC 12 [.ref h1, .ref g0, .ref g1, .ref g2, .ref h7, .ref g3, .ref g4, .ref g5, .ref g6, .long 134479872]), (h1, oC 2 [.ref h2, .ref g7, .ref g8, .ref g9, .ref h4, .ref h6, .ref g10, .ref g11, .ref g12, .ref g13, .ref g14, .int 0]), (h2, oC 3 [.ref h3, .int 1]), (h3, aI Y 6 (upd (fun _ => 0) 0 (-1))), (h4, oC 7 [.ref h5, .int 0]), (h5, aJ Y 6 (fun _ => 0)), (h6, oC 3 [.ref g15, .int 0]), (h7, oC 11 [.ref h1, .ref g16, .ref g17, .ref h8, .ref g18]), (h8, oC 7 [.ref h9, .int 0]), (h9, aJ Y 86 (fun _ => 0)), (h10, aJ Y 1 (vp_updL (fun _ => 0) 0 2))] rfl ?_
        refine V_goto 12 B 23 dL_cheapest_12 (by decide) ?_
        refine V_iconst 23 B (v := 0) dL_cheapest_23 (by decide +kernel) ?_
        exact V_iret 24 B dL_cheapest_24 4 (Or.inr (Or.inr (Or.inr (Or.inr (Or.inl ⟨rfl, rfl, k10, k11, k12, rfl⟩))))) rfl
      ·
        refine V_ws [(h0, oC 12 [.ref h1, .ref g0, .ref g1, .ref g2, .ref h7, .ref g3, .ref g4, .ref g5, .ref g6, .long 134217728]), (h1, oC 2 [.ref h2, .ref g7, .ref g8, .ref g9, .ref h4, .ref h6, .ref g10, .ref g11, .ref g12, .ref g13, .ref g14, .int 0]), (h2, oC 3 [.ref h3, .int 1]), (h3, aI Y 6 (upd (fun _ => 0) 0 (-1))), (h4, oC 7 [.ref h5, .int 0]), (h5, aJ Y 6 (fun _ => 0)), (h6, oC 3 [.ref g15, .int 0]), (h7, oC 11 [.ref h1, .ref g16, .ref g17, .ref h8, .ref g18]), (h8, oC 7 [.ref h9, .int 0]), (h9, aJ Y 86 (fun _ => 0)), (h10, aJ Y 1 (fun _ => 0))] rfl ?_
        obtain rfl : p0 = 0 := k13
        obtain rfl : p1 = 1 := k14
        refine V_i2l 10 B (v := 1) dL_cheapest_10 (by decide +kernel) ?_
        refine V_last 11 B 10 rfl (vpin _ _ (by decide +kernel)) dL_cheapest_11 [(h0, oC 12 [.ref h1, .ref g0, .ref g1, .ref g2, .ref h7, .ref g3, .ref g4, .ref g5, .ref g6, .long 134217728]), (h1, oC 2 [.ref h2, .ref g7, .ref g8, .ref g9, .ref h4, .ref h6, .ref g10, .ref g11, .ref g12, .ref g13, .ref g14, .int 0]), (h2, oC 3 [.ref h3, .int 1]), (h3, aI Y 6 (upd (fun _ => 0) 0 (-1))), (h4, oC 7 [.ref h5, .int 0]), (h5, aJ Y 6 (fun _ => 0)), (h6, oC 3 [.ref g15, .int 0]), (h7, oC 11 [.ref h1, .ref g16, .ref g17, .ref h8, .ref g18]), (h8, oC 7 [.ref h9, .int 0]), (h9, aJ Y 86 (fun _ => 0)), (h10, aJ Y 1 (vp_updL (fun _ => 0) 0 1))] rfl ?_
        refine V_goto 12 B 23 dL_cheapest_12 (by decide) ?_
        refine V_iconst 23 B (v := 0) dL_cheapest_23 (by decide +kernel) ?_
        exact V_iret 24 B dL_cheapest_24 5 (Or.inr (Or.inr (Or.inr (Or.inr (Or.inr ⟨rfl, rfl, rfl, rfl⟩))))) rfl)
set_option maxRecDepth 100000 in
set_option maxHeartbeats 4000000 in
theorem mX12_isFreeHere_3 (l : Launch) (D : va_G) (Y : Nat → ClassId) (h0 : Nat) (h1 : Nat) (g0 : Nat) (g1 : Nat) (g2 : Nat) (g3 : Nat) (g4 : Nat) (sz : Nat) : Met l yX12_isFreeHere (WSm yX12_isFreeHere cX12_isFreeHere 5 (some .boolean)) (mkR 2 0 0 46) (PreC D Y [.ref h0, .int 0, .int 0] [(h0, oC 13 [.ref h1, .ref g0, .int 0, .ref g1, .ref g2, .int 0, .int 0, .int 0, .int (-1), .int 0, .int 0, .int 0, .long 0, .ref g3, .ref g4, .int 0, .int 0]), (h1, aI Y 3640 (upd (upd (upd (upd (upd (clB 0 (fun _ => 0)) 3629 1) 3630 0) 3631 0) 3630 0) 3631 0))] sz) (QI D (fun (r : Int32) (u : Unit) => 1 = r) (fun (_ : Unit) => [(h0, oC 13 [.ref h1, .ref g0, .int 0, .ref g1, .ref g2, .int 0, .int 0, .int 0, .int (-1), .int 0, .int 0, .int 0, .long 0, .ref g3, .ref g4, .int 0, .int 0]), (h1, aI Y 3640 (upd (upd (upd (upd (upd (clB 0 (fun _ => 0)) 3629 1) 3630 0) 3631 0) 3630 0) 3631 0))]) (va_A [(h0, oC 13 [.ref h1, .ref g0, .int 0, .ref g1, .ref g2, .int 0, .int 0, .int 0, .int (-1), .int 0, .int 0, .int 0, .long 0, .ref g3, .ref g4, .int 0, .int 0]), (h1, aI Y 3640 (upd (upd (upd (upd (upd (clB 0 (fun _ => 0)) 3629 1) 3630 0) 3631 0) 3630 0) 3631 0))] sz)) 0 0 (va_A [(h0, oC 13 [.ref h1, .ref g0, .int 0, .ref g1, .ref g2, .int 0, .int 0, .int 0, .int (-1), .int 0, .int 0, .int 0, .long 0, .ref g3, .ref g4, .int 0, .int 0]), (h1, aI Y 3640 (upd (upd (upd (upd (upd (clB 0 (fun _ => 0)) 3629 1) 3630 0) 3631 0) 3630 0) 3631 0))] sz) :=
  met_of (by decide +kernel) (Nat.le_of_ble_eq_true rfl) (fun p e s m args below meth c B hin hsz => by
    have B : VB p s m args meth c D Y (va_A [(h0, oC 13 [.ref h1, .ref g0, .int 0, .ref g1, .ref g2, .int 0, .int 0, .int 0, .int (-1), .int 0, .int 0, .int 0, .long 0, .ref g3, .ref g4, .int 0, .int 0]), (h1, aI Y 3640 (upd (upd (upd (upd (upd (clB 0 (fun _ => 0)) 3629 1) 3630 0) 3631 0) 3630 0) 3631 0))] sz) cX12_isFreeHere 5 RX12 (some .boolean) := B
    refine V_aload_n 0 B dX12_isFreeHere_0 0 rfl ?_
    refine V_iload_n 1 B dX12_isFreeHere_1 1 rfl ?_
    refine V_sipush 2 B (v := 3629) dX12_isFreeHere_2 (by decide +kernel) ?_
    refine V_cvi 5 B (st := []) (As := [.int 0, .int 3629]) (fun sz => mX12_canBind_2 l D Y (h0) (h1) (g0) (g1) (g2) (g3) (g4) sz) glV_RX12_129 ⟨rfl, rfl⟩ ⟨(Nat.le_of_ble_eq_true rfl), (Nat.le_of_ble_eq_true rfl)⟩ ⟨(Nat.le_of_ble_eq_true rfl), (Nat.le_of_ble_eq_true rfl)⟩ [0, 0] rfl 13 0 rfl rfl rfl rfl (Nat.le_of_ble_eq_true rfl) rfl (fun _ _ _ => rfl) dX12_isFreeHere_5 (fun r0 u0 w0 => ?_)
    obtain rfl := w0
    refine V_ws [(h0, oC 13 [.ref h1, .ref g0, .int 0, .ref g1, .ref g2, .int 0, .int 0, .int 0, .int (-1), .int 0, .int 0, .int 0, .long 0, .ref g3, .ref g4, .int 0, .int 0]), (h1, aI Y 3640 (upd (upd (upd (upd (upd (clB 0 (fun _ => 0)) 3629 1) 3630 0) 3631 0) 3630 0) 3631 0))] rfl ?_
    refine V_if_ne_t 8 B 13 dX12_isFreeHere_8 (by decide) (by decide +kernel) ?_
    refine V_iconst 13 B (v := 1) dX12_isFreeHere_13 (by decide +kernel) ?_
    refine V_istore_n 14 B (lv2 := [(3, .int 1), (0, .ref h0), (1, .int 0), (2, .int 0)]) dX12_isFreeHere_14 (by decide) rfl ?_
    refine V_iconst 15 B (v := 0) dX12_isFreeHere_15 (by decide +kernel) ?_
    refine V_istore 16 B (lv2 := [(4, .int 0), (3, .int 1), (0, .ref h0), (1, .int 0), (2, .int 0)]) dX12_isFreeHere_16 (by decide) rfl ?_
    refine V_iload 18 B dX12_isFreeHere_18 0 rfl ?_
    refine V_aload_n 20 B dX12_isFreeHere_20 2 rfl ?_
    refine V_get 21 B gf_RX12_9 0 rfl rfl dX12_isFreeHere_21 ?_
    refine V_iconst 24 B (v := 3) dX12_isFreeHere_24 (by decide +kernel) ?_
    refine V_iald 25 B (v := 0) 1 rfl (vpin _ _ (by decide +kernel)) dX12_isFreeHere_25 rfl ?_
    refine V_icmp_ge_t 26 B 72 dX12_isFreeHere_26 (by decide) (by decide +kernel) ?_
    refine V_iload_n 72 B dX12_isFreeHere_72 1 rfl ?_
    exact V_zret 73 B rfl dX12_isFreeHere_73 () rfl rfl)
set_option maxRecDepth 100000 in
set_option maxHeartbeats 4000000 in
theorem mX12_isFreeHere_4 (l : Launch) (D : va_G) (Y : Nat → ClassId) (h0 : Nat) (h1 : Nat) (g0 : Nat) (g1 : Nat) (g2 : Nat) (g3 : Nat) (g4 : Nat) (sz : Nat) : Met l yX12_isFreeHere (WSm yX12_isFreeHere cX12_isFreeHere 5 (some .boolean)) (mkR 2 0 0 46) (PreC D Y [.ref h0, .int 0, .int 0] [(h0, oC 13 [.ref h1, .ref g0, .int 0, .ref g1, .ref g2, .int 0, .int 0, .int 0, .int (-1), .int 0, .int 0, .int 0, .long 0, .ref g3, .ref g4, .int 0, .int 0]), (h1, aI Y 3640 (upd (upd (upd (upd (upd (clB 0 (fun _ => 0)) 3629 2) 3630 0) 3631 0) 3630 0) 3631 0))] sz) (QI D (fun (r : Int32) (u : Unit) => 1 = r) (fun (_ : Unit) => [(h0, oC 13 [.ref h1, .ref g0, .int 0, .ref g1, .ref g2, .int 0, .int 0, .int 0, .int (-1), .int 0, .int 0, .int 0, .long 0, .ref g3, .ref g4, .int 0, .int 0]), (h1, aI Y 3640 (upd (upd (upd (upd (upd (clB 0 (fun _ => 0)) 3629 2) 3630 0) 3631 0) 3630 0) 3631 0))]) (va_A [(h0, oC 13 [.ref h1, .ref g0, .int 0, .ref g1, .ref g2, .int 0, .int 0, .int 0, .int (-1), .int 0, .int 0, .int 0, .long 0, .ref g3, .ref g4, .int 0, .int 0]), (h1, aI Y 3640 (upd (upd (upd (upd (upd (clB 0 (fun _ => 0)) 3629 2) 3630 0) 3631 0) 3630 0) 3631 0))] sz)) 0 0 (va_A [(h0, oC 13 [.ref h1, .ref g0, .int 0, .ref g1, .ref g2, .int 0, .int 0, .int 0, .int (-1), .int 0, .int 0, .int 0, .long 0, .ref g3, .ref g4, .int 0, .int 0]), (h1, aI Y 3640 (upd (upd (upd (upd (upd (clB 0 (fun _ => 0)) 3629 2) 3630 0) 3631 0) 3630 0) 3631 0))] sz) :=
  met_of (by decide +kernel) (Nat.le_of_ble_eq_true rfl) (fun p e s m args below meth c B hin hsz => by
    have B : VB p s m args meth c D Y (va_A [(h0, oC 13 [.ref h1, .ref g0, .int 0, .ref g1, .ref g2, .int 0, .int 0, .int 0, .int (-1), .int 0, .int 0, .int 0, .long 0, .ref g3, .ref g4, .int 0, .int 0]), (h1, aI Y 3640 (upd (upd (upd (upd (upd (clB 0 (fun _ => 0)) 3629 2) 3630 0) 3631 0) 3630 0) 3631 0))] sz) cX12_isFreeHere 5 RX12 (some .boolean) := B
    refine V_aload_n 0 B dX12_isFreeHere_0 0 rfl ?_
    refine V_iload_n 1 B dX12_isFreeHere_1 1 rfl ?_
    refine V_sipush 2 B (v := 3629) dX12_isFreeHere_2 (by decide +kernel) ?_
    refine V_cvi 5 B (st := []) (As := [.int 0, .int 3629]) (fun sz => mX12_canBind_3 l D Y (h0) (h1) (g0) (g1) (g2) (g3) (g4) sz) glV_RX12_129 ⟨rfl, rfl⟩ ⟨(Nat.le_of_ble_eq_true rfl), (Nat.le_of_ble_eq_true rfl)⟩ ⟨(Nat.le_of_ble_eq_true rfl), (Nat.le_of_ble_eq_true rfl)⟩ [0, 0] rfl 13 0 rfl rfl rfl rfl (Nat.le_of_ble_eq_true rfl) rfl (fun _ _ _ => rfl) dX12_isFreeHere_5 (fun r0 u0 w0 => ?_)
    obtain rfl := w0
    refine V_ws [(h0, oC 13 [.ref h1, .ref g0, .int 0, .ref g1, .ref g2, .int 0, .int 0, .int 0, .int (-1), .int 0, .int 0, .int 0, .long 0, .ref g3, .ref g4, .int 0, .int 0]), (h1, aI Y 3640 (upd (upd (upd (upd (upd (clB 0 (fun _ => 0)) 3629 2) 3630 0) 3631 0) 3630 0) 3631 0))] rfl ?_
    refine V_if_ne_t 8 B 13 dX12_isFreeHere_8 (by decide) (by decide +kernel) ?_
    refine V_iconst 13 B (v := 1) dX12_isFreeHere_13 (by decide +kernel) ?_
    refine V_istore_n 14 B (lv2 := [(3, .int 1), (0, .ref h0), (1, .int 0), (2, .int 0)]) dX12_isFreeHere_14 (by decide) rfl ?_
    refine V_iconst 15 B (v := 0) dX12_isFreeHere_15 (by decide +kernel) ?_
    refine V_istore 16 B (lv2 := [(4, .int 0), (3, .int 1), (0, .ref h0), (1, .int 0), (2, .int 0)]) dX12_isFreeHere_16 (by decide) rfl ?_
    refine V_iload 18 B dX12_isFreeHere_18 0 rfl ?_
    refine V_aload_n 20 B dX12_isFreeHere_20 2 rfl ?_
    refine V_get 21 B gf_RX12_9 0 rfl rfl dX12_isFreeHere_21 ?_
    refine V_iconst 24 B (v := 3) dX12_isFreeHere_24 (by decide +kernel) ?_
    refine V_iald 25 B (v := 0) 1 rfl (vpin _ _ (by decide +kernel)) dX12_isFreeHere_25 rfl ?_
    refine V_icmp_ge_t 26 B 72 dX12_isFreeHere_26 (by decide) (by decide +kernel) ?_
    refine V_iload_n 72 B dX12_isFreeHere_72 1 rfl ?_
    exact V_zret 73 B rfl dX12_isFreeHere_73 () rfl rfl)
set_option maxRecDepth 100000 in
set_option maxHeartbeats 4000000 in
theorem mX12_cheapest_2 (l : Launch) (D : va_G) (Y : Nat → ClassId) (h0 : Nat) (h1 : Nat) (g0 : Nat) (g1 : Nat) (g2 : Nat) (g3 : Nat) (g4 : Nat) (p0 : Int32) (p1 : Int32) (sz : Nat) : Met l yX12_cheapest (WSm yX12_cheapest cX12_cheapest 10 (some .int)) (mkR 3 0 0 70) (PreC D Y [.ref h0, .int p0, .int p1, .int 0] [(h0, oC 13 [.ref h1, .ref g0, .int 0, .ref g1, .ref g2, .int 0, .int 0, .int 0, .int (-1), .int 0, .int 0, .int 0, .long 0, .ref g3, .ref g4, .int 0, .int 0]), (h1, aI Y 3640 (clB 0 (fun _ => 0)))] sz) (QI D (fun (r : Int32) (u : Nat) => (u = 0 ∧ p0 = 0 ∧ p1 = 1 ∧ 1 = r) ∨ (u = 1 ∧ p0 = 0 ∧ p1 = 2 ∧ 2 = r) ∨ (u = 2 ∧ p0 = 0 ∧ p1 < 1 ∧ 0 = r) ∨ (u = 3 ∧ p0 = 0 ∧ 2 < p1 ∧ 0 = r) ∨ (u = 4 ∧ p0 < 0 ∧ 0 = r) ∨ (u = 5 ∧ 0 < p0 ∧ 0 = r)) (fun (u : Nat) => match u with | 0 => [(h0, oC 13 [.ref h1, .ref g0, .int 0, .ref g1, .ref g2, .int 0, .int 0, .int 0, .int (-1), .int 0, .int 0, .int 0, .long 0, .ref g3, .ref g4, .int 0, .int 0]), (h1, aI Y 3640 (upd (upd (upd (upd (upd (upd (clB 0 (fun _ => 0)) 3629 1) 3630 281) 3631 0) 3624 1) 3625 0) 3626 0))] | 1 => [(h0, oC 13 [.ref h1, .ref g0, .int 0, .ref g1, .ref g2, .int 0, .int 0, .int 0, .int (-1), .int 0, .int 0, .int 0, .long 0, .ref g3, .ref g4, .int 0, .int 0]), (h1, aI Y 3640 (upd (upd (upd (upd (upd (upd (clB 0 (fun _ => 0)) 3629 2) 3630 281) 3631 281) 3624 2) 3625 0) 3626 0))] | 2 => [(h0, oC 13 [.ref h1, .ref g0, .int 2, .ref g1, .ref g2, .int 0, .int 0, .int 0, .int (-1), .int 0, .int 0, .int 0, .long 0, .ref g3, .ref g4, .int 0, .int 0]), (h1, aI Y 3640 (clB 0 (fun _ => 0)))] | 3 => [(h0, oC 13 [.ref h1, .ref g0, .int 2, .ref g1, .ref g2, .int 0, .int 0, .int 0, .int (-1), .int 0, .int 0, .int 0, .long 0, .ref g3, .ref g4, .int 0, .int 0]), (h1, aI Y 3640 (clB 0 (fun _ => 0)))] | 4 => [(h0, oC 13 [.ref h1, .ref g0, .int 1, .ref g1, .ref g2, .int 0, .int 0, .int 0, .int (-1), .int 0, .int 0, .int 0, .long 0, .ref g3, .ref g4, .int 0, .int 0]), (h1, aI Y 3640 (clB 0 (fun _ => 0)))] | _ => [(h0, oC 13 [.ref h1, .ref g0, .int 1, .ref g1, .ref g2, .int 0, .int 0, .int 0, .int (-1), .int 0, .int 0, .int 0, .long 0, .ref g3, .ref g4, .int 0, .int 0]), (h1, aI Y 3640 (clB 0 (fun _ => 0)))]) (va_A [(h0, oC 13 [.ref h1, .ref g0, .int 0, .ref g1, .ref g2, .int 0, .int 0, .int 0, .int (-1), .int 0, .int 0, .int 0, .long 0, .ref g3, .ref g4, .int 0, .int 0]), (h1, aI Y 3640 (clB 0 (fun _ => 0)))] sz)) 0 0 (va_A [(h0, oC 13 [.ref h1, .ref g0, .int 0, .ref g1, .ref g2, .int 0, .int 0, .int 0, .int (-1), .int 0, .int 0, .int 0, .long 0, .ref g3, .ref g4, .int 0, .int 0]), (h1, aI Y 3640 (clB 0 (fun _ => 0)))] sz) :=
  met_of (by decide +kernel) (Nat.le_of_ble_eq_true rfl) (fun p e s m args below meth c B hin hsz => by
    have B : VB p s m args meth c D Y (va_A [(h0, oC 13 [.ref h1, .ref g0, .int 0, .ref g1, .ref g2, .int 0, .int 0, .int 0, .int (-1), .int 0, .int 0, .int 0, .long 0, .ref g3, .ref g4, .int 0, .int 0]), (h1, aI Y 3640 (clB 0 (fun _ => 0)))] sz) cX12_cheapest 10 RX12 (some .int) := B
    refine V_aload_n 0 B dX12_cheapest_0 0 rfl ?_
    refine V_iconst 1 B (v := 0) dX12_cheapest_1 (by decide +kernel) ?_
    refine V_put 2 B gp_RX12_38 0 rfl (Nat.le_of_ble_eq_true rfl) rfl rfl dX12_cheapest_2 [(h0, oC 13 [.ref h1, .ref g0, .int 0, .ref g1, .ref g2, .int 0, .int 0, .int 0, .int (-1), .int 0, .int 0, .int 0, .long 0, .ref g3, .ref g4, .int 0, .int 0]), (h1, aI Y 3640 (clB 0 (fun _ => 0)))] rfl ?_
    refine V_aload_n 5 B dX12_cheapest_5 0 rfl ?_
    refine V_aload_n 6 B dX12_cheapest_6 0 rfl ?_
    refine V_iload_n 7 B dX12_cheapest_7 1 rfl ?_
    refine V_cvi 8 B (st := [.ref h0]) (As := [.int p0]) (fun sz => mX12_isMode_1 l D Y (h0) (h1) (g0) (g1) (g2) (g3) (g4) (p0) sz) glV_RX12_91 ⟨rfl, rfl⟩ ⟨(Nat.le_of_ble_eq_true rfl), (Nat.le_of_ble_eq_true rfl)⟩ ⟨(Nat.le_of_ble_eq_true rfl), (Nat.le_of_ble_eq_true rfl)⟩ [0, 0] rfl 13 0 rfl rfl rfl rfl (Nat.le_of_ble_eq_true rfl) rfl (fun _ _ _ => rfl) dX12_cheapest_8 (fun r0 u0 w0 => ?_)
    rcases w0 with ⟨k1, rfl⟩ | ⟨k2, rfl⟩ | ⟨k3, rfl⟩
    ·
      refine V_ws [(h0, oC 13 [.ref h1, .ref g0, .int 0, .ref g1, .ref g2, .int 0, .int 0, .int 0, .int (-1), .int 0, .int 0, .int 0, .long 0, .ref g3, .ref g4, .int 0, .int 0]), (h1, aI Y 3640 (clB 0 (fun _ => 0)))] rfl ?_
      obtain rfl : p0 = 0 := k1
      refine V_if_ne_t 11 B 18 dX12_cheapest_11 (by decide) (by decide +kernel) ?_
      refine V_iconst 18 B (v := 0) dX12_cheapest_18 (by decide +kernel) ?_
      refine V_iconst 19 B (v := 1) dX12_cheapest_19 (by decide +kernel) ?_
      refine V_cvi 20 B (st := []) (As := [.int 0, .int 1]) (fun sz => mX12_throwsIf_2 l D Y (h0) (h1) (g0) (g1) (g2) (g3) (g4) sz) glV_RX12_69 ⟨rfl, rfl⟩ ⟨(Nat.le_of_ble_eq_true rfl), (Nat.le_of_ble_eq_true rfl)⟩ ⟨(Nat.le_of_ble_eq_true rfl), (Nat.le_of_ble_eq_true rfl)⟩ [0] rfl 13 0 rfl rfl rfl rfl (Nat.le_of_ble_eq_true rfl) rfl (fun _ _ _ => rfl) dX12_cheapest_20 (fun r4 u4 w4 => ?_)
      obtain rfl := w4
      refine V_ws [(h0, oC 13 [.ref h1, .ref g0, .int 0, .ref g1, .ref g2, .int 0, .int 0, .int 0, .int (-1), .int 0, .int 0, .int 0, .long 0, .ref g3, .ref g4, .int 0, .int 0]), (h1, aI Y 3640 (clB 0 (fun _ => 0)))] rfl ?_
      refine V_if_ne_f 23 B 51 dX12_cheapest_23 (by decide) (by decide +kernel) ?_
      refine V_aload_n 26 B dX12_cheapest_26 0 rfl ?_
      refine V_iload_n 27 B dX12_cheapest_27 2 rfl ?_
      refine V_i2l 28 B dX12_cheapest_28 rfl ?_
      refine V_lconst 29 B (v := 1) dX12_cheapest_29 (by decide +kernel) ?_
      refine V_ldc2 30 B (v := 2) dX12_cheapest_30 (mT8 45 rfl rfl) ?_
      refine V_csi 33 B (st := [.ref h0]) (As := [.long p1.toInt64, .long 1, .long 2]) (fun sz => mX12_inRange_m l D Y (p1) (1) (2) (1) (2) (by decide +kernel) (by decide +kernel) sz) glS_RX12_41 ⟨rfl, rfl⟩ ⟨(Nat.le_of_ble_eq_true rfl), (Nat.le_of_ble_eq_true rfl)⟩ ⟨(Nat.le_of_ble_eq_true rfl), (Nat.le_of_ble_eq_true rfl)⟩ [] rfl rfl (Nat.le_of_ble_eq_true rfl) rfl (fun _ _ _ => rfl) dX12_cheapest_33 (fun r5 u5 w5 => ?_)
      rcases w5 with ⟨k6, k7, rfl⟩ | ⟨k8, rfl⟩ | ⟨k9, rfl⟩
      ·
        refine V_ws [(h0, oC 13 [.ref h1, .ref g0, .int 0, .ref g1, .ref g2, .int 0, .int 0, .int 0, .int (-1), .int 0, .int 0, .int 0, .long 0, .ref g3, .ref g4, .int 0, .int 0]), (h1, aI Y 3640 (clB 0 (fun _ => 0)))] rfl ?_
        refine V_if_ne_t 36 B 43 dX12_cheapest_36 (by decide) (by decide +kernel) ?_
        refine V_iconst 43 B (v := 0) dX12_cheapest_43 (by decide +kernel) ?_
        refine V_iconst 44 B (v := 2) dX12_cheapest_44 (by decide +kernel) ?_
        refine V_cvi 45 B (st := []) (As := [.int 0, .int 2]) (fun sz => mX12_throwsIf_3 l D Y (h0) (h1) (g0) (g1) (g2) (g3) (g4) sz) glV_RX12_69 ⟨rfl, rfl⟩ ⟨(Nat.le_of_ble_eq_true rfl), (Nat.le_of_ble_eq_true rfl)⟩ ⟨(Nat.le_of_ble_eq_true rfl), (Nat.le_of_ble_eq_true rfl)⟩ [0] rfl 13 0 rfl rfl rfl rfl (Nat.le_of_ble_eq_true rfl) rfl (fun _ _ _ => rfl) dX12_cheapest_45 (fun r10 u10 w10 => ?_)
        obtain rfl := w10
        refine V_ws [(h0, oC 13 [.ref h1, .ref g0, .int 0, .ref g1, .ref g2, .int 0, .int 0, .int 0, .int (-1), .int 0, .int 0, .int 0, .long 0, .ref g3, .ref g4, .int 0, .int 0]), (h1, aI Y 3640 (clB 0 (fun _ => 0)))] rfl ?_
        refine V_if_eq_t 48 B 53 dX12_cheapest_48 (by decide) (by decide +kernel) ?_
        refine V_iconst 53 B (v := 0) dX12_cheapest_53 (by decide +kernel) ?_
        refine V_istore 54 B (lv2 := [(4, .int 0), (0, .ref h0), (1, .int 0), (2, .int p1), (3, .int 0)]) dX12_cheapest_54 (by decide) rfl ?_
        refine V_iload 56 B dX12_cheapest_56 0 rfl ?_
        refine V_aload_n 58 B dX12_cheapest_58 1 rfl ?_
        refine V_get 59 B gf_RX12_9 0 rfl rfl dX12_cheapest_59 ?_
        refine V_iconst 62 B (v := 3) dX12_cheapest_62 (by decide +kernel) ?_
        refine V_iald 63 B (v := 0) 1 rfl (vpin _ _ (by decide +kernel)) dX12_cheapest_63 rfl ?_
        refine V_icmp_ge_t 64 B 116 dX12_cheapest_64 (by decide) (by decide +kernel) ?_
        by_cases k11 : p1 = 1
        ·
          obtain rfl : p1 = 1 := k11
          refine V_ldc 116 B (v := 1000000) dX12_cheapest_116 (mT9 29 rfl rfl) ?_
          refine V_istore 118 B (lv2 := [(4, .int 1000000), (0, .ref h0), (1, .int 0), (2, .int 1), (3, .int 0)]) dX12_cheapest_118 (by decide) rfl ?_
          refine V_iconst 120 B (v := 0) dX12_cheapest_120 (by decide +kernel) ?_
          refine V_istore 121 B (lv2 := [(5, .int 0), (4, .int 1000000), (0, .ref h0), (1, .int 0), (2, .int 1), (3, .int 0)]) dX12_cheapest_121 (by decide) rfl ?_
          refine V_iconst 123 B (v := 0) dX12_cheapest_123 (by decide +kernel) ?_
          refine V_istore 124 B (lv2 := [(6, .int 0), (5, .int 0), (4, .int 1000000), (0, .ref h0), (1, .int 0), (2, .int 1), (3, .int 0)]) dX12_cheapest_124 (by decide) rfl ?_
          refine V_aload_n 126 B dX12_cheapest_126 3 rfl ?_
          refine V_get 127 B gf_RX12_9 0 rfl rfl dX12_cheapest_127 ?_
          refine V_sipush 130 B (v := 3629) dX12_cheapest_130 (by decide +kernel) ?_
          refine V_iload_n 133 B dX12_cheapest_133 5 rfl ?_
          refine V_iast 134 B 1 rfl (vpin _ _ (by decide +kernel)) dX12_cheapest_134 [(h0, oC 13 [.ref h1, .ref g0, .int 0, .ref g1, .ref g2, .int 0, .int 0, .int 0, .int (-1), .int 0, .int 0, .int 0, .long 0, .ref g3, .ref g4, .int 0, .int 0]), (h1, aI Y 3640 (upd (clB 0 (fun _ => 0)) 3629 1))] rfl ?_
          refine V_iconst 135 B (v := 0) dX12_cheapest_135 (by decide +kernel) ?_
          refine V_istore 136 B (lv2 := [(7, .int 0), (6, .int 0), (5, .int 0), (4, .int 1000000), (0, .ref h0), (1, .int 0), (2, .int 1), (3, .int 0)]) dX12_cheapest_136 (by decide) rfl ?_
          refine V_loop (α := Unit) 130 (fun _ _ => True) (fun iA _ => [(7, .int (nI iA)), (6, .int 0), (5, .int 0), (4, .int (pick 1000000 1 iA)), (0, .ref h0), (1, .int 0), (2, .int 1), (3, .int 0)]) (fun iA _ => [(h0, oC 13 [.ref h1, .ref g0, .int 0, .ref g1, .ref g2, .int 0, .int 0, .int 0, .int (-1), .int 0, .int 0, .int 0, .long 0, .ref g3, .ref g4, .int 0, .int 0]), (h1, aI Y 3640 (upd (upd (upd (clB 0 (fun _ => 0)) 3629 1) 3630 (pickf 0 (fun j => simF (nI j)) iA)) 3631 0))]) () trivial rfl (by rw [show upd (upd (upd (clB 0 (fun _ => 0)) 3629 1) 3630 (pickf 0 (fun j => simF (nI j)) 0)) 3631 0 = (upd (clB 0 (fun _ => 0)) 3629 1) from (congrArg (fun g => upd g 3631 0) (upd_same (f := (upd (clB 0 (fun _ => 0)) 3629 1)) (k := 3630) (x := (pickf 0 (fun j => simF (nI j)) 0)) (by decide +kernel))).trans (upd_same (by decide +kernel))]) (fun iA _ hiA _ IHA => ?_) (fun _ _ => ?_)
          ·
            refine V_lv [(7, .int (nI iA)), (6, .int 0), (5, .int 0), (4, .int (pick 1000000 1 iA)), (0, .ref h0), (1, .int 0), (2, .int 1), (3, .int 0)] [0, 1, 2, 3, 4, 5, 6, 7] rfl ?_
            refine V_ws [(h0, oC 13 [.ref h1, .ref g0, .int 0, .ref g1, .ref g2, .int 0, .int 0, .int 0, .int (-1), .int 0, .int 0, .int 0, .long 0, .ref g3, .ref g4, .int 0, .int 0]), (h1, aI Y 3640 (upd (upd (upd (clB 0 (fun _ => 0)) 3629 1) 3630 (pickf 0 (fun j => simF (nI j)) iA)) 3631 0))] rfl ?_
            refine V_iload 138 B dX12_cheapest_138 0 rfl ?_
            refine V_sipush 140 B (v := 130) dX12_cheapest_140 (by decide +kernel) ?_
            refine V_icmp_ge_f 143 B 250 dX12_cheapest_143 (by decide) (q_nge (nI_hi hiA (by decide) (k := 129) (by decide +kernel)) (by decide +kernel)) ?_
            by_cases k12 : iA = 0
            ·
              obtain rfl : iA = 0 := by omega
              refine V_lv [(7, .int 0), (6, .int 0), (5, .int 0), (4, .int 1000000), (0, .ref h0), (1, .int 0), (2, .int 1), (3, .int 0)] [0, 1, 2, 3, 4, 5, 6, 7] rfl ?_
              refine V_ws [(h0, oC 13 [.ref h1, .ref g0, .int 0, .ref g1, .ref g2, .int 0, .int 0, .int 0, .int (-1), .int 0, .int 0, .int 0, .long 0, .ref g3, .ref g4, .int 0, .int 0]), (h1, aI Y 3640 (upd (upd (upd (clB 0 (fun _ => 0)) 3629 1) 3630 0) 3631 0))] rfl ?_
              refine V_iconst 146 B (v := 0) dX12_cheapest_146 (by decide +kernel) ?_
              refine V_istore 147 B (lv2 := [(8, .int 0), (7, .int 0), (6, .int 0), (5, .int 0), (4, .int 1000000), (0, .ref h0), (1, .int 0), (2, .int 1), (3, .int 0)]) dX12_cheapest_147 (by decide) rfl ?_
              refine V_iload 149 B dX12_cheapest_149 0 rfl ?_
              refine V_iload_n 151 B dX12_cheapest_151 7 rfl ?_
              refine V_iconst 152 B (v := 1) dX12_cheapest_152 (by decide +kernel) ?_
              refine V_icmp_ne_f 153 B 160 dX12_cheapest_153 (by decide) (by decide +kernel) ?_
              refine V_iconst 156 B (v := 1) dX12_cheapest_156 (by decide +kernel) ?_
              refine V_goto 157 B 163 dX12_cheapest_157 (by decide) ?_
              refine V_icmp_ge_f 163 B 244 dX12_cheapest_163 (by decide) (by decide +kernel) ?_
              refine V_aload_n 166 B dX12_cheapest_166 5 rfl ?_
              refine V_get 167 B gf_RX12_9 0 rfl rfl dX12_cheapest_167 ?_
              refine V_sipush 170 B (v := 3630) dX12_cheapest_170 (by decide +kernel) ?_
              refine V_iload 173 B dX12_cheapest_173 1 rfl ?_
              refine V_csi 175 B (st := [.int 3630, .ref h1]) (As := [.int 0]) (fun sz => mX12_simpleStroke_2 l D Y  sz) glS_RX12_181 ⟨rfl, rfl⟩ ⟨(Nat.le_of_ble_eq_true rfl), (Nat.le_of_ble_eq_true rfl)⟩ ⟨(Nat.le_of_ble_eq_true rfl), (Nat.le_of_ble_eq_true rfl)⟩ [] rfl rfl (Nat.le_of_ble_eq_true rfl) rfl (fun _ _ _ => rfl) dX12_cheapest_175 (fun r13 u13 w13 => ?_)
              obtain rfl := w13
              refine V_ws [(h0, oC 13 [.ref h1, .ref g0, .int 0, .ref g1, .ref g2, .int 0, .int 0, .int 0, .int (-1), .int 0, .int 0, .int 0, .long 0, .ref g3, .ref g4, .int 0, .int 0]), (h1, aI Y 3640 (upd (upd (upd (clB 0 (fun _ => 0)) 3629 1) 3630 0) 3631 0))] rfl ?_
              refine V_iast 178 B 1 rfl (vpin _ _ (by decide +kernel)) dX12_cheapest_178 [(h0, oC 13 [.ref h1, .ref g0, .int 0, .ref g1, .ref g2, .int 0, .int 0, .int 0, .int (-1), .int 0, .int 0, .int 0, .long 0, .ref g3, .ref g4, .int 0, .int 0]), (h1, aI Y 3640 (upd (upd (upd (upd (clB 0 (fun _ => 0)) 3629 1) 3630 0) 3631 0) 3630 0))] rfl ?_
              refine V_aload_n 179 B dX12_cheapest_179 5 rfl ?_
              refine V_get 180 B gf_RX12_9 0 rfl rfl dX12_cheapest_180 ?_
              refine V_sipush 183 B (v := 3631) dX12_cheapest_183 (by decide +kernel) ?_
              refine V_iload 186 B dX12_cheapest_186 0 rfl ?_
              refine V_csi 188 B (st := [.int 3631, .ref h1]) (As := [.int 0]) (fun sz => mX12_simpleStroke_2 l D Y  sz) glS_RX12_181 ⟨rfl, rfl⟩ ⟨(Nat.le_of_ble_eq_true rfl), (Nat.le_of_ble_eq_true rfl)⟩ ⟨(Nat.le_of_ble_eq_true rfl), (Nat.le_of_ble_eq_true rfl)⟩ [] rfl rfl (Nat.le_of_ble_eq_true rfl) rfl (fun _ _ _ => rfl) dX12_cheapest_188 (fun r14 u14 w14 => ?_)
              obtain rfl := w14
              refine V_ws [(h0, oC 13 [.ref h1, .ref g0, .int 0, .ref g1, .ref g2, .int 0, .int 0, .int 0, .int (-1), .int 0, .int 0, .int 0, .long 0, .ref g3, .ref g4, .int 0, .int 0]), (h1, aI Y 3640 (upd (upd (upd (upd (clB 0 (fun _ => 0)) 3629 1) 3630 0) 3631 0) 3630 0))] rfl ?_
              refine V_iast 191 B 1 rfl (vpin _ _ (by decide +kernel)) dX12_cheapest_191 [(h0, oC 13 [.ref h1, .ref g0, .int 0, .ref g1, .ref g2, .int 0, .int 0, .int 0, .int (-1), .int 0, .int 0, .int 0, .long 0, .ref g3, .ref g4, .int 0, .int 0]), (h1, aI Y 3640 (upd (upd (upd (upd (upd (clB 0 (fun _ => 0)) 3629 1) 3630 0) 3631 0) 3630 0) 3631 0))] rfl ?_
              refine V_aload_n 192 B dX12_cheapest_192 5 rfl ?_
              refine V_sipush 193 B (v := 3629) dX12_cheapest_193 (by decide +kernel) ?_
              refine V_cvi 196 B (st := []) (As := [.int 3629]) (fun sz => mX12_costOf_2 l D Y (h0) (h1) (g0) (g1) (g2) (g3) (g4) sz) glV_RX12_76 ⟨rfl, rfl⟩ ⟨(Nat.le_of_ble_eq_true rfl), (Nat.le_of_ble_eq_true rfl)⟩ ⟨(Nat.le_of_ble_eq_true rfl), (Nat.le_of_ble_eq_true rfl)⟩ [0, 0] rfl 13 0 rfl rfl rfl rfl (Nat.le_of_ble_eq_true rfl) rfl (fun _ _ _ => rfl) dX12_cheapest_196 (fun r15 u15 w15 => ?_)
              obtain rfl := w15
              refine V_ws [(h0, oC 13 [.ref h1, .ref g0, .int 0, .ref g1, .ref g2, .int 0, .int 0, .int 0, .int (-1), .int 0, .int 0, .int 0, .long 0, .ref g3, .ref g4, .int 0, .int 0]), (h1, aI Y 3640 (upd (upd (upd (upd (upd (clB 0 (fun _ => 0)) 3629 1) 3630 0) 3631 0) 3630 0) 3631 0))] rfl ?_
              refine V_istore 199 B (lv2 := [(9, .int 1), (8, .int 0), (7, .int 0), (6, .int 0), (5, .int 0), (4, .int 1000000), (0, .ref h0), (1, .int 0), (2, .int 1), (3, .int 0)]) dX12_cheapest_199 (by decide) rfl ?_
              refine V_iload 201 B dX12_cheapest_201 0 rfl ?_
              refine V_iload 203 B dX12_cheapest_203 5 rfl ?_
              refine V_icmp_ge_f 205 B 238 dX12_cheapest_205 (by decide) (by decide +kernel) ?_
              refine V_aload_n 208 B dX12_cheapest_208 6 rfl ?_
              refine V_iload_n 209 B dX12_cheapest_209 7 rfl ?_
              refine V_iload_n 210 B dX12_cheapest_210 9 rfl ?_
              refine V_cvi 211 B (st := []) (As := [.int 0, .int 0]) (fun sz => mX12_isFreeHere_3 l D Y (h0) (h1) (g0) (g1) (g2) (g3) (g4) sz) glV_RX12_185 ⟨rfl, rfl⟩ ⟨(Nat.le_of_ble_eq_true rfl), (Nat.le_of_ble_eq_true rfl)⟩ ⟨(Nat.le_of_ble_eq_true rfl), (Nat.le_of_ble_eq_true rfl)⟩ [0, 0] rfl 13 0 rfl rfl rfl rfl (Nat.le_of_ble_eq_true rfl) rfl (fun _ _ _ => rfl) dX12_cheapest_211 (fun r16 u16 w16 => ?_)
              obtain rfl := w16
              refine V_ws [(h0, oC 13 [.ref h1, .ref g0, .int 0, .ref g1, .ref g2, .int 0, .int 0, .int 0, .int (-1), .int 0, .int 0, .int 0, .long 0, .ref g3, .ref g4, .int 0, .int 0]), (h1, aI Y 3640 (upd (upd (upd (upd (upd (clB 0 (fun _ => 0)) 3629 1) 3630 0) 3631 0) 3630 0) 3631 0))] rfl ?_
              refine V_if_ne_t 214 B 220 dX12_cheapest_214 (by decide) (by decide +kernel) ?_
              refine V_iload 220 B dX12_cheapest_220 0 rfl ?_
              refine V_istore 222 B (lv2 := [(4, .int 1), (9, .int 1), (8, .int 0), (7, .int 0), (6, .int 0), (5, .int 0), (0, .ref h0), (1, .int 0), (2, .int 1), (3, .int 0)]) dX12_cheapest_222 (by decide) rfl ?_
              refine V_iload 224 B dX12_cheapest_224 3 rfl ?_
              refine V_csi 226 B (st := []) (As := [.int 0]) (fun sz => mX12_simpleStroke_2 l D Y  sz) glS_RX12_181 ⟨rfl, rfl⟩ ⟨(Nat.le_of_ble_eq_true rfl), (Nat.le_of_ble_eq_true rfl)⟩ ⟨(Nat.le_of_ble_eq_true rfl), (Nat.le_of_ble_eq_true rfl)⟩ [] rfl rfl (Nat.le_of_ble_eq_true rfl) rfl (fun _ _ _ => rfl) dX12_cheapest_226 (fun r17 u17 w17 => ?_)
              obtain rfl := w17
              refine V_ws [(h0, oC 13 [.ref h1, .ref g0, .int 0, .ref g1, .ref g2, .int 0, .int 0, .int 0, .int (-1), .int 0, .int 0, .int 0, .long 0, .ref g3, .ref g4, .int 0, .int 0]), (h1, aI Y 3640 (upd (upd (upd (upd (upd (clB 0 (fun _ => 0)) 3629 1) 3630 0) 3631 0) 3630 0) 3631 0))] rfl ?_
              refine V_istore 229 B (lv2 := [(5, .int 0), (4, .int 1), (9, .int 1), (8, .int 0), (7, .int 0), (6, .int 0), (0, .ref h0), (1, .int 0), (2, .int 1), (3, .int 0)]) dX12_cheapest_229 (by decide) rfl ?_
              refine V_iload 231 B dX12_cheapest_231 3 rfl ?_
              refine V_csi 233 B (st := []) (As := [.int 0]) (fun sz => mX12_simpleStroke_2 l D Y  sz) glS_RX12_181 ⟨rfl, rfl⟩ ⟨(Nat.le_of_ble_eq_true rfl), (Nat.le_of_ble_eq_true rfl)⟩ ⟨(Nat.le_of_ble_eq_true rfl), (Nat.le_of_ble_eq_true rfl)⟩ [] rfl rfl (Nat.le_of_ble_eq_true rfl) rfl (fun _ _ _ => rfl) dX12_cheapest_233 (fun r18 u18 w18 => ?_)
              obtain rfl := w18
              refine V_ws [(h0, oC 13 [.ref h1, .ref g0, .int 0, .ref g1, .ref g2, .int 0, .int 0, .int 0, .int (-1), .int 0, .int 0, .int 0, .long 0, .ref g3, .ref g4, .int 0, .int 0]), (h1, aI Y 3640 (upd (upd (upd (upd (upd (clB 0 (fun _ => 0)) 3629 1) 3630 0) 3631 0) 3630 0) 3631 0))] rfl ?_
              refine V_istore 236 B (lv2 := [(6, .int 0), (5, .int 0), (4, .int 1), (9, .int 1), (8, .int 0), (7, .int 0), (0, .ref h0), (1, .int 0), (2, .int 1), (3, .int 0)]) dX12_cheapest_236 (by decide) rfl ?_
              refine V_iinc 238 B (v := 1) (lv2 := [(8, .int 1), (6, .int 0), (5, .int 0), (4, .int 1), (9, .int 1), (7, .int 0), (0, .ref h0), (1, .int 0), (2, .int 1), (3, .int 0)]) dX12_cheapest_238 4 rfl (by decide +kernel) (by decide) rfl ?_
              refine V_goto 241 B 149 dX12_cheapest_241 (by decide) ?_
              refine V_iload 149 B dX12_cheapest_149 0 rfl ?_
              refine V_iload_n 151 B dX12_cheapest_151 8 rfl ?_
              refine V_iconst 152 B (v := 1) dX12_cheapest_152 (by decide +kernel) ?_
              refine V_icmp_ne_f 153 B 160 dX12_cheapest_153 (by decide) (by decide +kernel) ?_
              refine V_iconst 156 B (v := 1) dX12_cheapest_156 (by decide +kernel) ?_
              refine V_goto 157 B 163 dX12_cheapest_157 (by decide) ?_
              refine V_icmp_ge_t 163 B 244 dX12_cheapest_163 (by decide) (by decide +kernel) ?_
              refine V_iinc 244 B (v := 1) (lv2 := [(7, .int 1), (8, .int 1), (6, .int 0), (5, .int 0), (4, .int 1), (9, .int 1), (0, .ref h0), (1, .int 0), (2, .int 1), (3, .int 0)]) dX12_cheapest_244 5 rfl (by decide +kernel) (by decide) rfl ?_
              refine V_goto 247 B 138 dX12_cheapest_247 (by decide) ?_
              refine V_ws [(h0, oC 13 [.ref h1, .ref g0, .int 0, .ref g1, .ref g2, .int 0, .int 0, .int 0, .int (-1), .int 0, .int 0, .int 0, .long 0, .ref g3, .ref g4, .int 0, .int 0]), (h1, aI Y 3640 (upd (upd (upd (clB 0 (fun _ => 0)) 3629 1) 3630 (pickf 0 (fun j => simF (nI j)) (0 + 1))) 3631 0))] (by rw [upd4 (by decide), show (pickf 0 (fun j => simF (nI j)) (0 + 1)) = 0 from sim0]) ?_
              refine V_lv [(7, .int (nI (0 + 1))), (6, .int 0), (5, .int 0), (4, .int (pick 1000000 1 (0 + 1))), (0, .ref h0), (1, .int 0), (2, .int 1), (3, .int 0)] [0, 2, 3, 4, 6, 7, 8, 9] rfl ?_
              exact IHA () trivial
            ·
              refine V_lv [(7, .int (nI iA)), (6, .int 0), (5, .int 0), (4, .int 1), (0, .ref h0), (1, .int 0), (2, .int 1), (3, .int 0)] [0, 1, 2, 3, 4, 5, 6, 7] (by rw [show (pick 1000000 1 iA) = 1 from pick_pos k12]; rfl) ?_
              refine V_iconst 146 B (v := 0) dX12_cheapest_146 (by decide +kernel) ?_
              refine V_istore 147 B (lv2 := [(8, .int 0), (7, .int (nI iA)), (6, .int 0), (5, .int 0), (4, .int 1), (0, .ref h0), (1, .int 0), (2, .int 1), (3, .int 0)]) dX12_cheapest_147 (by decide) rfl ?_
              refine V_iload 149 B dX12_cheapest_149 0 rfl ?_
              refine V_iload_n 151 B dX12_cheapest_151 7 rfl ?_
              refine V_iconst 152 B (v := 1) dX12_cheapest_152 (by decide +kernel) ?_
              refine V_icmp_ne_f 153 B 160 dX12_cheapest_153 (by decide) (by decide +kernel) ?_
              refine V_iconst 156 B (v := 1) dX12_cheapest_156 (by decide +kernel) ?_
              refine V_goto 157 B 163 dX12_cheapest_157 (by decide) ?_
              refine V_icmp_ge_f 163 B 244 dX12_cheapest_163 (by decide) (by decide +kernel) ?_
              refine V_aload_n 166 B dX12_cheapest_166 5 rfl ?_
              refine V_get 167 B gf_RX12_9 0 rfl rfl dX12_cheapest_167 ?_
              refine V_sipush 170 B (v := 3630) dX12_cheapest_170 (by decide +kernel) ?_
              refine V_iload 173 B dX12_cheapest_173 1 rfl ?_
              refine V_csi 175 B (st := [.int 3630, .ref h1]) (As := [.int (nI iA)]) (fun sz => mX12_simpleStroke_simF l D Y ((nI iA)) sz) glS_RX12_181 ⟨rfl, rfl⟩ ⟨(Nat.le_of_ble_eq_true rfl), (Nat.le_of_ble_eq_true rfl)⟩ ⟨(Nat.le_of_ble_eq_true rfl), (Nat.le_of_ble_eq_true rfl)⟩ [] rfl rfl (Nat.le_of_ble_eq_true rfl) rfl (fun _ _ _ => rfl) dX12_cheapest_175 (fun r19 u19 w19 => ?_)
              obtain rfl := w19
              refine V_ws [(h0, oC 13 [.ref h1, .ref g0, .int 0, .ref g1, .ref g2, .int 0, .int 0, .int 0, .int (-1), .int 0, .int 0, .int 0, .long 0, .ref g3, .ref g4, .int 0, .int 0]), (h1, aI Y 3640 (upd (upd (upd (clB 0 (fun _ => 0)) 3629 1) 3630 (pickf 0 (fun j => simF (nI j)) iA)) 3631 0))] rfl ?_
              refine V_iast 178 B 1 rfl (vpin _ _ (by decide +kernel)) dX12_cheapest_178 [(h0, oC 13 [.ref h1, .ref g0, .int 0, .ref g1, .ref g2, .int 0, .int 0, .int 0, .int (-1), .int 0, .int 0, .int 0, .long 0, .ref g3, .ref g4, .int 0, .int 0]), (h1, aI Y 3640 (upd (upd (upd (upd (clB 0 (fun _ => 0)) 3629 1) 3630 (pickf 0 (fun j => simF (nI j)) iA)) 3631 0) 3630 (simF (nI iA))))] rfl ?_
              refine V_aload_n 179 B dX12_cheapest_179 5 rfl ?_
              refine V_get 180 B gf_RX12_9 0 rfl rfl dX12_cheapest_180 ?_
              refine V_sipush 183 B (v := 3631) dX12_cheapest_183 (by decide +kernel) ?_
              refine V_iload 186 B dX12_cheapest_186 0 rfl ?_
              refine V_csi 188 B (st := [.int 3631, .ref h1]) (As := [.int 0]) (fun sz => mX12_simpleStroke_2 l D Y  sz) glS_RX12_181 ⟨rfl, rfl⟩ ⟨(Nat.le_of_ble_eq_true rfl), (Nat.le_of_ble_eq_true rfl)⟩ ⟨(Nat.le_of_ble_eq_true rfl), (Nat.le_of_ble_eq_true rfl)⟩ [] rfl rfl (Nat.le_of_ble_eq_true rfl) rfl (fun _ _ _ => rfl) dX12_cheapest_188 (fun r20 u20 w20 => ?_)
              obtain rfl := w20
              refine V_ws [(h0, oC 13 [.ref h1, .ref g0, .int 0, .ref g1, .ref g2, .int 0, .int 0, .int 0, .int (-1), .int 0, .int 0, .int 0, .long 0, .ref g3, .ref g4, .int 0, .int 0]), (h1, aI Y 3640 (upd (upd (upd (upd (clB 0 (fun _ => 0)) 3629 1) 3630 (pickf 0 (fun j => simF (nI j)) iA)) 3631 0) 3630 (simF (nI iA))))] rfl ?_
              refine V_iast 191 B 1 rfl (vpin _ _ (by decide +kernel)) dX12_cheapest_191 [(h0, oC 13 [.ref h1, .ref g0, .int 0, .ref g1, .ref g2, .int 0, .int 0, .int 0, .int (-1), .int 0, .int 0, .int 0, .long 0, .ref g3, .ref g4, .int 0, .int 0]), (h1, aI Y 3640 (upd (upd (upd (upd (upd (clB 0 (fun _ => 0)) 3629 1) 3630 (pickf 0 (fun j => simF (nI j)) iA)) 3631 0) 3630 (simF (nI iA))) 3631 0))] rfl ?_
              refine V_aload_n 192 B dX12_cheapest_192 5 rfl ?_
              refine V_sipush 193 B (v := 3629) dX12_cheapest_193 (by decide +kernel) ?_
              refine V_cvi 196 B (st := []) (As := [.int 3629]) (fun sz => mX12_costOf_s18 l D Y (h0) (h1) (g0) (g1) (g2) (g3) (g4) ((pickf 0 (fun j => simF (nI j)) iA)) ((simF (nI iA))) ((h5_sim hiA)) sz) glV_RX12_76 ⟨rfl, rfl⟩ ⟨(Nat.le_of_ble_eq_true rfl), (Nat.le_of_ble_eq_true rfl)⟩ ⟨(Nat.le_of_ble_eq_true rfl), (Nat.le_of_ble_eq_true rfl)⟩ [0, 0] rfl 13 0 rfl rfl rfl rfl (Nat.le_of_ble_eq_true rfl) rfl (fun _ _ _ => rfl) dX12_cheapest_196 (fun r21 u21 w21 => ?_)
              obtain rfl := w21
              refine V_ws [(h0, oC 13 [.ref h1, .ref g0, .int 0, .ref g1, .ref g2, .int 0, .int 0, .int 0, .int (-1), .int 0, .int 0, .int 0, .long 0, .ref g3, .ref g4, .int 0, .int 0]), (h1, aI Y 3640 (upd (upd (upd (upd (upd (clB 0 (fun _ => 0)) 3629 1) 3630 (pickf 0 (fun j => simF (nI j)) iA)) 3631 0) 3630 (simF (nI iA))) 3631 0))] rfl ?_
              refine V_istore 199 B (lv2 := [(9, .int (scoF (simF (nI iA)))), (8, .int 0), (7, .int (nI iA)), (6, .int 0), (5, .int 0), (4, .int 1), (0, .ref h0), (1, .int 0), (2, .int 1), (3, .int 0)]) dX12_cheapest_199 (by decide) rfl ?_
              refine V_iload 201 B dX12_cheapest_201 0 rfl ?_
              refine V_iload 203 B dX12_cheapest_203 5 rfl ?_
              refine V_icmp_ge_t 205 B 238 dX12_cheapest_205 (by decide) (q_ge (sco1 hiA) (by decide +kernel)) ?_
              refine V_iinc 238 B (v := 1) (lv2 := [(8, .int 1), (9, .int (scoF (simF (nI iA)))), (7, .int (nI iA)), (6, .int 0), (5, .int 0), (4, .int 1), (0, .ref h0), (1, .int 0), (2, .int 1), (3, .int 0)]) dX12_cheapest_238 1 rfl (by decide +kernel) (by decide) rfl ?_
              refine V_goto 241 B 149 dX12_cheapest_241 (by decide) ?_
              refine V_iload 149 B dX12_cheapest_149 0 rfl ?_
              refine V_iload_n 151 B dX12_cheapest_151 8 rfl ?_
              refine V_iconst 152 B (v := 1) dX12_cheapest_152 (by decide +kernel) ?_
              refine V_icmp_ne_f 153 B 160 dX12_cheapest_153 (by decide) (by decide +kernel) ?_
              refine V_iconst 156 B (v := 1) dX12_cheapest_156 (by decide +kernel) ?_
              refine V_goto 157 B 163 dX12_cheapest_157 (by decide) ?_
              refine V_icmp_ge_t 163 B 244 dX12_cheapest_163 (by decide) (by decide +kernel) ?_
              refine V_iinc 244 B (v := (nI (iA + 1))) (lv2 := [(7, .int (nI (iA + 1))), (8, .int 1), (9, .int (scoF (simF (nI iA)))), (6, .int 0), (5, .int 0), (4, .int 1), (0, .ref h0), (1, .int 0), (2, .int 1), (3, .int 0)]) dX12_cheapest_244 2 rfl (nI_1 _) (by decide) rfl ?_
              refine V_goto 247 B 138 dX12_cheapest_247 (by decide) ?_
              refine V_ws [(h0, oC 13 [.ref h1, .ref g0, .int 0, .ref g1, .ref g2, .int 0, .int 0, .int 0, .int (-1), .int 0, .int 0, .int 0, .long 0, .ref g3, .ref g4, .int 0, .int 0]), (h1, aI Y 3640 (upd (upd (upd (clB 0 (fun _ => 0)) 3629 1) 3630 (pickf 0 (fun j => simF (nI j)) (iA + 1))) 3631 0))] (by rw [upd4 (by decide), show (pickf 0 (fun j => simF (nI j)) (iA + 1)) = simF (nI iA) from rfl]) ?_
              refine V_lv [(7, .int (nI (iA + 1))), (6, .int 0), (5, .int 0), (4, .int (pick 1000000 1 (iA + 1))), (0, .ref h0), (1, .int 0), (2, .int 1), (3, .int 0)] [0, 3, 4, 5, 6, 7, 8, 9] rfl ?_
              exact IHA () trivial
          ·
            refine V_lv [(7, .int 130), (6, .int 0), (5, .int 0), (4, .int 1), (0, .ref h0), (1, .int 0), (2, .int 1), (3, .int 0)] [0, 1, 2, 3, 4, 5, 6, 7] rfl ?_
            refine V_ws [(h0, oC 13 [.ref h1, .ref g0, .int 0, .ref g1, .ref g2, .int 0, .int 0, .int 0, .int (-1), .int 0, .int 0, .int 0, .long 0, .ref g3, .ref g4, .int 0, .int 0]), (h1, aI Y 3640 (upd (upd (upd (clB 0 (fun _ => 0)) 3629 1) 3630 281) 3631 0))] (by rw [show (pickf 0 (fun j => simF (nI j)) 130) = 281 from sim129]) ?_
            refine V_iload 138 B dX12_cheapest_138 0 rfl ?_
            refine V_sipush 140 B (v := 130) dX12_cheapest_140 (by decide +kernel) ?_
            refine V_icmp_ge_t 143 B 250 dX12_cheapest_143 (by decide) (by decide +kernel) ?_
            refine V_iload 250 B dX12_cheapest_250 3 rfl ?_
            refine V_ldc 252 B (v := 1000000) dX12_cheapest_252 (mT9 29 rfl rfl) ?_
            refine V_icmp_ne_t 254 B 259 dX12_cheapest_254 (by decide) (by decide +kernel) ?_
            refine V_aload_n 259 B dX12_cheapest_259 4 rfl ?_
            refine V_get 260 B gf_RX12_9 0 rfl rfl dX12_cheapest_260 ?_
            refine V_sipush 263 B (v := 3624) dX12_cheapest_263 (by decide +kernel) ?_
            refine V_iload_n 266 B dX12_cheapest_266 6 rfl ?_
            refine V_iast 267 B 1 rfl (vpin _ _ (by decide +kernel)) dX12_cheapest_267 [(h0, oC 13 [.ref h1, .ref g0, .int 0, .ref g1, .ref g2, .int 0, .int 0, .int 0, .int (-1), .int 0, .int 0, .int 0, .long 0, .ref g3, .ref g4, .int 0, .int 0]), (h1, aI Y 3640 (upd (upd (upd (upd (clB 0 (fun _ => 0)) 3629 1) 3630 281) 3631 0) 3624 1))] rfl ?_
            refine V_aload_n 268 B dX12_cheapest_268 4 rfl ?_
            refine V_get 269 B gf_RX12_9 0 rfl rfl dX12_cheapest_269 ?_
            refine V_sipush 272 B (v := 3625) dX12_cheapest_272 (by decide +kernel) ?_
            refine V_iload 275 B dX12_cheapest_275 2 rfl ?_
            refine V_iast 277 B 1 rfl (vpin _ _ (by decide +kernel)) dX12_cheapest_277 [(h0, oC 13 [.ref h1, .ref g0, .int 0, .ref g1, .ref g2, .int 0, .int 0, .int 0, .int (-1), .int 0, .int 0, .int 0, .long 0, .ref g3, .ref g4, .int 0, .int 0]), (h1, aI Y 3640 (upd (upd (upd (upd (upd (clB 0 (fun _ => 0)) 3629 1) 3630 281) 3631 0) 3624 1) 3625 0))] rfl ?_
            refine V_aload_n 278 B dX12_cheapest_278 4 rfl ?_
            refine V_get 279 B gf_RX12_9 0 rfl rfl dX12_cheapest_279 ?_
            refine V_sipush 282 B (v := 3626) dX12_cheapest_282 (by decide +kernel) ?_
            refine V_iload 285 B dX12_cheapest_285 1 rfl ?_
            refine V_iast 287 B 1 rfl (vpin _ _ (by decide +kernel)) dX12_cheapest_287 [(h0, oC 13 [.ref h1, .ref g0, .int 0, .ref g1, .ref g2, .int 0, .int 0, .int 0, .int (-1), .int 0, .int 0, .int 0, .long 0, .ref g3, .ref g4, .int 0, .int 0]), (h1, aI Y 3640 (upd (upd (upd (upd (upd (upd (clB 0 (fun _ => 0)) 3629 1) 3630 281) 3631 0) 3624 1) 3625 0) 3626 0))] rfl ?_
            refine V_iload 288 B dX12_cheapest_288 3 rfl ?_
            exact V_iret 290 B dX12_cheapest_290 0 (Or.inl ⟨rfl, rfl, rfl, rfl⟩) rfl
        ·
          obtain rfl : p1 = 2 := q_eq (q_bump (b_nlt k6 (n := 1) (by decide +kernel)) k11 (by decide +kernel) (k := 2) (by decide +kernel)) (b_ngt k7 (n := 2) (by decide +kernel)) (by decide +kernel)
          refine V_ldc 116 B (v := 1000000) dX12_cheapest_116 (mT9 29 rfl rfl) ?_
          refine V_istore 118 B (lv2 := [(4, .int 1000000), (0, .ref h0), (1, .int 0), (2, .int 2), (3, .int 0)]) dX12_cheapest_118 (by decide) rfl ?_
          refine V_iconst 120 B (v := 0) dX12_cheapest_120 (by decide +kernel) ?_
          refine V_istore 121 B (lv2 := [(5, .int 0), (4, .int 1000000), (0, .ref h0), (1, .int 0), (2, .int 2), (3, .int 0)]) dX12_cheapest_121 (by decide) rfl ?_
          refine V_iconst 123 B (v := 0) dX12_cheapest_123 (by decide +kernel) ?_
          refine V_istore 124 B (lv2 := [(6, .int 0), (5, .int 0), (4, .int 1000000), (0, .ref h0), (1, .int 0), (2, .int 2), (3, .int 0)]) dX12_cheapest_124 (by decide) rfl ?_
          refine V_aload_n 126 B dX12_cheapest_126 3 rfl ?_
          refine V_get 127 B gf_RX12_9 0 rfl rfl dX12_cheapest_127 ?_
          refine V_sipush 130 B (v := 3629) dX12_cheapest_130 (by decide +kernel) ?_
          refine V_iload_n 133 B dX12_cheapest_133 5 rfl ?_
          refine V_iast 134 B 1 rfl (vpin _ _ (by decide +kernel)) dX12_cheapest_134 [(h0, oC 13 [.ref h1, .ref g0, .int 0, .ref g1, .ref g2, .int 0, .int 0, .int 0, .int (-1), .int 0, .int 0, .int 0, .long 0, .ref g3, .ref g4, .int 0, .int 0]), (h1, aI Y 3640 (upd (clB 0 (fun _ => 0)) 3629 2))] rfl ?_
          refine V_iconst 135 B (v := 0) dX12_cheapest_135 (by decide +kernel) ?_
          refine V_istore 136 B (lv2 := [(7, .int 0), (6, .int 0), (5, .int 0), (4, .int 1000000), (0, .ref h0), (1, .int 0), (2, .int 2), (3, .int 0)]) dX12_cheapest_136 (by decide) rfl ?_
          refine V_loop (α := Unit) 130 (fun _ _ => True) (fun iA _ => [(7, .int (nI iA)), (6, .int 0), (5, .int 0), (4, .int (pick 1000000 2 (130 * iA))), (0, .ref h0), (1, .int 0), (2, .int 2), (3, .int 0)]) (fun iA _ => [(h0, oC 13 [.ref h1, .ref g0, .int 0, .ref g1, .ref g2, .int 0, .int 0, .int 0, .int (-1), .int 0, .int 0, .int 0, .long 0, .ref g3, .ref g4, .int 0, .int 0]), (h1, aI Y 3640 (upd (upd (upd (clB 0 (fun _ => 0)) 3629 2) 3630 (pickf 0 (fun j => simF (nI j)) iA)) 3631 (pick 0 281 iA)))]) () trivial rfl (by rw [show upd (upd (upd (clB 0 (fun _ => 0)) 3629 2) 3630 (pickf 0 (fun j => simF (nI j)) 0)) 3631 (pick 0 281 0) = (upd (clB 0 (fun _ => 0)) 3629 2) from (congrArg (fun g => upd g 3631 (pick 0 281 0)) (upd_same (f := (upd (clB 0 (fun _ => 0)) 3629 2)) (k := 3630) (x := (pickf 0 (fun j => simF (nI j)) 0)) (by decide +kernel))).trans (upd_same (by decide +kernel))]) (fun iA _ hiA _ IHA => ?_) (fun _ _ => ?_)
          ·
            refine V_lv [(7, .int (nI iA)), (6, .int 0), (5, .int 0), (4, .int (pick 1000000 2 (130 * iA))), (0, .ref h0), (1, .int 0), (2, .int 2), (3, .int 0)] [0, 1, 2, 3, 4, 5, 6, 7] rfl ?_
            refine V_ws [(h0, oC 13 [.ref h1, .ref g0, .int 0, .ref g1, .ref g2, .int 0, .int 0, .int 0, .int (-1), .int 0, .int 0, .int 0, .long 0, .ref g3, .ref g4, .int 0, .int 0]), (h1, aI Y 3640 (upd (upd (upd (clB 0 (fun _ => 0)) 3629 2) 3630 (pickf 0 (fun j => simF (nI j)) iA)) 3631 (pick 0 281 iA)))] rfl ?_
            refine V_iload 138 B dX12_cheapest_138 0 rfl ?_
            refine V_sipush 140 B (v := 130) dX12_cheapest_140 (by decide +kernel) ?_
            refine V_icmp_ge_f 143 B 250 dX12_cheapest_143 (by decide) (q_nge (nI_hi hiA (by decide) (k := 129) (by decide +kernel)) (by decide +kernel)) ?_
            refine V_iconst 146 B (v := 0) dX12_cheapest_146 (by decide +kernel) ?_
            refine V_istore 147 B (lv2 := [(8, .int 0), (7, .int (nI iA)), (6, .int 0), (5, .int 0), (4, .int (pick 1000000 2 (130 * iA))), (0, .ref h0), (1, .int 0), (2, .int 2), (3, .int 0)]) dX12_cheapest_147 (by decide) rfl ?_
            refine V_loop (α := Unit) 130 (fun _ _ => True) (fun iB _ => [(8, .int (nI iB)), (7, .int (nI iA)), (6, .int 0), (5, .int 0), (4, .int (pick 1000000 2 (130 * iA + iB))), (0, .ref h0), (1, .int 0), (2, .int 2), (3, .int 0)]) (fun iB _ => [(h0, oC 13 [.ref h1, .ref g0, .int 0, .ref g1, .ref g2, .int 0, .int 0, .int 0, .int (-1), .int 0, .int 0, .int 0, .long 0, .ref g3, .ref g4, .int 0, .int 0]), (h1, aI Y 3640 (upd (upd (upd (clB 0 (fun _ => 0)) 3629 2) 3630 (pick (pickf 0 (fun j => simF (nI j)) iA) (simF (nI iA)) iB)) 3631 (pickf (pick 0 281 iA) (fun j => simF (nI j)) iB)))]) () trivial rfl rfl (fun iB _ hiB _ IHB => ?_) (fun _ _ => ?_)
            ·
              refine V_lv [(8, .int (nI iB)), (7, .int (nI iA)), (6, .int 0), (5, .int 0), (4, .int (pick 1000000 2 (130 * iA + iB))), (0, .ref h0), (1, .int 0), (2, .int 2), (3, .int 0)] [0, 1, 2, 3, 4, 5, 6, 7, 8] rfl ?_
              refine V_ws [(h0, oC 13 [.ref h1, .ref g0, .int 0, .ref g1, .ref g2, .int 0, .int 0, .int 0, .int (-1), .int 0, .int 0, .int 0, .long 0, .ref g3, .ref g4, .int 0, .int 0]), (h1, aI Y 3640 (upd (upd (upd (clB 0 (fun _ => 0)) 3629 2) 3630 (pick (pickf 0 (fun j => simF (nI j)) iA) (simF (nI iA)) iB)) 3631 (pickf (pick 0 281 iA) (fun j => simF (nI j)) iB)))] rfl ?_
              refine V_iload 149 B dX12_cheapest_149 0 rfl ?_
              refine V_iload_n 151 B dX12_cheapest_151 7 rfl ?_
              refine V_iconst 152 B (v := 1) dX12_cheapest_152 (by decide +kernel) ?_
              refine V_icmp_ne_t 153 B 160 dX12_cheapest_153 (by decide) (by decide +kernel) ?_
              refine V_sipush 160 B (v := 130) dX12_cheapest_160 (by decide +kernel) ?_
              refine V_icmp_ge_f 163 B 244 dX12_cheapest_163 (by decide) (q_nge (nI_hi hiB (by decide) (k := 129) (by decide +kernel)) (by decide +kernel)) ?_
              by_cases k22 : 130 * iA + iB = 0
              ·
                obtain rfl : iA = 0 := by omega
                obtain rfl : iB = 0 := by omega
                refine V_lv [(8, .int 0), (7, .int 0), (6, .int 0), (5, .int 0), (4, .int 1000000), (0, .ref h0), (1, .int 0), (2, .int 2), (3, .int 0)] [0, 1, 2, 3, 4, 5, 6, 7, 8] rfl ?_
                refine V_ws [(h0, oC 13 [.ref h1, .ref g0, .int 0, .ref g1, .ref g2, .int 0, .int 0, .int 0, .int (-1), .int 0, .int 0, .int 0, .long 0, .ref g3, .ref g4, .int 0, .int 0]), (h1, aI Y 3640 (upd (upd (upd (clB 0 (fun _ => 0)) 3629 2) 3630 0) 3631 0))] rfl ?_
                refine V_aload_n 166 B dX12_cheapest_166 5 rfl ?_
                refine V_get 167 B gf_RX12_9 0 rfl rfl dX12_cheapest_167 ?_
                refine V_sipush 170 B (v := 3630) dX12_cheapest_170 (by decide +kernel) ?_
                refine V_iload 173 B dX12_cheapest_173 1 rfl ?_
                refine V_csi 175 B (st := [.int 3630, .ref h1]) (As := [.int 0]) (fun sz => mX12_simpleStroke_2 l D Y  sz) glS_RX12_181 ⟨rfl, rfl⟩ ⟨(Nat.le_of_ble_eq_true rfl), (Nat.le_of_ble_eq_true rfl)⟩ ⟨(Nat.le_of_ble_eq_true rfl), (Nat.le_of_ble_eq_true rfl)⟩ [] rfl rfl (Nat.le_of_ble_eq_true rfl) rfl (fun _ _ _ => rfl) dX12_cheapest_175 (fun r23 u23 w23 => ?_)
                obtain rfl := w23
                refine V_ws [(h0, oC 13 [.ref h1, .ref g0, .int 0, .ref g1, .ref g2, .int 0, .int 0, .int 0, .int (-1), .int 0, .int 0, .int 0, .long 0, .ref g3, .ref g4, .int 0, .int 0]), (h1, aI Y 3640 (upd (upd (upd (clB 0 (fun _ => 0)) 3629 2) 3630 0) 3631 0))] rfl ?_
                refine V_iast 178 B 1 rfl (vpin _ _ (by decide +kernel)) dX12_cheapest_178 [(h0, oC 13 [.ref h1, .ref g0, .int 0, .ref g1, .ref g2, .int 0, .int 0, .int 0, .int (-1), .int 0, .int 0, .int 0, .long 0, .ref g3, .ref g4, .int 0, .int 0]), (h1, aI Y 3640 (upd (upd (upd (upd (clB 0 (fun _ => 0)) 3629 2) 3630 0) 3631 0) 3630 0))] rfl ?_
                refine V_aload_n 179 B dX12_cheapest_179 5 rfl ?_
                refine V_get 180 B gf_RX12_9 0 rfl rfl dX12_cheapest_180 ?_
                refine V_sipush 183 B (v := 3631) dX12_cheapest_183 (by decide +kernel) ?_
                refine V_iload 186 B dX12_cheapest_186 0 rfl ?_
                refine V_csi 188 B (st := [.int 3631, .ref h1]) (As := [.int 0]) (fun sz => mX12_simpleStroke_2 l D Y  sz) glS_RX12_181 ⟨rfl, rfl⟩ ⟨(Nat.le_of_ble_eq_true rfl), (Nat.le_of_ble_eq_true rfl)⟩ ⟨(Nat.le_of_ble_eq_true rfl), (Nat.le_of_ble_eq_true rfl)⟩ [] rfl rfl (Nat.le_of_ble_eq_true rfl) rfl (fun _ _ _ => rfl) dX12_cheapest_188 (fun r24 u24 w24 => ?_)
                obtain rfl := w24
                refine V_ws [(h0, oC 13 [.ref h1, .ref g0, .int 0, .ref g1, .ref g2, .int 0, .int 0, .int 0, .int (-1), .int 0, .int 0, .int 0, .long 0, .ref g3, .ref g4, .int 0, .int 0]), (h1, aI Y 3640 (upd (upd (upd (upd (clB 0 (fun _ => 0)) 3629 2) 3630 0) 3631 0) 3630 0))] rfl ?_
                refine V_iast 191 B 1 rfl (vpin _ _ (by decide +kernel)) dX12_cheapest_191 [(h0, oC 13 [.ref h1, .ref g0, .int 0, .ref g1, .ref g2, .int 0, .int 0, .int 0, .int (-1), .int 0, .int 0, .int 0, .long 0, .ref g3, .ref g4, .int 0, .int 0]), (h1, aI Y 3640 (upd (upd (upd (upd (upd (clB 0 (fun _ => 0)) 3629 2) 3630 0) 3631 0) 3630 0) 3631 0))] rfl ?_
                refine V_aload_n 192 B dX12_cheapest_192 5 rfl ?_
                refine V_sipush 193 B (v := 3629) dX12_cheapest_193 (by decide +kernel) ?_
                refine V_cvi 196 B (st := []) (As := [.int 3629]) (fun sz => mX12_costOf_3 l D Y (h0) (h1) (g0) (g1) (g2) (g3) (g4) sz) glV_RX12_76 ⟨rfl, rfl⟩ ⟨(Nat.le_of_ble_eq_true rfl), (Nat.le_of_ble_eq_true rfl)⟩ ⟨(Nat.le_of_ble_eq_true rfl), (Nat.le_of_ble_eq_true rfl)⟩ [0, 0] rfl 13 0 rfl rfl rfl rfl (Nat.le_of_ble_eq_true rfl) rfl (fun _ _ _ => rfl) dX12_cheapest_196 (fun r25 u25 w25 => ?_)
                obtain rfl := w25
                refine V_ws [(h0, oC 13 [.ref h1, .ref g0, .int 0, .ref g1, .ref g2, .int 0, .int 0, .int 0, .int (-1), .int 0, .int 0, .int 0, .long 0, .ref g3, .ref g4, .int 0, .int 0]), (h1, aI Y 3640 (upd (upd (upd (upd (upd (clB 0 (fun _ => 0)) 3629 2) 3630 0) 3631 0) 3630 0) 3631 0))] rfl ?_
                refine V_istore 199 B (lv2 := [(9, .int 2), (8, .int 0), (7, .int 0), (6, .int 0), (5, .int 0), (4, .int 1000000), (0, .ref h0), (1, .int 0), (2, .int 2), (3, .int 0)]) dX12_cheapest_199 (by decide) rfl ?_
                refine V_iload 201 B dX12_cheapest_201 0 rfl ?_
                refine V_iload 203 B dX12_cheapest_203 5 rfl ?_
                refine V_icmp_ge_f 205 B 238 dX12_cheapest_205 (by decide) (by decide +kernel) ?_
                refine V_aload_n 208 B dX12_cheapest_208 6 rfl ?_
                refine V_iload_n 209 B dX12_cheapest_209 7 rfl ?_
                refine V_iload_n 210 B dX12_cheapest_210 9 rfl ?_
                refine V_cvi 211 B (st := []) (As := [.int 0, .int 0]) (fun sz => mX12_isFreeHere_4 l D Y (h0) (h1) (g0) (g1) (g2) (g3) (g4) sz) glV_RX12_185 ⟨rfl, rfl⟩ ⟨(Nat.le_of_ble_eq_true rfl), (Nat.le_of_ble_eq_true rfl)⟩ ⟨(Nat.le_of_ble_eq_true rfl), (Nat.le_of_ble_eq_true rfl)⟩ [0, 0] rfl 13 0 rfl rfl rfl rfl (Nat.le_of_ble_eq_true rfl) rfl (fun _ _ _ => rfl) dX12_cheapest_211 (fun r26 u26 w26 => ?_)
                obtain rfl := w26
                refine V_ws [(h0, oC 13 [.ref h1, .ref g0, .int 0, .ref g1, .ref g2, .int 0, .int 0, .int 0, .int (-1), .int 0, .int 0, .int 0, .long 0, .ref g3, .ref g4, .int 0, .int 0]), (h1, aI Y 3640 (upd (upd (upd (upd (upd (clB 0 (fun _ => 0)) 3629 2) 3630 0) 3631 0) 3630 0) 3631 0))] rfl ?_
                refine V_if_ne_t 214 B 220 dX12_cheapest_214 (by decide) (by decide +kernel) ?_
                refine V_iload 220 B dX12_cheapest_220 0 rfl ?_
                refine V_istore 222 B (lv2 := [(4, .int 2), (9, .int 2), (8, .int 0), (7, .int 0), (6, .int 0), (5, .int 0), (0, .ref h0), (1, .int 0), (2, .int 2), (3, .int 0)]) dX12_cheapest_222 (by decide) rfl ?_
                refine V_iload 224 B dX12_cheapest_224 3 rfl ?_
                refine V_csi 226 B (st := []) (As := [.int 0]) (fun sz => mX12_simpleStroke_2 l D Y  sz) glS_RX12_181 ⟨rfl, rfl⟩ ⟨(Nat.le_of_ble_eq_true rfl), (Nat.le_of_ble_eq_true rfl)⟩ ⟨(Nat.le_of_ble_eq_true rfl), (Nat.le_of_ble_eq_true rfl)⟩ [] rfl rfl (Nat.le_of_ble_eq_true rfl) rfl (fun _ _ _ => rfl) dX12_cheapest_226 (fun r27 u27 w27 => ?_)
                obtain rfl := w27
                refine V_ws [(h0, oC 13 [.ref h1, .ref g0, .int 0, .ref g1, .ref g2, .int 0, .int 0, .int 0, .int (-1), .int 0, .int 0, .int 0, .long 0, .ref g3, .ref g4, .int 0, .int 0]), (h1, aI Y 3640 (upd (upd (upd (upd (upd (clB 0 (fun _ => 0)) 3629 2) 3630 0) 3631 0) 3630 0) 3631 0))] rfl ?_
                refine V_istore 229 B (lv2 := [(5, .int 0), (4, .int 2), (9, .int 2), (8, .int 0), (7, .int 0), (6, .int 0), (0, .ref h0), (1, .int 0), (2, .int 2), (3, .int 0)]) dX12_cheapest_229 (by decide) rfl ?_
                refine V_iload 231 B dX12_cheapest_231 3 rfl ?_
                refine V_csi 233 B (st := []) (As := [.int 0]) (fun sz => mX12_simpleStroke_2 l D Y  sz) glS_RX12_181 ⟨rfl, rfl⟩ ⟨(Nat.le_of_ble_eq_true rfl), (Nat.le_of_ble_eq_true rfl)⟩ ⟨(Nat.le_of_ble_eq_true rfl), (Nat.le_of_ble_eq_true rfl)⟩ [] rfl rfl (Nat.le_of_ble_eq_true rfl) rfl (fun _ _ _ => rfl) dX12_cheapest_233 (fun r28 u28 w28 => ?_)
                obtain rfl := w28
                refine V_ws [(h0, oC 13 [.ref h1, .ref g0, .int 0, .ref g1, .ref g2, .int 0, .int 0, .int 0, .int (-1), .int 0, .int 0, .int 0, .long 0, .ref g3, .ref g4, .int 0, .int 0]), (h1, aI Y 3640 (upd (upd (upd (upd (upd (clB 0 (fun _ => 0)) 3629 2) 3630 0) 3631 0) 3630 0) 3631 0))] rfl ?_
                refine V_istore 236 B (lv2 := [(6, .int 0), (5, .int 0), (4, .int 2), (9, .int 2), (8, .int 0), (7, .int 0), (0, .ref h0), (1, .int 0), (2, .int 2), (3, .int 0)]) dX12_cheapest_236 (by decide) rfl ?_
                refine V_iinc 238 B (v := 1) (lv2 := [(8, .int 1), (6, .int 0), (5, .int 0), (4, .int 2), (9, .int 2), (7, .int 0), (0, .ref h0), (1, .int 0), (2, .int 2), (3, .int 0)]) dX12_cheapest_238 4 rfl (by decide +kernel) (by decide) rfl ?_
                refine V_goto 241 B 149 dX12_cheapest_241 (by decide) ?_
                refine V_ws [(h0, oC 13 [.ref h1, .ref g0, .int 0, .ref g1, .ref g2, .int 0, .int 0, .int 0, .int (-1), .int 0, .int 0, .int 0, .long 0, .ref g3, .ref g4, .int 0, .int 0]), (h1, aI Y 3640 (upd (upd (upd (clB 0 (fun _ => 0)) 3629 2) 3630 (pick (pickf 0 (fun j => simF (nI j)) 0) (simF (nI 0)) (0 + 1))) 3631 (pickf (pick 0 281 0) (fun j => simF (nI j)) (0 + 1))))] (by rw [upd4 (by decide), show (pick (pickf 0 (fun j => simF (nI j)) 0) (simF (nI 0)) (0 + 1)) = 0 from sim0, show (pickf (pick 0 281 0) (fun j => simF (nI j)) (0 + 1)) = 0 from sim0]) ?_
                refine V_lv [(8, .int (nI (0 + 1))), (7, .int (nI 0)), (6, .int 0), (5, .int 0), (4, .int (pick 1000000 2 (130 * 0 + (0 + 1)))), (0, .ref h0), (1, .int 0), (2, .int 2), (3, .int 0)] [0, 5, 1, 2, 3, 6, 7, 8, 9] rfl ?_
                exact IHB () trivial
              ·
                refine V_lv [(8, .int (nI iB)), (7, .int (nI iA)), (6, .int 0), (5, .int 0), (4, .int 2), (0, .ref h0), (1, .int 0), (2, .int 2), (3, .int 0)] [0, 1, 2, 3, 4, 5, 6, 7, 8] (by rw [show (pick 1000000 2 (130 * iA + iB)) = 2 from pick_pos k22]; rfl) ?_
                refine V_aload_n 166 B dX12_cheapest_166 5 rfl ?_
                refine V_get 167 B gf_RX12_9 0 rfl rfl dX12_cheapest_167 ?_
                refine V_sipush 170 B (v := 3630) dX12_cheapest_170 (by decide +kernel) ?_
                refine V_iload 173 B dX12_cheapest_173 1 rfl ?_
                refine V_csi 175 B (st := [.int 3630, .ref h1]) (As := [.int (nI iA)]) (fun sz => mX12_simpleStroke_simF l D Y ((nI iA)) sz) glS_RX12_181 ⟨rfl, rfl⟩ ⟨(Nat.le_of_ble_eq_true rfl), (Nat.le_of_ble_eq_true rfl)⟩ ⟨(Nat.le_of_ble_eq_true rfl), (Nat.le_of_ble_eq_true rfl)⟩ [] rfl rfl (Nat.le_of_ble_eq_true rfl) rfl (fun _ _ _ => rfl) dX12_cheapest_175 (fun r29 u29 w29 => ?_)
                obtain rfl := w29
                refine V_ws [(h0, oC 13 [.ref h1, .ref g0, .int 0, .ref g1, .ref g2, .int 0, .int 0, .int 0, .int (-1), .int 0, .int 0, .int 0, .long 0, .ref g3, .ref g4, .int 0, .int 0]), (h1, aI Y 3640 (upd (upd (upd (clB 0 (fun _ => 0)) 3629 2) 3630 (pick (pickf 0 (fun j => simF (nI j)) iA) (simF (nI iA)) iB)) 3631 (pickf (pick 0 281 iA) (fun j => simF (nI j)) iB)))] rfl ?_
                refine V_iast 178 B 1 rfl (vpin _ _ (by decide +kernel)) dX12_cheapest_178 [(h0, oC 13 [.ref h1, .ref g0, .int 0, .ref g1, .ref g2, .int 0, .int 0, .int 0, .int (-1), .int 0, .int 0, .int 0, .long 0, .ref g3, .ref g4, .int 0, .int 0]), (h1, aI Y 3640 (upd (upd (upd (upd (clB 0 (fun _ => 0)) 3629 2) 3630 (pick (pickf 0 (fun j => simF (nI j)) iA) (simF (nI iA)) iB)) 3631 (pickf (pick 0 281 iA) (fun j => simF (nI j)) iB)) 3630 (simF (nI iA))))] rfl ?_
                refine V_aload_n 179 B dX12_cheapest_179 5 rfl ?_
                refine V_get 180 B gf_RX12_9 0 rfl rfl dX12_cheapest_180 ?_
                refine V_sipush 183 B (v := 3631) dX12_cheapest_183 (by decide +kernel) ?_
                refine V_iload 186 B dX12_cheapest_186 0 rfl ?_
                refine V_csi 188 B (st := [.int 3631, .ref h1]) (As := [.int (nI iB)]) (fun sz => mX12_simpleStroke_simF l D Y ((nI iB)) sz) glS_RX12_181 ⟨rfl, rfl⟩ ⟨(Nat.le_of_ble_eq_true rfl), (Nat.le_of_ble_eq_true rfl)⟩ ⟨(Nat.le_of_ble_eq_true rfl), (Nat.le_of_ble_eq_true rfl)⟩ [] rfl rfl (Nat.le_of_ble_eq_true rfl) rfl (fun _ _ _ => rfl) dX12_cheapest_188 (fun r30 u30 w30 => ?_)
                obtain rfl := w30
                refine V_ws [(h0, oC 13 [.ref h1, .ref g0, .int 0, .ref g1, .ref g2, .int 0, .int 0, .int 0, .int (-1), .int 0, .int 0, .int 0, .long 0, .ref g3, .ref g4, .int 0, .int 0]), (h1, aI Y 3640 (upd (upd (upd (upd (clB 0 (fun _ => 0)) 3629 2) 3630 (pick (pickf 0 (fun j => simF (nI j)) iA) (simF (nI iA)) iB)) 3631 (pickf (pick 0 281 iA) (fun j => simF (nI j)) iB)) 3630 (simF (nI iA))))] rfl ?_
                refine V_iast 191 B 1 rfl (vpin _ _ (by decide +kernel)) dX12_cheapest_191 [(h0, oC 13 [.ref h1, .ref g0, .int 0, .ref g1, .ref g2, .int 0, .int 0, .int 0, .int (-1), .int 0, .int 0, .int 0, .long 0, .ref g3, .ref g4, .int 0, .int 0]), (h1, aI Y 3640 (upd (upd (upd (upd (upd (clB 0 (fun _ => 0)) 3629 2) 3630 (pick (pickf 0 (fun j => simF (nI j)) iA) (simF (nI iA)) iB)) 3631 (pickf (pick 0 281 iA) (fun j => simF (nI j)) iB)) 3630 (simF (nI iA))) 3631 (simF (nI iB))))] rfl ?_
                refine V_aload_n 192 B dX12_cheapest_192 5 rfl ?_
                refine V_sipush 193 B (v := 3629) dX12_cheapest_193 (by decide +kernel) ?_
                refine V_cvi 196 B (st := []) (As := [.int 3629]) (fun sz => mX12_costOf_s19 l D Y (h0) (h1) (g0) (g1) (g2) (g3) (g4) ((pick (pickf 0 (fun j => simF (nI j)) iA) (simF (nI iA)) iB)) ((pickf (pick 0 281 iA) (fun j => simF (nI j)) iB)) ((simF (nI iA))) ((simF (nI iB))) ((h5_sim hiA)) ((h5_sim hiB)) sz) glV_RX12_76 ⟨rfl, rfl⟩ ⟨(Nat.le_of_ble_eq_true rfl), (Nat.le_of_ble_eq_true rfl)⟩ ⟨(Nat.le_of_ble_eq_true rfl), (Nat.le_of_ble_eq_true rfl)⟩ [0, 0] rfl 13 0 rfl rfl rfl rfl (Nat.le_of_ble_eq_true rfl) rfl (fun _ _ _ => rfl) dX12_cheapest_196 (fun r31 u31 w31 => ?_)
                obtain rfl := w31
                refine V_ws [(h0, oC 13 [.ref h1, .ref g0, .int 0, .ref g1, .ref g2, .int 0, .int 0, .int 0, .int (-1), .int 0, .int 0, .int 0, .long 0, .ref g3, .ref g4, .int 0, .int 0]), (h1, aI Y 3640 (upd (upd (upd (upd (upd (clB 0 (fun _ => 0)) 3629 2) 3630 (pick (pickf 0 (fun j => simF (nI j)) iA) (simF (nI iA)) iB)) 3631 (pickf (pick 0 281 iA) (fun j => simF (nI j)) iB)) 3630 (simF (nI iA))) 3631 (simF (nI iB))))] rfl ?_
                refine V_istore 199 B (lv2 := [(9, .int ((scoF (simF (nI iA))) + (scoF (simF (nI iB))))), (8, .int (nI iB)), (7, .int (nI iA)), (6, .int 0), (5, .int 0), (4, .int 2), (0, .ref h0), (1, .int 0), (2, .int 2), (3, .int 0)]) dX12_cheapest_199 (by decide) rfl ?_
                refine V_iload 201 B dX12_cheapest_201 0 rfl ?_
                refine V_iload 203 B dX12_cheapest_203 5 rfl ?_
                refine V_icmp_ge_t 205 B 238 dX12_cheapest_205 (by decide) (q_ge (sco2 hiA hiB) (by decide +kernel)) ?_
                refine V_iinc 238 B (v := (nI (iB + 1))) (lv2 := [(8, .int (nI (iB + 1))), (9, .int ((scoF (simF (nI iA))) + (scoF (simF (nI iB))))), (7, .int (nI iA)), (6, .int 0), (5, .int 0), (4, .int 2), (0, .ref h0), (1, .int 0), (2, .int 2), (3, .int 0)]) dX12_cheapest_238 1 rfl (nI_1 _) (by decide) rfl ?_
                refine V_goto 241 B 149 dX12_cheapest_241 (by decide) ?_
                refine V_ws [(h0, oC 13 [.ref h1, .ref g0, .int 0, .ref g1, .ref g2, .int 0, .int 0, .int 0, .int (-1), .int 0, .int 0, .int 0, .long 0, .ref g3, .ref g4, .int 0, .int 0]), (h1, aI Y 3640 (upd (upd (upd (clB 0 (fun _ => 0)) 3629 2) 3630 (pick (pickf 0 (fun j => simF (nI j)) iA) (simF (nI iA)) (iB + 1))) 3631 (pickf (pick 0 281 iA) (fun j => simF (nI j)) (iB + 1))))] (by rw [upd4 (by decide), show (pick (pickf 0 (fun j => simF (nI j)) iA) (simF (nI iA)) (iB + 1)) = simF (nI iA) from rfl, show (pickf (pick 0 281 iA) (fun j => simF (nI j)) (iB + 1)) = simF (nI iB) from rfl]) ?_
                refine V_lv [(8, .int (nI (iB + 1))), (7, .int (nI iA)), (6, .int 0), (5, .int 0), (4, .int (pick 1000000 2 (130 * iA + (iB + 1)))), (0, .ref h0), (1, .int 0), (2, .int 2), (3, .int 0)] [0, 2, 3, 4, 5, 6, 7, 8, 9] rfl ?_
                exact IHB () trivial
            ·
              refine V_lv [(8, .int 130), (7, .int (nI iA)), (6, .int 0), (5, .int 0), (4, .int (pick 1000000 2 (130 * iA + 130))), (0, .ref h0), (1, .int 0), (2, .int 2), (3, .int 0)] [0, 1, 2, 3, 4, 5, 6, 7, 8] rfl ?_
              refine V_ws [(h0, oC 13 [.ref h1, .ref g0, .int 0, .ref g1, .ref g2, .int 0, .int 0, .int 0, .int (-1), .int 0, .int 0, .int 0, .long 0, .ref g3, .ref g4, .int 0, .int 0]), (h1, aI Y 3640 (upd (upd (upd (clB 0 (fun _ => 0)) 3629 2) 3630 (simF (nI iA))) 3631 281))] (by rw [show (pickf (pick 0 281 iA) (fun j => simF (nI j)) 130) = 281 from sim129]; rfl) ?_
              refine V_iload 149 B dX12_cheapest_149 0 rfl ?_
              refine V_iload_n 151 B dX12_cheapest_151 7 rfl ?_
              refine V_iconst 152 B (v := 1) dX12_cheapest_152 (by decide +kernel) ?_
              refine V_icmp_ne_t 153 B 160 dX12_cheapest_153 (by decide) (by decide +kernel) ?_
              refine V_sipush 160 B (v := 130) dX12_cheapest_160 (by decide +kernel) ?_
              refine V_icmp_ge_t 163 B 244 dX12_cheapest_163 (by decide) (by decide +kernel) ?_
              refine V_iinc 244 B (v := (nI (iA + 1))) (lv2 := [(7, .int (nI (iA + 1))), (8, .int 130), (6, .int 0), (5, .int 0), (4, .int (pick 1000000 2 (130 * iA + 130))), (0, .ref h0), (1, .int 0), (2, .int 2), (3, .int 0)]) dX12_cheapest_244 1 rfl (nI_1 _) (by decide) rfl ?_
              refine V_goto 247 B 138 dX12_cheapest_247 (by decide) ?_
              refine V_ws [(h0, oC 13 [.ref h1, .ref g0, .int 0, .ref g1, .ref g2, .int 0, .int 0, .int 0, .int (-1), .int 0, .int 0, .int 0, .long 0, .ref g3, .ref g4, .int 0, .int 0]), (h1, aI Y 3640 (upd (upd (upd (clB 0 (fun _ => 0)) 3629 2) 3630 (pickf 0 (fun j => simF (nI j)) (iA + 1))) 3631 (pick 0 281 (iA + 1))))] rfl ?_
              refine V_lv [(7, .int (nI (iA + 1))), (6, .int 0), (5, .int 0), (4, .int (pick 1000000 2 (130 * (iA + 1)))), (0, .ref h0), (1, .int 0), (2, .int 2), (3, .int 0)] [0, 2, 3, 4, 5, 6, 7, 8] rfl ?_
              exact IHA () trivial
          ·
            refine V_lv [(7, .int 130), (6, .int 0), (5, .int 0), (4, .int 2), (0, .ref h0), (1, .int 0), (2, .int 2), (3, .int 0)] [0, 1, 2, 3, 4, 5, 6, 7] rfl ?_
            refine V_ws [(h0, oC 13 [.ref h1, .ref g0, .int 0, .ref g1, .ref g2, .int 0, .int 0, .int 0, .int (-1), .int 0, .int 0, .int 0, .long 0, .ref g3, .ref g4, .int 0, .int 0]), (h1, aI Y 3640 (upd (upd (upd (clB 0 (fun _ => 0)) 3629 2) 3630 281) 3631 281))] (by rw [show (pickf 0 (fun j => simF (nI j)) 130) = 281 from sim129, show (pick 0 281 130) = 281 from rfl]) ?_
            refine V_iload 138 B dX12_cheapest_138 0 rfl ?_
            refine V_sipush 140 B (v := 130) dX12_cheapest_140 (by decide +kernel) ?_
            refine V_icmp_ge_t 143 B 250 dX12_cheapest_143 (by decide) (by decide +kernel) ?_
            refine V_iload 250 B dX12_cheapest_250 3 rfl ?_
            refine V_ldc 252 B (v := 1000000) dX12_cheapest_252 (mT9 29 rfl rfl) ?_
            refine V_icmp_ne_t 254 B 259 dX12_cheapest_254 (by decide) (by decide +kernel) ?_
            refine V_aload_n 259 B dX12_cheapest_259 4 rfl ?_
            refine V_get 260 B gf_RX12_9 0 rfl rfl dX12_cheapest_260 ?_
            refine V_sipush 263 B (v := 3624) dX12_cheapest_263 (by decide +kernel) ?_
            refine V_iload_n 266 B dX12_cheapest_266 6 rfl ?_
            refine V_iast 267 B 1 rfl (vpin _ _ (by decide +kernel)) dX12_cheapest_267 [(h0, oC 13 [.ref h1, .ref g0, .int 0, .ref g1, .ref g2, .int 0, .int 0, .int 0, .int (-1), .int 0, .int 0, .int 0, .long 0, .ref g3, .ref g4, .int 0, .int 0]), (h1, aI Y 3640 (upd (upd (upd (upd (clB 0 (fun _ => 0)) 3629 2) 3630 281) 3631 281) 3624 2))] rfl ?_
            refine V_aload_n 268 B dX12_cheapest_268 4 rfl ?_
            refine V_get 269 B gf_RX12_9 0 rfl rfl dX12_cheapest_269 ?_
            refine V_sipush 272 B (v := 3625) dX12_cheapest_272 (by decide +kernel) ?_
            refine V_iload 275 B dX12_cheapest_275 2 rfl ?_
            refine V_iast 277 B 1 rfl (vpin _ _ (by decide +kernel)) dX12_cheapest_277 [(h0, oC 13 [.ref h1, .ref g0, .int 0, .ref g1, .ref g2, .int 0, .int 0, .int 0, .int (-1), .int 0, .int 0, .int 0, .long 0, .ref g3, .ref g4, .int 0, .int 0]), (h1, aI Y 3640 (upd (upd (upd (upd (upd (clB 0 (fun _ => 0)) 3629 2) 3630 281) 3631 281) 3624 2) 3625 0))] rfl ?_
            refine V_aload_n 278 B dX12_cheapest_278 4 rfl ?_
            refine V_get 279 B gf_RX12_9 0 rfl rfl dX12_cheapest_279 ?_
            refine V_sipush 282 B (v := 3626) dX12_cheapest_282 (by decide +kernel) ?_
            refine V_iload 285 B dX12_cheapest_285 1 rfl ?_
            refine V_iast 287 B 1 rfl (vpin _ _ (by decide +kernel)) dX12_cheapest_287 [(h0, oC 13 [.ref h1, .ref g0, .int 0, .ref g1, .ref g2, .int 0, .int 0, .int 0, .int (-1), .int 0, .int 0, .int 0, .long 0, .ref g3, .ref g4, .int 0, .int 0]), (h1, aI Y 3640 (upd (upd (upd (upd (upd (upd (clB 0 (fun _ => 0)) 3629 2) 3630 281) 3631 281) 3624 2) 3625 0) 3626 0))] rfl ?_
            refine V_iload 288 B dX12_cheapest_288 3 rfl ?_
            exact V_iret 290 B dX12_cheapest_290 1 (Or.inr (Or.inl ⟨rfl, rfl, rfl, rfl⟩)) rfl
      ·
        refine V_ws [(h0, oC 13 [.ref h1, .ref g0, .int 0, .ref g1, .ref g2, .int 0, .int 0, .int 0, .int (-1), .int 0, .int 0, .int 0, .long 0, .ref g3, .ref g4, .int 0, .int 0]), (h1, aI Y 3640 (clB 0 (fun _ => 0)))] rfl ?_
        refine V_if_ne_f 36 B 43 dX12_cheapest_36 (by decide) (by decide +kernel) ?_
        refine V_iconst 39 B (v := 1) dX12_cheapest_39 (by decide +kernel) ?_
        refine V_goto 40 B 44 dX12_cheapest_40 (by decide) ?_
        refine V_iconst 44 B (v := 2) dX12_cheapest_44 (by decide +kernel) ?_
        refine V_cvi 45 B (st := []) (As := [.int 1, .int 2]) (fun sz => mX12_throwsIf_4 l D Y (h0) (h1) (g0) (g1) (g2) (g3) (g4) sz) glV_RX12_69 ⟨rfl, rfl⟩ ⟨(Nat.le_of_ble_eq_true rfl), (Nat.le_of_ble_eq_true rfl)⟩ ⟨(Nat.le_of_ble_eq_true rfl), (Nat.le_of_ble_eq_true rfl)⟩ [0] rfl 13 0 rfl rfl rfl rfl (Nat.le_of_ble_eq_true rfl) rfl (fun _ _ _ => rfl) dX12_cheapest_45 (fun r32 u32 w32 => ?_)
        obtain rfl := w32
        refine V_ws [(h0, oC 13 [.ref h1, .ref g0, .int 2, .ref g1, .ref g2, .int 0, .int 0, .int 0, .int (-1), .int 0, .int 0, .int 0, .long 0, .ref g3, .ref g4, .int 0, .int 0]), (h1, aI Y 3640 (clB 0 (fun _ => 0)))] rfl ?_
        refine V_if_eq_f 48 B 53 dX12_cheapest_48 (by decide) (by decide +kernel) ?_
        refine V_iconst 51 B (v := 0) dX12_cheapest_51 (by decide +kernel) ?_
        exact V_iret 52 B dX12_cheapest_52 2 (Or.inr (Or.inr (Or.inl ⟨rfl, rfl, k8, rfl⟩))) rfl
      ·
        refine V_ws [(h0, oC 13 [.ref h1, .ref g0, .int 0, .ref g1, .ref g2, .int 0, .int 0, .int 0, .int (-1), .int 0, .int 0, .int 0, .long 0, .ref g3, .ref g4, .int 0, .int 0]), (h1, aI Y 3640 (clB 0 (fun _ => 0)))] rfl ?_
        refine V_if_ne_f 36 B 43 dX12_cheapest_36 (by decide) (by decide +kernel) ?_
        refine V_iconst 39 B (v := 1) dX12_cheapest_39 (by decide +kernel) ?_
        refine V_goto 40 B 44 dX12_cheapest_40 (by decide) ?_
        refine V_iconst 44 B (v := 2) dX12_cheapest_44 (by decide +kernel) ?_
        refine V_cvi 45 B (st := []) (As := [.int 1, .int 2]) (fun sz => mX12_throwsIf_4 l D Y (h0) (h1) (g0) (g1) (g2) (g3) (g4) sz) glV_RX12_69 ⟨rfl, rfl⟩ ⟨(Nat.le_of_ble_eq_true rfl), (Nat.le_of_ble_eq_true rfl)⟩ ⟨(Nat.le_of_ble_eq_true rfl), (Nat.le_of_ble_eq_true rfl)⟩ [0] rfl 13 0 rfl rfl rfl rfl (Nat.le_of_ble_eq_true rfl) rfl (fun _ _ _ => rfl) dX12_cheapest_45 (fun r33 u33 w33 => ?_)
        obtain rfl := w33
        refine V_ws [(h0, oC 13 [.ref h1, .ref g0, .int 2, .ref g1, .ref g2, .int 0, .int 0, .int 0, .int (-1), .int 0, .int 0, .int 0, .long 0, .ref g3, .ref g4, .int 0, .int 0]), (h1, aI Y 3640 (clB 0 (fun _ => 0)))] rfl ?_
        refine V_if_eq_f 48 B 53 dX12_cheapest_48 (by decide) (by decide +kernel) ?_
        refine V_iconst 51 B (v := 0) dX12_cheapest_51 (by decide +kernel) ?_
        exact V_iret 52 B dX12_cheapest_52 3 (Or.inr (Or.inr (Or.inr (Or.inl ⟨rfl, rfl, k9, rfl⟩)))) rfl
    ·
      refine V_ws [(h0, oC 13 [.ref h1, .ref g0, .int 0, .ref g1, .ref g2, .int 0, .int 0, .int 0, .int (-1), .int 0, .int 0, .int 0, .long 0, .ref g3, .ref g4, .int 0, .int 0]), (h1, aI Y 3640 (clB 0 (fun _ => 0)))] rfl ?_
      refine V_if_ne_f 11 B 18 dX12_cheapest_11 (by decide) (by decide +kernel) ?_
      refine V_iconst 14 B (v := 1) dX12_cheapest_14 (by decide +kernel) ?_
      refine V_goto 15 B 19 dX12_cheapest_15 (by decide) ?_
      refine V_iconst 19 B (v := 1) dX12_cheapest_19 (by decide +kernel) ?_
      refine V_cvi 20 B (st := []) (As := [.int 1, .int 1]) (fun sz => mX12_throwsIf_1 l D Y (h0) (h1) (g0) (g1) (g2) (g3) (g4) sz) glV_RX12_69 ⟨rfl, rfl⟩ ⟨(Nat.le_of_ble_eq_true rfl), (Nat.le_of_ble_eq_true rfl)⟩ ⟨(Nat.le_of_ble_eq_true rfl), (Nat.le_of_ble_eq_true rfl)⟩ [0] rfl 13 0 rfl rfl rfl rfl (Nat.le_of_ble_eq_true rfl) rfl (fun _ _ _ => rfl) dX12_cheapest_20 (fun r34 u34 w34 => ?_)
      obtain rfl := w34
      refine V_ws [(h0, oC 13 [.ref h1, .ref g0, .int 1, .ref g1, .ref g2, .int 0, .int 0, .int 0, .int (-1), .int 0, .int 0, .int 0, .long 0, .ref g3, .ref g4, .int 0, .int 0]), (h1, aI Y 3640 (clB 0 (fun _ => 0)))] rfl ?_
      refine V_if_ne_t 23 B 51 dX12_cheapest_23 (by decide) (by decide +kernel) ?_
      refine V_iconst 51 B (v := 0) dX12_cheapest_51 (by decide +kernel) ?_
      exact V_iret 52 B dX12_cheapest_52 4 (Or.inr (Or.inr (Or.inr (Or.inr (Or.inl ⟨rfl, k2, rfl⟩))))) rfl
    ·
      refine V_ws [(h0, oC 13 [.ref h1, .ref g0, .int 0, .ref g1, .ref g2, .int 0, .int 0, .int 0, .int (-1), .int 0, .int 0, .int 0, .long 0, .ref g3, .ref g4, .int 0, .int 0]), (h1, aI Y 3640 (clB 0 (fun _ => 0)))] rfl ?_
      refine V_if_ne_f 11 B 18 dX12_cheapest_11 (by decide) (by decide +kernel) ?_
      refine V_iconst 14 B (v := 1) dX12_cheapest_14 (by decide +kernel) ?_
      refine V_goto 15 B 19 dX12_cheapest_15 (by decide) ?_
      refine V_iconst 19 B (v := 1) dX12_cheapest_19 (by decide +kernel) ?_
      refine V_cvi 20 B (st := []) (As := [.int 1, .int 1]) (fun sz => mX12_throwsIf_1 l D Y (h0) (h1) (g0) (g1) (g2) (g3) (g4) sz) glV_RX12_69 ⟨rfl, rfl⟩ ⟨(Nat.le_of_ble_eq_true rfl), (Nat.le_of_ble_eq_true rfl)⟩ ⟨(Nat.le_of_ble_eq_true rfl), (Nat.le_of_ble_eq_true rfl)⟩ [0] rfl 13 0 rfl rfl rfl rfl (Nat.le_of_ble_eq_true rfl) rfl (fun _ _ _ => rfl) dX12_cheapest_20 (fun r35 u35 w35 => ?_)
      obtain rfl := w35
      refine V_ws [(h0, oC 13 [.ref h1, .ref g0, .int 1, .ref g1, .ref g2, .int 0, .int 0, .int 0, .int (-1), .int 0, .int 0, .int 0, .long 0, .ref g3, .ref g4, .int 0, .int 0]), (h1, aI Y 3640 (clB 0 (fun _ => 0)))] rfl ?_
      refine V_if_ne_t 23 B 51 dX12_cheapest_23 (by decide) (by decide +kernel) ?_
      refine V_iconst 51 B (v := 0) dX12_cheapest_51 (by decide +kernel) ?_
      exact V_iret 52 B dX12_cheapest_52 5 (Or.inr (Or.inr (Or.inr (Or.inr (Or.inr ⟨rfl, k3, rfl⟩))))) rfl)
set_option maxRecDepth 100000 in
set_option maxHeartbeats 4000000 in
theorem mX12_cheapest_3 (l : Launch) (D : va_G) (Y : Nat → ClassId) (h0 : Nat) (h1 : Nat) (g0 : Nat) (g1 : Nat) (g2 : Nat) (g3 : Nat) (g4 : Nat) (p0 : Int32) (sz : Nat) : Met l yX12_cheapest (WSm yX12_cheapest cX12_cheapest 10 (some .int)) (mkR 3 0 0 70) (PreC D Y [.ref h0, .int 0, .int p0, .int 0] [(h0, oC 13 [.ref h1, .ref g0, .int 0, .ref g1, .ref g2, .int 0, .int 0, .int 0, .int (-1), .int 0, .int 0, .int 0, .long 0, .ref g3, .ref g4, .int 0, .int 0]), (h1, aI Y 3640 (clB 0 (fun _ => 0)))] sz) (QI D (fun (r : Int32) (u : Nat) => (u = 0 ∧ p0 = 1 ∧ 1 = r) ∨ (u = 1 ∧ p0 = 2 ∧ 2 = r) ∨ (u = 2 ∧ p0 < 1 ∧ 0 = r) ∨ (u = 3 ∧ 2 < p0 ∧ 0 = r)) (fun (u : Nat) => match u with | 0 => [(h0, oC 13 [.ref h1, .ref g0, .int 0, .ref g1, .ref g2, .int 0, .int 0, .int 0, .int (-1), .int 0, .int 0, .int 0, .long 0, .ref g3, .ref g4, .int 0, .int 0]), (h1, aI Y 3640 (upd (upd (upd (upd (upd (upd (clB 0 (fun _ => 0)) 3629 1) 3630 281) 3631 0) 3624 1) 3625 0) 3626 0))] | 1 => [(h0, oC 13 [.ref h1, .ref g0, .int 0, .ref g1, .ref g2, .int 0, .int 0, .int 0, .int (-1), .int 0, .int 0, .int 0, .long 0, .ref g3, .ref g4, .int 0, .int 0]), (h1, aI Y 3640 (upd (upd (upd (upd (upd (upd (clB 0 (fun _ => 0)) 3629 2) 3630 281) 3631 281) 3624 2) 3625 0) 3626 0))] | 2 => [(h0, oC 13 [.ref h1, .ref g0, .int 2, .ref g1, .ref g2, .int 0, .int 0, .int 0, .int (-1), .int 0, .int 0, .int 0, .long 0, .ref g3, .ref g4, .int 0, .int 0]), (h1, aI Y 3640 (clB 0 (fun _ => 0)))] | _ => [(h0, oC 13 [.ref h1, .ref g0, .int 2, .ref g1, .ref g2, .int 0, .int 0, .int 0, .int (-1), .int 0, .int 0, .int 0, .long 0, .ref g3, .ref g4, .int 0, .int 0]), (h1, aI Y 3640 (clB 0 (fun _ => 0)))]) (va_A [(h0, oC 13 [.ref h1, .ref g0, .int 0, .ref g1, .ref g2, .int 0, .int 0, .int 0, .int (-1), .int 0, .int 0, .int 0, .long 0, .ref g3, .ref g4, .int 0, .int 0]), (h1, aI Y 3640 (clB 0 (fun _ => 0)))] sz)) 0 0 (va_A [(h0, oC 13 [.ref h1, .ref g0, .int 0, .ref g1, .ref g2, .int 0, .int 0, .int 0, .int (-1), .int 0, .int 0, .int 0, .long 0, .ref g3, .ref g4, .int 0, .int 0]), (h1, aI Y 3640 (clB 0 (fun _ => 0)))] sz) :=
  met_of (by decide +kernel) (Nat.le_of_ble_eq_true rfl) (fun p e s m args below meth c B hin hsz => by
    have B : VB p s m args meth c D Y (va_A [(h0, oC 13 [.ref h1, .ref g0, .int 0, .ref g1, .ref g2, .int 0, .int 0, .int 0, .int (-1), .int 0, .int 0, .int 0, .long 0, .ref g3, .ref g4, .int 0, .int 0]), (h1, aI Y 3640 (clB 0 (fun _ => 0)))] sz) cX12_cheapest 10 RX12 (some .int) := B
    refine V_aload_n 0 B dX12_cheapest_0 0 rfl ?_
    refine V_iconst 1 B (v := 0) dX12_cheapest_1 (by decide +kernel) ?_
    refine V_put 2 B gp_RX12_38 0 rfl (Nat.le_of_ble_eq_true rfl) rfl rfl dX12_cheapest_2 [(h0, oC 13 [.ref h1, .ref g0, .int 0, .ref g1, .ref g2, .int 0, .int 0, .int 0, .int (-1), .int 0, .int 0, .int 0, .long 0, .ref g3, .ref g4, .int 0, .int 0]), (h1, aI Y 3640 (clB 0 (fun _ => 0)))] rfl ?_
    refine V_aload_n 5 B dX12_cheapest_5 0 rfl ?_
    refine V_aload_n 6 B dX12_cheapest_6 0 rfl ?_
    refine V_iload_n 7 B dX12_cheapest_7 1 rfl ?_
    refine V_cvi 8 B (st := [.ref h0]) (As := [.int 0]) (fun sz => mX12_isMode_2 l D Y (h0) (h1) (g0) (g1) (g2) (g3) (g4) sz) glV_RX12_91 ⟨rfl, rfl⟩ ⟨(Nat.le_of_ble_eq_true rfl), (Nat.le_of_ble_eq_true rfl)⟩ ⟨(Nat.le_of_ble_eq_true rfl), (Nat.le_of_ble_eq_true rfl)⟩ [0, 0] rfl 13 0 rfl rfl rfl rfl (Nat.le_of_ble_eq_true rfl) rfl (fun _ _ _ => rfl) dX12_cheapest_8 (fun r0 u0 w0 => ?_)
    obtain rfl := w0
    refine V_ws [(h0, oC 13 [.ref h1, .ref g0, .int 0, .ref g1, .ref g2, .int 0, .int 0, .int 0, .int (-1), .int 0, .int 0, .int 0, .long 0, .ref g3, .ref g4, .int 0, .int 0]), (h1, aI Y 3640 (clB 0 (fun _ => 0)))] rfl ?_
    refine V_if_ne_t 11 B 18 dX12_cheapest_11 (by decide) (by decide +kernel) ?_
    refine V_iconst 18 B (v := 0) dX12_cheapest_18 (by decide +kernel) ?_
    refine V_iconst 19 B (v := 1) dX12_cheapest_19 (by decide +kernel) ?_
    refine V_cvi 20 B (st := []) (As := [.int 0, .int 1]) (fun sz => mX12_throwsIf_2 l D Y (h0) (h1) (g0) (g1) (g2) (g3) (g4) sz) glV_RX12_69 ⟨rfl, rfl⟩ ⟨(Nat.le_of_ble_eq_true rfl), (Nat.le_of_ble_eq_true rfl)⟩ ⟨(Nat.le_of_ble_eq_true rfl), (Nat.le_of_ble_eq_true rfl)⟩ [0] rfl 13 0 rfl rfl rfl rfl (Nat.le_of_ble_eq_true rfl) rfl (fun _ _ _ => rfl) dX12_cheapest_20 (fun r1 u1 w1 => ?_)
    obtain rfl := w1
    refine V_ws [(h0, oC 13 [.ref h1, .ref g0, .int 0, .ref g1, .ref g2, .int 0, .int 0, .int 0, .int (-1), .int 0, .int 0, .int 0, .long 0, .ref g3, .ref g4, .int 0, .int 0]), (h1, aI Y 3640 (clB 0 (fun _ => 0)))] rfl ?_
    refine V_if_ne_f 23 B 51 dX12_cheapest_23 (by decide) (by decide +kernel) ?_
    refine V_aload_n 26 B dX12_cheapest_26 0 rfl ?_
    refine V_iload_n 27 B dX12_cheapest_27 2 rfl ?_
    refine V_i2l 28 B dX12_cheapest_28 rfl ?_
    refine V_lconst 29 B (v := 1) dX12_cheapest_29 (by decide +kernel) ?_
    refine V_ldc2 30 B (v := 2) dX12_cheapest_30 (mT8 45 rfl rfl) ?_
    refine V_csi 33 B (st := [.ref h0]) (As := [.long p0.toInt64, .long 1, .long 2]) (fun sz => mX12_inRange_m l D Y (p0) (1) (2) (1) (2) (by decide +kernel) (by decide +kernel) sz) glS_RX12_41 ⟨rfl, rfl⟩ ⟨(Nat.le_of_ble_eq_true rfl), (Nat.le_of_ble_eq_true rfl)⟩ ⟨(Nat.le_of_ble_eq_true rfl), (Nat.le_of_ble_eq_true rfl)⟩ [] rfl rfl (Nat.le_of_ble_eq_true rfl) rfl (fun _ _ _ => rfl) dX12_cheapest_33 (fun r2 u2 w2 => ?_)
    rcases w2 with ⟨k3, k4, rfl⟩ | ⟨k5, rfl⟩ | ⟨k6, rfl⟩
    ·
      refine V_ws [(h0, oC 13 [.ref h1, .ref g0, .int 0, .ref g1, .ref g2, .int 0, .int 0, .int 0, .int (-1), .int 0, .int 0, .int 0, .long 0, .ref g3, .ref g4, .int 0, .int 0]), (h1, aI Y 3640 (clB 0 (fun _ => 0)))] rfl ?_
      refine V_if_ne_t 36 B 43 dX12_cheapest_36 (by decide) (by decide +kernel) ?_
      refine V_iconst 43 B (v := 0) dX12_cheapest_43 (by decide +kernel) ?_
      refine V_iconst 44 B (v := 2) dX12_cheapest_44 (by decide +kernel) ?_
      refine V_cvi 45 B (st := []) (As := [.int 0, .int 2]) (fun sz => mX12_throwsIf_3 l D Y (h0) (h1) (g0) (g1) (g2) (g3) (g4) sz) glV_RX12_69 ⟨rfl, rfl⟩ ⟨(Nat.le_of_ble_eq_true rfl), (Nat.le_of_ble_eq_true rfl)⟩ ⟨(Nat.le_of_ble_eq_true rfl), (Nat.le_of_ble_eq_true rfl)⟩ [0] rfl 13 0 rfl rfl rfl rfl (Nat.le_of_ble_eq_true rfl) rfl (fun _ _ _ => rfl) dX12_cheapest_45 (fun r7 u7 w7 => ?_)
      obtain rfl := w7
      refine V_ws [(h0, oC 13 [.ref h1, .ref g0, .int 0, .ref g1, .ref g2, .int 0, .int 0, .int 0, .int (-1), .int 0, .int 0, .int 0, .long 0, .ref g3, .ref g4, .int 0, .int 0]), (h1, aI Y 3640 (clB 0 (fun _ => 0)))] rfl ?_
      refine V_if_eq_t 48 B 53 dX12_cheapest_48 (by decide) (by decide +kernel) ?_
      refine V_iconst 53 B (v := 0) dX12_cheapest_53 (by decide +kernel) ?_
      refine V_istore 54 B (lv2 := [(4, .int 0), (0, .ref h0), (1, .int 0), (2, .int p0), (3, .int 0)]) dX12_cheapest_54 (by decide) rfl ?_
      refine V_iload 56 B dX12_cheapest_56 0 rfl ?_
      refine V_aload_n 58 B dX12_cheapest_58 1 rfl ?_
      refine V_get 59 B gf_RX12_9 0 rfl rfl dX12_cheapest_59 ?_
      refine V_iconst 62 B (v := 3) dX12_cheapest_62 (by decide +kernel) ?_
      refine V_iald 63 B (v := 0) 1 rfl (vpin _ _ (by decide +kernel)) dX12_cheapest_63 rfl ?_
      refine V_icmp_ge_t 64 B 116 dX12_cheapest_64 (by decide) (by decide +kernel) ?_
      by_cases k8 : p0 = 1
      ·
        obtain rfl : p0 = 1 := k8
        refine V_ldc 116 B (v := 1000000) dX12_cheapest_116 (mT9 29 rfl rfl) ?_
        refine V_istore 118 B (lv2 := [(4, .int 1000000), (0, .ref h0), (1, .int 0), (2, .int 1), (3, .int 0)]) dX12_cheapest_118 (by decide) rfl ?_
        refine V_iconst 120 B (v := 0) dX12_cheapest_120 (by decide +kernel) ?_
        refine V_istore 121 B (lv2 := [(5, .int 0), (4, .int 1000000), (0, .ref h0), (1, .int 0), (2, .int 1), (3, .int 0)]) dX12_cheapest_121 (by decide) rfl ?_
        refine V_iconst 123 B (v := 0) dX12_cheapest_123 (by decide +kernel) ?_
        refine V_istore 124 B (lv2 := [(6, .int 0), (5, .int 0), (4, .int 1000000), (0, .ref h0), (1, .int 0), (2, .int 1), (3, .int 0)]) dX12_cheapest_124 (by decide) rfl ?_
        refine V_aload_n 126 B dX12_cheapest_126 3 rfl ?_
        refine V_get 127 B gf_RX12_9 0 rfl rfl dX12_cheapest_127 ?_
        refine V_sipush 130 B (v := 3629) dX12_cheapest_130 (by decide +kernel) ?_
        refine V_iload_n 133 B dX12_cheapest_133 5 rfl ?_
        refine V_iast 134 B 1 rfl (vpin _ _ (by decide +kernel)) dX12_cheapest_134 [(h0, oC 13 [.ref h1, .ref g0, .int 0, .ref g1, .ref g2, .int 0, .int 0, .int 0, .int (-1), .int 0, .int 0, .int 0, .long 0, .ref g3, .ref g4, .int 0, .int 0]), (h1, aI Y 3640 (upd (clB 0 (fun _ => 0)) 3629 1))] rfl ?_
        refine V_iconst 135 B (v := 0) dX12_cheapest_135 (by decide +kernel) ?_
        refine V_istore 136 B (lv2 := [(7, .int 0), (6, .int 0), (5, .int 0), (4, .int 1000000), (0, .ref h0), (1, .int 0), (2, .int 1), (3, .int 0)]) dX12_cheapest_136 (by decide) rfl ?_
        refine V_loop (α := Unit) 130 (fun _ _ => True) (fun iA _ => [(7, .int (nI iA)), (6, .int 0), (5, .int 0), (4, .int (pick 1000000 1 iA)), (0, .ref h0), (1, .int 0), (2, .int 1), (3, .int 0)]) (fun iA _ => [(h0, oC 13 [.ref h1, .ref g0, .int 0, .ref g1, .ref g2, .int 0, .int 0, .int 0, .int (-1), .int 0, .int 0, .int 0, .long 0, .ref g3, .ref g4, .int 0, .int 0]), (h1, aI Y 3640 (upd (upd (upd (clB 0 (fun _ => 0)) 3629 1) 3630 (pickf 0 (fun j => simF (nI j)) iA)) 3631 0))]) () trivial rfl (by rw [show upd (upd (upd (clB 0 (fun _ => 0)) 3629 1) 3630 (pickf 0 (fun j => simF (nI j)) 0)) 3631 0 = (upd (clB 0 (fun _ => 0)) 3629 1) from (congrArg (fun g => upd g 3631 0) (upd_same (f := (upd (clB 0 (fun _ => 0)) 3629 1)) (k := 3630) (x := (pickf 0 (fun j => simF (nI j)) 0)) (by decide +kernel))).trans (upd_same (by decide +kernel))]) (fun iA _ hiA _ IHA => ?_) (fun _ _ => ?_)
        ·
          refine V_lv [(7, .int (nI iA)), (6, .int 0), (5, .int 0), (4, .int (pick 1000000 1 iA)), (0, .ref h0), (1, .int 0), (2, .int 1), (3, .int 0)] [0, 1, 2, 3, 4, 5, 6, 7] rfl ?_
          refine V_ws [(h0, oC 13 [.ref h1, .ref g0, .int 0, .ref g1, .ref g2, .int 0, .int 0, .int 0, .int (-1), .int 0, .int 0, .int 0, .long 0, .ref g3, .ref g4, .int 0, .int 0]), (h1, aI Y 3640 (upd (upd (upd (clB 0 (fun _ => 0)) 3629 1) 3630 (pickf 0 (fun j => simF (nI j)) iA)) 3631 0))] rfl ?_
          refine V_iload 138 B dX12_cheapest_138 0 rfl ?_
          refine V_sipush 140 B (v := 130) dX12_cheapest_140 (by decide +kernel) ?_
          refine V_icmp_ge_f 143 B 250 dX12_cheapest_143 (by decide) (q_nge (nI_hi hiA (by decide) (k := 129) (by decide +kernel)) (by decide +kernel)) ?_
          by_cases k9 : iA = 0
          ·
            obtain rfl : iA = 0 := by omega
            refine V_lv [(7, .int 0), (6, .int 0), (5, .int 0), (4, .int 1000000), (0, .ref h0), (1, .int 0), (2, .int 1), (3, .int 0)] [0, 1, 2, 3, 4, 5, 6, 7] rfl ?_
            refine V_ws [(h0, oC 13 [.ref h1, .ref g0, .int 0, .ref g1, .ref g2, .int 0, .int 0, .int 0, .int (-1), .int 0, .int 0, .int 0, .long 0, .ref g3, .ref g4, .int 0, .int 0]), (h1, aI Y 3640 (upd (upd (upd (clB 0 (fun _ => 0)) 3629 1) 3630 0) 3631 0))] rfl ?_
            refine V_iconst 146 B (v := 0) dX12_cheapest_146 (by decide +kernel) ?_
            refine V_istore 147 B (lv2 := [(8, .int 0), (7, .int 0), (6, .int 0), (5, .int 0), (4, .int 1000000), (0, .ref h0), (1, .int 0), (2, .int 1), (3, .int 0)]) dX12_cheapest_147 (by decide) rfl ?_
            refine V_iload 149 B dX12_cheapest_149 0 rfl ?_
            refine V_iload_n 151 B dX12_cheapest_151 7 rfl ?_
            refine V_iconst 152 B (v := 1) dX12_cheapest_152 (by decide +kernel) ?_
            refine V_icmp_ne_f 153 B 160 dX12_cheapest_153 (by decide) (by decide +kernel) ?_
            refine V_iconst 156 B (v := 1) dX12_cheapest_156 (by decide +kernel) ?_
            refine V_goto 157 B 163 dX12_cheapest_157 (by decide) ?_
            refine V_icmp_ge_f 163 B 244 dX12_cheapest_163 (by decide) (by decide +kernel) ?_
            refine V_aload_n 166 B dX12_cheapest_166 5 rfl ?_
            refine V_get 167 B gf_RX12_9 0 rfl rfl dX12_cheapest_167 ?_
            refine V_sipush 170 B (v := 3630) dX12_cheapest_170 (by decide +kernel) ?_
            refine V_iload 173 B dX12_cheapest_173 1 rfl ?_
            refine V_csi 175 B (st := [.int 3630, .ref h1]) (As := [.int 0]) (fun sz => mX12_simpleStroke_2 l D Y  sz) glS_RX12_181 ⟨rfl, rfl⟩ ⟨(Nat.le_of_ble_eq_true rfl), (Nat.le_of_ble_eq_true rfl)⟩ ⟨(Nat.le_of_ble_eq_true rfl), (Nat.le_of_ble_eq_true rfl)⟩ [] rfl rfl (Nat.le_of_ble_eq_true rfl) rfl (fun _ _ _ => rfl) dX12_cheapest_175 (fun r10 u10 w10 => ?_)
            obtain rfl := w10
            refine V_ws [(h0, oC 13 [.ref h1, .ref g0, .int 0, .ref g1, .ref g2, .int 0, .int 0, .int 0, .int (-1), .int 0, .int 0, .int 0, .long 0, .ref g3, .ref g4, .int 0, .int 0]), (h1, aI Y 3640 (upd (upd (upd (clB 0 (fun _ => 0)) 3629 1) 3630 0) 3631 0))] rfl ?_
            refine V_iast 178 B 1 rfl (vpin _ _ (by decide +kernel)) dX12_cheapest_178 [(h0, oC 13 [.ref h1, .ref g0, .int 0, .ref g1, .ref g2, .int 0, .int 0, .int 0, .int (-1), .int 0, .int 0, .int 0, .long 0, .ref g3, .ref g4, .int 0, .int 0]), (h1, aI Y 3640 (upd (upd (upd (upd (clB 0 (fun _ => 0)) 3629 1) 3630 0) 3631 0) 3630 0))] rfl ?_
            refine V_aload_n 179 B dX12_cheapest_179 5 rfl ?_
            refine V_get 180 B gf_RX12_9 0 rfl rfl dX12_cheapest_180 ?_
            refine V_sipush 183 B (v := 3631) dX12_cheapest_183 (by decide +kernel) ?_
            refine V_iload 186 B dX12_cheapest_186 0 rfl ?_
            refine V_csi 188 B (st := [.int 3631, .ref h1]) (As := [.int 0]) (fun sz => mX12_simpleStroke_2 l D Y  sz) glS_RX12_181 ⟨rfl, rfl⟩ ⟨(Nat.le_of_ble_eq_true rfl), (Nat.le_of_ble_eq_true rfl)⟩ ⟨(Nat.le_of_ble_eq_true rfl), (Nat.le_of_ble_eq_true rfl)⟩ [] rfl rfl (Nat.le_of_ble_eq_true rfl) rfl (fun _ _ _ => rfl) dX12_cheapest_188 (fun r11 u11 w11 => ?_)
            obtain rfl := w11
            refine V_ws [(h0, oC 13 [.ref h1, .ref g0, .int 0, .ref g1, .ref g2, .int 0, .int 0, .int 0, .int (-1), .int 0, .int 0, .int 0, .long 0, .ref g3, .ref g4, .int 0, .int 0]), (h1, aI Y 3640 (upd (upd (upd (upd (clB 0 (fun _ => 0)) 3629 1) 3630 0) 3631 0) 3630 0))] rfl ?_
            refine V_iast 191 B 1 rfl (vpin _ _ (by decide +kernel)) dX12_cheapest_191 [(h0, oC 13 [.ref h1, .ref g0, .int 0, .ref g1, .ref g2, .int 0, .int 0, .int 0, .int (-1), .int 0, .int 0, .int 0, .long 0, .ref g3, .ref g4, .int 0, .int 0]), (h1, aI Y 3640 (upd (upd (upd (upd (upd (clB 0 (fun _ => 0)) 3629 1) 3630 0) 3631 0) 3630 0) 3631 0))] rfl ?_
            refine V_aload_n 192 B dX12_cheapest_192 5 rfl ?_
            refine V_sipush 193 B (v := 3629) dX12_cheapest_193 (by decide +kernel) ?_
            refine V_cvi 196 B (st := []) (As := [.int 3629]) (fun sz => mX12_costOf_2 l D Y (h0) (h1) (g0) (g1) (g2) (g3) (g4) sz) glV_RX12_76 ⟨rfl, rfl⟩ ⟨(Nat.le_of_ble_eq_true rfl), (Nat.le_of_ble_eq_true rfl)⟩ ⟨(Nat.le_of_ble_eq_true rfl), (Nat.le_of_ble_eq_true rfl)⟩ [0, 0] rfl 13 0 rfl rfl rfl rfl (Nat.le_of_ble_eq_true rfl) rfl (fun _ _ _ => rfl) dX12_cheapest_196 (fun r12 u12 w12 => ?_)
            obtain rfl := w12
            refine V_ws [(h0, oC 13 [.ref h1, .ref g0, .int 0, .ref g1, .ref g2, .int 0, .int 0, .int 0, .int (-1), .int 0, .int 0, .int 0, .long 0, .ref g3, .ref g4, .int 0, .int 0]), (h1, aI Y 3640 (upd (upd (upd (upd (upd (clB 0 (fun _ => 0)) 3629 1) 3630 0) 3631 0) 3630 0) 3631 0))] rfl ?_
            refine V_istore 199 B (lv2 := [(9, .int 1), (8, .int 0), (7, .int 0), (6, .int 0), (5, .int 0), (4, .int 1000000), (0, .ref h0), (1, .int 0), (2, .int 1), (3, .int 0)]) dX12_cheapest_199 (by decide) rfl ?_
            refine V_iload 201 B dX12_cheapest_201 0 rfl ?_
            refine V_iload 203 B dX12_cheapest_203 5 rfl ?_
            refine V_icmp_ge_f 205 B 238 dX12_cheapest_205 (by decide) (by decide +kernel) ?_
            refine V_aload_n 208 B dX12_cheapest_208 6 rfl ?_
            refine V_iload_n 209 B dX12_cheapest_209 7 rfl ?_
            refine V_iload_n 210 B dX12_cheapest_210 9 rfl ?_
            refine V_cvi 211 B (st := []) (As := [.int 0, .int 0]) (fun sz => mX12_isFreeHere_3 l D Y (h0) (h1) (g0) (g1) (g2) (g3) (g4) sz) glV_RX12_185 ⟨rfl, rfl⟩ ⟨(Nat.le_of_ble_eq_true rfl), (Nat.le_of_ble_eq_true rfl)⟩ ⟨(Nat.le_of_ble_eq_true rfl), (Nat.le_of_ble_eq_true rfl)⟩ [0, 0] rfl 13 0 rfl rfl rfl rfl (Nat.le_of_ble_eq_true rfl) rfl (fun _ _ _ => rfl) dX12_cheapest_211 (fun r13 u13 w13 => ?_)
            obtain rfl := w13
            refine V_ws [(h0, oC 13 [.ref h1, .ref g0, .int 0, .ref g1, .ref g2, .int 0, .int 0, .int 0, .int (-1), .int 0, .int 0, .int 0, .long 0, .ref g3, .ref g4, .int 0, .int 0]), (h1, aI Y 3640 (upd (upd (upd (upd (upd (clB 0 (fun _ => 0)) 3629 1) 3630 0) 3631 0) 3630 0) 3631 0))] rfl ?_
            refine V_if_ne_t 214 B 220 dX12_cheapest_214 (by decide) (by decide +kernel) ?_
            refine V_iload 220 B dX12_cheapest_220 0 rfl ?_
            refine V_istore 222 B (lv2 := [(4, .int 1), (9, .int 1), (8, .int 0), (7, .int 0), (6, .int 0), (5, .int 0), (0, .ref h0), (1, .int 0), (2, .int 1), (3, .int 0)]) dX12_cheapest_222 (by decide) rfl ?_
            refine V_iload 224 B dX12_cheapest_224 3 rfl ?_
            refine V_csi 226 B (st := []) (As := [.int 0]) (fun sz => mX12_simpleStroke_2 l D Y  sz) glS_RX12_181 ⟨rfl, rfl⟩ ⟨(Nat.le_of_ble_eq_true rfl), (Nat.le_of_ble_eq_true rfl)⟩ ⟨(Nat.le_of_ble_eq_true rfl), (Nat.le_of_ble_eq_true rfl)⟩ [] rfl rfl (Nat.le_of_ble_eq_true rfl) rfl (fun _ _ _ => rfl) dX12_cheapest_226 (fun r14 u14 w14 => ?_)
            obtain rfl := w14
            refine V_ws [(h0, oC 13 [.ref h1, .ref g0, .int 0, .ref g1, .ref g2, .int 0, .int 0, .int 0, .int (-1), .int 0, .int 0, .int 0, .long 0, .ref g3, .ref g4, .int 0, .int 0]), (h1, aI Y 3640 (upd (upd (upd (upd (upd (clB 0 (fun _ => 0)) 3629 1) 3630 0) 3631 0) 3630 0) 3631 0))] rfl ?_
            refine V_istore 229 B (lv2 := [(5, .int 0), (4, .int 1), (9, .int 1), (8, .int 0), (7, .int 0), (6, .int 0), (0, .ref h0), (1, .int 0), (2, .int 1), (3, .int 0)]) dX12_cheapest_229 (by decide) rfl ?_
            refine V_iload 231 B dX12_cheapest_231 3 rfl ?_
            refine V_csi 233 B (st := []) (As := [.int 0]) (fun sz => mX12_simpleStroke_2 l D Y  sz) glS_RX12_181 ⟨rfl, rfl⟩ ⟨(Nat.le_of_ble_eq_true rfl), (Nat.le_of_ble_eq_true rfl)⟩ ⟨(Nat.le_of_ble_eq_true rfl), (Nat.le_of_ble_eq_true rfl)⟩ [] rfl rfl (Nat.le_of_ble_eq_true rfl) rfl (fun _ _ _ => rfl) dX12_cheapest_233 (fun r15 u15 w15 => ?_)
            obtain rfl := w15
            refine V_ws [(h0, oC 13 [.ref h1, .ref g0, .int 0, .ref g1, .ref g2, .int 0, .int 0, .int 0, .int (-1), .int 0, .int 0, .int 0, .long 0, .ref g3, .ref g4, .int 0, .int 0]), (h1, aI Y 3640 (upd (upd (upd (upd (upd (clB 0 (fun _ => 0)) 3629 1) 3630 0) 3631 0) 3630 0) 3631 0))] rfl ?_
            refine V_istore 236 B (lv2 := [(6, .int 0), (5, .int 0), (4, .int 1), (9, .int 1), (8, .int 0), (7, .int 0), (0, .ref h0), (1, .int 0), (2, .int 1), (3, .int 0)]) dX12_cheapest_236 (by decide) rfl ?_
            refine V_iinc 238 B (v := 1) (lv2 := [(8, .int 1), (6, .int 0), (5, .int 0), (4, .int 1), (9, .int 1), (7, .int 0), (0, .ref h0), (1, .int 0), (2, .int 1), (3, .int 0)]) dX12_cheapest_238 4 rfl (by decide +kernel) (by decide) rfl ?_
            refine V_goto 241 B 149 dX12_cheapest_241 (by decide) ?_
            refine V_iload 149 B dX12_cheapest_149 0 rfl ?_
            refine V_iload_n 151 B dX12_cheapest_151 8 rfl ?_
            refine V_iconst 152 B (v := 1) dX12_cheapest_152 (by decide +kernel) ?_
            refine V_icmp_ne_f 153 B 160 dX12_cheapest_153 (by decide) (by decide +kernel) ?_
            refine V_iconst 156 B (v := 1) dX12_cheapest_156 (by decide +kernel) ?_
            refine V_goto 157 B 163 dX12_cheapest_157 (by decide) ?_
            refine V_icmp_ge_t 163 B 244 dX12_cheapest_163 (by decide) (by decide +kernel) ?_
            refine V_iinc 244 B (v := 1) (lv2 := [(7, .int 1), (8, .int 1), (6, .int 0), (5, .int 0), (4, .int 1), (9, .int 1), (0, .ref h0), (1, .int 0), (2, .int 1), (3, .int 0)]) dX12_cheapest_244 5 rfl (by decide +kernel) (by decide) rfl ?_
            refine V_goto 247 B 138 dX12_cheapest_247 (by decide) ?_
            refine V_ws [(h0, oC 13 [.ref h1, .ref g0, .int 0, .ref g1, .ref g2, .int 0, .int 0, .int 0, .int (-1), .int 0, .int 0, .int 0, .long 0, .ref g3, .ref g4, .int 0, .int 0]), (h1, aI Y 3640 (upd (upd (upd (clB 0 (fun _ => 0)) 3629 1) 3630 (pickf 0 (fun j => simF (nI j)) (0 + 1))) 3631 0))] (by rw [upd4 (by decide), show (pickf 0 (fun j => simF (nI j)) (0 + 1)) = 0 from sim0]) ?_
            refine V_lv [(7, .int (nI (0 + 1))), (6, .int 0), (5, .int 0), (4, .int (pick 1000000 1 (0 + 1))), (0, .ref h0), (1, .int 0), (2, .int 1), (3, .int 0)] [0, 2, 3, 4, 6, 7, 8, 9] rfl ?_
            exact IHA () trivial
          ·
            refine V_lv [(7, .int (nI iA)), (6, .int 0), (5, .int 0), (4, .int 1), (0, .ref h0), (1, .int 0), (2, .int 1), (3, .int 0)] [0, 1, 2, 3, 4, 5, 6, 7] (by rw [show (pick 1000000 1 iA) = 1 from pick_pos k9]; rfl) ?_
            refine V_iconst 146 B (v := 0) dX12_cheapest_146 (by decide +kernel) ?_
            refine V_istore 147 B (lv2 := [(8, .int 0), (7, .int (nI iA)), (6, .int 0), (5, .int 0), (4, .int 1), (0, .ref h0), (1, .int 0), (2, .int 1), (3, .int 0)]) dX12_cheapest_147 (by decide) rfl ?_
            refine V_iload 149 B dX12_cheapest_149 0 rfl ?_
            refine V_iload_n 151 B dX12_cheapest_151 7 rfl ?_
            refine V_iconst 152 B (v := 1) dX12_cheapest_152 (by decide +kernel) ?_
            refine V_icmp_ne_f 153 B 160 dX12_cheapest_153 (by decide) (by decide +kernel) ?_
            refine V_iconst 156 B (v := 1) dX12_cheapest_156 (by decide +kernel) ?_
            refine V_goto 157 B 163 dX12_cheapest_157 (by decide) ?_
            refine V_icmp_ge_f 163 B 244 dX12_cheapest_163 (by decide) (by decide +kernel) ?_
            refine V_aload_n 166 B dX12_cheapest_166 5 rfl ?_
            refine V_get 167 B gf_RX12_9 0 rfl rfl dX12_cheapest_167 ?_
            refine V_sipush 170 B (v := 3630) dX12_cheapest_170 (by decide +kernel) ?_
            refine V_iload 173 B dX12_cheapest_173 1 rfl ?_
            refine V_csi 175 B (st := [.int 3630, .ref h1]) (As := [.int (nI iA)]) (fun sz => mX12_simpleStroke_simF l D Y ((nI iA)) sz) glS_RX12_181 ⟨rfl, rfl⟩ ⟨(Nat.le_of_ble_eq_true rfl), (Nat.le_of_ble_eq_true rfl)⟩ ⟨(Nat.le_of_ble_eq_true rfl), (Nat.le_of_ble_eq_true rfl)⟩ [] rfl rfl (Nat.le_of_ble_eq_true rfl) rfl (fun _ _ _ => rfl) dX12_cheapest_175 (fun r16 u16 w16 => ?_)
            obtain rfl := w16
            refine V_ws [(h0, oC 13 [.ref h1, .ref g0, .int 0, .ref g1, .ref g2, .int 0, .int 0, .int 0, .int (-1), .int 0, .int 0, .int 0, .long 0, .ref g3, .ref g4, .int 0, .int 0]), (h1, aI Y 3640 (upd (upd (upd (clB 0 (fun _ => 0)) 3629 1) 3630 (pickf 0 (fun j => simF (nI j)) iA)) 3631 0))] rfl ?_
            refine V_iast 178 B 1 rfl (vpin _ _ (by decide +kernel)) dX12_cheapest_178 [(h0, oC 13 [.ref h1, .ref g0, .int 0, .ref g1, .ref g2, .int 0, .int 0, .int 0, .int (-1), .int 0, .int 0, .int 0, .long 0, .ref g3, .ref g4, .int 0, .int 0]), (h1, aI Y 3640 (upd (upd (upd (upd (clB 0 (fun _ => 0)) 3629 1) 3630 (pickf 0 (fun j => simF (nI j)) iA)) 3631 0) 3630 (simF (nI iA))))] rfl ?_
            refine V_aload_n 179 B dX12_cheapest_179 5 rfl ?_
            refine V_get 180 B gf_RX12_9 0 rfl rfl dX12_cheapest_180 ?_
            refine V_sipush 183 B (v := 3631) dX12_cheapest_183 (by decide +kernel) ?_
            refine V_iload 186 B dX12_cheapest_186 0 rfl ?_
            refine V_csi 188 B (st := [.int 3631, .ref h1]) (As := [.int 0]) (fun sz => mX12_simpleStroke_2 l D Y  sz) glS_RX12_181 ⟨rfl, rfl⟩ ⟨(Nat.le_of_ble_eq_true rfl), (Nat.le_of_ble_eq_true rfl)⟩ ⟨(Nat.le_of_ble_eq_true rfl), (Nat.le_of_ble_eq_true rfl)⟩ [] rfl rfl (Nat.le_of_ble_eq_true rfl) rfl (fun _ _ _ => rfl) dX12_cheapest_188 (fun r17 u17 w17 => ?_)
            obtain rfl := w17
            refine V_ws [(h0, oC 13 [.ref h1, .ref g0, .int 0, .ref g1, .ref g2, .int 0, .int 0, .int 0, .int (-1), .int 0, .int 0, .int 0, .long 0, .ref g3, .ref g4, .int 0, .int 0]), (h1, aI Y 3640 (upd (upd (upd (upd (clB 0 (fun _ => 0)) 3629 1) 3630 (pickf 0 (fun j => simF (nI j)) iA)) 3631 0) 3630 (simF (nI iA))))] rfl ?_
            refine V_iast 191 B 1 rfl (vpin _ _ (by decide +kernel)) dX12_cheapest_191 [(h0, oC 13 [.ref h1, .ref g0, .int 0, .ref g1, .ref g2, .int 0, .int 0, .int 0, .int (-1), .int 0, .int 0, .int 0, .long 0, .ref g3, .ref g4, .int 0, .int 0]), (h1, aI Y 3640 (upd (upd (upd (upd (upd (clB 0 (fun _ => 0)) 3629 1) 3630 (pickf 0 (fun j => simF (nI j)) iA)) 3631 0) 3630 (simF (nI iA))) 3631 0))] rfl ?_
            refine V_aload_n 192 B dX12_cheapest_192 5 rfl ?_
            refine V_sipush 193 B (v := 3629) dX12_cheapest_193 (by decide +kernel) ?_
            refine V_cvi 196 B (st := []) (As := [.int 3629]) (fun sz => mX12_costOf_s18 l D Y (h0) (h1) (g0) (g1) (g2) (g3) (g4) ((pickf 0 (fun j => simF (nI j)) iA)) ((simF (nI iA))) ((h5_sim hiA)) sz) glV_RX12_76 ⟨rfl, rfl⟩ ⟨(Nat.le_of_ble_eq_true rfl), (Nat.le_of_ble_eq_true rfl)⟩ ⟨(Nat.le_of_ble_eq_true rfl), (Nat.le_of_ble_eq_true rfl)⟩ [0, 0] rfl 13 0 rfl rfl rfl rfl (Nat.le_of_ble_eq_true rfl) rfl (fun _ _ _ => rfl) dX12_cheapest_196 (fun r18 u18 w18 => ?_)
            obtain rfl := w18
            refine V_ws [(h0, oC 13 [.ref h1, .ref g0, .int 0, .ref g1, .ref g2, .int 0, .int 0, .int 0, .int (-1), .int 0, .int 0, .int 0, .long 0, .ref g3, .ref g4, .int 0, .int 0]), (h1, aI Y 3640 (upd (upd (upd (upd (upd (clB 0 (fun _ => 0)) 3629 1) 3630 (pickf 0 (fun j => simF (nI j)) iA)) 3631 0) 3630 (simF (nI iA))) 3631 0))] rfl ?_
            refine V_istore 199 B (lv2 := [(9, .int (scoF (simF (nI iA)))), (8, .int 0), (7, .int (nI iA)), (6, .int 0), (5, .int 0), (4, .int 1), (0, .ref h0), (1, .int 0), (2, .int 1), (3, .int 0)]) dX12_cheapest_199 (by decide) rfl ?_
            refine V_iload 201 B dX12_cheapest_201 0 rfl ?_
            refine V_iload 203 B dX12_cheapest_203 5 rfl ?_
            refine V_icmp_ge_t 205 B 238 dX12_cheapest_205 (by decide) (q_ge (sco1 hiA) (by decide +kernel)) ?_
            refine V_iinc 238 B (v := 1) (lv2 := [(8, .int 1), (9, .int (scoF (simF (nI iA)))), (7, .int (nI iA)), (6, .int 0), (5, .int 0), (4, .int 1), (0, .ref h0), (1, .int 0), (2, .int 1), (3, .int 0)]) dX12_cheapest_238 1 rfl (by decide +kernel) (by decide) rfl ?_
            refine V_goto 241 B 149 dX12_cheapest_241 (by decide) ?_
            refine V_iload 149 B dX12_cheapest_149 0 rfl ?_
            refine V_iload_n 151 B dX12_cheapest_151 8 rfl ?_
            refine V_iconst 152 B (v := 1) dX12_cheapest_152 (by decide +kernel) ?_
            refine V_icmp_ne_f 153 B 160 dX12_cheapest_153 (by decide) (by decide +kernel) ?_
            refine V_iconst 156 B (v := 1) dX12_cheapest_156 (by decide +kernel) ?_
            refine V_goto 157 B 163 dX12_cheapest_157 (by decide) ?_
            refine V_icmp_ge_t 163 B 244 dX12_cheapest_163 (by decide) (by decide +kernel) ?_
            refine V_iinc 244 B (v := (nI (iA + 1))) (lv2 := [(7, .int (nI (iA + 1))), (8, .int 1), (9, .int (scoF (simF (nI iA)))), (6, .int 0), (5, .int 0), (4, .int 1), (0, .ref h0), (1, .int 0), (2, .int 1), (3, .int 0)]) dX12_cheapest_244 2 rfl (nI_1 _) (by decide) rfl ?_
            refine V_goto 247 B 138 dX12_cheapest_247 (by decide) ?_
            refine V_ws [(h0, oC 13 [.ref h1, .ref g0, .int 0, .ref g1, .ref g2, .int 0, .int 0, .int 0, .int (-1), .int 0, .int 0, .int 0, .long 0, .ref g3, .ref g4, .int 0, .int 0]), (h1, aI Y 3640 (upd (upd (upd (clB 0 (fun _ => 0)) 3629 1) 3630 (pickf 0 (fun j => simF (nI j)) (iA + 1))) 3631 0))] (by rw [upd4 (by decide), show (pickf 0 (fun j => simF (nI j)) (iA + 1)) = simF (nI iA) from rfl]) ?_
            refine V_lv [(7, .int (nI (iA + 1))), (6, .int 0), (5, .int 0), (4, .int (pick 1000000 1 (iA + 1))), (0, .ref h0), (1, .int 0), (2, .int 1), (3, .int 0)] [0, 3, 4, 5, 6, 7, 8, 9] rfl ?_
            exact IHA () trivial
        ·
          refine V_lv [(7, .int 130), (6, .int 0), (5, .int 0), (4, .int 1), (0, .ref h0), (1, .int 0), (2, .int 1), (3, .int 0)] [0, 1, 2, 3, 4, 5, 6, 7] rfl ?_
          refine V_ws [(h0, oC 13 [.ref h1, .ref g0, .int 0, .ref g1, .ref g2, .int 0, .int 0, .int 0, .int (-1), .int 0, .int 0, .int 0, .long 0, .ref g3, .ref g4, .int 0, .int 0]), (h1, aI Y 3640 (upd (upd (upd (clB 0 (fun _ => 0)) 3629 1) 3630 281) 3631 0))] (by rw [show (pickf 0 (fun j => simF (nI j)) 130) = 281 from sim129]) ?_
          refine V_iload 138 B dX12_cheapest_138 0 rfl ?_
          refine V_sipush 140 B (v := 130) dX12_cheapest_140 (by decide +kernel) ?_
          refine V_icmp_ge_t 143 B 250 dX12_cheapest_143 (by decide) (by decide +kernel) ?_
          refine V_iload 250 B dX12_cheapest_250 3 rfl ?_
          refine V_ldc 252 B (v := 1000000) dX12_cheapest_252 (mT9 29 rfl rfl) ?_
          refine V_icmp_ne_t 254 B 259 dX12_cheapest_254 (by decide) (by decide +kernel) ?_
          refine V_aload_n 259 B dX12_cheapest_259 4 rfl ?_
          refine V_get 260 B gf_RX12_9 0 rfl rfl dX12_cheapest_260 ?_
          refine V_sipush 263 B (v := 3624) dX12_cheapest_263 (by decide +kernel) ?_
          refine V_iload_n 266 B dX12_cheapest_266 6 rfl ?_
          refine V_iast 267 B 1 rfl (vpin _ _ (by decide +kernel)) dX12_cheapest_267 [(h0, oC 13 [.ref h1, .ref g0, .int 0, .ref g1, .ref g2, .int 0, .int 0, .int 0, .int (-1), .int 0, .int 0, .int 0, .long 0, .ref g3, .ref g4, .int 0, .int 0]), (h1, aI Y 3640 (upd (upd (upd (upd (clB 0 (fun _ => 0)) 3629 1) 3630 281) 3631 0) 3624 1))] rfl ?_
          refine V_aload_n 268 B dX12_cheapest_268 4 rfl ?_
          refine V_get 269 B gf_RX12_9 0 rfl rfl dX12_cheapest_269 ?_
          refine V_sipush 272 B (v := 3625) dX12_cheapest_272 (by decide +kernel) ?_
          refine V_iload 275 B dX12_cheapest_275 2 rfl ?_
          refine V_iast 277 B 1 rfl (vpin _ _ (by decide +kernel)) dX12_cheapest_277 [(h0, oC 13 [.ref h1, .ref g0, .int 0, .ref g1, .ref g2, .int 0, .int 0, .int 0, .int (-1), .int 0, .int 0, .int 0, .long 0, .ref g3, .ref g4, .int 0, .int 0]), (h1, aI Y 3640 (upd (upd (upd (upd (upd (clB 0 (fun _ => 0)) 3629 1) 3630 281) 3631 0) 3624 1) 3625 0))] rfl ?_
          refine V_aload_n 278 B dX12_cheapest_278 4 rfl ?_
          refine V_get 279 B gf_RX12_9 0 rfl rfl dX12_cheapest_279 ?_
          refine V_sipush 282 B (v := 3626) dX12_cheapest_282 (by decide +kernel) ?_
          refine V_iload 285 B dX12_cheapest_285 1 rfl ?_
          refine V_iast 287 B 1 rfl (vpin _ _ (by decide +kernel)) dX12_cheapest_287 [(h0, oC 13 [.ref h1, .ref g0, .int 0, .ref g1, .ref g2, .int 0, .int 0, .int 0, .int (-1), .int 0, .int 0, .int 0, .long 0, .ref g3, .ref g4, .int 0, .int 0]), (h1, aI Y 3640 (upd (upd (upd (upd (upd (upd (clB 0 (fun _ => 0)) 3629 1) 3630 281) 3631 0) 3624 1) 3625 0) 3626 0))] rfl ?_
          refine V_iload 288 B dX12_cheapest_288 3 rfl ?_
          exact V_iret 290 B dX12_cheapest_290 0 (Or.inl ⟨rfl, rfl, rfl⟩) rfl
      ·
        obtain rfl : p0 = 2 := q_eq (q_bump (b_nlt k3 (n := 1) (by decide +kernel)) k8 (by decide +kernel) (k := 2) (by decide +kernel)) (b_ngt k4 (n := 2) (by decide +kernel)) (by decide +kernel)
        refine V_ldc 116 B (v := 1000000) dX12_cheapest_116 (mT9 29 rfl rfl) ?_
        refine V_istore 118 B (lv2 := [(4, .int 1000000), (0, .ref h0), (1, .int 0), (2, .int 2), (3, .int 0)]) dX12_cheapest_118 (by decide) rfl ?_
        refine V_iconst 120 B (v := 0) dX12_cheapest_120 (by decide +kernel) ?_
        refine V_istore 121 B (lv2 := [(5, .int 0), (4, .int 1000000), (0, .ref h0), (1, .int 0), (2, .int 2), (3, .int 0)]) dX12_cheapest_121 (by decide) rfl ?_
        refine V_iconst 123 B (v := 0) dX12_cheapest_123 (by decide +kernel) ?_
        refine V_istore 124 B (lv2 := [(6, .int 0), (5, .int 0), (4, .int 1000000), (0, .ref h0), (1, .int 0), (2, .int 2), (3, .int 0)]) dX12_cheapest_124 (by decide) rfl ?_
        refine V_aload_n 126 B dX12_cheapest_126 3 rfl ?_
        refine V_get 127 B gf_RX12_9 0 rfl rfl dX12_cheapest_127 ?_
        refine V_sipush 130 B (v := 3629) dX12_cheapest_130 (by decide +kernel) ?_
        refine V_iload_n 133 B dX12_cheapest_133 5 rfl ?_
        refine V_iast 134 B 1 rfl (vpin _ _ (by decide +kernel)) dX12_cheapest_134 [(h0, oC 13 [.ref h1, .ref g0, .int 0, .ref g1, .ref g2, .int 0, .int 0, .int 0, .int (-1), .int 0, .int 0, .int 0, .long 0, .ref g3, .ref g4, .int 0, .int 0]), (h1, aI Y 3640 (upd (clB 0 (fun _ => 0)) 3629 2))] rfl ?_
        refine V_iconst 135 B (v := 0) dX12_cheapest_135 (by decide +kernel) ?_
        refine V_istore 136 B (lv2 := [(7, .int 0), (6, .int 0), (5, .int 0), (4, .int 1000000), (0, .ref h0), (1, .int 0), (2, .int 2), (3, .int 0)]) dX12_cheapest_136 (by decide) rfl ?_
        refine V_loop (α := Unit) 130 (fun _ _ => True) (fun iA _ => [(7, .int (nI iA)), (6, .int 0), (5, .int 0), (4, .int (pick 1000000 2 (130 * iA))), (0, .ref h0), (1, .int 0), (2, .int 2), (3, .int 0)]) (fun iA _ => [(h0, oC 13 [.ref h1, .ref g0, .int 0, .ref g1, .ref g2, .int 0, .int 0, .int 0, .int (-1), .int 0, .int 0, .int 0, .long 0, .ref g3, .ref g4, .int 0, .int 0]), (h1, aI Y 3640 (upd (upd (upd (clB 0 (fun _ => 0)) 3629 2) 3630 (pickf 0 (fun j => simF (nI j)) iA)) 3631 (pick 0 281 iA)))]) () trivial rfl (by rw [show upd (upd (upd (clB 0 (fun _ => 0)) 3629 2) 3630 (pickf 0 (fun j => simF (nI j)) 0)) 3631 (pick 0 281 0) = (upd (clB 0 (fun _ => 0)) 3629 2) from (congrArg (fun g => upd g 3631 (pick 0 281 0)) (upd_same (f := (upd (clB 0 (fun _ => 0)) 3629 2)) (k := 3630) (x := (pickf 0 (fun j => simF (nI j)) 0)) (by decide +kernel))).trans (upd_same (by decide +kernel))]) (fun iA _ hiA _ IHA => ?_) (fun _ _ => ?_)
        ·
          refine V_lv [(7, .int (nI iA)), (6, .int 0), (5, .int 0), (4, .int (pick 1000000 2 (130 * iA))), (0, .ref h0), (1, .int 0), (2, .int 2), (3, .int 0)] [0, 1, 2, 3, 4, 5, 6, 7] rfl ?_
          refine V_ws [(h0, oC 13 [.ref h1, .ref g0, .int 0, .ref g1, .ref g2, .int 0, .int 0, .int 0, .int (-1), .int 0, .int 0, .int 0, .long 0, .ref g3, .ref g4, .int 0, .int 0]), (h1, aI Y 3640 (upd (upd (upd (clB 0 (fun _ => 0)) 3629 2) 3630 (pickf 0 (fun j => simF (nI j)) iA)) 3631 (pick 0 281 iA)))] rfl ?_
          refine V_iload 138 B dX12_cheapest_138 0 rfl ?_
          refine V_sipush 140 B (v := 130) dX12_cheapest_140 (by decide +kernel) ?_
          refine V_icmp_ge_f 143 B 250 dX12_cheapest_143 (by decide) (q_nge (nI_hi hiA (by decide) (k := 129) (by decide +kernel)) (by decide +kernel)) ?_
          refine V_iconst 146 B (v := 0) dX12_cheapest_146 (by decide +kernel) ?_
          refine V_istore 147 B (lv2 := [(8, .int 0), (7, .int (nI iA)), (6, .int 0), (5, .int 0), (4, .int (pick 1000000 2 (130 * iA))), (0, .ref h0), (1, .int 0), (2, .int 2), (3, .int 0)]) dX12_cheapest_147 (by decide) rfl ?_
          refine V_loop (α := Unit) 130 (fun _ _ => True) (fun iB _ => [(8, .int (nI iB)), (7, .int (nI iA)), (6, .int 0), (5, .int 0), (4, .int (pick 1000000 2 (130 * iA + iB))), (0, .ref h0), (1, .int 0), (2, .int 2), (3, .int 0)]) (fun iB _ => [(h0, oC 13 [.ref h1, .ref g0, .int 0, .ref g1, .ref g2, .int 0, .int 0, .int 0, .int (-1), .int 0, .int 0, .int 0, .long 0, .ref g3, .ref g4, .int 0, .int 0]), (h1, aI Y 3640 (upd (upd (upd (clB 0 (fun _ => 0)) 3629 2) 3630 (pick (pickf 0 (fun j => simF (nI j)) iA) (simF (nI iA)) iB)) 3631 (pickf (pick 0 281 iA) (fun j => simF (nI j)) iB)))]) () trivial rfl rfl (fun iB _ hiB _ IHB => ?_) (fun _ _ => ?_)
          ·
            refine V_lv [(8, .int (nI iB)), (7, .int (nI iA)), (6, .int 0), (5, .int 0), (4, .int (pick 1000000 2 (130 * iA + iB))), (0, .ref h0), (1, .int 0), (2, .int 2), (3, .int 0)] [0, 1, 2, 3, 4, 5, 6, 7, 8] rfl ?_
            refine V_ws [(h0, oC 13 [.ref h1, .ref g0, .int 0, .ref g1, .ref g2, .int 0, .int 0, .int 0, .int (-1), .int 0, .int 0, .int 0, .long 0, .ref g3, .ref g4, .int 0, .int 0]), (h1, aI Y 3640 (upd (upd (upd (clB 0 (fun _ => 0)) 3629 2) 3630 (pick (pickf 0 (fun j => simF (nI j)) iA) (simF (nI iA)) iB)) 3631 (pickf (pick 0 281 iA) (fun j => simF (nI j)) iB)))] rfl ?_
            refine V_iload 149 B dX12_cheapest_149 0 rfl ?_
            refine V_iload_n 151 B dX12_cheapest_151 7 rfl ?_
            refine V_iconst 152 B (v := 1) dX12_cheapest_152 (by decide +kernel) ?_
            refine V_icmp_ne_t 153 B 160 dX12_cheapest_153 (by decide) (by decide +kernel) ?_
            refine V_sipush 160 B (v := 130) dX12_cheapest_160 (by decide +kernel) ?_
            refine V_icmp_ge_f 163 B 244 dX12_cheapest_163 (by decide) (q_nge (nI_hi hiB (by decide) (k := 129) (by decide +kernel)) (by decide +kernel)) ?_
            by_cases k19 : 130 * iA + iB = 0
            ·
              obtain rfl : iA = 0 := by omega
              obtain rfl : iB = 0 := by omega
              refine V_lv [(8, .int 0), (7, .int 0), (6, .int 0), (5, .int 0), (4, .int 1000000), (0, .ref h0), (1, .int 0), (2, .int 2), (3, .int 0)] [0, 1, 2, 3, 4, 5, 6, 7, 8] rfl ?_
              refine V_ws [(h0, oC 13 [.ref h1, .ref g0, .int 0, .ref g1, .ref g2, .int 0, .int 0, .int 0, .int (-1), .int 0, .int 0, .int 0, .long 0, .ref g3, .ref g4, .int 0, .int 0]), (h1, aI Y 3640 (upd (upd (upd (clB 0 (fun _ => 0)) 3629 2) 3630 0) 3631 0))] rfl ?_
              refine V_aload_n 166 B dX12_cheapest_166 5 rfl ?_
              refine V_get 167 B gf_RX12_9 0 rfl rfl dX12_cheapest_167 ?_
              refine V_sipush 170 B (v := 3630) dX12_cheapest_170 (by decide +kernel) ?_
              refine V_iload 173 B dX12_cheapest_173 1 rfl ?_
              refine V_csi 175 B (st := [.int 3630, .ref h1]) (As := [.int 0]) (fun sz => mX12_simpleStroke_2 l D Y  sz) glS_RX12_181 ⟨rfl, rfl⟩ ⟨(Nat.le_of_ble_eq_true rfl), (Nat.le_of_ble_eq_true rfl)⟩ ⟨(Nat.le_of_ble_eq_true rfl), (Nat.le_of_ble_eq_true rfl)⟩ [] rfl rfl (Nat.le_of_ble_eq_true rfl) rfl (fun _ _ _ => rfl) dX12_cheapest_175 (fun r20 u20 w20 => ?_)
              obtain rfl := w20
              refine V_ws [(h0, oC 13 [.ref h1, .ref g0, .int 0, .ref g1, .ref g2, .int 0, .int 0, .int 0, .int (-1), .int 0, .int 0, .int 0, .long 0, .ref g3, .ref g4, .int 0, .int 0]), (h1, aI Y 3640 (upd (upd (upd (clB 0 (fun _ => 0)) 3629 2) 3630 0) 3631 0))] rfl ?_
              refine V_iast 178 B 1 rfl (vpin _ _ (by decide +kernel)) dX12_cheapest_178 [(h0, oC 13 [.ref h1, .ref g0, .int 0, .ref g1, .ref g2, .int 0, .int 0, .int 0, .int (-1), .int 0, .int 0, .int 0, .long 0, .ref g3, .ref g4, .int 0, .int 0]), (h1, aI Y 3640 (upd (upd (upd (upd (clB 0 (fun _ => 0)) 3629 2) 3630 0) 3631 0) 3630 0))] rfl ?_
              refine V_aload_n 179 B dX12_cheapest_179 5 rfl ?_
              refine V_get 180 B gf_RX12_9 0 rfl rfl dX12_cheapest_180 ?_
              refine V_sipush 183 B (v := 3631) dX12_cheapest_183 (by decide +kernel) ?_
              refine V_iload 186 B dX12_cheapest_186 0 rfl ?_
              refine V_csi 188 B (st := [.int 3631, .ref h1]) (As := [.int 0]) (fun sz => mX12_simpleStroke_2 l D Y  sz) glS_RX12_181 ⟨rfl, rfl⟩ ⟨(Nat.le_of_ble_eq_true rfl), (Nat.le_of_ble_eq_true rfl)⟩ ⟨(Nat.le_of_ble_eq_true rfl), (Nat.le_of_ble_eq_true rfl)⟩ [] rfl rfl (Nat.le_of_ble_eq_true rfl) rfl (fun _ _ _ => rfl) dX12_cheapest_188 (fun r21 u21 w21 => ?_)
              obtain rfl := w21
              refine V_ws [(h0, oC 13 [.ref h1, .ref g0, .int 0, .ref g1, .ref g2, .int 0, .int 0, .int 0, .int (-1), .int 0, .int 0, .int 0, .long 0, .ref g3, .ref g4, .int 0, .int 0]), (h1, aI Y 3640 (upd (upd (upd (upd (clB 0 (fun _ => 0)) 3629 2) 3630 0) 3631 0) 3630 0))] rfl ?_
              refine V_iast 191 B 1 rfl (vpin _ _ (by decide +kernel)) dX12_cheapest_191 [(h0, oC 13 [.ref h1, .ref g0, .int 0, .ref g1, .ref g2, .int 0, .int 0, .int 0, .int (-1), .int 0, .int 0, .int 0, .long 0, .ref g3, .ref g4, .int 0, .int 0]), (h1, aI Y 3640 (upd (upd (upd (upd (upd (clB 0 (fun _ => 0)) 3629 2) 3630 0) 3631 0) 3630 0) 3631 0))] rfl ?_
              refine V_aload_n 192 B dX12_cheapest_192 5 rfl ?_
              refine V_sipush 193 B (v := 3629) dX12_cheapest_193 (by decide +kernel) ?_
              refine V_cvi 196 B (st := []) (As := [.int 3629]) (fun sz => mX12_costOf_3 l D Y (h0) (h1) (g0) (g1) (g2) (g3) (g4) sz) glV_RX12_76 ⟨rfl, rfl⟩ ⟨(Nat.le_of_ble_eq_true rfl), (Nat.le_of_ble_eq_true rfl)⟩ ⟨(Nat.le_of_ble_eq_true rfl), (Nat.le_of_ble_eq_true rfl)⟩ [0, 0] rfl 13 0 rfl rfl rfl rfl (Nat.le_of_ble_eq_true rfl) rfl (fun _ _ _ => rfl) dX12_cheapest_196 (fun r22 u22 w22 => ?_)
              obtain rfl := w22
              refine V_ws [(h0, oC 13 [.ref h1, .ref g0, .int 0, .ref g1, .ref g2, .int 0, .int 0, .int 0, .int (-1), .int 0, .int 0, .int 0, .long 0, .ref g3, .ref g4, .int 0, .int 0]), (h1, aI Y 3640 (upd (upd (upd (upd (upd (clB 0 (fun _ => 0)) 3629 2) 3630 0) 3631 0) 3630 0) 3631 0))] rfl ?_
              refine V_istore 199 B (lv2 := [(9, .int 2), (8, .int 0), (7, .int 0), (6, .int 0), (5, .int 0), (4, .int 1000000), (0, .ref h0), (1, .int 0), (2, .int 2), (3, .int 0)]) dX12_cheapest_199 (by decide) rfl ?_
              refine V_iload 201 B dX12_cheapest_201 0 rfl ?_
              refine V_iload 203 B dX12_cheapest_203 5 rfl ?_
              refine V_icmp_ge_f 205 B 238 dX12_cheapest_205 (by decide) (by decide +kernel) ?_
              refine V_aload_n 208 B dX12_cheapest_208 6 rfl ?_
              refine V_iload_n 209 B dX12_cheapest_209 7 rfl ?_
              refine V_iload_n 210 B dX12_cheapest_210 9 rfl ?_
              refine V_cvi 211 B (st := []) (As := [.int 0, .int 0]) (fun sz => mX12_isFreeHere_4 l D Y (h0) (h1) (g0) (g1) (g2) (g3) (g4) sz) glV_RX12_185 ⟨rfl, rfl⟩ ⟨(Nat.le_of_ble_eq_true rfl), (Nat.le_of_ble_eq_true rfl)⟩ ⟨(Nat.le_of_ble_eq_true rfl), (Nat.le_of_ble_eq_true rfl)⟩ [0, 0] rfl 13 0 rfl rfl rfl rfl (Nat.le_of_ble_eq_true rfl) rfl (fun _ _ _ => rfl) dX12_cheapest_211 (fun r23 u23 w23 => ?_)
              obtain rfl := w23
              refine V_ws [(h0, oC 13 [.ref h1, .ref g0, .int 0, .ref g1, .ref g2, .int 0, .int 0, .int 0, .int (-1), .int 0, .int 0, .int 0, .long 0, .ref g3, .ref g4, .int 0, .int 0]), (h1, aI Y 3640 (upd (upd (upd (upd (upd (clB 0 (fun _ => 0)) 3629 2) 3630 0) 3631 0) 3630 0) 3631 0))] rfl ?_
              refine V_if_ne_t 214 B 220 dX12_cheapest_214 (by decide) (by decide +kernel) ?_
              refine V_iload 220 B dX12_cheapest_220 0 rfl ?_
              refine V_istore 222 B (lv2 := [(4, .int 2), (9, .int 2), (8, .int 0), (7, .int 0), (6, .int 0), (5, .int 0), (0, .ref h0), (1, .int 0), (2, .int 2), (3, .int 0)]) dX12_cheapest_222 (by decide) rfl ?_
              refine V_iload 224 B dX12_cheapest_224 3 rfl ?_
              refine V_csi 226 B (st := []) (As := [.int 0]) (fun sz => mX12_simpleStroke_2 l D Y  sz) glS_RX12_181 ⟨rfl, rfl⟩ ⟨(Nat.le_of_ble_eq_true rfl), (Nat.le_of_ble_eq_true rfl)⟩ ⟨(Nat.le_of_ble_eq_true rfl), (Nat.le_of_ble_eq_true rfl)⟩ [] rfl rfl (Nat.le_of_ble_eq_true rfl) rfl (fun _ _ _ => rfl) dX12_cheapest_226 (fun r24 u24 w24 => ?_)
              obtain rfl := w24
              refine V_ws [(h0, oC 13 [.ref h1, .ref g0, .int 0, .ref g1, .ref g2, .int 0, .int 0, .int 0, .int (-1), .int 0, .int 0, .int 0, .long 0, .ref g3, .ref g4, .int 0, .int 0]), (h1, aI Y 3640 (upd (upd (upd (upd (upd (clB 0 (fun _ => 0)) 3629 2) 3630 0) 3631 0) 3630 0) 3631 0))] rfl ?_
              refine V_istore 229 B (lv2 := [(5, .int 0), (4, .int 2), (9, .int 2), (8, .int 0), (7, .int 0), (6, .int 0), (0, .ref h0), (1, .int 0), (2, .int 2), (3, .int 0)]) dX12_cheapest_229 (by decide) rfl ?_
              refine V_iload 231 B dX12_cheapest_231 3 rfl ?_
              refine V_csi 233 B (st := []) (As := [.int 0]) (fun sz => mX12_simpleStroke_2 l D Y  sz) glS_RX12_181 ⟨rfl, rfl⟩ ⟨(Nat.le_of_ble_eq_true rfl), (Nat.le_of_ble_eq_true rfl)⟩ ⟨(Nat.le_of_ble_eq_true rfl), (Nat.le_of_ble_eq_true rfl)⟩ [] rfl rfl (Nat.le_of_ble_eq_true rfl) rfl (fun _ _ _ => rfl) dX12_cheapest_233 (fun r25 u25 w25 => ?_)
              obtain rfl := w25
              refine V_ws [(h0, oC 13 [.ref h1, .ref g0, .int 0, .ref g1, .ref g2, .int 0, .int 0, .int 0, .int (-1), .int 0, .int 0, .int 0, .long 0, .ref g3, .ref g4, .int 0, .int 0]), (h1, aI Y 3640 (upd (upd (upd (upd (upd (clB 0 (fun _ => 0)) 3629 2) 3630 0) 3631 0) 3630 0) 3631 0))] rfl ?_
              refine V_istore 236 B (lv2 := [(6, .int 0), (5, .int 0), (4, .int 2), (9, .int 2), (8, .int 0), (7, .int 0), (0, .ref h0), (1, .int 0), (2, .int 2), (3, .int 0)]) dX12_cheapest_236 (by decide) rfl ?_
              refine V_iinc 238 B (v := 1) (lv2 := [(8, .int 1), (6, .int 0), (5, .int 0), (4, .int 2), (9, .int 2), (7, .int 0), (0, .ref h0), (1, .int 0), (2, .int 2), (3, .int 0)]) dX12_cheapest_238 4 rfl (by decide +kernel) (by decide) rfl ?_
              refine V_goto 241 B 149 dX12_cheapest_241 (by decide) ?_
              refine V_ws [(h0, oC 13 [.ref h1, .ref g0, .int 0, .ref g1, .ref g2, .int 0, .int 0, .int 0, .int (-1), .int 0, .int 0, .int 0, .long 0, .ref g3, .ref g4, .int 0, .int 0]), (h1, aI Y 3640 (upd (upd (upd (clB 0 (fun _ => 0)) 3629 2) 3630 (pick (pickf 0 (fun j => simF (nI j)) 0) (simF (nI 0)) (0 + 1))) 3631 (pickf (pick 0 281 0) (fun j => simF (nI j)) (0 + 1))))] (by rw [upd4 (by decide), show (pick (pickf 0 (fun j => simF (nI j)) 0) (simF (nI 0)) (0 + 1)) = 0 from sim0, show (pickf (pick 0 281 0) (fun j => simF (nI j)) (0 + 1)) = 0 from sim0]) ?_
              refine V_lv [(8, .int (nI (0 + 1))), (7, .int (nI 0)), (6, .int 0), (5, .int 0), (4, .int (pick 1000000 2 (130 * 0 + (0 + 1)))), (0, .ref h0), (1, .int 0), (2, .int 2), (3, .int 0)] [0, 5, 1, 2, 3, 6, 7, 8, 9] rfl ?_
              exact IHB () trivial
            ·
              refine V_lv [(8, .int (nI iB)), (7, .int (nI iA)), (6, .int 0), (5, .int 0), (4, .int 2), (0, .ref h0), (1, .int 0), (2, .int 2), (3, .int 0)] [0, 1, 2, 3, 4, 5, 6, 7, 8] (by rw [show (pick 1000000 2 (130 * iA + iB)) = 2 from pick_pos k19]; rfl) ?_
              refine V_aload_n 166 B dX12_cheapest_166 5 rfl ?_
              refine V_get 167 B gf_RX12_9 0 rfl rfl dX12_cheapest_167 ?_
              refine V_sipush 170 B (v := 3630) dX12_cheapest_170 (by decide +kernel) ?_
              refine V_iload 173 B dX12_cheapest_173 1 rfl ?_
              refine V_csi 175 B (st := [.int 3630, .ref h1]) (As := [.int (nI iA)]) (fun sz => mX12_simpleStroke_simF l D Y ((nI iA)) sz) glS_RX12_181 ⟨rfl, rfl⟩ ⟨(Nat.le_of_ble_eq_true rfl), (Nat.le_of_ble_eq_true rfl)⟩ ⟨(Nat.le_of_ble_eq_true rfl), (Nat.le_of_ble_eq_true rfl)⟩ [] rfl rfl (Nat.le_of_ble_eq_true rfl) rfl (fun _ _ _ => rfl) dX12_cheapest_175 (fun r26 u26 w26 => ?_)
              obtain rfl := w26
              refine V_ws [(h0, oC 13 [.ref h1, .ref g0, .int 0, .ref g1, .ref g2, .int 0, .int 0, .int 0, .int (-1), .int 0, .int 0, .int 0, .long 0, .ref g3, .ref g4, .int 0, .int 0]), (h1, aI Y 3640 (upd (upd (upd (clB 0 (fun _ => 0)) 3629 2) 3630 (pick (pickf 0 (fun j => simF (nI j)) iA) (simF (nI iA)) iB)) 3631 (pickf (pick 0 281 iA) (fun j => simF (nI j)) iB)))] rfl ?_
              refine V_iast 178 B 1 rfl (vpin _ _ (by decide +kernel)) dX12_cheapest_178 [(h0, oC 13 [.ref h1, .ref g0, .int 0, .ref g1, .ref g2, .int 0, .int 0, .int 0, .int (-1), .int 0, .int 0, .int 0, .long 0, .ref g3, .ref g4, .int 0, .int 0]), (h1, aI Y 3640 (upd (upd (upd (upd (clB 0 (fun _ => 0)) 3629 2) 3630 (pick (pickf 0 (fun j => simF (nI j)) iA) (simF (nI iA)) iB)) 3631 (pickf (pick 0 281 iA) (fun j => simF (nI j)) iB)) 3630 (simF (nI iA))))] rfl ?_
              refine V_aload_n 179 B dX12_cheapest_179 5 rfl ?_
              refine V_get 180 B gf_RX12_9 0 rfl rfl dX12_cheapest_180 ?_
              refine V_sipush 183 B (v := 3631) dX12_cheapest_183 (by decide +kernel) ?_
              refine V_iload 186 B dX12_cheapest_186 0 rfl ?_
              refine V_csi 188 B (st := [.int 3631, .ref h1]) (As := [.int (nI iB)]) (fun sz => mX12_simpleStroke_simF l D Y ((nI iB)) sz) glS_RX12_181 ⟨rfl, rfl⟩ ⟨(Nat.le_of_ble_eq_true rfl), (Nat.le_of_ble_eq_true rfl)⟩ ⟨(Nat.le_of_ble_eq_true rfl), (Nat.le_of_ble_eq_true rfl)⟩ [] rfl rfl (Nat.le_of_ble_eq_true rfl) rfl (fun _ _ _ => rfl) dX12_cheapest_188 (fun r27 u27 w27 => ?_)
              obtain rfl := w27
              refine V_ws [(h0, oC 13 [.ref h1, .ref g0, .int 0, .ref g1, .ref g2, .int 0, .int 0, .int 0, .int (-1), .int 0, .int 0, .int 0, .long 0, .ref g3, .ref g4, .int 0, .int 0]), (h1, aI Y 3640 (upd (upd (upd (upd (clB 0 (fun _ => 0)) 3629 2) 3630 (pick (pickf 0 (fun j => simF (nI j)) iA) (simF (nI iA)) iB)) 3631 (pickf (pick 0 281 iA) (fun j => simF (nI j)) iB)) 3630 (simF (nI iA))))] rfl ?_
              refine V_iast 191 B 1 rfl (vpin _ _ (by decide +kernel)) dX12_cheapest_191 [(h0, oC 13 [.ref h1, .ref g0, .int 0, .ref g1, .ref g2, .int 0, .int 0, .int 0, .int (-1), .int 0, .int 0, .int 0, .long 0, .ref g3, .ref g4, .int 0, .int 0]), (h1, aI Y 3640 (upd (upd (upd (upd (upd (clB 0 (fun _ => 0)) 3629 2) 3630 (pick (pickf 0 (fun j => simF (nI j)) iA) (simF (nI iA)) iB)) 3631 (pickf (pick 0 281 iA) (fun j => simF (nI j)) iB)) 3630 (simF (nI iA))) 3631 (simF (nI iB))))] rfl ?_
              refine V_aload_n 192 B dX12_cheapest_192 5 rfl ?_
              refine V_sipush 193 B (v := 3629) dX12_cheapest_193 (by decide +kernel) ?_
              refine V_cvi 196 B (st := []) (As := [.int 3629]) (fun sz => mX12_costOf_s19 l D Y (h0) (h1) (g0) (g1) (g2) (g3) (g4) ((pick (pickf 0 (fun j => simF (nI j)) iA) (simF (nI iA)) iB)) ((pickf (pick 0 281 iA) (fun j => simF (nI j)) iB)) ((simF (nI iA))) ((simF (nI iB))) ((h5_sim hiA)) ((h5_sim hiB)) sz) glV_RX12_76 ⟨rfl, rfl⟩ ⟨(Nat.le_of_ble_eq_true rfl), (Nat.le_of_ble_eq_true rfl)⟩ ⟨(Nat.le_of_ble_eq_true rfl), (Nat.le_of_ble_eq_true rfl)⟩ [0, 0] rfl 13 0 rfl rfl rfl rfl (Nat.le_of_ble_eq_true rfl) rfl (fun _ _ _ => rfl) dX12_cheapest_196 (fun r28 u28 w28 => ?_)
              obtain rfl := w28
              refine V_ws [(h0, oC 13 [.ref h1, .ref g0, .int 0, .ref g1, .ref g2, .int 0, .int 0, .int 0, .int (-1), .int 0, .int 0, .int 0, .long 0, .ref g3, .ref g4, .int 0, .int 0]), (h1, aI Y 3640 (upd (upd (upd (upd (upd (clB 0 (fun _ => 0)) 3629 2) 3630 (pick (pickf 0 (fun j => simF (nI j)) iA) (simF (nI iA)) iB)) 3631 (pickf (pick 0 281 iA) (fun j => simF (nI j)) iB)) 3630 (simF (nI iA))) 3631 (simF (nI iB))))] rfl ?_
              refine V_istore 199 B (lv2 := [(9, .int ((scoF (simF (nI iA))) + (scoF (simF (nI iB))))), (8, .int (nI iB)), (7, .int (nI iA)), (6, .int 0), (5, .int 0), (4, .int 2), (0, .ref h0), (1, .int 0), (2, .int 2), (3, .int 0)]) dX12_cheapest_199 (by decide) rfl ?_
              refine V_iload 201 B dX12_cheapest_201 0 rfl ?_
              refine V_iload 203 B dX12_cheapest_203 5 rfl ?_
              refine V_icmp_ge_t 205 B 238 dX12_cheapest_205 (by decide) (q_ge (sco2 hiA hiB) (by decide +kernel)) ?_
              refine V_iinc 238 B (v := (nI (iB + 1))) (lv2 := [(8, .int (nI (iB + 1))), (9, .int ((scoF (simF (nI iA))) + (scoF (simF (nI iB))))), (7, .int (nI iA)), (6, .int 0), (5, .int 0), (4, .int 2), (0, .ref h0), (1, .int 0), (2, .int 2), (3, .int 0)]) dX12_cheapest_238 1 rfl (nI_1 _) (by decide) rfl ?_
              refine V_goto 241 B 149 dX12_cheapest_241 (by decide) ?_
              refine V_ws [(h0, oC 13 [.ref h1, .ref g0, .int 0, .ref g1, .ref g2, .int 0, .int 0, .int 0, .int (-1), .int 0, .int 0, .int 0, .long 0, .ref g3, .ref g4, .int 0, .int 0]), (h1, aI Y 3640 (upd (upd (upd (clB 0 (fun _ => 0)) 3629 2) 3630 (pick (pickf 0 (fun j => simF (nI j)) iA) (simF (nI iA)) (iB + 1))) 3631 (pickf (pick 0 281 iA) (fun j => simF (nI j)) (iB + 1))))] (by rw [upd4 (by decide), show (pick (pickf 0 (fun j => simF (nI j)) iA) (simF (nI iA)) (iB + 1)) = simF (nI iA) from rfl, show (pickf (pick 0 281 iA) (fun j => simF (nI j)) (iB + 1)) = simF (nI iB) from rfl]) ?_
              refine V_lv [(8, .int (nI (iB + 1))), (7, .int (nI iA)), (6, .int 0), (5, .int 0), (4, .int (pick 1000000 2 (130 * iA + (iB + 1)))), (0, .ref h0), (1, .int 0), (2, .int 2), (3, .int 0)] [0, 2, 3, 4, 5, 6, 7, 8, 9] rfl ?_
              exact IHB () trivial
          ·
            refine V_lv [(8, .int 130), (7, .int (nI iA)), (6, .int 0), (5, .int 0), (4, .int (pick 1000000 2 (130 * iA + 130))), (0, .ref h0), (1, .int 0), (2, .int 2), (3, .int 0)] [0, 1, 2, 3, 4, 5, 6, 7, 8] rfl ?_
            refine V_ws [(h0, oC 13 [.ref h1, .ref g0, .int 0, .ref g1, .ref g2, .int 0, .int 0, .int 0, .int (-1), .int 0, .int 0, .int 0, .long 0, .ref g3, .ref g4, .int 0, .int 0]), (h1, aI Y 3640 (upd (upd (upd (clB 0 (fun _ => 0)) 3629 2) 3630 (simF (nI iA))) 3631 281))] (by rw [show (pickf (pick 0 281 iA) (fun j => simF (nI j)) 130) = 281 from sim129]; rfl) ?_
            refine V_iload 149 B dX12_cheapest_149 0 rfl ?_
            refine V_iload_n 151 B dX12_cheapest_151 7 rfl ?_
            refine V_iconst 152 B (v := 1) dX12_cheapest_152 (by decide +kernel) ?_
            refine V_icmp_ne_t 153 B 160 dX12_cheapest_153 (by decide) (by decide +kernel) ?_
            refine V_sipush 160 B (v := 130) dX12_cheapest_160 (by decide +kernel) ?_
            refine V_icmp_ge_t 163 B 244 dX12_cheapest_163 (by decide) (by decide +kernel) ?_
            refine V_iinc 244 B (v := (nI (iA + 1))) (lv2 := [(7, .int (nI (iA + 1))), (8, .int 130), (6, .int 0), (5, .int 0), (4, .int (pick 1000000 2 (130 * iA + 130))), (0, .ref h0), (1, .int 0), (2, .int 2), (3, .int 0)]) dX12_cheapest_244 1 rfl (nI_1 _) (by decide) rfl ?_
            refine V_goto 247 B 138 dX12_cheapest_247 (by decide) ?_
            refine V_ws [(h0, oC 13 [.ref h1, .ref g0, .int 0, .ref g1, .ref g2, .int 0, .int 0, .int 0, .int (-1), .int 0, .int 0, .int 0, .long 0, .ref g3, .ref g4, .int 0, .int 0]), (h1, aI Y 3640 (upd (upd (upd (clB 0 (fun _ => 0)) 3629 2) 3630 (pickf 0 (fun j => simF (nI j)) (iA + 1))) 3631 (pick 0 281 (iA + 1))))] rfl ?_
            refine V_lv [(7, .int (nI (iA + 1))), (6, .int 0), (5, .int 0), (4, .int (pick 1000000 2 (130 * (iA + 1)))), (0, .ref h0), (1, .int 0), (2, .int 2), (3, .int 0)] [0, 2, 3, 4, 5, 6, 7, 8] rfl ?_
            exact IHA () trivial
        ·
          refine V_lv [(7, .int 130), (6, .int 0), (5, .int 0), (4, .int 2), (0, .ref h0), (1, .int 0), (2, .int 2), (3, .int 0)] [0, 1, 2, 3, 4, 5, 6, 7] rfl ?_
          refine V_ws [(h0, oC 13 [.ref h1, .ref g0, .int 0, .ref g1, .ref g2, .int 0, .int 0, .int 0, .int (-1), .int 0, .int 0, .int 0, .long 0, .ref g3, .ref g4, .int 0, .int 0]), (h1, aI Y 3640 (upd (upd (upd (clB 0 (fun _ => 0)) 3629 2) 3630 281) 3631 281))] (by rw [show (pickf 0 (fun j => simF (nI j)) 130) = 281 from sim129, show (pick 0 281 130) = 281 from rfl]) ?_
          refine V_iload 138 B dX12_cheapest_138 0 rfl ?_
          refine V_sipush 140 B (v := 130) dX12_cheapest_140 (by decide +kernel) ?_
          refine V_icmp_ge_t 143 B 250 dX12_cheapest_143 (by decide) (by decide +kernel) ?_
          refine V_iload 250 B dX12_cheapest_250 3 rfl ?_
          refine V_ldc 252 B (v := 1000000) dX12_cheapest_252 (mT9 29 rfl rfl) ?_
          refine V_icmp_ne_t 254 B 259 dX12_cheapest_254 (by decide) (by decide +kernel) ?_
          refine V_aload_n 259 B dX12_cheapest_259 4 rfl ?_
          refine V_get 260 B gf_RX12_9 0 rfl rfl dX12_cheapest_260 ?_
          refine V_sipush 263 B (v := 3624) dX12_cheapest_263 (by decide +kernel) ?_
          refine V_iload_n 266 B dX12_cheapest_266 6 rfl ?_
          refine V_iast 267 B 1 rfl (vpin _ _ (by decide +kernel)) dX12_cheapest_267 [(h0, oC 13 [.ref h1, .ref g0, .int 0, .ref g1, .ref g2, .int 0, .int 0, .int 0, .int (-1), .int 0, .int 0, .int 0, .long 0, .ref g3, .ref g4, .int 0, .int 0]), (h1, aI Y 3640 (upd (upd (upd (upd (clB 0 (fun _ => 0)) 3629 2) 3630 281) 3631 281) 3624 2))] rfl ?_
          refine V_aload_n 268 B dX12_cheapest_268 4 rfl ?_
          refine V_get 269 B gf_RX12_9 0 rfl rfl dX12_cheapest_269 ?_
          refine V_sipush 272 B (v := 3625) dX12_cheapest_272 (by decide +kernel) ?_
          refine V_iload 275 B dX12_cheapest_275 2 rfl ?_
          refine V_iast 277 B 1 rfl (vpin _ _ (by decide +kernel)) dX12_cheapest_277 [(h0, oC 13 [.ref h1, .ref g0, .int 0, .ref g1, .ref g2, .int 0, .int 0, .int 0, .int (-1), .int 0, .int 0, .int 0, .long 0, .ref g3, .ref g4, .int 0, .int 0]), (h1, aI Y 3640 (upd (upd (upd (upd (upd (clB 0 (fun _ => 0)) 3629 2) 3630 281) 3631 281) 3624 2) 3625 0))] rfl ?_
          refine V_aload_n 278 B dX12_cheapest_278 4 rfl ?_
          refine V_get 279 B gf_RX12_9 0 rfl rfl dX12_cheapest_279 ?_
          refine V_sipush 282 B (v := 3626) dX12_cheapest_282 (by decide +kernel) ?_
          refine V_iload 285 B dX12_cheapest_285 1 rfl ?_
          refine V_iast 287 B 1 rfl (vpin _ _ (by decide +kernel)) dX12_cheapest_287 [(h0, oC 13 [.ref h1, .ref g0, .int 0, .ref g1, .ref g2, .int 0, .int 0, .int 0, .int (-1), .int 0, .int 0, .int 0, .long 0, .ref g3, .ref g4, .int 0, .int 0]), (h1, aI Y 3640 (upd (upd (upd (upd (upd (upd (clB 0 (fun _ => 0)) 3629 2) 3630 281) 3631 281) 3624 2) 3625 0) 3626 0))] rfl ?_
          refine V_iload 288 B dX12_cheapest_288 3 rfl ?_
          exact V_iret 290 B dX12_cheapest_290 1 (Or.inr (Or.inl ⟨rfl, rfl, rfl⟩)) rfl
    ·
      refine V_ws [(h0, oC 13 [.ref h1, .ref g0, .int 0, .ref g1, .ref g2, .int 0, .int 0, .int 0, .int (-1), .int 0, .int 0, .int 0, .long 0, .ref g3, .ref g4, .int 0, .int 0]), (h1, aI Y 3640 (clB 0 (fun _ => 0)))] rfl ?_
      refine V_if_ne_f 36 B 43 dX12_cheapest_36 (by decide) (by decide +kernel) ?_
      refine V_iconst 39 B (v := 1) dX12_cheapest_39 (by decide +kernel) ?_
      refine V_goto 40 B 44 dX12_cheapest_40 (by decide) ?_
      refine V_iconst 44 B (v := 2) dX12_cheapest_44 (by decide +kernel) ?_
      refine V_cvi 45 B (st := []) (As := [.int 1, .int 2]) (fun sz => mX12_throwsIf_4 l D Y (h0) (h1) (g0) (g1) (g2) (g3) (g4) sz) glV_RX12_69 ⟨rfl, rfl⟩ ⟨(Nat.le_of_ble_eq_true rfl), (Nat.le_of_ble_eq_true rfl)⟩ ⟨(Nat.le_of_ble_eq_true rfl), (Nat.le_of_ble_eq_true rfl)⟩ [0] rfl 13 0 rfl rfl rfl rfl (Nat.le_of_ble_eq_true rfl) rfl (fun _ _ _ => rfl) dX12_cheapest_45 (fun r29 u29 w29 => ?_)
      obtain rfl := w29
      refine V_ws [(h0, oC 13 [.ref h1, .ref g0, .int 2, .ref g1, .ref g2, .int 0, .int 0, .int 0, .int (-1), .int 0, .int 0, .int 0, .long 0, .ref g3, .ref g4, .int 0, .int 0]), (h1, aI Y 3640 (clB 0 (fun _ => 0)))] rfl ?_
      refine V_if_eq_f 48 B 53 dX12_cheapest_48 (by decide) (by decide +kernel) ?_
      refine V_iconst 51 B (v := 0) dX12_cheapest_51 (by decide +kernel) ?_
      exact V_iret 52 B dX12_cheapest_52 2 (Or.inr (Or.inr (Or.inl ⟨rfl, k5, rfl⟩))) rfl
    ·
      refine V_ws [(h0, oC 13 [.ref h1, .ref g0, .int 0, .ref g1, .ref g2, .int 0, .int 0, .int 0, .int (-1), .int 0, .int 0, .int 0, .long 0, .ref g3, .ref g4, .int 0, .int 0]), (h1, aI Y 3640 (clB 0 (fun _ => 0)))] rfl ?_
      refine V_if_ne_f 36 B 43 dX12_cheapest_36 (by decide) (by decide +kernel) ?_
      refine V_iconst 39 B (v := 1) dX12_cheapest_39 (by decide +kernel) ?_
      refine V_goto 40 B 44 dX12_cheapest_40 (by decide) ?_
      refine V_iconst 44 B (v := 2) dX12_cheapest_44 (by decide +kernel) ?_
      refine V_cvi 45 B (st := []) (As := [.int 1, .int 2]) (fun sz => mX12_throwsIf_4 l D Y (h0) (h1) (g0) (g1) (g2) (g3) (g4) sz) glV_RX12_69 ⟨rfl, rfl⟩ ⟨(Nat.le_of_ble_eq_true rfl), (Nat.le_of_ble_eq_true rfl)⟩ ⟨(Nat.le_of_ble_eq_true rfl), (Nat.le_of_ble_eq_true rfl)⟩ [0] rfl 13 0 rfl rfl rfl rfl (Nat.le_of_ble_eq_true rfl) rfl (fun _ _ _ => rfl) dX12_cheapest_45 (fun r30 u30 w30 => ?_)
      obtain rfl := w30
      refine V_ws [(h0, oC 13 [.ref h1, .ref g0, .int 2, .ref g1, .ref g2, .int 0, .int 0, .int 0, .int (-1), .int 0, .int 0, .int 0, .long 0, .ref g3, .ref g4, .int 0, .int 0]), (h1, aI Y 3640 (clB 0 (fun _ => 0)))] rfl ?_
      refine V_if_eq_f 48 B 53 dX12_cheapest_48 (by decide) (by decide +kernel) ?_
      refine V_iconst 51 B (v := 0) dX12_cheapest_51 (by decide +kernel) ?_
      exact V_iret 52 B dX12_cheapest_52 3 (Or.inr (Or.inr (Or.inr ⟨rfl, k6, rfl⟩))) rfl)
