theorem dL_layer_0 : decode cL_layer 0 = .ok (.aload_n 3, 1) := by decide +kernel
theorem dL_layer_1 : decode cL_layer 1 = .ok (.iconst 0, 1) := by decide +kernel
theorem dL_layer_2 : decode cL_layer 2 = .ok (.aload_n 0, 1) := by decide +kernel
theorem dL_layer_3 : decode cL_layer 3 = .ok (.iload_n 1, 1) := by decide +kernel
theorem dL_layer_4 : decode cL_layer 4 = .ok (.iload_n 2, 1) := by decide +kernel
theorem dL_layer_5 : decode cL_layer 5 = .ok (.invokevirtual 112, 3) := by decide +kernel
theorem glV_RL_112 : GLV RL 112 yX11_layer RX11 cX11_layer 3 (some .int) 2 := ⟨⟨(mT7 13 rfl rfl), (mT7 14 rfl rfl), (mT7 15 rfl rfl), (mT1 1 rfl rfl), (mT7 16 rfl rfl)⟩, by decide +kernel⟩
theorem dL_layer_13 : decode cL_layer 13 = .ok (.astore 4, 2) := by decide +kernel
theorem dL_layer_15 : decode cL_layer 15 = .ok (.iconst 1, 1) := by decide +kernel
theorem dL_layer_16 : decode cL_layer 16 = .ok (.ireturn, 1) := by decide +kernel
set_option maxRecDepth 100000 in
set_option maxHeartbeats 4000000 in
theorem mL_layer_1 (l : Launch) (hl9 : l.stackTraces = false) (D : va_G) (Y : Nat → ClassId) (h0 : Nat) (g0 : Nat) (h1 : Nat) (g1 : Nat) (g2 : Nat) (g3 : Nat) (g4 : Nat) (g5 : Nat) (g6 : Nat) (g7 : Nat) (g8 : Nat) (g9 : Nat) (g10 : Nat) (g11 : Nat) (g12 : Nat) (g13 : Nat) (g14 : Nat) (g15 : Nat) (g16 : Nat) (g17 : Nat) (h2 : Nat) (g18 : Nat) (h3 : Nat) (g19 : Nat) (g20 : Nat) (g21 : Nat) (p0 : Int32) (p1 : Int32) (sz : Nat) : Met l yL_layer (Cond.codeWith yL_layer cL_layer 5 (some .int) [(0, 10, 13, 18)] :: lw_good) (mkR 8 1 6 125) (PreX D Y [.ref h0, .int p0, .int p1, .ref g0] [(h0, oC 12 [.ref h1, .ref g1, .ref g2, .ref g3, .ref g4, .ref g5, .ref g6, .ref g7, .ref g8, .long 0]), (h1, oC 2 [.ref g9, .ref g10, .ref g11, .ref g12, .ref g13, .ref g14, .ref g15, .ref g16, .ref g17, .ref h2, .ref g18, .int 0]), (h2, oC 4 [.ref h3, .ref g19, .ref g20, .int 0]), (h3, oC 3 [.ref g21, .int 0])] sz) (QI D (fun (r : Int32) (u : Unit) => (p0 < 0 ∧ 1 = r) ∨ (¬ p0 < 0 ∧ 1 = r)) (fun (_ : Unit) => [(h0, oC 12 [.ref h1, .ref g1, .ref g2, .ref g3, .ref g4, .ref g5, .ref g6, .ref g7, .ref g8, .long 0]), (h1, oC 2 [.ref g9, .ref g10, .ref g11, .ref g12, .ref g13, .ref g14, .ref g15, .ref g16, .ref g17, .ref h2, .ref g18, .int 0]), (h2, oC 4 [.ref h3, .ref g19, .ref g20, .int 0]), (h3, oC 3 [.ref g21, .int 0])]) (va_A [(h0, oC 12 [.ref h1, .ref g1, .ref g2, .ref g3, .ref g4, .ref g5, .ref g6, .ref g7, .ref g8, .long 0]), (h1, oC 2 [.ref g9, .ref g10, .ref g11, .ref g12, .ref g13, .ref g14, .ref g15, .ref g16, .ref g17, .ref h2, .ref g18, .int 0]), (h2, oC 4 [.ref h3, .ref g19, .ref g20, .int 0]), (h3, oC 3 [.ref g21, .int 0])] sz)) 1 6 (va_A [(h0, oC 12 [.ref h1, .ref g1, .ref g2, .ref g3, .ref g4, .ref g5, .ref g6, .ref g7, .ref g8, .long 0]), (h1, oC 2 [.ref g9, .ref g10, .ref g11, .ref g12, .ref g13, .ref g14, .ref g15, .ref g16, .ref g17, .ref h2, .ref g18, .int 0]), (h2, oC 4 [.ref h3, .ref g19, .ref g20, .int 0]), (h3, oC 3 [.ref g21, .int 0])] sz) :=
  metH_of (by decide +kernel) (Nat.le_of_ble_eq_true rfl) (fun p e s m args below meth c B EB htab hsz => by
    have B : VB p s m args meth c D Y (va_A [(h0, oC 12 [.ref h1, .ref g1, .ref g2, .ref g3, .ref g4, .ref g5, .ref g6, .ref g7, .ref g8, .long 0]), (h1, oC 2 [.ref g9, .ref g10, .ref g11, .ref g12, .ref g13, .ref g14, .ref g15, .ref g16, .ref g17, .ref h2, .ref g18, .int 0]), (h2, oC 4 [.ref h3, .ref g19, .ref g20, .int 0]), (h3, oC 3 [.ref g21, .int 0])] sz) cL_layer 5 RL (some .int) := B
    refine V_aload_n 0 B dL_layer_0 3 rfl ?_
    refine V_iconst 1 B (v := 0) dL_layer_1 (by decide +kernel) ?_
    refine V_aload_n 2 B dL_layer_2 0 rfl ?_
    refine V_iload_n 3 B dL_layer_3 1 rfl ?_
    refine V_iload_n 4 B dL_layer_4 2 rfl ?_
    refine V_xvi 5 B EB (st := [.int 0, .ref g0]) (As := [.int p0, .int p1]) (fun sz => mX11_layer_1 l hl9 D Y (h0) (h1) (g1) (g2) (g3) (g4) (g5) (g6) (g7) (g8) (g9) (g10) (g11) (g12) (g13) (g14) (g15) (g16) (g17) (h2) (g18) (h3) (g19) (g20) (g21) (p0) (p1) sz) glV_RL_112 ⟨rfl, rfl⟩ ⟨(Nat.le_of_ble_eq_true rfl), (Nat.le_of_ble_eq_true rfl)⟩ ⟨(Nat.le_of_ble_eq_true rfl), (Nat.le_of_ble_eq_true rfl)⟩ [0, 0, 0, 0] rfl 12 0 rfl rfl rfl rfl (Nat.le_of_ble_eq_true rfl) rfl (fun _ _ _ => rfl) (fun _ _ _ => rfl) dL_layer_5 (fun E u0 w0 => ?_) (fun r0 u0 w0 => ?_)
    ·
      rcases w0 with ⟨rfl, k1⟩ | ⟨rfl, k2⟩
      ·
        refine VX_catch 5 B htab [] (0, 10, 13, 18) [] rfl "java/lang/IndexOutOfBoundsException" (fun z hz => nomatch hz) rfl (by decide) (mT5 103 rfl rfl) (EB.2.2.2.1 _ (List.mem_of_getElem? (i := 1) rfl)) 13 rfl (fun q9 => ?_)
        refine V_ws [(h0, oC 12 [.ref h1, .ref g1, .ref g2, .ref g3, .ref g4, .ref g5, .ref g6, .ref g7, .ref g8, .long 0]), (h1, oC 2 [.ref g9, .ref g10, .ref g11, .ref g12, .ref g13, .ref g14, .ref g15, .ref g16, .ref g17, .ref h2, .ref g18, .int 0]), (h2, oC 4 [.ref h3, .ref g19, .ref g20, .int 0]), (h3, oC 3 [.ref g21, .int 0])] rfl ?_
        refine V_astore 13 B (lv2 := [(4, .ref q9), (0, .ref h0), (1, .int p0), (2, .int p1), (3, .ref g0)]) dL_layer_13 (by decide) rfl ?_
        refine V_iconst 15 B (v := 1) dL_layer_15 (by decide +kernel) ?_
        exact V_iret 16 B dL_layer_16 () (Or.inl ⟨k1, rfl⟩) rfl
      ·
        refine VX_catch 5 B htab [] (0, 10, 13, 18) [] rfl "java/lang/IndexOutOfBoundsException" (fun z hz => nomatch hz) rfl (by decide) (mT5 103 rfl rfl) (EB.2.2.2.1 _ (List.mem_of_getElem? (i := 1) rfl)) 13 rfl (fun q9 => ?_)
        refine V_ws [(h0, oC 12 [.ref h1, .ref g1, .ref g2, .ref g3, .ref g4, .ref g5, .ref g6, .ref g7, .ref g8, .long 0]), (h1, oC 2 [.ref g9, .ref g10, .ref g11, .ref g12, .ref g13, .ref g14, .ref g15, .ref g16, .ref g17, .ref h2, .ref g18, .int 0]), (h2, oC 4 [.ref h3, .ref g19, .ref g20, .int 0]), (h3, oC 3 [.ref g21, .int 0])] rfl ?_
        refine V_astore 13 B (lv2 := [(4, .ref q9), (0, .ref h0), (1, .int p0), (2, .int p1), (3, .ref g0)]) dL_layer_13 (by decide) rfl ?_
        refine V_iconst 15 B (v := 1) dL_layer_15 (by decide +kernel) ?_
        exact V_iret 16 B dL_layer_16 () (Or.inr ⟨k2, rfl⟩) rfl
    ·
      exact w0.elim)
theorem dL_law_2495 : decode cL_law 2495 = .ok (.aload_n 1, 1) := by decide +kernel
theorem dL_law_2496 : decode cL_law 2496 = .ok (.aload_n 0, 1) := by decide +kernel
theorem dL_law_2497 : decode cL_law 2497 = .ok (.iload 4, 2) := by decide +kernel
theorem dL_law_2499 : decode cL_law 2499 = .ok (.iconst 1, 1) := by decide +kernel
theorem dL_law_2500 : decode cL_law 2500 = .ok (.iadd, 1) := by decide +kernel
theorem dL_law_2501 : decode cL_law 2501 = .ok (.iaload, 1) := by decide +kernel
theorem dL_law_2502 : decode cL_law 2502 = .ok (.aload_n 0, 1) := by decide +kernel
theorem dL_law_2503 : decode cL_law 2503 = .ok (.iload 4, 2) := by decide +kernel
theorem dL_law_2505 : decode cL_law 2505 = .ok (.iconst 2, 1) := by decide +kernel
theorem dL_law_2506 : decode cL_law 2506 = .ok (.iadd, 1) := by decide +kernel
theorem dL_law_2507 : decode cL_law 2507 = .ok (.iaload, 1) := by decide +kernel
theorem dL_law_2508 : decode cL_law 2508 = .ok (.aload_n 3, 1) := by decide +kernel
theorem dL_law_2509 : decode cL_law 2509 = .ok (.invokestatic 301, 3) := by decide +kernel
theorem glH_RL_301 : GLH RL 301 yL_layer cL_layer 5 (some .int) [(0, 10, 13, 18)] 4 := ⟨⟨(mT7 10 rfl rfl), (mT7 11 rfl rfl), (mT1 0 rfl rfl), (mT7 12 rfl rfl)⟩, by decide +kernel⟩
theorem dL_law_2512 : decode cL_law 2512 = .ok (.istore 5, 2) := by decide +kernel
theorem dL_law_2514 : decode cL_law 2514 = .ok (.aload_n 2, 1) := by decide +kernel
theorem dL_law_2515 : decode cL_law 2515 = .ok (.aload_n 0, 1) := by decide +kernel
theorem dL_law_2516 : decode cL_law 2516 = .ok (.iload 4, 2) := by decide +kernel
theorem dL_law_2518 : decode cL_law 2518 = .ok (.iconst 1, 1) := by decide +kernel
theorem dL_law_2519 : decode cL_law 2519 = .ok (.iadd, 1) := by decide +kernel
theorem dL_law_2520 : decode cL_law 2520 = .ok (.iaload, 1) := by decide +kernel
theorem dL_law_2521 : decode cL_law 2521 = .ok (.aload_n 0, 1) := by decide +kernel
theorem dL_law_2522 : decode cL_law 2522 = .ok (.iload 4, 2) := by decide +kernel
theorem dL_law_2524 : decode cL_law 2524 = .ok (.iconst 2, 1) := by decide +kernel
theorem dL_law_2525 : decode cL_law 2525 = .ok (.iadd, 1) := by decide +kernel
theorem dL_law_2526 : decode cL_law 2526 = .ok (.iaload, 1) := by decide +kernel
theorem dL_law_2527 : decode cL_law 2527 = .ok (.invokevirtual 303, 3) := by decide +kernel
theorem glV_RL_303 : GLV RL 303 yX12_layer RX12 cX12_layer 3 (some .int) 2 := ⟨⟨(mT9 52 rfl rfl), (mT9 53 rfl rfl), (mT9 54 rfl rfl), (mT1 13 rfl rfl), (mT9 55 rfl rfl)⟩, by decide +kernel⟩
theorem dL_law_2530 : decode cL_law 2530 = .ok (.istore 6, 2) := by decide +kernel
theorem dL_law_2532 : decode cL_law 2532 = .ok (.aload_n 2, 1) := by decide +kernel
theorem dL_law_2533 : decode cL_law 2533 = .ok (.invokevirtual 182, 3) := by decide +kernel
theorem dL_law_2536 : decode cL_law 2536 = .ok (.iload 5, 2) := by decide +kernel
theorem dL_law_2538 : decode cL_law 2538 = .ok (.if_icmp .eq 5, 3) := by decide +kernel
theorem dL_law_2543 : decode cL_law 2543 = .ok (.iload 5, 2) := by decide +kernel
theorem dL_law_2545 : decode cL_law 2545 = .ok (.ifCond .ne 15, 3) := by decide +kernel
theorem dL_law_2560 : decode cL_law 2560 = .ok (.goto 772, 3) := by decide +kernel
set_option maxRecDepth 100000 in
set_option maxHeartbeats 4000000 in
theorem law_c43 {p : Program} {l : Launch} {e : Env} {s : State} {m : MethodId} {below : List Frame} {meth : Method} {c : Code} {b : Nat} {xs : Nat → Int32} {D : va_G} {Y : Nat → ClassId} (B : VB p s m #[Value.ref b] meth c D Y (fun q => s.heap.size ≤ q) cL_law 8 RL ret) (EB : EX (fun q => s.heap.size ≤ q) s s.heap) (hl9 : l.stackTraces = false) (hX : va_X b 6 xs s s.heap) (hbl : b < s.heap.size) (hbA : ¬ (fun q => s.heap.size ≤ q) b) (x0 x1 x30 x59 x88 x117 x126 x127 x129 x132 x2 x4 x6 x8 x10 x12 x14 x16 x18 x20 x27 x21 x23 x25 x22 m0 m1 m2 m3 m4 m5 m6 o0 : Nat) (p1 p2 : Int32) (e1 : xs 1 = p1) (e2 : xs 2 = p2) : V p l e room_1 s m #[Value.ref b] below meth c D (fun q => s.heap.size ≤ q) 8 149 10574 (lw_Z below #[Value.ref b] s) 2495 [(4, .int 0), (3, .ref o0), (2, .ref m0), (1, .ref x0), (0, .ref b)] [] [(x0, oC 12 [.ref x1, .ref x30, .ref x59, .ref x88, .ref x117, .ref x126, .ref x127, .ref x129, .ref x132, .long 0]), (x1, oC 2 [.ref x2, .ref x4, .ref x6, .ref x8, .ref x10, .ref x12, .ref x14, .ref x16, .ref x18, .ref x20, .ref x27, .int 0]), (x20, oC 4 [.ref x21, .ref x23, .ref x25, .int 0]), (x21, oC 3 [.ref x22, .int 0]), (m0, oC 13 [.ref m1, .ref m2, .int 0, .ref m3, .ref m4, .int 0, .int 0, .int 0, .int (-1), .int 0, .int 0, .int 0, .long 0, .ref m5, .ref m6, .int 0, .int 0]), (m1, aI Y 3640 (clB 0 (fun _ => 0)))] := by
  refine V_aload_n 2495 B dL_law_2495 3 rfl ?_
  refine V_aload_n 2496 B dL_law_2496 4 rfl ?_
  refine V_iload 2497 B dL_law_2497 0 rfl ?_
  refine V_iconst 2499 B (v := 1) dL_law_2499 (by decide +kernel) ?_
  refine V_iadd 2500 B (v := 1) dL_law_2500 (by decide +kernel) ?_
  refine V_sld 2501 B hX hbl hbA (v := p1) (vpin _ _ (by decide +kernel)) dL_law_2501 e1 ?_
  refine V_aload_n 2502 B dL_law_2502 4 rfl ?_
  refine V_iload 2503 B dL_law_2503 0 rfl ?_
  refine V_iconst 2505 B (v := 2) dL_law_2505 (by decide +kernel) ?_
  refine V_iadd 2506 B (v := 2) dL_law_2506 (by decide +kernel) ?_
  refine V_sld 2507 B hX hbl hbA (v := p2) (vpin _ _ (by decide +kernel)) dL_law_2507 e2 ?_
  refine V_aload_n 2508 B dL_law_2508 1 rfl ?_
  refine V_hsi 2509 B EB (st := []) (As := [.ref x0, .int p1, .int p2, .ref o0]) (fun sz => mL_layer_1 l hl9 D Y (x0) (o0) (x1) (x30) (x59) (x88) (x117) (x126) (x127) (x129) (x132) (x2) (x4) (x6) (x8) (x10) (x12) (x14) (x16) (x18) (x20) (x27) (x21) (x23) (x25) (x22) (p1) (p2) sz) glH_RL_301 ⟨rfl, rfl⟩ ⟨(Nat.le_of_ble_eq_true rfl), (Nat.le_of_ble_eq_true rfl)⟩ ⟨(Nat.le_of_ble_eq_true rfl), (Nat.le_of_ble_eq_true rfl)⟩ [0, 0, 0, 0] rfl rfl (Nat.le_of_ble_eq_true rfl) rfl (fun _ _ _ => rfl) dL_law_2509 (fun r0 u0 w0 => ?_)
  rcases w0 with ⟨k1, rfl⟩ | ⟨k2, rfl⟩
  ·
    refine V_ws [(x0, oC 12 [.ref x1, .ref x30, .ref x59, .ref x88, .ref x117, .ref x126, .ref x127, .ref x129, .ref x132, .long 0]), (x1, oC 2 [.ref x2, .ref x4, .ref x6, .ref x8, .ref x10, .ref x12, .ref x14, .ref x16, .ref x18, .ref x20, .ref x27, .int 0]), (x20, oC 4 [.ref x21, .ref x23, .ref x25, .int 0]), (x21, oC 3 [.ref x22, .int 0]), (m0, oC 13 [.ref m1, .ref m2, .int 0, .ref m3, .ref m4, .int 0, .int 0, .int 0, .int (-1), .int 0, .int 0, .int 0, .long 0, .ref m5, .ref m6, .int 0, .int 0]), (m1, aI Y 3640 (clB 0 (fun _ => 0)))] rfl ?_
    refine V_istore 2512 B (lv2 := [(5, .int 1), (4, .int 0), (3, .ref o0), (2, .ref m0), (1, .ref x0), (0, .ref b)]) dL_law_2512 (by decide) rfl ?_
    refine V_aload_n 2514 B dL_law_2514 3 rfl ?_
    refine V_aload_n 2515 B dL_law_2515 5 rfl ?_
    refine V_iload 2516 B dL_law_2516 1 rfl ?_
    refine V_iconst 2518 B (v := 1) dL_law_2518 (by decide +kernel) ?_
    refine V_iadd 2519 B (v := 1) dL_law_2519 (by decide +kernel) ?_
    refine V_sld 2520 B hX hbl hbA (v := p1) (vpin _ _ (by decide +kernel)) dL_law_2520 e1 ?_
    refine V_aload_n 2521 B dL_law_2521 5 rfl ?_
    refine V_iload 2522 B dL_law_2522 1 rfl ?_
    refine V_iconst 2524 B (v := 2) dL_law_2524 (by decide +kernel) ?_
    refine V_iadd 2525 B (v := 2) dL_law_2525 (by decide +kernel) ?_
    refine V_sld 2526 B hX hbl hbA (v := p2) (vpin _ _ (by decide +kernel)) dL_law_2526 e2 ?_
    refine V_cvi 2527 B (st := []) (As := [.int p1, .int p2]) (fun sz => mX12_layer_1 l D Y (m0) (m1) (m2) (m3) (m4) (m5) (m6) (p1) (p2) sz) glV_RL_303 ⟨rfl, rfl⟩ ⟨(Nat.le_of_ble_eq_true rfl), (Nat.le_of_ble_eq_true rfl)⟩ ⟨(Nat.le_of_ble_eq_true rfl), (Nat.le_of_ble_eq_true rfl)⟩ [4, 0] rfl 13 0 rfl rfl rfl rfl (Nat.le_of_ble_eq_true rfl) rfl (fun _ _ _ => rfl) dL_law_2527 (fun r3 u3 w3 => ?_)
    rcases w3 with ⟨k4, rfl⟩ | ⟨k5, rfl⟩
    ·
      refine V_ws [(x0, oC 12 [.ref x1, .ref x30, .ref x59, .ref x88, .ref x117, .ref x126, .ref x127, .ref x129, .ref x132, .long 0]), (x1, oC 2 [.ref x2, .ref x4, .ref x6, .ref x8, .ref x10, .ref x12, .ref x14, .ref x16, .ref x18, .ref x20, .ref x27, .int 0]), (x20, oC 4 [.ref x21, .ref x23, .ref x25, .int 0]), (x21, oC 3 [.ref x22, .int 0]), (m0, oC 13 [.ref m1, .ref m2, .int 1, .ref m3, .ref m4, .int 0, .int 0, .int 0, .int (-1), .int 0, .int 0, .int 0, .long 0, .ref m5, .ref m6, .int 0, .int 0]), (m1, aI Y 3640 (clB 0 (fun _ => 0)))] rfl ?_
      refine V_istore 2530 B (lv2 := [(6, .int 0), (5, .int 1), (4, .int 0), (3, .ref o0), (2, .ref m0), (1, .ref x0), (0, .ref b)]) dL_law_2530 (by decide) rfl ?_
      refine V_aload_n 2532 B dL_law_2532 4 rfl ?_
      refine V_cvi 2533 B (st := []) (As := []) (fun sz => mX12_thrown_2 l D Y (m0) (m1) (m2) (m3) (m4) (m5) (m6) sz) glV_RL_182 ⟨rfl, rfl⟩ ⟨(Nat.le_of_ble_eq_true rfl), (Nat.le_of_ble_eq_true rfl)⟩ ⟨(Nat.le_of_ble_eq_true rfl), (Nat.le_of_ble_eq_true rfl)⟩ [4] rfl 13 0 rfl rfl rfl rfl (Nat.le_of_ble_eq_true rfl) rfl (fun _ _ _ => rfl) dL_law_2533 (fun r6 u6 w6 => ?_)
      obtain rfl := w6
      refine V_ws [(x0, oC 12 [.ref x1, .ref x30, .ref x59, .ref x88, .ref x117, .ref x126, .ref x127, .ref x129, .ref x132, .long 0]), (x1, oC 2 [.ref x2, .ref x4, .ref x6, .ref x8, .ref x10, .ref x12, .ref x14, .ref x16, .ref x18, .ref x20, .ref x27, .int 0]), (x20, oC 4 [.ref x21, .ref x23, .ref x25, .int 0]), (x21, oC 3 [.ref x22, .int 0]), (m0, oC 13 [.ref m1, .ref m2, .int 1, .ref m3, .ref m4, .int 0, .int 0, .int 0, .int (-1), .int 0, .int 0, .int 0, .long 0, .ref m5, .ref m6, .int 0, .int 0]), (m1, aI Y 3640 (clB 0 (fun _ => 0)))] rfl ?_
      refine V_iload 2536 B dL_law_2536 1 rfl ?_
      refine V_icmp_eq_t 2538 B 2543 dL_law_2538 (by decide) (by decide +kernel) ?_
      refine V_iload 2543 B dL_law_2543 1 rfl ?_
      refine V_if_ne_t 2545 B 2560 dL_law_2545 (by decide) (by decide +kernel) ?_
      refine V_goto 2560 B 3332 dL_law_2560 (by decide) ?_
      refine V_iinc 3332 B (v := 6) (lv2 := [(4, .int 6), (6, .int 0), (5, .int 1), (3, .ref o0), (2, .ref m0), (1, .ref x0), (0, .ref b)]) dL_law_3332 2 rfl (by decide +kernel) (by decide) rfl ?_
      refine V_goto 3335 B 23 dL_law_3335 (by decide) ?_
      refine V_iload 23 B dL_law_23 0 rfl ?_
      refine V_aload_n 25 B dL_law_25 6 rfl ?_
      refine V_slen 26 B hX hbl hbA (v := 6) (by decide +kernel) dL_law_26 ?_
      refine V_bipush 27 B (v := 6) dL_law_27 (by decide +kernel) ?_
      refine V_isub 29 B (v := 0) dL_law_29 (by decide +kernel) ?_
      refine V_icmp_gt_t 30 B 3338 dL_law_30 (by decide) (by decide +kernel) ?_
      exact law_end B (Nat.le_of_ble_eq_true rfl) (Nat.le_of_ble_eq_true rfl) dL_law_3338 dL_law_3339
    ·
      refine V_ws [(x0, oC 12 [.ref x1, .ref x30, .ref x59, .ref x88, .ref x117, .ref x126, .ref x127, .ref x129, .ref x132, .long 0]), (x1, oC 2 [.ref x2, .ref x4, .ref x6, .ref x8, .ref x10, .ref x12, .ref x14, .ref x16, .ref x18, .ref x20, .ref x27, .int 0]), (x20, oC 4 [.ref x21, .ref x23, .ref x25, .int 0]), (x21, oC 3 [.ref x22, .int 0]), (m0, oC 13 [.ref m1, .ref m2, .int 1, .ref m3, .ref m4, .int 0, .int 0, .int 0, .int (-1), .int 0, .int 0, .int 0, .long 0, .ref m5, .ref m6, .int 0, .int 0]), (m1, aI Y 3640 (clB 0 (fun _ => 0)))] rfl ?_
      exact (q_abs (b_gt k5 (n := 0) (by decide +kernel)) (b_lt k1 (n := (-1)) (by decide +kernel)) (by decide +kernel)).elim
  ·
    refine V_ws [(x0, oC 12 [.ref x1, .ref x30, .ref x59, .ref x88, .ref x117, .ref x126, .ref x127, .ref x129, .ref x132, .long 0]), (x1, oC 2 [.ref x2, .ref x4, .ref x6, .ref x8, .ref x10, .ref x12, .ref x14, .ref x16, .ref x18, .ref x20, .ref x27, .int 0]), (x20, oC 4 [.ref x21, .ref x23, .ref x25, .int 0]), (x21, oC 3 [.ref x22, .int 0]), (m0, oC 13 [.ref m1, .ref m2, .int 0, .ref m3, .ref m4, .int 0, .int 0, .int 0, .int (-1), .int 0, .int 0, .int 0, .long 0, .ref m5, .ref m6, .int 0, .int 0]), (m1, aI Y 3640 (clB 0 (fun _ => 0)))] rfl ?_
    refine V_istore 2512 B (lv2 := [(5, .int 1), (4, .int 0), (3, .ref o0), (2, .ref m0), (1, .ref x0), (0, .ref b)]) dL_law_2512 (by decide) rfl ?_
    refine V_aload_n 2514 B dL_law_2514 3 rfl ?_
    refine V_aload_n 2515 B dL_law_2515 5 rfl ?_
    refine V_iload 2516 B dL_law_2516 1 rfl ?_
    refine V_iconst 2518 B (v := 1) dL_law_2518 (by decide +kernel) ?_
    refine V_iadd 2519 B (v := 1) dL_law_2519 (by decide +kernel) ?_
    refine V_sld 2520 B hX hbl hbA (v := p1) (vpin _ _ (by decide +kernel)) dL_law_2520 e1 ?_
    refine V_aload_n 2521 B dL_law_2521 5 rfl ?_
    refine V_iload 2522 B dL_law_2522 1 rfl ?_
    refine V_iconst 2524 B (v := 2) dL_law_2524 (by decide +kernel) ?_
    refine V_iadd 2525 B (v := 2) dL_law_2525 (by decide +kernel) ?_
    refine V_sld 2526 B hX hbl hbA (v := p2) (vpin _ _ (by decide +kernel)) dL_law_2526 e2 ?_
    refine V_cvi 2527 B (st := []) (As := [.int p1, .int p2]) (fun sz => mX12_layer_1 l D Y (m0) (m1) (m2) (m3) (m4) (m5) (m6) (p1) (p2) sz) glV_RL_303 ⟨rfl, rfl⟩ ⟨(Nat.le_of_ble_eq_true rfl), (Nat.le_of_ble_eq_true rfl)⟩ ⟨(Nat.le_of_ble_eq_true rfl), (Nat.le_of_ble_eq_true rfl)⟩ [4, 0] rfl 13 0 rfl rfl rfl rfl (Nat.le_of_ble_eq_true rfl) rfl (fun _ _ _ => rfl) dL_law_2527 (fun r7 u7 w7 => ?_)
    rcases w7 with ⟨k8, rfl⟩ | ⟨k9, rfl⟩
    ·
      refine V_ws [(x0, oC 12 [.ref x1, .ref x30, .ref x59, .ref x88, .ref x117, .ref x126, .ref x127, .ref x129, .ref x132, .long 0]), (x1, oC 2 [.ref x2, .ref x4, .ref x6, .ref x8, .ref x10, .ref x12, .ref x14, .ref x16, .ref x18, .ref x20, .ref x27, .int 0]), (x20, oC 4 [.ref x21, .ref x23, .ref x25, .int 0]), (x21, oC 3 [.ref x22, .int 0]), (m0, oC 13 [.ref m1, .ref m2, .int 1, .ref m3, .ref m4, .int 0, .int 0, .int 0, .int (-1), .int 0, .int 0, .int 0, .long 0, .ref m5, .ref m6, .int 0, .int 0]), (m1, aI Y 3640 (clB 0 (fun _ => 0)))] rfl ?_
      exact (q_abs (b_nlt k2 (n := 0) (by decide +kernel)) (b_lt k8 (n := (-1)) (by decide +kernel)) (by decide +kernel)).elim
    ·
      refine V_ws [(x0, oC 12 [.ref x1, .ref x30, .ref x59, .ref x88, .ref x117, .ref x126, .ref x127, .ref x129, .ref x132, .long 0]), (x1, oC 2 [.ref x2, .ref x4, .ref x6, .ref x8, .ref x10, .ref x12, .ref x14, .ref x16, .ref x18, .ref x20, .ref x27, .int 0]), (x20, oC 4 [.ref x21, .ref x23, .ref x25, .int 0]), (x21, oC 3 [.ref x22, .int 0]), (m0, oC 13 [.ref m1, .ref m2, .int 1, .ref m3, .ref m4, .int 0, .int 0, .int 0, .int (-1), .int 0, .int 0, .int 0, .long 0, .ref m5, .ref m6, .int 0, .int 0]), (m1, aI Y 3640 (clB 0 (fun _ => 0)))] rfl ?_
      refine V_istore 2530 B (lv2 := [(6, .int 0), (5, .int 1), (4, .int 0), (3, .ref o0), (2, .ref m0), (1, .ref x0), (0, .ref b)]) dL_law_2530 (by decide) rfl ?_
      refine V_aload_n 2532 B dL_law_2532 4 rfl ?_
      refine V_cvi 2533 B (st := []) (As := []) (fun sz => mX12_thrown_2 l D Y (m0) (m1) (m2) (m3) (m4) (m5) (m6) sz) glV_RL_182 ⟨rfl, rfl⟩ ⟨(Nat.le_of_ble_eq_true rfl), (Nat.le_of_ble_eq_true rfl)⟩ ⟨(Nat.le_of_ble_eq_true rfl), (Nat.le_of_ble_eq_true rfl)⟩ [4] rfl 13 0 rfl rfl rfl rfl (Nat.le_of_ble_eq_true rfl) rfl (fun _ _ _ => rfl) dL_law_2533 (fun r10 u10 w10 => ?_)
      obtain rfl := w10
      refine V_ws [(x0, oC 12 [.ref x1, .ref x30, .ref x59, .ref x88, .ref x117, .ref x126, .ref x127, .ref x129, .ref x132, .long 0]), (x1, oC 2 [.ref x2, .ref x4, .ref x6, .ref x8, .ref x10, .ref x12, .ref x14, .ref x16, .ref x18, .ref x20, .ref x27, .int 0]), (x20, oC 4 [.ref x21, .ref x23, .ref x25, .int 0]), (x21, oC 3 [.ref x22, .int 0]), (m0, oC 13 [.ref m1, .ref m2, .int 1, .ref m3, .ref m4, .int 0, .int 0, .int 0, .int (-1), .int 0, .int 0, .int 0, .long 0, .ref m5, .ref m6, .int 0, .int 0]), (m1, aI Y 3640 (clB 0 (fun _ => 0)))] rfl ?_
      refine V_iload 2536 B dL_law_2536 1 rfl ?_
      refine V_icmp_eq_t 2538 B 2543 dL_law_2538 (by decide) (by decide +kernel) ?_
      refine V_iload 2543 B dL_law_2543 1 rfl ?_
      refine V_if_ne_t 2545 B 2560 dL_law_2545 (by decide) (by decide +kernel) ?_
      refine V_goto 2560 B 3332 dL_law_2560 (by decide) ?_
      refine V_iinc 3332 B (v := 6) (lv2 := [(4, .int 6), (6, .int 0), (5, .int 1), (3, .ref o0), (2, .ref m0), (1, .ref x0), (0, .ref b)]) dL_law_3332 2 rfl (by decide +kernel) (by decide) rfl ?_
      refine V_goto 3335 B 23 dL_law_3335 (by decide) ?_
      refine V_iload 23 B dL_law_23 0 rfl ?_
      refine V_aload_n 25 B dL_law_25 6 rfl ?_
      refine V_slen 26 B hX hbl hbA (v := 6) (by decide +kernel) dL_law_26 ?_
      refine V_bipush 27 B (v := 6) dL_law_27 (by decide +kernel) ?_
      refine V_isub 29 B (v := 0) dL_law_29 (by decide +kernel) ?_
      refine V_icmp_gt_t 30 B 3338 dL_law_30 (by decide) (by decide +kernel) ?_
      exact law_end B (Nat.le_of_ble_eq_true rfl) (Nat.le_of_ble_eq_true rfl) dL_law_3338 dL_law_3339
theorem dL_mapped_0 : decode cL_mapped 0 = .ok (.aload_n 3, 1) := by decide +kernel
theorem dL_mapped_1 : decode cL_mapped 1 = .ok (.iconst 0, 1) := by decide +kernel
theorem dL_mapped_2 : decode cL_mapped 2 = .ok (.aload_n 0, 1) := by decide +kernel
theorem dL_mapped_3 : decode cL_mapped 3 = .ok (.iload_n 1, 1) := by decide +kernel
theorem dL_mapped_4 : decode cL_mapped 4 = .ok (.iload_n 2, 1) := by decide +kernel
theorem dL_mapped_5 : decode cL_mapped 5 = .ok (.invokevirtual 115, 3) := by decide +kernel
theorem glV_RL_115 : GLV RL 115 yX11_mapped RX11 cX11_mapped 3 (some .int) 2 := ⟨⟨(mT7 29 rfl rfl), (mT7 30 rfl rfl), (mT7 31 rfl rfl), (mT1 1 rfl rfl), (mT7 32 rfl rfl)⟩, by decide +kernel⟩
theorem dL_mapped_13 : decode cL_mapped 13 = .ok (.astore 4, 2) := by decide +kernel
theorem dL_mapped_15 : decode cL_mapped 15 = .ok (.iconst 1, 1) := by decide +kernel
theorem dL_mapped_16 : decode cL_mapped 16 = .ok (.ireturn, 1) := by decide +kernel
set_option maxRecDepth 100000 in
set_option maxHeartbeats 4000000 in
theorem mL_mapped_1 (l : Launch) (hl9 : l.stackTraces = false) (D : va_G) (Y : Nat → ClassId) (h0 : Nat) (g0 : Nat) (h1 : Nat) (g1 : Nat) (g2 : Nat) (g3 : Nat) (g4 : Nat) (g5 : Nat) (g6 : Nat) (g7 : Nat) (g8 : Nat) (g9 : Nat) (g10 : Nat) (g11 : Nat) (g12 : Nat) (g13 : Nat) (g14 : Nat) (g15 : Nat) (g16 : Nat) (g17 : Nat) (h2 : Nat) (g18 : Nat) (h3 : Nat) (g19 : Nat) (g20 : Nat) (g21 : Nat) (p0 : Int32) (p1 : Int32) (sz : Nat) : Met l yL_mapped (Cond.codeWith yL_mapped cL_mapped 5 (some .int) [(0, 10, 13, 18), (0, 10, 17, 13)] :: lw_good) (mkR 8 1 6 125) (PreX D Y [.ref h0, .int p0, .int p1, .ref g0] [(h0, oC 12 [.ref h1, .ref g1, .ref g2, .ref g3, .ref g4, .ref g5, .ref g6, .ref g7, .ref g8, .long 0]), (h1, oC 2 [.ref g9, .ref g10, .ref g11, .ref g12, .ref g13, .ref g14, .ref g15, .ref g16, .ref g17, .ref h2, .ref g18, .int 0]), (h2, oC 4 [.ref h3, .ref g19, .ref g20, .int 0]), (h3, oC 3 [.ref g21, .int 0])] sz) (QI D (fun (r : Int32) (u : Unit) => (p0 < 0 ∧ 1 = r) ∨ (¬ p0 < 0 ∧ 1 = r)) (fun (_ : Unit) => [(h0, oC 12 [.ref h1, .ref g1, .ref g2, .ref g3, .ref g4, .ref g5, .ref g6, .ref g7, .ref g8, .long 0]), (h1, oC 2 [.ref g9, .ref g10, .ref g11, .ref g12, .ref g13, .ref g14, .ref g15, .ref g16, .ref g17, .ref h2, .ref g18, .int 0]), (h2, oC 4 [.ref h3, .ref g19, .ref g20, .int 0]), (h3, oC 3 [.ref g21, .int 0])]) (va_A [(h0, oC 12 [.ref h1, .ref g1, .ref g2, .ref g3, .ref g4, .ref g5, .ref g6, .ref g7, .ref g8, .long 0]), (h1, oC 2 [.ref g9, .ref g10, .ref g11, .ref g12, .ref g13, .ref g14, .ref g15, .ref g16, .ref g17, .ref h2, .ref g18, .int 0]), (h2, oC 4 [.ref h3, .ref g19, .ref g20, .int 0]), (h3, oC 3 [.ref g21, .int 0])] sz)) 1 6 (va_A [(h0, oC 12 [.ref h1, .ref g1, .ref g2, .ref g3, .ref g4, .ref g5, .ref g6, .ref g7, .ref g8, .long 0]), (h1, oC 2 [.ref g9, .ref g10, .ref g11, .ref g12, .ref g13, .ref g14, .ref g15, .ref g16, .ref g17, .ref h2, .ref g18, .int 0]), (h2, oC 4 [.ref h3, .ref g19, .ref g20, .int 0]), (h3, oC 3 [.ref g21, .int 0])] sz) :=
  metH_of (by decide +kernel) (Nat.le_of_ble_eq_true rfl) (fun p e s m args below meth c B EB htab hsz => by
    have B : VB p s m args meth c D Y (va_A [(h0, oC 12 [.ref h1, .ref g1, .ref g2, .ref g3, .ref g4, .ref g5, .ref g6, .ref g7, .ref g8, .long 0]), (h1, oC 2 [.ref g9, .ref g10, .ref g11, .ref g12, .ref g13, .ref g14, .ref g15, .ref g16, .ref g17, .ref h2, .ref g18, .int 0]), (h2, oC 4 [.ref h3, .ref g19, .ref g20, .int 0]), (h3, oC 3 [.ref g21, .int 0])] sz) cL_mapped 5 RL (some .int) := B
    refine V_aload_n 0 B dL_mapped_0 3 rfl ?_
    refine V_iconst 1 B (v := 0) dL_mapped_1 (by decide +kernel) ?_
    refine V_aload_n 2 B dL_mapped_2 0 rfl ?_
    refine V_iload_n 3 B dL_mapped_3 1 rfl ?_
    refine V_iload_n 4 B dL_mapped_4 2 rfl ?_
    refine V_xvi 5 B EB (st := [.int 0, .ref g0]) (As := [.int p0, .int p1]) (fun sz => mX11_mapped_1 l hl9 D Y (h0) (h1) (g1) (g2) (g3) (g4) (g5) (g6) (g7) (g8) (g9) (g10) (g11) (g12) (g13) (g14) (g15) (g16) (g17) (h2) (g18) (h3) (g19) (g20) (g21) (p0) (p1) sz) glV_RL_115 ⟨rfl, rfl⟩ ⟨(Nat.le_of_ble_eq_true rfl), (Nat.le_of_ble_eq_true rfl)⟩ ⟨(Nat.le_of_ble_eq_true rfl), (Nat.le_of_ble_eq_true rfl)⟩ [0, 0, 0, 0] rfl 12 0 rfl rfl rfl rfl (Nat.le_of_ble_eq_true rfl) rfl (fun _ _ _ => rfl) (fun _ _ _ => rfl) dL_mapped_5 (fun E u0 w0 => ?_) (fun r0 u0 w0 => ?_)
    ·
      rcases w0 with ⟨rfl, k1⟩ | ⟨rfl, k2⟩
      ·
        refine VX_catch 5 B htab [] (0, 10, 13, 18) [(0, 10, 17, 13)] rfl "java/lang/IndexOutOfBoundsException" (fun z hz => nomatch hz) rfl (by decide) (mT5 103 rfl rfl) (EB.2.2.2.1 _ (List.mem_of_getElem? (i := 1) rfl)) 13 rfl (fun q9 => ?_)
        refine V_ws [(h0, oC 12 [.ref h1, .ref g1, .ref g2, .ref g3, .ref g4, .ref g5, .ref g6, .ref g7, .ref g8, .long 0]), (h1, oC 2 [.ref g9, .ref g10, .ref g11, .ref g12, .ref g13, .ref g14, .ref g15, .ref g16, .ref g17, .ref h2, .ref g18, .int 0]), (h2, oC 4 [.ref h3, .ref g19, .ref g20, .int 0]), (h3, oC 3 [.ref g21, .int 0])] rfl ?_
        refine V_astore 13 B (lv2 := [(4, .ref q9), (0, .ref h0), (1, .int p0), (2, .int p1), (3, .ref g0)]) dL_mapped_13 (by decide) rfl ?_
        refine V_iconst 15 B (v := 1) dL_mapped_15 (by decide +kernel) ?_
        exact V_iret 16 B dL_mapped_16 () (Or.inl ⟨k1, rfl⟩) rfl
      ·
        refine VX_catch 5 B htab [] (0, 10, 13, 18) [(0, 10, 17, 13)] rfl "java/lang/IndexOutOfBoundsException" (fun z hz => nomatch hz) rfl (by decide) (mT5 103 rfl rfl) (EB.2.2.2.1 _ (List.mem_of_getElem? (i := 1) rfl)) 13 rfl (fun q9 => ?_)
        refine V_ws [(h0, oC 12 [.ref h1, .ref g1, .ref g2, .ref g3, .ref g4, .ref g5, .ref g6, .ref g7, .ref g8, .long 0]), (h1, oC 2 [.ref g9, .ref g10, .ref g11, .ref g12, .ref g13, .ref g14, .ref g15, .ref g16, .ref g17, .ref h2, .ref g18, .int 0]), (h2, oC 4 [.ref h3, .ref g19, .ref g20, .int 0]), (h3, oC 3 [.ref g21, .int 0])] rfl ?_
        refine V_astore 13 B (lv2 := [(4, .ref q9), (0, .ref h0), (1, .int p0), (2, .int p1), (3, .ref g0)]) dL_mapped_13 (by decide) rfl ?_
        refine V_iconst 15 B (v := 1) dL_mapped_15 (by decide +kernel) ?_
        exact V_iret 16 B dL_mapped_16 () (Or.inr ⟨k2, rfl⟩) rfl
    ·
      exact w0.elim)
theorem dL_law_2563 : decode cL_law 2563 = .ok (.aload_n 1, 1) := by decide +kernel
theorem dL_law_2564 : decode cL_law 2564 = .ok (.aload_n 0, 1) := by decide +kernel
theorem dL_law_2565 : decode cL_law 2565 = .ok (.iload 4, 2) := by decide +kernel
theorem dL_law_2567 : decode cL_law 2567 = .ok (.iconst 1, 1) := by decide +kernel
theorem dL_law_2568 : decode cL_law 2568 = .ok (.iadd, 1) := by decide +kernel
theorem dL_law_2569 : decode cL_law 2569 = .ok (.iaload, 1) := by decide +kernel
theorem dL_law_2570 : decode cL_law 2570 = .ok (.aload_n 0, 1) := by decide +kernel
theorem dL_law_2571 : decode cL_law 2571 = .ok (.iload 4, 2) := by decide +kernel
theorem dL_law_2573 : decode cL_law 2573 = .ok (.iconst 2, 1) := by decide +kernel
theorem dL_law_2574 : decode cL_law 2574 = .ok (.iadd, 1) := by decide +kernel
theorem dL_law_2575 : decode cL_law 2575 = .ok (.iaload, 1) := by decide +kernel
theorem dL_law_2576 : decode cL_law 2576 = .ok (.aload_n 3, 1) := by decide +kernel
theorem dL_law_2577 : decode cL_law 2577 = .ok (.invokestatic 304, 3) := by decide +kernel
theorem glH_RL_304 : GLH RL 304 yL_mapped cL_mapped 5 (some .int) [(0, 10, 13, 18), (0, 10, 17, 13)] 4 := ⟨⟨(mT7 26 rfl rfl), (mT7 27 rfl rfl), (mT1 0 rfl rfl), (mT7 28 rfl rfl)⟩, by decide +kernel⟩
theorem dL_law_2580 : decode cL_law 2580 = .ok (.istore 5, 2) := by decide +kernel
theorem dL_law_2582 : decode cL_law 2582 = .ok (.aload_n 2, 1) := by decide +kernel
theorem dL_law_2583 : decode cL_law 2583 = .ok (.aload_n 0, 1) := by decide +kernel
theorem dL_law_2584 : decode cL_law 2584 = .ok (.iload 4, 2) := by decide +kernel
theorem dL_law_2586 : decode cL_law 2586 = .ok (.iconst 1, 1) := by decide +kernel
theorem dL_law_2587 : decode cL_law 2587 = .ok (.iadd, 1) := by decide +kernel
theorem dL_law_2588 : decode cL_law 2588 = .ok (.iaload, 1) := by decide +kernel
theorem dL_law_2589 : decode cL_law 2589 = .ok (.aload_n 0, 1) := by decide +kernel
theorem dL_law_2590 : decode cL_law 2590 = .ok (.iload 4, 2) := by decide +kernel
theorem dL_law_2592 : decode cL_law 2592 = .ok (.iconst 2, 1) := by decide +kernel
theorem dL_law_2593 : decode cL_law 2593 = .ok (.iadd, 1) := by decide +kernel
theorem dL_law_2594 : decode cL_law 2594 = .ok (.iaload, 1) := by decide +kernel
theorem dL_law_2595 : decode cL_law 2595 = .ok (.invokevirtual 306, 3) := by decide +kernel
theorem glV_RL_306 : GLV RL 306 yX12_mapped RX12 cX12_mapped 3 (some .int) 2 := ⟨⟨(mT9 68 rfl rfl), (mT9 69 rfl rfl), (mT9 70 rfl rfl), (mT1 13 rfl rfl), (mT9 71 rfl rfl)⟩, by decide +kernel⟩
theorem dL_law_2598 : decode cL_law 2598 = .ok (.istore 6, 2) := by decide +kernel
theorem dL_law_2600 : decode cL_law 2600 = .ok (.aload_n 2, 1) := by decide +kernel
theorem dL_law_2601 : decode cL_law 2601 = .ok (.invokevirtual 182, 3) := by decide +kernel
theorem dL_law_2604 : decode cL_law 2604 = .ok (.iload 5, 2) := by decide +kernel
theorem dL_law_2606 : decode cL_law 2606 = .ok (.if_icmp .eq 5, 3) := by decide +kernel
theorem dL_law_2611 : decode cL_law 2611 = .ok (.iload 5, 2) := by decide +kernel
theorem dL_law_2613 : decode cL_law 2613 = .ok (.ifCond .ne 15, 3) := by decide +kernel
theorem dL_law_2628 : decode cL_law 2628 = .ok (.goto 704, 3) := by decide +kernel
set_option maxRecDepth 100000 in
set_option maxHeartbeats 4000000 in
theorem law_c44 {p : Program} {l : Launch} {e : Env} {s : State} {m : MethodId} {below : List Frame} {meth : Method} {c : Code} {b : Nat} {xs : Nat → Int32} {D : va_G} {Y : Nat → ClassId} (B : VB p s m #[Value.ref b] meth c D Y (fun q => s.heap.size ≤ q) cL_law 8 RL ret) (EB : EX (fun q => s.heap.size ≤ q) s s.heap) (hl9 : l.stackTraces = false) (hX : va_X b 6 xs s s.heap) (hbl : b < s.heap.size) (hbA : ¬ (fun q => s.heap.size ≤ q) b) (x0 x1 x30 x59 x88 x117 x126 x127 x129 x132 x2 x4 x6 x8 x10 x12 x14 x16 x18 x20 x27 x21 x23 x25 x22 m0 m1 m2 m3 m4 m5 m6 o0 : Nat) (p1 p2 : Int32) (e1 : xs 1 = p1) (e2 : xs 2 = p2) : V p l e room_1 s m #[Value.ref b] below meth c D (fun q => s.heap.size ≤ q) 8 149 10574 (lw_Z below #[Value.ref b] s) 2563 [(4, .int 0), (3, .ref o0), (2, .ref m0), (1, .ref x0), (0, .ref b)] [] [(x0, oC 12 [.ref x1, .ref x30, .ref x59, .ref x88, .ref x117, .ref x126, .ref x127, .ref x129, .ref x132, .long 0]), (x1, oC 2 [.ref x2, .ref x4, .ref x6, .ref x8, .ref x10, .ref x12, .ref x14, .ref x16, .ref x18, .ref x20, .ref x27, .int 0]), (x20, oC 4 [.ref x21, .ref x23, .ref x25, .int 0]), (x21, oC 3 [.ref x22, .int 0]), (m0, oC 13 [.ref m1, .ref m2, .int 0, .ref m3, .ref m4, .int 0, .int 0, .int 0, .int (-1), .int 0, .int 0, .int 0, .long 0, .ref m5, .ref m6, .int 0, .int 0]), (m1, aI Y 3640 (clB 0 (fun _ => 0)))] := by
  refine V_aload_n 2563 B dL_law_2563 3 rfl ?_
  refine V_aload_n 2564 B dL_law_2564 4 rfl ?_
  refine V_iload 2565 B dL_law_2565 0 rfl ?_
  refine V_iconst 2567 B (v := 1) dL_law_2567 (by decide +kernel) ?_
  refine V_iadd 2568 B (v := 1) dL_law_2568 (by decide +kernel) ?_
  refine V_sld 2569 B hX hbl hbA (v := p1) (vpin _ _ (by decide +kernel)) dL_law_2569 e1 ?_
  refine V_aload_n 2570 B dL_law_2570 4 rfl ?_
  refine V_iload 2571 B dL_law_2571 0 rfl ?_
  refine V_iconst 2573 B (v := 2) dL_law_2573 (by decide +kernel) ?_
  refine V_iadd 2574 B (v := 2) dL_law_2574 (by decide +kernel) ?_
  refine V_sld 2575 B hX hbl hbA (v := p2) (vpin _ _ (by decide +kernel)) dL_law_2575 e2 ?_
  refine V_aload_n 2576 B dL_law_2576 1 rfl ?_
  refine V_hsi 2577 B EB (st := []) (As := [.ref x0, .int p1, .int p2, .ref o0]) (fun sz => mL_mapped_1 l hl9 D Y (x0) (o0) (x1) (x30) (x59) (x88) (x117) (x126) (x127) (x129) (x132) (x2) (x4) (x6) (x8) (x10) (x12) (x14) (x16) (x18) (x20) (x27) (x21) (x23) (x25) (x22) (p1) (p2) sz) glH_RL_304 ⟨rfl, rfl⟩ ⟨(Nat.le_of_ble_eq_true rfl), (Nat.le_of_ble_eq_true rfl)⟩ ⟨(Nat.le_of_ble_eq_true rfl), (Nat.le_of_ble_eq_true rfl)⟩ [0, 0, 0, 0] rfl rfl (Nat.le_of_ble_eq_true rfl) rfl (fun _ _ _ => rfl) dL_law_2577 (fun r0 u0 w0 => ?_)
  rcases w0 with ⟨k1, rfl⟩ | ⟨k2, rfl⟩
  ·
    refine V_ws [(x0, oC 12 [.ref x1, .ref x30, .ref x59, .ref x88, .ref x117, .ref x126, .ref x127, .ref x129, .ref x132, .long 0]), (x1, oC 2 [.ref x2, .ref x4, .ref x6, .ref x8, .ref x10, .ref x12, .ref x14, .ref x16, .ref x18, .ref x20, .ref x27, .int 0]), (x20, oC 4 [.ref x21, .ref x23, .ref x25, .int 0]), (x21, oC 3 [.ref x22, .int 0]), (m0, oC 13 [.ref m1, .ref m2, .int 0, .ref m3, .ref m4, .int 0, .int 0, .int 0, .int (-1), .int 0, .int 0, .int 0, .long 0, .ref m5, .ref m6, .int 0, .int 0]), (m1, aI Y 3640 (clB 0 (fun _ => 0)))] rfl ?_
    refine V_istore 2580 B (lv2 := [(5, .int 1), (4, .int 0), (3, .ref o0), (2, .ref m0), (1, .ref x0), (0, .ref b)]) dL_law_2580 (by decide) rfl ?_
    refine V_aload_n 2582 B dL_law_2582 3 rfl ?_
    refine V_aload_n 2583 B dL_law_2583 5 rfl ?_
    refine V_iload 2584 B dL_law_2584 1 rfl ?_
    refine V_iconst 2586 B (v := 1) dL_law_2586 (by decide +kernel) ?_
    refine V_iadd 2587 B (v := 1) dL_law_2587 (by decide +kernel) ?_
    refine V_sld 2588 B hX hbl hbA (v := p1) (vpin _ _ (by decide +kernel)) dL_law_2588 e1 ?_
    refine V_aload_n 2589 B dL_law_2589 5 rfl ?_
    refine V_iload 2590 B dL_law_2590 1 rfl ?_
    refine V_iconst 2592 B (v := 2) dL_law_2592 (by decide +kernel) ?_
    refine V_iadd 2593 B (v := 2) dL_law_2593 (by decide +kernel) ?_
    refine V_sld 2594 B hX hbl hbA (v := p2) (vpin _ _ (by decide +kernel)) dL_law_2594 e2 ?_
    refine V_cvi 2595 B (st := []) (As := [.int p1, .int p2]) (fun sz => mX12_mapped_1 l D Y (m0) (m1) (m2) (m3) (m4) (m5) (m6) (p1) (p2) sz) glV_RL_306 ⟨rfl, rfl⟩ ⟨(Nat.le_of_ble_eq_true rfl), (Nat.le_of_ble_eq_true rfl)⟩ ⟨(Nat.le_of_ble_eq_true rfl), (Nat.le_of_ble_eq_true rfl)⟩ [4, 0] rfl 13 0 rfl rfl rfl rfl (Nat.le_of_ble_eq_true rfl) rfl (fun _ _ _ => rfl) dL_law_2595 (fun r3 u3 w3 => ?_)
    rcases w3 with ⟨k4, rfl⟩ | ⟨k5, rfl⟩
    ·
      refine V_ws [(x0, oC 12 [.ref x1, .ref x30, .ref x59, .ref x88, .ref x117, .ref x126, .ref x127, .ref x129, .ref x132, .long 0]), (x1, oC 2 [.ref x2, .ref x4, .ref x6, .ref x8, .ref x10, .ref x12, .ref x14, .ref x16, .ref x18, .ref x20, .ref x27, .int 0]), (x20, oC 4 [.ref x21, .ref x23, .ref x25, .int 0]), (x21, oC 3 [.ref x22, .int 0]), (m0, oC 13 [.ref m1, .ref m2, .int 1, .ref m3, .ref m4, .int 0, .int 0, .int 0, .int (-1), .int 0, .int 0, .int 0, .long 0, .ref m5, .ref m6, .int 0, .int 0]), (m1, aI Y 3640 (clB 0 (fun _ => 0)))] rfl ?_
      refine V_istore 2598 B (lv2 := [(6, .int 0), (5, .int 1), (4, .int 0), (3, .ref o0), (2, .ref m0), (1, .ref x0), (0, .ref b)]) dL_law_2598 (by decide) rfl ?_
      refine V_aload_n 2600 B dL_law_2600 4 rfl ?_
      refine V_cvi 2601 B (st := []) (As := []) (fun sz => mX12_thrown_2 l D Y (m0) (m1) (m2) (m3) (m4) (m5) (m6) sz) glV_RL_182 ⟨rfl, rfl⟩ ⟨(Nat.le_of_ble_eq_true rfl), (Nat.le_of_ble_eq_true rfl)⟩ ⟨(Nat.le_of_ble_eq_true rfl), (Nat.le_of_ble_eq_true rfl)⟩ [4] rfl 13 0 rfl rfl rfl rfl (Nat.le_of_ble_eq_true rfl) rfl (fun _ _ _ => rfl) dL_law_2601 (fun r6 u6 w6 => ?_)
      obtain rfl := w6
      refine V_ws [(x0, oC 12 [.ref x1, .ref x30, .ref x59, .ref x88, .ref x117, .ref x126, .ref x127, .ref x129, .ref x132, .long 0]), (x1, oC 2 [.ref x2, .ref x4, .ref x6, .ref x8, .ref x10, .ref x12, .ref x14, .ref x16, .ref x18, .ref x20, .ref x27, .int 0]), (x20, oC 4 [.ref x21, .ref x23, .ref x25, .int 0]), (x21, oC 3 [.ref x22, .int 0]), (m0, oC 13 [.ref m1, .ref m2, .int 1, .ref m3, .ref m4, .int 0, .int 0, .int 0, .int (-1), .int 0, .int 0, .int 0, .long 0, .ref m5, .ref m6, .int 0, .int 0]), (m1, aI Y 3640 (clB 0 (fun _ => 0)))] rfl ?_
      refine V_iload 2604 B dL_law_2604 1 rfl ?_
      refine V_icmp_eq_t 2606 B 2611 dL_law_2606 (by decide) (by decide +kernel) ?_
      refine V_iload 2611 B dL_law_2611 1 rfl ?_
      refine V_if_ne_t 2613 B 2628 dL_law_2613 (by decide) (by decide +kernel) ?_
      refine V_goto 2628 B 3332 dL_law_2628 (by decide) ?_
      refine V_iinc 3332 B (v := 6) (lv2 := [(4, .int 6), (6, .int 0), (5, .int 1), (3, .ref o0), (2, .ref m0), (1, .ref x0), (0, .ref b)]) dL_law_3332 2 rfl (by decide +kernel) (by decide) rfl ?_
      refine V_goto 3335 B 23 dL_law_3335 (by decide) ?_
      refine V_iload 23 B dL_law_23 0 rfl ?_
      refine V_aload_n 25 B dL_law_25 6 rfl ?_
      refine V_slen 26 B hX hbl hbA (v := 6) (by decide +kernel) dL_law_26 ?_
      refine V_bipush 27 B (v := 6) dL_law_27 (by decide +kernel) ?_
      refine V_isub 29 B (v := 0) dL_law_29 (by decide +kernel) ?_
      refine V_icmp_gt_t 30 B 3338 dL_law_30 (by decide) (by decide +kernel) ?_
      exact law_end B (Nat.le_of_ble_eq_true rfl) (Nat.le_of_ble_eq_true rfl) dL_law_3338 dL_law_3339
    ·
      refine V_ws [(x0, oC 12 [.ref x1, .ref x30, .ref x59, .ref x88, .ref x117, .ref x126, .ref x127, .ref x129, .ref x132, .long 0]), (x1, oC 2 [.ref x2, .ref x4, .ref x6, .ref x8, .ref x10, .ref x12, .ref x14, .ref x16, .ref x18, .ref x20, .ref x27, .int 0]), (x20, oC 4 [.ref x21, .ref x23, .ref x25, .int 0]), (x21, oC 3 [.ref x22, .int 0]), (m0, oC 13 [.ref m1, .ref m2, .int 1, .ref m3, .ref m4, .int 0, .int 0, .int 0, .int (-1), .int 0, .int 0, .int 0, .long 0, .ref m5, .ref m6, .int 0, .int 0]), (m1, aI Y 3640 (clB 0 (fun _ => 0)))] rfl ?_
      exact (q_abs (b_gt k5 (n := 0) (by decide +kernel)) (b_lt k1 (n := (-1)) (by decide +kernel)) (by decide +kernel)).elim
  ·
    refine V_ws [(x0, oC 12 [.ref x1, .ref x30, .ref x59, .ref x88, .ref x117, .ref x126, .ref x127, .ref x129, .ref x132, .long 0]), (x1, oC 2 [.ref x2, .ref x4, .ref x6, .ref x8, .ref x10, .ref x12, .ref x14, .ref x16, .ref x18, .ref x20, .ref x27, .int 0]), (x20, oC 4 [.ref x21, .ref x23, .ref x25, .int 0]), (x21, oC 3 [.ref x22, .int 0]), (m0, oC 13 [.ref m1, .ref m2, .int 0, .ref m3, .ref m4, .int 0, .int 0, .int 0, .int (-1), .int 0, .int 0, .int 0, .long 0, .ref m5, .ref m6, .int 0, .int 0]), (m1, aI Y 3640 (clB 0 (fun _ => 0)))] rfl ?_
    refine V_istore 2580 B (lv2 := [(5, .int 1), (4, .int 0), (3, .ref o0), (2, .ref m0), (1, .ref x0), (0, .ref b)]) dL_law_2580 (by decide) rfl ?_
    refine V_aload_n 2582 B dL_law_2582 3 rfl ?_
    refine V_aload_n 2583 B dL_law_2583 5 rfl ?_
    refine V_iload 2584 B dL_law_2584 1 rfl ?_
    refine V_iconst 2586 B (v := 1) dL_law_2586 (by decide +kernel) ?_
    refine V_iadd 2587 B (v := 1) dL_law_2587 (by decide +kernel) ?_
    refine V_sld 2588 B hX hbl hbA (v := p1) (vpin _ _ (by decide +kernel)) dL_law_2588 e1 ?_
    refine V_aload_n 2589 B dL_law_2589 5 rfl ?_
    refine V_iload 2590 B dL_law_2590 1 rfl ?_
    refine V_iconst 2592 B (v := 2) dL_law_2592 (by decide +kernel) ?_
    refine V_iadd 2593 B (v := 2) dL_law_2593 (by decide +kernel) ?_
    refine V_sld 2594 B hX hbl hbA (v := p2) (vpin _ _ (by decide +kernel)) dL_law_2594 e2 ?_
    refine V_cvi 2595 B (st := []) (As := [.int p1, .int p2]) (fun sz => mX12_mapped_1 l D Y (m0) (m1) (m2) (m3) (m4) (m5) (m6) (p1) (p2) sz) glV_RL_306 ⟨rfl, rfl⟩ ⟨(Nat.le_of_ble_eq_true rfl), (Nat.le_of_ble_eq_true rfl)⟩ ⟨(Nat.le_of_ble_eq_true rfl), (Nat.le_of_ble_eq_true rfl)⟩ [4, 0] rfl 13 0 rfl rfl rfl rfl (Nat.le_of_ble_eq_true rfl) rfl (fun _ _ _ => rfl) dL_law_2595 (fun r7 u7 w7 => ?_)
    rcases w7 with ⟨k8, rfl⟩ | ⟨k9, rfl⟩
    ·
      refine V_ws [(x0, oC 12 [.ref x1, .ref x30, .ref x59, .ref x88, .ref x117, .ref x126, .ref x127, .ref x129, .ref x132, .long 0]), (x1, oC 2 [.ref x2, .ref x4, .ref x6, .ref x8, .ref x10, .ref x12, .ref x14, .ref x16, .ref x18, .ref x20, .ref x27, .int 0]), (x20, oC 4 [.ref x21, .ref x23, .ref x25, .int 0]), (x21, oC 3 [.ref x22, .int 0]), (m0, oC 13 [.ref m1, .ref m2, .int 1, .ref m3, .ref m4, .int 0, .int 0, .int 0, .int (-1), .int 0, .int 0, .int 0, .long 0, .ref m5, .ref m6, .int 0, .int 0]), (m1, aI Y 3640 (clB 0 (fun _ => 0)))] rfl ?_
      exact (q_abs (b_nlt k2 (n := 0) (by decide +kernel)) (b_lt k8 (n := (-1)) (by decide +kernel)) (by decide +kernel)).elim
    ·
      refine V_ws [(x0, oC 12 [.ref x1, .ref x30, .ref x59, .ref x88, .ref x117, .ref x126, .ref x127, .ref x129, .ref x132, .long 0]), (x1, oC 2 [.ref x2, .ref x4, .ref x6, .ref x8, .ref x10, .ref x12, .ref x14, .ref x16, .ref x18, .ref x20, .ref x27, .int 0]), (x20, oC 4 [.ref x21, .ref x23, .ref x25, .int 0]), (x21, oC 3 [.ref x22, .int 0]), (m0, oC 13 [.ref m1, .ref m2, .int 1, .ref m3, .ref m4, .int 0, .int 0, .int 0, .int (-1), .int 0, .int 0, .int 0, .long 0, .ref m5, .ref m6, .int 0, .int 0]), (m1, aI Y 3640 (clB 0 (fun _ => 0)))] rfl ?_
      refine V_istore 2598 B (lv2 := [(6, .int 0), (5, .int 1), (4, .int 0), (3, .ref o0), (2, .ref m0), (1, .ref x0), (0, .ref b)]) dL_law_2598 (by decide) rfl ?_
      refine V_aload_n 2600 B dL_law_2600 4 rfl ?_
      refine V_cvi 2601 B (st := []) (As := []) (fun sz => mX12_thrown_2 l D Y (m0) (m1) (m2) (m3) (m4) (m5) (m6) sz) glV_RL_182 ⟨rfl, rfl⟩ ⟨(Nat.le_of_ble_eq_true rfl), (Nat.le_of_ble_eq_true rfl)⟩ ⟨(Nat.le_of_ble_eq_true rfl), (Nat.le_of_ble_eq_true rfl)⟩ [4] rfl 13 0 rfl rfl rfl rfl (Nat.le_of_ble_eq_true rfl) rfl (fun _ _ _ => rfl) dL_law_2601 (fun r10 u10 w10 => ?_)
      obtain rfl := w10
      refine V_ws [(x0, oC 12 [.ref x1, .ref x30, .ref x59, .ref x88, .ref x117, .ref x126, .ref x127, .ref x129, .ref x132, .long 0]), (x1, oC 2 [.ref x2, .ref x4, .ref x6, .ref x8, .ref x10, .ref x12, .ref x14, .ref x16, .ref x18, .ref x20, .ref x27, .int 0]), (x20, oC 4 [.ref x21, .ref x23, .ref x25, .int 0]), (x21, oC 3 [.ref x22, .int 0]), (m0, oC 13 [.ref m1, .ref m2, .int 1, .ref m3, .ref m4, .int 0, .int 0, .int 0, .int (-1), .int 0, .int 0, .int 0, .long 0, .ref m5, .ref m6, .int 0, .int 0]), (m1, aI Y 3640 (clB 0 (fun _ => 0)))] rfl ?_
      refine V_iload 2604 B dL_law_2604 1 rfl ?_
      refine V_icmp_eq_t 2606 B 2611 dL_law_2606 (by decide) (by decide +kernel) ?_
      refine V_iload 2611 B dL_law_2611 1 rfl ?_
      refine V_if_ne_t 2613 B 2628 dL_law_2613 (by decide) (by decide +kernel) ?_
      refine V_goto 2628 B 3332 dL_law_2628 (by decide) ?_
      refine V_iinc 3332 B (v := 6) (lv2 := [(4, .int 6), (6, .int 0), (5, .int 1), (3, .ref o0), (2, .ref m0), (1, .ref x0), (0, .ref b)]) dL_law_3332 2 rfl (by decide +kernel) (by decide) rfl ?_
      refine V_goto 3335 B 23 dL_law_3335 (by decide) ?_
      refine V_iload 23 B dL_law_23 0 rfl ?_
      refine V_aload_n 25 B dL_law_25 6 rfl ?_
      refine V_slen 26 B hX hbl hbA (v := 6) (by decide +kernel) dL_law_26 ?_
      refine V_bipush 27 B (v := 6) dL_law_27 (by decide +kernel) ?_
      refine V_isub 29 B (v := 0) dL_law_29 (by decide +kernel) ?_
      refine V_icmp_gt_t 30 B 3338 dL_law_30 (by decide) (by decide +kernel) ?_
      exact law_end B (Nat.le_of_ble_eq_true rfl) (Nat.le_of_ble_eq_true rfl) dL_law_3338 dL_law_3339
theorem dL_hold_0 : decode cL_hold 0 = .ok (.aload_n 2, 1) := by decide +kernel
theorem dL_hold_1 : decode cL_hold 1 = .ok (.iconst 0, 1) := by decide +kernel
theorem dL_hold_2 : decode cL_hold 2 = .ok (.aload_n 0, 1) := by decide +kernel
theorem dL_hold_3 : decode cL_hold 3 = .ok (.iload_n 1, 1) := by decide +kernel
theorem dL_hold_4 : decode cL_hold 4 = .ok (.invokevirtual 118, 3) := by decide +kernel
theorem glV_RL_118 : GLV RL 118 yX11_hold RX11 cX11_hold 3 (some .int) 1 := ⟨⟨(mT7 41 rfl rfl), (mT7 42 rfl rfl), (mT7 43 rfl rfl), (mT1 1 rfl rfl), (mT7 44 rfl rfl)⟩, by decide +kernel⟩
theorem dL_hold_12 : decode cL_hold 12 = .ok (.astore_n 3, 1) := by decide +kernel
theorem dL_hold_13 : decode cL_hold 13 = .ok (.iconst 1, 1) := by decide +kernel
theorem dL_hold_14 : decode cL_hold 14 = .ok (.ireturn, 1) := by decide +kernel
theorem dL_hold_7 : decode cL_hold 7 = .ok (.i2l, 1) := by decide +kernel
theorem dL_hold_8 : decode cL_hold 8 = .ok (.lastore, 1) := by decide +kernel
theorem dL_hold_9 : decode cL_hold 9 = .ok (.goto 6, 3) := by decide +kernel
theorem dL_hold_15 : decode cL_hold 15 = .ok (.iconst 0, 1) := by decide +kernel
theorem dL_hold_16 : decode cL_hold 16 = .ok (.ireturn, 1) := by decide +kernel
set_option maxRecDepth 100000 in
set_option maxHeartbeats 4000000 in
theorem mL_hold_1 (l : Launch) (hl9 : l.stackTraces = false) (D : va_G) (Y : Nat → ClassId) (h0 : Nat) (h3 : Nat) (h1 : Nat) (g0 : Nat) (g1 : Nat) (g2 : Nat) (g3 : Nat) (g4 : Nat) (g5 : Nat) (g6 : Nat) (g7 : Nat) (g8 : Nat) (g9 : Nat) (g10 : Nat) (g11 : Nat) (g12 : Nat) (g13 : Nat) (g14 : Nat) (g15 : Nat) (g16 : Nat) (h2 : Nat) (g17 : Nat) (g18 : Nat) (g19 : Nat) (g20 : Nat) (p0 : Int32) (sz : Nat) : Met l yL_hold (Cond.codeWith yL_hold cL_hold 4 (some .int) [(0, 9, 12, 13)] :: lw_good) (mkR 7 1 6 104) (PreX D Y [.ref h0, .int p0, .ref h3] [(h0, oC 12 [.ref h1, .ref g0, .ref g1, .ref g2, .ref g3, .ref g4, .ref g5, .ref g6, .ref g7, .long 0]), (h1, oC 2 [.ref g8, .ref g9, .ref g10, .ref g11, .ref g12, .ref g13, .ref g14, .ref g15, .ref g16, .ref h2, .ref g17, .int 0]), (h2, oC 4 [.ref g18, .ref g19, .ref g20, .int 0]), (h3, aJ Y 1 (fun _ => 0))] sz) (QI D (fun (r : Int32) (u : Nat) => (u = 0 ∧ p0 < 0 ∧ 1 = r) ∨ (u = 1 ∧ ¬ p0 < 0 ∧ ¬ p0 < 16 ∧ 1 = r) ∨ (u = 2 ∧ ¬ p0 < 0 ∧ p0 < 16 ∧ 0 = r)) (fun (u : Nat) => match u with | 0 => [(h0, oC 12 [.ref h1, .ref g0, .ref g1, .ref g2, .ref g3, .ref g4, .ref g5, .ref g6, .ref g7, .long 0]), (h1, oC 2 [.ref g8, .ref g9, .ref g10, .ref g11, .ref g12, .ref g13, .ref g14, .ref g15, .ref g16, .ref h2, .ref g17, .int 0]), (h2, oC 4 [.ref g18, .ref g19, .ref g20, .int 0]), (h3, aJ Y 1 (fun _ => 0))] | 1 => [(h0, oC 12 [.ref h1, .ref g0, .ref g1, .ref g2, .ref g3, .ref g4, .ref g5, .ref g6, .ref g7, .long 0]), (h1, oC 2 [.ref g8, .ref g9, .ref g10, .ref g11, .ref g12, .ref g13, .ref g14, .ref g15, .ref g16, .ref h2, .ref g17, .int 0]), (h2, oC 4 [.ref g18, .ref g19, .ref g20, .int 0]), (h3, aJ Y 1 (fun _ => 0))] | _ => [(h0, oC 12 [.ref h1, .ref g0, .ref g1, .ref g2, .ref g3, .ref g4, .ref g5, .ref g6, .ref g7, .long 0]), (h1, oC 2 [.ref g8, .ref g9, .ref g10, .ref g11, .ref g12, .ref g13, .ref g14, .ref g15, .ref g16, .ref h2, .ref g17, .int 0]), (h2, oC 4 [.ref g18, .ref g19, .ref g20, .int p0]), (h3, aJ Y 1 (vp_updL (fun _ => 0) 0 0))]) (va_A [(h0, oC 12 [.ref h1, .ref g0, .ref g1, .ref g2, .ref g3, .ref g4, .ref g5, .ref g6, .ref g7, .long 0]), (h1, oC 2 [.ref g8, .ref g9, .ref g10, .ref g11, .ref g12, .ref g13, .ref g14, .ref g15, .ref g16, .ref h2, .ref g17, .int 0]), (h2, oC 4 [.ref g18, .ref g19, .ref g20, .int 0]), (h3, aJ Y 1 (fun _ => 0))] sz)) 1 6 (va_A [(h0, oC 12 [.ref h1, .ref g0, .ref g1, .ref g2, .ref g3, .ref g4, .ref g5, .ref g6, .ref g7, .long 0]), (h1, oC 2 [.ref g8, .ref g9, .ref g10, .ref g11, .ref g12, .ref g13, .ref g14, .ref g15, .ref g16, .ref h2, .ref g17, .int 0]), (h2, oC 4 [.ref g18, .ref g19, .ref g20, .int 0]), (h3, aJ Y 1 (fun _ => 0))] sz) :=
  metH_of (by decide +kernel) (Nat.le_of_ble_eq_true rfl) (fun p e s m args below meth c B EB htab hsz => by
    have B : VB p s m args meth c D Y (va_A [(h0, oC 12 [.ref h1, .ref g0, .ref g1, .ref g2, .ref g3, .ref g4, .ref g5, .ref g6, .ref g7, .long 0]), (h1, oC 2 [.ref g8, .ref g9, .ref g10, .ref g11, .ref g12, .ref g13, .ref g14, .ref g15, .ref g16, .ref h2, .ref g17, .int 0]), (h2, oC 4 [.ref g18, .ref g19, .ref g20, .int 0]), (h3, aJ Y 1 (fun _ => 0))] sz) cL_hold 4 RL (some .int) := B
    refine V_aload_n 0 B dL_hold_0 2 rfl ?_
    refine V_iconst 1 B (v := 0) dL_hold_1 (by decide +kernel) ?_
    refine V_aload_n 2 B dL_hold_2 0 rfl ?_
    refine V_iload_n 3 B dL_hold_3 1 rfl ?_
    refine V_xvi 4 B EB (st := [.int 0, .ref h3]) (As := [.int p0]) (fun sz => mX11_hold_1 l hl9 D Y (h0) (h1) (g0) (g1) (g2) (g3) (g4) (g5) (g6) (g7) (g8) (g9) (g10) (g11) (g12) (g13) (g14) (g15) (g16) (h2) (g17) (g18) (g19) (g20) (p0) sz) glV_RL_118 ⟨rfl, rfl⟩ ⟨(Nat.le_of_ble_eq_true rfl), (Nat.le_of_ble_eq_true rfl)⟩ ⟨(Nat.le_of_ble_eq_true rfl), (Nat.le_of_ble_eq_true rfl)⟩ [0, 0, 0] rfl 12 0 rfl rfl rfl rfl (Nat.le_of_ble_eq_true rfl) rfl (fun _ _ _ => rfl) (fun _ _ _ => rfl) dL_hold_4 (fun E u0 w0 => ?_) (fun r0 u0 w0 => ?_)
    ·
      rcases w0 with ⟨rfl, k1⟩ | ⟨rfl, k2, k3⟩
      ·
        refine VX_catch 4 B htab [] (0, 9, 12, 13) [] rfl "java/lang/IllegalArgumentException" (fun z hz => nomatch hz) rfl (by decide) (mT5 20 rfl rfl) (EB.2.2.2.1 _ (List.mem_of_getElem? (i := 0) rfl)) 12 rfl (fun q9 => ?_)
        refine V_ws [(h0, oC 12 [.ref h1, .ref g0, .ref g1, .ref g2, .ref g3, .ref g4, .ref g5, .ref g6, .ref g7, .long 0]), (h1, oC 2 [.ref g8, .ref g9, .ref g10, .ref g11, .ref g12, .ref g13, .ref g14, .ref g15, .ref g16, .ref h2, .ref g17, .int 0]), (h2, oC 4 [.ref g18, .ref g19, .ref g20, .int 0]), (h3, aJ Y 1 (fun _ => 0))] rfl ?_
        refine V_astore_n 12 B (lv2 := [(3, .ref q9), (0, .ref h0), (1, .int p0), (2, .ref h3)]) dL_hold_12 (by decide) rfl ?_
        refine V_iconst 13 B (v := 1) dL_hold_13 (by decide +kernel) ?_
        exact V_iret 14 B dL_hold_14 0 (Or.inl ⟨rfl, k1, rfl⟩) rfl
      ·
        refine VX_catch 4 B htab [] (0, 9, 12, 13) [] rfl "java/lang/IllegalArgumentException" (fun z hz => nomatch hz) rfl (by decide) (mT5 20 rfl rfl) (EB.2.2.2.1 _ (List.mem_of_getElem? (i := 0) rfl)) 12 rfl (fun q9 => ?_)
        refine V_ws [(h0, oC 12 [.ref h1, .ref g0, .ref g1, .ref g2, .ref g3, .ref g4, .ref g5, .ref g6, .ref g7, .long 0]), (h1, oC 2 [.ref g8, .ref g9, .ref g10, .ref g11, .ref g12, .ref g13, .ref g14, .ref g15, .ref g16, .ref h2, .ref g17, .int 0]), (h2, oC 4 [.ref g18, .ref g19, .ref g20, .int 0]), (h3, aJ Y 1 (fun _ => 0))] rfl ?_
        refine V_astore_n 12 B (lv2 := [(3, .ref q9), (0, .ref h0), (1, .int p0), (2, .ref h3)]) dL_hold_12 (by decide) rfl ?_
        refine V_iconst 13 B (v := 1) dL_hold_13 (by decide +kernel) ?_
        exact V_iret 14 B dL_hold_14 1 (Or.inr (Or.inl ⟨rfl, k2, k3, rfl⟩)) rfl
    ·
      obtain ⟨k4, k5, rfl⟩ := w0
      refine V_ws [(h0, oC 12 [.ref h1, .ref g0, .ref g1, .ref g2, .ref g3, .ref g4, .ref g5, .ref g6, .ref g7, .long 0]), (h1, oC 2 [.ref g8, .ref g9, .ref g10, .ref g11, .ref g12, .ref g13, .ref g14, .ref g15, .ref g16, .ref h2, .ref g17, .int 0]), (h2, oC 4 [.ref g18, .ref g19, .ref g20, .int p0]), (h3, aJ Y 1 (fun _ => 0))] rfl ?_
      refine V_i2l 7 B (v := 0) dL_hold_7 (by decide +kernel) ?_
      refine V_last 8 B 3 rfl (vpin _ _ (by decide +kernel)) dL_hold_8 [(h0, oC 12 [.ref h1, .ref g0, .ref g1, .ref g2, .ref g3, .ref g4, .ref g5, .ref g6, .ref g7, .long 0]), (h1, oC 2 [.ref g8, .ref g9, .ref g10, .ref g11, .ref g12, .ref g13, .ref g14, .ref g15, .ref g16, .ref h2, .ref g17, .int 0]), (h2, oC 4 [.ref g18, .ref g19, .ref g20, .int p0]), (h3, aJ Y 1 (vp_updL (fun _ => 0) 0 0))] rfl ?_
      refine V_goto 9 B 15 dL_hold_9 (by decide) ?_
      refine V_iconst 15 B (v := 0) dL_hold_15 (by decide +kernel) ?_
      exact V_iret 16 B dL_hold_16 2 (Or.inr (Or.inr ⟨rfl, k4, k5, rfl⟩)) rfl)
theorem dL_law_2631 : decode cL_law 2631 = .ok (.aload_n 1, 1) := by decide +kernel
theorem dL_law_2632 : decode cL_law 2632 = .ok (.aload_n 0, 1) := by decide +kernel
theorem dL_law_2633 : decode cL_law 2633 = .ok (.iload 4, 2) := by decide +kernel
theorem dL_law_2635 : decode cL_law 2635 = .ok (.iconst 1, 1) := by decide +kernel
theorem dL_law_2636 : decode cL_law 2636 = .ok (.iadd, 1) := by decide +kernel
theorem dL_law_2637 : decode cL_law 2637 = .ok (.iaload, 1) := by decide +kernel
theorem dL_law_2638 : decode cL_law 2638 = .ok (.aload_n 3, 1) := by decide +kernel
theorem dL_law_2639 : decode cL_law 2639 = .ok (.invokestatic 307, 3) := by decide +kernel
theorem glH_RL_307 : GLH RL 307 yL_hold cL_hold 4 (some .int) [(0, 9, 12, 13)] 3 := ⟨⟨(mT7 38 rfl rfl), (mT7 39 rfl rfl), (mT1 0 rfl rfl), (mT7 40 rfl rfl)⟩, by decide +kernel⟩
theorem dL_law_2642 : decode cL_law 2642 = .ok (.istore 5, 2) := by decide +kernel
theorem dL_law_2644 : decode cL_law 2644 = .ok (.aload_n 2, 1) := by decide +kernel
theorem dL_law_2645 : decode cL_law 2645 = .ok (.aload_n 0, 1) := by decide +kernel
theorem dL_law_2646 : decode cL_law 2646 = .ok (.iload 4, 2) := by decide +kernel
theorem dL_law_2648 : decode cL_law 2648 = .ok (.iconst 1, 1) := by decide +kernel
theorem dL_law_2649 : decode cL_law 2649 = .ok (.iadd, 1) := by decide +kernel
theorem dL_law_2650 : decode cL_law 2650 = .ok (.iaload, 1) := by decide +kernel
theorem dL_law_2651 : decode cL_law 2651 = .ok (.invokevirtual 309, 3) := by decide +kernel
theorem glV_RL_309 : GLV RL 309 yX12_hold RX12 cX12_hold 3 (some .int) 1 := ⟨⟨(mT9 76 rfl rfl), (mT9 77 rfl rfl), (mT9 78 rfl rfl), (mT1 13 rfl rfl), (mT9 79 rfl rfl)⟩, by decide +kernel⟩
theorem dL_law_2654 : decode cL_law 2654 = .ok (.istore 6, 2) := by decide +kernel
theorem dL_law_2656 : decode cL_law 2656 = .ok (.aload_n 2, 1) := by decide +kernel
theorem dL_law_2657 : decode cL_law 2657 = .ok (.invokevirtual 182, 3) := by decide +kernel
theorem dL_law_2660 : decode cL_law 2660 = .ok (.iload 5, 2) := by decide +kernel
theorem dL_law_2662 : decode cL_law 2662 = .ok (.if_icmp .eq 5, 3) := by decide +kernel
theorem dL_law_2667 : decode cL_law 2667 = .ok (.iload 5, 2) := by decide +kernel
theorem dL_law_2669 : decode cL_law 2669 = .ok (.ifCond .ne 15, 3) := by decide +kernel
theorem dL_law_2684 : decode cL_law 2684 = .ok (.goto 648, 3) := by decide +kernel
theorem dL_law_2672 : decode cL_law 2672 = .ok (.aload_n 3, 1) := by decide +kernel
theorem dL_law_2673 : decode cL_law 2673 = .ok (.iconst 0, 1) := by decide +kernel
theorem dL_law_2674 : decode cL_law 2674 = .ok (.laload, 1) := by decide +kernel
theorem dL_law_2675 : decode cL_law 2675 = .ok (.iload 6, 2) := by decide +kernel
theorem dL_law_2677 : decode cL_law 2677 = .ok (.i2l, 1) := by decide +kernel
theorem dL_law_2678 : decode cL_law 2678 = .ok (.lcmp, 1) := by decide +kernel
theorem dL_law_2679 : decode cL_law 2679 = .ok (.ifCond .eq 5, 3) := by decide +kernel
set_option maxRecDepth 100000 in
set_option maxHeartbeats 4000000 in
theorem law_c45 {p : Program} {l : Launch} {e : Env} {s : State} {m : MethodId} {below : List Frame} {meth : Method} {c : Code} {b : Nat} {xs : Nat → Int32} {D : va_G} {Y : Nat → ClassId} (B : VB p s m #[Value.ref b] meth c D Y (fun q => s.heap.size ≤ q) cL_law 8 RL ret) (EB : EX (fun q => s.heap.size ≤ q) s s.heap) (hl9 : l.stackTraces = false) (hX : va_X b 6 xs s s.heap) (hbl : b < s.heap.size) (hbA : ¬ (fun q => s.heap.size ≤ q) b) (x0 x1 x30 x59 x88 x117 x126 x127 x129 x132 x2 x4 x6 x8 x10 x12 x14 x16 x18 x20 x27 x21 x23 x25 m0 m1 m2 m3 m4 m5 m6 o0 : Nat) (p1 : Int32) (e1 : xs 1 = p1) : V p l e room_1 s m #[Value.ref b] below meth c D (fun q => s.heap.size ≤ q) 8 149 10574 (lw_Z below #[Value.ref b] s) 2631 [(4, .int 0), (3, .ref o0), (2, .ref m0), (1, .ref x0), (0, .ref b)] [] [(x0, oC 12 [.ref x1, .ref x30, .ref x59, .ref x88, .ref x117, .ref x126, .ref x127, .ref x129, .ref x132, .long 0]), (x1, oC 2 [.ref x2, .ref x4, .ref x6, .ref x8, .ref x10, .ref x12, .ref x14, .ref x16, .ref x18, .ref x20, .ref x27, .int 0]), (x20, oC 4 [.ref x21, .ref x23, .ref x25, .int 0]), (m0, oC 13 [.ref m1, .ref m2, .int 0, .ref m3, .ref m4, .int 0, .int 0, .int 0, .int (-1), .int 0, .int 0, .int 0, .long 0, .ref m5, .ref m6, .int 0, .int 0]), (m1, aI Y 3640 (clB 0 (fun _ => 0))), (o0, aJ Y 1 (fun _ => 0))] := by
  refine V_aload_n 2631 B dL_law_2631 3 rfl ?_
  refine V_aload_n 2632 B dL_law_2632 4 rfl ?_
  refine V_iload 2633 B dL_law_2633 0 rfl ?_
  refine V_iconst 2635 B (v := 1) dL_law_2635 (by decide +kernel) ?_
  refine V_iadd 2636 B (v := 1) dL_law_2636 (by decide +kernel) ?_
  refine V_sld 2637 B hX hbl hbA (v := p1) (vpin _ _ (by decide +kernel)) dL_law_2637 e1 ?_
  refine V_aload_n 2638 B dL_law_2638 1 rfl ?_
  refine V_hsi 2639 B EB (st := []) (As := [.ref x0, .int p1, .ref o0]) (fun sz => mL_hold_1 l hl9 D Y (x0) (o0) (x1) (x30) (x59) (x88) (x117) (x126) (x127) (x129) (x132) (x2) (x4) (x6) (x8) (x10) (x12) (x14) (x16) (x18) (x20) (x27) (x21) (x23) (x25) (p1) sz) glH_RL_307 ⟨rfl, rfl⟩ ⟨(Nat.le_of_ble_eq_true rfl), (Nat.le_of_ble_eq_true rfl)⟩ ⟨(Nat.le_of_ble_eq_true rfl), (Nat.le_of_ble_eq_true rfl)⟩ [0, 0, 0, 2] rfl rfl (Nat.le_of_ble_eq_true rfl) rfl (fun _ u _ => by
        first | rfl | (split <;> rfl) | (dsimp only; split <;> rfl)) dL_law_2639 (fun r0 u0 w0 => ?_)
  rcases w0 with ⟨rfl, k1, rfl⟩ | ⟨rfl, k2, k3, rfl⟩ | ⟨rfl, k4, k5, rfl⟩
  ·
    refine V_ws [(x0, oC 12 [.ref x1, .ref x30, .ref x59, .ref x88, .ref x117, .ref x126, .ref x127, .ref x129, .ref x132, .long 0]), (x1, oC 2 [.ref x2, .ref x4, .ref x6, .ref x8, .ref x10, .ref x12, .ref x14, .ref x16, .ref x18, .ref x20, .ref x27, .int 0]), (x20, oC 4 [.ref x21, .ref x23, .ref x25, .int 0]), (m0, oC 13 [.ref m1, .ref m2, .int 0, .ref m3, .ref m4, .int 0, .int 0, .int 0, .int (-1), .int 0, .int 0, .int 0, .long 0, .ref m5, .ref m6, .int 0, .int 0]), (m1, aI Y 3640 (clB 0 (fun _ => 0))), (o0, aJ Y 1 (fun _ => 0))] rfl ?_
    refine V_istore 2642 B (lv2 := [(5, .int 1), (4, .int 0), (3, .ref o0), (2, .ref m0), (1, .ref x0), (0, .ref b)]) dL_law_2642 (by decide) rfl ?_
    refine V_aload_n 2644 B dL_law_2644 3 rfl ?_
    refine V_aload_n 2645 B dL_law_2645 5 rfl ?_
    refine V_iload 2646 B dL_law_2646 1 rfl ?_
    refine V_iconst 2648 B (v := 1) dL_law_2648 (by decide +kernel) ?_
    refine V_iadd 2649 B (v := 1) dL_law_2649 (by decide +kernel) ?_
    refine V_sld 2650 B hX hbl hbA (v := p1) (vpin _ _ (by decide +kernel)) dL_law_2650 e1 ?_
    refine V_cvi 2651 B (st := []) (As := [.int p1]) (fun sz => mX12_hold_1 l D Y (m0) (m1) (m2) (m3) (m4) (m5) (m6) (p1) sz) glV_RL_309 ⟨rfl, rfl⟩ ⟨(Nat.le_of_ble_eq_true rfl), (Nat.le_of_ble_eq_true rfl)⟩ ⟨(Nat.le_of_ble_eq_true rfl), (Nat.le_of_ble_eq_true rfl)⟩ [3, 0] rfl 13 0 rfl rfl rfl rfl (Nat.le_of_ble_eq_true rfl) rfl (fun _ u _ => by
        first | rfl | (split <;> rfl) | (dsimp only; split <;> rfl)) dL_law_2651 (fun r6 u6 w6 => ?_)
    rcases w6 with ⟨rfl, k7, k8, rfl⟩ | ⟨rfl, k9, rfl⟩ | ⟨rfl, k10, rfl⟩
    ·
      refine V_ws [(x0, oC 12 [.ref x1, .ref x30, .ref x59, .ref x88, .ref x117, .ref x126, .ref x127, .ref x129, .ref x132, .long 0]), (x1, oC 2 [.ref x2, .ref x4, .ref x6, .ref x8, .ref x10, .ref x12, .ref x14, .ref x16, .ref x18, .ref x20, .ref x27, .int 0]), (x20, oC 4 [.ref x21, .ref x23, .ref x25, .int 0]), (m0, oC 13 [.ref m1, .ref m2, .int 0, .ref m3, .ref m4, .int 0, .int 0, .int 0, .int (-1), .int 0, .int 0, .int 0, .long 0, .ref m5, .ref m6, .int 0, .int 0]), (m1, aI Y 3640 (upd (clB 0 (fun _ => 0)) 14 p1)), (o0, aJ Y 1 (fun _ => 0))] rfl ?_
      exact (q_abs (b_nlt k7 (n := 0) (by decide +kernel)) (b_lt k1 (n := (-1)) (by decide +kernel)) (by decide +kernel)).elim
    ·
      refine V_ws [(x0, oC 12 [.ref x1, .ref x30, .ref x59, .ref x88, .ref x117, .ref x126, .ref x127, .ref x129, .ref x132, .long 0]), (x1, oC 2 [.ref x2, .ref x4, .ref x6, .ref x8, .ref x10, .ref x12, .ref x14, .ref x16, .ref x18, .ref x20, .ref x27, .int 0]), (x20, oC 4 [.ref x21, .ref x23, .ref x25, .int 0]), (m0, oC 13 [.ref m1, .ref m2, .int 1, .ref m3, .ref m4, .int 0, .int 0, .int 0, .int (-1), .int 0, .int 0, .int 0, .long 0, .ref m5, .ref m6, .int 0, .int 0]), (m1, aI Y 3640 (clB 0 (fun _ => 0))), (o0, aJ Y 1 (fun _ => 0))] rfl ?_
      refine V_istore 2654 B (lv2 := [(6, .int 0), (5, .int 1), (4, .int 0), (3, .ref o0), (2, .ref m0), (1, .ref x0), (0, .ref b)]) dL_law_2654 (by decide) rfl ?_
      refine V_aload_n 2656 B dL_law_2656 4 rfl ?_
      refine V_cvi 2657 B (st := []) (As := []) (fun sz => mX12_thrown_2 l D Y (m0) (m1) (m2) (m3) (m4) (m5) (m6) sz) glV_RL_182 ⟨rfl, rfl⟩ ⟨(Nat.le_of_ble_eq_true rfl), (Nat.le_of_ble_eq_true rfl)⟩ ⟨(Nat.le_of_ble_eq_true rfl), (Nat.le_of_ble_eq_true rfl)⟩ [3] rfl 13 0 rfl rfl rfl rfl (Nat.le_of_ble_eq_true rfl) rfl (fun _ _ _ => rfl) dL_law_2657 (fun r11 u11 w11 => ?_)
      obtain rfl := w11
      refine V_ws [(x0, oC 12 [.ref x1, .ref x30, .ref x59, .ref x88, .ref x117, .ref x126, .ref x127, .ref x129, .ref x132, .long 0]), (x1, oC 2 [.ref x2, .ref x4, .ref x6, .ref x8, .ref x10, .ref x12, .ref x14, .ref x16, .ref x18, .ref x20, .ref x27, .int 0]), (x20, oC 4 [.ref x21, .ref x23, .ref x25, .int 0]), (m0, oC 13 [.ref m1, .ref m2, .int 1, .ref m3, .ref m4, .int 0, .int 0, .int 0, .int (-1), .int 0, .int 0, .int 0, .long 0, .ref m5, .ref m6, .int 0, .int 0]), (m1, aI Y 3640 (clB 0 (fun _ => 0))), (o0, aJ Y 1 (fun _ => 0))] rfl ?_
      refine V_iload 2660 B dL_law_2660 1 rfl ?_
      refine V_icmp_eq_t 2662 B 2667 dL_law_2662 (by decide) (by decide +kernel) ?_
      refine V_iload 2667 B dL_law_2667 1 rfl ?_
      refine V_if_ne_t 2669 B 2684 dL_law_2669 (by decide) (by decide +kernel) ?_
      refine V_goto 2684 B 3332 dL_law_2684 (by decide) ?_
      refine V_iinc 3332 B (v := 6) (lv2 := [(4, .int 6), (6, .int 0), (5, .int 1), (3, .ref o0), (2, .ref m0), (1, .ref x0), (0, .ref b)]) dL_law_3332 2 rfl (by decide +kernel) (by decide) rfl ?_
      refine V_goto 3335 B 23 dL_law_3335 (by decide) ?_
      refine V_iload 23 B dL_law_23 0 rfl ?_
      refine V_aload_n 25 B dL_law_25 6 rfl ?_
      refine V_slen 26 B hX hbl hbA (v := 6) (by decide +kernel) dL_law_26 ?_
      refine V_bipush 27 B (v := 6) dL_law_27 (by decide +kernel) ?_
      refine V_isub 29 B (v := 0) dL_law_29 (by decide +kernel) ?_
      refine V_icmp_gt_t 30 B 3338 dL_law_30 (by decide) (by decide +kernel) ?_
      exact law_end B (Nat.le_of_ble_eq_true rfl) (Nat.le_of_ble_eq_true rfl) dL_law_3338 dL_law_3339
    ·
      refine V_ws [(x0, oC 12 [.ref x1, .ref x30, .ref x59, .ref x88, .ref x117, .ref x126, .ref x127, .ref x129, .ref x132, .long 0]), (x1, oC 2 [.ref x2, .ref x4, .ref x6, .ref x8, .ref x10, .ref x12, .ref x14, .ref x16, .ref x18, .ref x20, .ref x27, .int 0]), (x20, oC 4 [.ref x21, .ref x23, .ref x25, .int 0]), (m0, oC 13 [.ref m1, .ref m2, .int 1, .ref m3, .ref m4, .int 0, .int 0, .int 0, .int (-1), .int 0, .int 0, .int 0, .long 0, .ref m5, .ref m6, .int 0, .int 0]), (m1, aI Y 3640 (clB 0 (fun _ => 0))), (o0, aJ Y 1 (fun _ => 0))] rfl ?_
      exact (q_abs (b_gt k10 (n := 16) (by decide +kernel)) (b_lt k1 (n := (-1)) (by decide +kernel)) (by decide +kernel)).elim
  ·
    refine V_ws [(x0, oC 12 [.ref x1, .ref x30, .ref x59, .ref x88, .ref x117, .ref x126, .ref x127, .ref x129, .ref x132, .long 0]), (x1, oC 2 [.ref x2, .ref x4, .ref x6, .ref x8, .ref x10, .ref x12, .ref x14, .ref x16, .ref x18, .ref x20, .ref x27, .int 0]), (x20, oC 4 [.ref x21, .ref x23, .ref x25, .int 0]), (m0, oC 13 [.ref m1, .ref m2, .int 0, .ref m3, .ref m4, .int 0, .int 0, .int 0, .int (-1), .int 0, .int 0, .int 0, .long 0, .ref m5, .ref m6, .int 0, .int 0]), (m1, aI Y 3640 (clB 0 (fun _ => 0))), (o0, aJ Y 1 (fun _ => 0))] rfl ?_
    refine V_istore 2642 B (lv2 := [(5, .int 1), (4, .int 0), (3, .ref o0), (2, .ref m0), (1, .ref x0), (0, .ref b)]) dL_law_2642 (by decide) rfl ?_
    refine V_aload_n 2644 B dL_law_2644 3 rfl ?_
    refine V_aload_n 2645 B dL_law_2645 5 rfl ?_
    refine V_iload 2646 B dL_law_2646 1 rfl ?_
    refine V_iconst 2648 B (v := 1) dL_law_2648 (by decide +kernel) ?_
    refine V_iadd 2649 B (v := 1) dL_law_2649 (by decide +kernel) ?_
    refine V_sld 2650 B hX hbl hbA (v := p1) (vpin _ _ (by decide +kernel)) dL_law_2650 e1 ?_
    refine V_cvi 2651 B (st := []) (As := [.int p1]) (fun sz => mX12_hold_1 l D Y (m0) (m1) (m2) (m3) (m4) (m5) (m6) (p1) sz) glV_RL_309 ⟨rfl, rfl⟩ ⟨(Nat.le_of_ble_eq_true rfl), (Nat.le_of_ble_eq_true rfl)⟩ ⟨(Nat.le_of_ble_eq_true rfl), (Nat.le_of_ble_eq_true rfl)⟩ [3, 0] rfl 13 0 rfl rfl rfl rfl (Nat.le_of_ble_eq_true rfl) rfl (fun _ u _ => by
        first | rfl | (split <;> rfl) | (dsimp only; split <;> rfl)) dL_law_2651 (fun r12 u12 w12 => ?_)
    rcases w12 with ⟨rfl, k13, k14, rfl⟩ | ⟨rfl, k15, rfl⟩ | ⟨rfl, k16, rfl⟩
    ·
      refine V_ws [(x0, oC 12 [.ref x1, .ref x30, .ref x59, .ref x88, .ref x117, .ref x126, .ref x127, .ref x129, .ref x132, .long 0]), (x1, oC 2 [.ref x2, .ref x4, .ref x6, .ref x8, .ref x10, .ref x12, .ref x14, .ref x16, .ref x18, .ref x20, .ref x27, .int 0]), (x20, oC 4 [.ref x21, .ref x23, .ref x25, .int 0]), (m0, oC 13 [.ref m1, .ref m2, .int 0, .ref m3, .ref m4, .int 0, .int 0, .int 0, .int (-1), .int 0, .int 0, .int 0, .long 0, .ref m5, .ref m6, .int 0, .int 0]), (m1, aI Y 3640 (upd (clB 0 (fun _ => 0)) 14 p1)), (o0, aJ Y 1 (fun _ => 0))] rfl ?_
      exact (q_abs (b_nlt k3 (n := 16) (by decide +kernel)) (b_ngt k14 (n := 15) (by decide +kernel)) (by decide +kernel)).elim
    ·
      refine V_ws [(x0, oC 12 [.ref x1, .ref x30, .ref x59, .ref x88, .ref x117, .ref x126, .ref x127, .ref x129, .ref x132, .long 0]), (x1, oC 2 [.ref x2, .ref x4, .ref x6, .ref x8, .ref x10, .ref x12, .ref x14, .ref x16, .ref x18, .ref x20, .ref x27, .int 0]), (x20, oC 4 [.ref x21, .ref x23, .ref x25, .int 0]), (m0, oC 13 [.ref m1, .ref m2, .int 1, .ref m3, .ref m4, .int 0, .int 0, .int 0, .int (-1), .int 0, .int 0, .int 0, .long 0, .ref m5, .ref m6, .int 0, .int 0]), (m1, aI Y 3640 (clB 0 (fun _ => 0))), (o0, aJ Y 1 (fun _ => 0))] rfl ?_
      exact (q_abs (b_nlt k3 (n := 16) (by decide +kernel)) (b_lt k15 (n := (-1)) (by decide +kernel)) (by decide +kernel)).elim
    ·
      refine V_ws [(x0, oC 12 [.ref x1, .ref x30, .ref x59, .ref x88, .ref x117, .ref x126, .ref x127, .ref x129, .ref x132, .long 0]), (x1, oC 2 [.ref x2, .ref x4, .ref x6, .ref x8, .ref x10, .ref x12, .ref x14, .ref x16, .ref x18, .ref x20, .ref x27, .int 0]), (x20, oC 4 [.ref x21, .ref x23, .ref x25, .int 0]), (m0, oC 13 [.ref m1, .ref m2, .int 1, .ref m3, .ref m4, .int 0, .int 0, .int 0, .int (-1), .int 0, .int 0, .int 0, .long 0, .ref m5, .ref m6, .int 0, .int 0]), (m1, aI Y 3640 (clB 0 (fun _ => 0))), (o0, aJ Y 1 (fun _ => 0))] rfl ?_
      refine V_istore 2654 B (lv2 := [(6, .int 0), (5, .int 1), (4, .int 0), (3, .ref o0), (2, .ref m0), (1, .ref x0), (0, .ref b)]) dL_law_2654 (by decide) rfl ?_
      refine V_aload_n 2656 B dL_law_2656 4 rfl ?_
      refine V_cvi 2657 B (st := []) (As := []) (fun sz => mX12_thrown_2 l D Y (m0) (m1) (m2) (m3) (m4) (m5) (m6) sz) glV_RL_182 ⟨rfl, rfl⟩ ⟨(Nat.le_of_ble_eq_true rfl), (Nat.le_of_ble_eq_true rfl)⟩ ⟨(Nat.le_of_ble_eq_true rfl), (Nat.le_of_ble_eq_true rfl)⟩ [3] rfl 13 0 rfl rfl rfl rfl (Nat.le_of_ble_eq_true rfl) rfl (fun _ _ _ => rfl) dL_law_2657 (fun r17 u17 w17 => ?_)
      obtain rfl := w17
      refine V_ws [(x0, oC 12 [.ref x1, .ref x30, .ref x59, .ref x88, .ref x117, .ref x126, .ref x127, .ref x129, .ref x132, .long 0]), (x1, oC 2 [.ref x2, .ref x4, .ref x6, .ref x8, .ref x10, .ref x12, .ref x14, .ref x16, .ref x18, .ref x20, .ref x27, .int 0]), (x20, oC 4 [.ref x21, .ref x23, .ref x25, .int 0]), (m0, oC 13 [.ref m1, .ref m2, .int 1, .ref m3, .ref m4, .int 0, .int 0, .int 0, .int (-1), .int 0, .int 0, .int 0, .long 0, .ref m5, .ref m6, .int 0, .int 0]), (m1, aI Y 3640 (clB 0 (fun _ => 0))), (o0, aJ Y 1 (fun _ => 0))] rfl ?_
      refine V_iload 2660 B dL_law_2660 1 rfl ?_
      refine V_icmp_eq_t 2662 B 2667 dL_law_2662 (by decide) (by decide +kernel) ?_
      refine V_iload 2667 B dL_law_2667 1 rfl ?_
      refine V_if_ne_t 2669 B 2684 dL_law_2669 (by decide) (by decide +kernel) ?_
      refine V_goto 2684 B 3332 dL_law_2684 (by decide) ?_
      refine V_iinc 3332 B (v := 6) (lv2 := [(4, .int 6), (6, .int 0), (5, .int 1), (3, .ref o0), (2, .ref m0), (1, .ref x0), (0, .ref b)]) dL_law_3332 2 rfl (by decide +kernel) (by decide) rfl ?_
      refine V_goto 3335 B 23 dL_law_3335 (by decide) ?_
      refine V_iload 23 B dL_law_23 0 rfl ?_
      refine V_aload_n 25 B dL_law_25 6 rfl ?_
      refine V_slen 26 B hX hbl hbA (v := 6) (by decide +kernel) dL_law_26 ?_
      refine V_bipush 27 B (v := 6) dL_law_27 (by decide +kernel) ?_
      refine V_isub 29 B (v := 0) dL_law_29 (by decide +kernel) ?_
      refine V_icmp_gt_t 30 B 3338 dL_law_30 (by decide) (by decide +kernel) ?_
      exact law_end B (Nat.le_of_ble_eq_true rfl) (Nat.le_of_ble_eq_true rfl) dL_law_3338 dL_law_3339
  ·
    refine V_ws [(x0, oC 12 [.ref x1, .ref x30, .ref x59, .ref x88, .ref x117, .ref x126, .ref x127, .ref x129, .ref x132, .long 0]), (x1, oC 2 [.ref x2, .ref x4, .ref x6, .ref x8, .ref x10, .ref x12, .ref x14, .ref x16, .ref x18, .ref x20, .ref x27, .int 0]), (x20, oC 4 [.ref x21, .ref x23, .ref x25, .int p1]), (m0, oC 13 [.ref m1, .ref m2, .int 0, .ref m3, .ref m4, .int 0, .int 0, .int 0, .int (-1), .int 0, .int 0, .int 0, .long 0, .ref m5, .ref m6, .int 0, .int 0]), (m1, aI Y 3640 (clB 0 (fun _ => 0))), (o0, aJ Y 1 (vp_updL (fun _ => 0) 0 0))] rfl ?_
    refine V_istore 2642 B (lv2 := [(5, .int 0), (4, .int 0), (3, .ref o0), (2, .ref m0), (1, .ref x0), (0, .ref b)]) dL_law_2642 (by decide) rfl ?_
    refine V_aload_n 2644 B dL_law_2644 3 rfl ?_
    refine V_aload_n 2645 B dL_law_2645 5 rfl ?_
    refine V_iload 2646 B dL_law_2646 1 rfl ?_
    refine V_iconst 2648 B (v := 1) dL_law_2648 (by decide +kernel) ?_
    refine V_iadd 2649 B (v := 1) dL_law_2649 (by decide +kernel) ?_
    refine V_sld 2650 B hX hbl hbA (v := p1) (vpin _ _ (by decide +kernel)) dL_law_2650 e1 ?_
    refine V_cvi 2651 B (st := []) (As := [.int p1]) (fun sz => mX12_hold_1 l D Y (m0) (m1) (m2) (m3) (m4) (m5) (m6) (p1) sz) glV_RL_309 ⟨rfl, rfl⟩ ⟨(Nat.le_of_ble_eq_true rfl), (Nat.le_of_ble_eq_true rfl)⟩ ⟨(Nat.le_of_ble_eq_true rfl), (Nat.le_of_ble_eq_true rfl)⟩ [3, 0] rfl 13 0 rfl rfl rfl rfl (Nat.le_of_ble_eq_true rfl) rfl (fun _ u _ => by
        first | rfl | (split <;> rfl) | (dsimp only; split <;> rfl)) dL_law_2651 (fun r18 u18 w18 => ?_)
    rcases w18 with ⟨rfl, k19, k20, rfl⟩ | ⟨rfl, k21, rfl⟩ | ⟨rfl, k22, rfl⟩
    ·
      refine V_ws [(x0, oC 12 [.ref x1, .ref x30, .ref x59, .ref x88, .ref x117, .ref x126, .ref x127, .ref x129, .ref x132, .long 0]), (x1, oC 2 [.ref x2, .ref x4, .ref x6, .ref x8, .ref x10, .ref x12, .ref x14, .ref x16, .ref x18, .ref x20, .ref x27, .int 0]), (x20, oC 4 [.ref x21, .ref x23, .ref x25, .int p1]), (m0, oC 13 [.ref m1, .ref m2, .int 0, .ref m3, .ref m4, .int 0, .int 0, .int 0, .int (-1), .int 0, .int 0, .int 0, .long 0, .ref m5, .ref m6, .int 0, .int 0]), (m1, aI Y 3640 (upd (clB 0 (fun _ => 0)) 14 p1)), (o0, aJ Y 1 (vp_updL (fun _ => 0) 0 0))] rfl ?_
      refine V_istore 2654 B (lv2 := [(6, .int 0), (5, .int 0), (4, .int 0), (3, .ref o0), (2, .ref m0), (1, .ref x0), (0, .ref b)]) dL_law_2654 (by decide) rfl ?_
      refine V_aload_n 2656 B dL_law_2656 4 rfl ?_
      refine V_cvi 2657 B (st := []) (As := []) (fun sz => mX12_thrown_1 l D Y (m0) (m1) (m2) (m3) (m4) (m5) (m6) sz) glV_RL_182 ⟨rfl, rfl⟩ ⟨(Nat.le_of_ble_eq_true rfl), (Nat.le_of_ble_eq_true rfl)⟩ ⟨(Nat.le_of_ble_eq_true rfl), (Nat.le_of_ble_eq_true rfl)⟩ [3] rfl 13 0 rfl rfl rfl rfl (Nat.le_of_ble_eq_true rfl) rfl (fun _ _ _ => rfl) dL_law_2657 (fun r23 u23 w23 => ?_)
      obtain rfl := w23
      refine V_ws [(x0, oC 12 [.ref x1, .ref x30, .ref x59, .ref x88, .ref x117, .ref x126, .ref x127, .ref x129, .ref x132, .long 0]), (x1, oC 2 [.ref x2, .ref x4, .ref x6, .ref x8, .ref x10, .ref x12, .ref x14, .ref x16, .ref x18, .ref x20, .ref x27, .int 0]), (x20, oC 4 [.ref x21, .ref x23, .ref x25, .int p1]), (m0, oC 13 [.ref m1, .ref m2, .int 0, .ref m3, .ref m4, .int 0, .int 0, .int 0, .int (-1), .int 0, .int 0, .int 0, .long 0, .ref m5, .ref m6, .int 0, .int 0]), (m1, aI Y 3640 (upd (clB 0 (fun _ => 0)) 14 p1)), (o0, aJ Y 1 (vp_updL (fun _ => 0) 0 0))] rfl ?_
      refine V_iload 2660 B dL_law_2660 1 rfl ?_
      refine V_icmp_eq_t 2662 B 2667 dL_law_2662 (by decide) (by decide +kernel) ?_
      refine V_iload 2667 B dL_law_2667 1 rfl ?_
      refine V_if_ne_f 2669 B 2684 dL_law_2669 (by decide) (by decide +kernel) ?_
      refine V_aload_n 2672 B dL_law_2672 3 rfl ?_
      refine V_iconst 2673 B (v := 0) dL_law_2673 (by decide +kernel) ?_
      refine V_lald 2674 B (v := 0) 5 rfl (vpin _ _ (by decide +kernel)) dL_law_2674 rfl ?_
      refine V_iload 2675 B dL_law_2675 0 rfl ?_
      refine V_i2l 2677 B (v := 0) dL_law_2677 (by decide +kernel) ?_
      refine V_lcmp 2678 B (v := 0) dL_law_2678 (by decide +kernel) ?_
      refine V_if_eq_t 2679 B 2684 dL_law_2679 (by decide) (by decide +kernel) ?_
      refine V_goto 2684 B 3332 dL_law_2684 (by decide) ?_
      refine V_iinc 3332 B (v := 6) (lv2 := [(4, .int 6), (6, .int 0), (5, .int 0), (3, .ref o0), (2, .ref m0), (1, .ref x0), (0, .ref b)]) dL_law_3332 2 rfl (by decide +kernel) (by decide) rfl ?_
      refine V_goto 3335 B 23 dL_law_3335 (by decide) ?_
      refine V_iload 23 B dL_law_23 0 rfl ?_
      refine V_aload_n 25 B dL_law_25 6 rfl ?_
      refine V_slen 26 B hX hbl hbA (v := 6) (by decide +kernel) dL_law_26 ?_
      refine V_bipush 27 B (v := 6) dL_law_27 (by decide +kernel) ?_
      refine V_isub 29 B (v := 0) dL_law_29 (by decide +kernel) ?_
      refine V_icmp_gt_t 30 B 3338 dL_law_30 (by decide) (by decide +kernel) ?_
      exact law_end B (Nat.le_of_ble_eq_true rfl) (Nat.le_of_ble_eq_true rfl) dL_law_3338 dL_law_3339
    ·
      refine V_ws [(x0, oC 12 [.ref x1, .ref x30, .ref x59, .ref x88, .ref x117, .ref x126, .ref x127, .ref x129, .ref x132, .long 0]), (x1, oC 2 [.ref x2, .ref x4, .ref x6, .ref x8, .ref x10, .ref x12, .ref x14, .ref x16, .ref x18, .ref x20, .ref x27, .int 0]), (x20, oC 4 [.ref x21, .ref x23, .ref x25, .int p1]), (m0, oC 13 [.ref m1, .ref m2, .int 1, .ref m3, .ref m4, .int 0, .int 0, .int 0, .int (-1), .int 0, .int 0, .int 0, .long 0, .ref m5, .ref m6, .int 0, .int 0]), (m1, aI Y 3640 (clB 0 (fun _ => 0))), (o0, aJ Y 1 (vp_updL (fun _ => 0) 0 0))] rfl ?_
      exact (q_abs (b_nlt k4 (n := 0) (by decide +kernel)) (b_lt k21 (n := (-1)) (by decide +kernel)) (by decide +kernel)).elim
    ·
      refine V_ws [(x0, oC 12 [.ref x1, .ref x30, .ref x59, .ref x88, .ref x117, .ref x126, .ref x127, .ref x129, .ref x132, .long 0]), (x1, oC 2 [.ref x2, .ref x4, .ref x6, .ref x8, .ref x10, .ref x12, .ref x14, .ref x16, .ref x18, .ref x20, .ref x27, .int 0]), (x20, oC 4 [.ref x21, .ref x23, .ref x25, .int p1]), (m0, oC 13 [.ref m1, .ref m2, .int 1, .ref m3, .ref m4, .int 0, .int 0, .int 0, .int (-1), .int 0, .int 0, .int 0, .long 0, .ref m5, .ref m6, .int 0, .int 0]), (m1, aI Y 3640 (clB 0 (fun _ => 0))), (o0, aJ Y 1 (vp_updL (fun _ => 0) 0 0))] rfl ?_
      exact (q_abs (b_gt k22 (n := 16) (by decide +kernel)) (b_lt k5 (n := 15) (by decide +kernel)) (by decide +kernel)).elim
theorem dL_strokeOf_0 : decode cL_strokeOf 0 = .ok (.aload_n 2, 1) := by decide +kernel
theorem dL_strokeOf_1 : decode cL_strokeOf 1 = .ok (.iconst 0, 1) := by decide +kernel
theorem dL_strokeOf_2 : decode cL_strokeOf 2 = .ok (.aload_n 0, 1) := by decide +kernel
theorem dL_strokeOf_3 : decode cL_strokeOf 3 = .ok (.iload_n 1, 1) := by decide +kernel
theorem dL_strokeOf_4 : decode cL_strokeOf 4 = .ok (.invokevirtual 121, 3) := by decide +kernel
theorem glV_RL_121 : GLV RL 121 yX11_strokeOf RX11 cX11_strokeOf 2 (some .int) 1 := ⟨⟨(mT7 49 rfl rfl), (mT7 50 rfl rfl), (mT7 51 rfl rfl), (mT1 1 rfl rfl), (mT7 52 rfl rfl)⟩, by decide +kernel⟩
theorem dL_strokeOf_12 : decode cL_strokeOf 12 = .ok (.astore_n 3, 1) := by decide +kernel
theorem dL_strokeOf_13 : decode cL_strokeOf 13 = .ok (.iconst 1, 1) := by decide +kernel
theorem dL_strokeOf_14 : decode cL_strokeOf 14 = .ok (.ireturn, 1) := by decide +kernel
theorem dL_strokeOf_7 : decode cL_strokeOf 7 = .ok (.i2l, 1) := by decide +kernel
theorem dL_strokeOf_8 : decode cL_strokeOf 8 = .ok (.lastore, 1) := by decide +kernel
theorem dL_strokeOf_9 : decode cL_strokeOf 9 = .ok (.goto 6, 3) := by decide +kernel
theorem dL_strokeOf_15 : decode cL_strokeOf 15 = .ok (.iconst 0, 1) := by decide +kernel
theorem dL_strokeOf_16 : decode cL_strokeOf 16 = .ok (.ireturn, 1) := by decide +kernel
set_option maxRecDepth 100000 in
set_option maxHeartbeats 4000000 in
theorem mL_strokeOf_1 (l : Launch) (hl9 : l.stackTraces = false) (D : va_G) (Y : Nat → ClassId) (h0 : Nat) (h4 : Nat) (h1 : Nat) (g0 : Nat) (g1 : Nat) (g2 : Nat) (g3 : Nat) (g4 : Nat) (g5 : Nat) (g6 : Nat) (g7 : Nat) (g8 : Nat) (g9 : Nat) (g10 : Nat) (g11 : Nat) (g12 : Nat) (g13 : Nat) (g14 : Nat) (g15 : Nat) (g16 : Nat) (h2 : Nat) (g17 : Nat) (h3 : Nat) (g18 : Nat) (g19 : Nat) (g20 : Nat) (p0 : Int32) (sz : Nat) : Met l yL_strokeOf (Cond.codeWith yL_strokeOf cL_strokeOf 4 (some .int) [(0, 9, 12, 13)] :: lw_good) (mkR 8 1 6 123) (PreX D Y [.ref h0, .int p0, .ref h4] [(h0, oC 12 [.ref h1, .ref g0, .ref g1, .ref g2, .ref g3, .ref g4, .ref g5, .ref g6, .ref g7, .long 0]), (h1, oC 2 [.ref g8, .ref g9, .ref g10, .ref g11, .ref g12, .ref g13, .ref g14, .ref g15, .ref g16, .ref h2, .ref g17, .int 0]), (h2, oC 4 [.ref h3, .ref g18, .ref g19, .int 0]), (h3, oC 3 [.ref g20, .int 0]), (h4, aJ Y 1 (fun _ => 0))] sz) (QI D (fun (r : Int32) (u : Nat) => (u = 0 ∧ p0 < 0 ∧ 1 = r) ∨ (u = 1 ∧ ¬ p0 < 0 ∧ ¬ p0 < 26 ∧ 1 = r) ∨ (u = 2 ∧ ¬ p0 < 0 ∧ p0 < 26 ∧ 0 = r)) (fun (u : Nat) => match u with | 0 => [(h0, oC 12 [.ref h1, .ref g0, .ref g1, .ref g2, .ref g3, .ref g4, .ref g5, .ref g6, .ref g7, .long 0]), (h1, oC 2 [.ref g8, .ref g9, .ref g10, .ref g11, .ref g12, .ref g13, .ref g14, .ref g15, .ref g16, .ref h2, .ref g17, .int 0]), (h2, oC 4 [.ref h3, .ref g18, .ref g19, .int 0]), (h3, oC 3 [.ref g20, .int 0]), (h4, aJ Y 1 (fun _ => 0))] | 1 => [(h0, oC 12 [.ref h1, .ref g0, .ref g1, .ref g2, .ref g3, .ref g4, .ref g5, .ref g6, .ref g7, .long 0]), (h1, oC 2 [.ref g8, .ref g9, .ref g10, .ref g11, .ref g12, .ref g13, .ref g14, .ref g15, .ref g16, .ref h2, .ref g17, .int 0]), (h2, oC 4 [.ref h3, .ref g18, .ref g19, .int 0]), (h3, oC 3 [.ref g20, .int 0]), (h4, aJ Y 1 (fun _ => 0))] | _ => [(h0, oC 12 [.ref h1, .ref g0, .ref g1, .ref g2, .ref g3, .ref g4, .ref g5, .ref g6, .ref g7, .long 0]), (h1, oC 2 [.ref g8, .ref g9, .ref g10, .ref g11, .ref g12, .ref g13, .ref g14, .ref g15, .ref g16, .ref h2, .ref g17, .int 0]), (h2, oC 4 [.ref h3, .ref g18, .ref g19, .int 0]), (h3, oC 3 [.ref g20, .int 0]), (h4, aJ Y 1 (vp_updL (fun _ => 0) 0 p0.toInt64))]) (va_A [(h0, oC 12 [.ref h1, .ref g0, .ref g1, .ref g2, .ref g3, .ref g4, .ref g5, .ref g6, .ref g7, .long 0]), (h1, oC 2 [.ref g8, .ref g9, .ref g10, .ref g11, .ref g12, .ref g13, .ref g14, .ref g15, .ref g16, .ref h2, .ref g17, .int 0]), (h2, oC 4 [.ref h3, .ref g18, .ref g19, .int 0]), (h3, oC 3 [.ref g20, .int 0]), (h4, aJ Y 1 (fun _ => 0))] sz)) 1 6 (va_A [(h0, oC 12 [.ref h1, .ref g0, .ref g1, .ref g2, .ref g3, .ref g4, .ref g5, .ref g6, .ref g7, .long 0]), (h1, oC 2 [.ref g8, .ref g9, .ref g10, .ref g11, .ref g12, .ref g13, .ref g14, .ref g15, .ref g16, .ref h2, .ref g17, .int 0]), (h2, oC 4 [.ref h3, .ref g18, .ref g19, .int 0]), (h3, oC 3 [.ref g20, .int 0]), (h4, aJ Y 1 (fun _ => 0))] sz) :=
  metH_of (by decide +kernel) (Nat.le_of_ble_eq_true rfl) (fun p e s m args below meth c B EB htab hsz => by
    have B : VB p s m args meth c D Y (va_A [(h0, oC 12 [.ref h1, .ref g0, .ref g1, .ref g2, .ref g3, .ref g4, .ref g5, .ref g6, .ref g7, .long 0]), (h1, oC 2 [.ref g8, .ref g9, .ref g10, .ref g11, .ref g12, .ref g13, .ref g14, .ref g15, .ref g16, .ref h2, .ref g17, .int 0]), (h2, oC 4 [.ref h3, .ref g18, .ref g19, .int 0]), (h3, oC 3 [.ref g20, .int 0]), (h4, aJ Y 1 (fun _ => 0))] sz) cL_strokeOf 4 RL (some .int) := B
    refine V_aload_n 0 B dL_strokeOf_0 2 rfl ?_
    refine V_iconst 1 B (v := 0) dL_strokeOf_1 (by decide +kernel) ?_
    refine V_aload_n 2 B dL_strokeOf_2 0 rfl ?_
    refine V_iload_n 3 B dL_strokeOf_3 1 rfl ?_
    refine V_xvi 4 B EB (st := [.int 0, .ref h4]) (As := [.int p0]) (fun sz => mX11_strokeOf_1 l hl9 D Y (h0) (h1) (g0) (g1) (g2) (g3) (g4) (g5) (g6) (g7) (g8) (g9) (g10) (g11) (g12) (g13) (g14) (g15) (g16) (h2) (g17) (h3) (g18) (g19) (g20) (p0) sz) glV_RL_121 ⟨rfl, rfl⟩ ⟨(Nat.le_of_ble_eq_true rfl), (Nat.le_of_ble_eq_true rfl)⟩ ⟨(Nat.le_of_ble_eq_true rfl), (Nat.le_of_ble_eq_true rfl)⟩ [0, 0, 0, 0] rfl 12 0 rfl rfl rfl rfl (Nat.le_of_ble_eq_true rfl) rfl (fun _ _ _ => rfl) (fun _ _ _ => rfl) dL_strokeOf_4 (fun E u0 w0 => ?_) (fun r0 u0 w0 => ?_)
    ·
      rcases w0 with ⟨rfl, k1⟩ | ⟨rfl, k2, k3⟩
      ·
        refine VX_catch 4 B htab [] (0, 9, 12, 13) [] rfl "java/lang/IllegalArgumentException" (fun z hz => nomatch hz) rfl (by decide) (mT5 20 rfl rfl) (EB.2.2.2.1 _ (List.mem_of_getElem? (i := 0) rfl)) 12 rfl (fun q9 => ?_)
        refine V_ws [(h0, oC 12 [.ref h1, .ref g0, .ref g1, .ref g2, .ref g3, .ref g4, .ref g5, .ref g6, .ref g7, .long 0]), (h1, oC 2 [.ref g8, .ref g9, .ref g10, .ref g11, .ref g12, .ref g13, .ref g14, .ref g15, .ref g16, .ref h2, .ref g17, .int 0]), (h2, oC 4 [.ref h3, .ref g18, .ref g19, .int 0]), (h3, oC 3 [.ref g20, .int 0]), (h4, aJ Y 1 (fun _ => 0))] rfl ?_
        refine V_astore_n 12 B (lv2 := [(3, .ref q9), (0, .ref h0), (1, .int p0), (2, .ref h4)]) dL_strokeOf_12 (by decide) rfl ?_
        refine V_iconst 13 B (v := 1) dL_strokeOf_13 (by decide +kernel) ?_
        exact V_iret 14 B dL_strokeOf_14 0 (Or.inl ⟨rfl, k1, rfl⟩) rfl
      ·
        refine VX_catch 4 B htab [] (0, 9, 12, 13) [] rfl "java/lang/IllegalArgumentException" (fun z hz => nomatch hz) rfl (by decide) (mT5 20 rfl rfl) (EB.2.2.2.1 _ (List.mem_of_getElem? (i := 0) rfl)) 12 rfl (fun q9 => ?_)
        refine V_ws [(h0, oC 12 [.ref h1, .ref g0, .ref g1, .ref g2, .ref g3, .ref g4, .ref g5, .ref g6, .ref g7, .long 0]), (h1, oC 2 [.ref g8, .ref g9, .ref g10, .ref g11, .ref g12, .ref g13, .ref g14, .ref g15, .ref g16, .ref h2, .ref g17, .int 0]), (h2, oC 4 [.ref h3, .ref g18, .ref g19, .int 0]), (h3, oC 3 [.ref g20, .int 0]), (h4, aJ Y 1 (fun _ => 0))] rfl ?_
        refine V_astore_n 12 B (lv2 := [(3, .ref q9), (0, .ref h0), (1, .int p0), (2, .ref h4)]) dL_strokeOf_12 (by decide) rfl ?_
        refine V_iconst 13 B (v := 1) dL_strokeOf_13 (by decide +kernel) ?_
        exact V_iret 14 B dL_strokeOf_14 1 (Or.inr (Or.inl ⟨rfl, k2, k3, rfl⟩)) rfl
    ·
      obtain ⟨k4, k5, rfl⟩ := w0
      refine V_ws [(h0, oC 12 [.ref h1, .ref g0, .ref g1, .ref g2, .ref g3, .ref g4, .ref g5, .ref g6, .ref g7, .long 0]), (h1, oC 2 [.ref g8, .ref g9, .ref g10, .ref g11, .ref g12, .ref g13, .ref g14, .ref g15, .ref g16, .ref h2, .ref g17, .int 0]), (h2, oC 4 [.ref h3, .ref g18, .ref g19, .int 0]), (h3, oC 3 [.ref g20, .int 0]), (h4, aJ Y 1 (fun _ => 0))] rfl ?_
      refine V_i2l 7 B dL_strokeOf_7 rfl ?_
      refine V_last 8 B 4 rfl (vpin _ _ (by decide +kernel)) dL_strokeOf_8 [(h0, oC 12 [.ref h1, .ref g0, .ref g1, .ref g2, .ref g3, .ref g4, .ref g5, .ref g6, .ref g7, .long 0]), (h1, oC 2 [.ref g8, .ref g9, .ref g10, .ref g11, .ref g12, .ref g13, .ref g14, .ref g15, .ref g16, .ref h2, .ref g17, .int 0]), (h2, oC 4 [.ref h3, .ref g18, .ref g19, .int 0]), (h3, oC 3 [.ref g20, .int 0]), (h4, aJ Y 1 (vp_updL (fun _ => 0) 0 p0.toInt64))] rfl ?_
      refine V_goto 9 B 15 dL_strokeOf_9 (by decide) ?_
      refine V_iconst 15 B (v := 0) dL_strokeOf_15 (by decide +kernel) ?_
      exact V_iret 16 B dL_strokeOf_16 2 (Or.inr (Or.inr ⟨rfl, k4, k5, rfl⟩)) rfl)
theorem dL_law_2687 : decode cL_law 2687 = .ok (.aload_n 1, 1) := by decide +kernel
theorem dL_law_2688 : decode cL_law 2688 = .ok (.aload_n 0, 1) := by decide +kernel
theorem dL_law_2689 : decode cL_law 2689 = .ok (.iload 4, 2) := by decide +kernel
theorem dL_law_2691 : decode cL_law 2691 = .ok (.iconst 1, 1) := by decide +kernel
theorem dL_law_2692 : decode cL_law 2692 = .ok (.iadd, 1) := by decide +kernel
theorem dL_law_2693 : decode cL_law 2693 = .ok (.iaload, 1) := by decide +kernel
theorem dL_law_2694 : decode cL_law 2694 = .ok (.aload_n 3, 1) := by decide +kernel
theorem dL_law_2695 : decode cL_law 2695 = .ok (.invokestatic 310, 3) := by decide +kernel
theorem glH_RL_310 : GLH RL 310 yL_strokeOf cL_strokeOf 4 (some .int) [(0, 9, 12, 13)] 3 := ⟨⟨(mT7 46 rfl rfl), (mT7 47 rfl rfl), (mT1 0 rfl rfl), (mT7 48 rfl rfl)⟩, by decide +kernel⟩
theorem dL_law_2698 : decode cL_law 2698 = .ok (.istore 5, 2) := by decide +kernel
theorem dL_law_2700 : decode cL_law 2700 = .ok (.aload_n 2, 1) := by decide +kernel
theorem dL_law_2701 : decode cL_law 2701 = .ok (.aload_n 0, 1) := by decide +kernel
theorem dL_law_2702 : decode cL_law 2702 = .ok (.iload 4, 2) := by decide +kernel
theorem dL_law_2704 : decode cL_law 2704 = .ok (.iconst 1, 1) := by decide +kernel
theorem dL_law_2705 : decode cL_law 2705 = .ok (.iadd, 1) := by decide +kernel
theorem dL_law_2706 : decode cL_law 2706 = .ok (.iaload, 1) := by decide +kernel
theorem dL_law_2707 : decode cL_law 2707 = .ok (.invokevirtual 312, 3) := by decide +kernel
theorem glV_RL_312 : GLV RL 312 yX12_strokeOf RX12 cX12_strokeOf 2 (some .int) 1 := ⟨⟨(mT9 81 rfl rfl), (mT9 82 rfl rfl), (mT9 83 rfl rfl), (mT1 13 rfl rfl), (mT9 84 rfl rfl)⟩, by decide +kernel⟩
theorem dL_law_2710 : decode cL_law 2710 = .ok (.istore 6, 2) := by decide +kernel
theorem dL_law_2712 : decode cL_law 2712 = .ok (.aload_n 2, 1) := by decide +kernel
theorem dL_law_2713 : decode cL_law 2713 = .ok (.invokevirtual 182, 3) := by decide +kernel
theorem dL_law_2716 : decode cL_law 2716 = .ok (.iload 5, 2) := by decide +kernel
theorem dL_law_2718 : decode cL_law 2718 = .ok (.if_icmp .eq 5, 3) := by decide +kernel
theorem dL_law_2723 : decode cL_law 2723 = .ok (.iload 5, 2) := by decide +kernel
theorem dL_law_2725 : decode cL_law 2725 = .ok (.ifCond .ne 15, 3) := by decide +kernel
theorem dL_law_2740 : decode cL_law 2740 = .ok (.goto 592, 3) := by decide +kernel
theorem dL_law_2728 : decode cL_law 2728 = .ok (.aload_n 3, 1) := by decide +kernel
theorem dL_law_2729 : decode cL_law 2729 = .ok (.iconst 0, 1) := by decide +kernel
theorem dL_law_2730 : decode cL_law 2730 = .ok (.laload, 1) := by decide +kernel
theorem dL_law_2731 : decode cL_law 2731 = .ok (.iload 6, 2) := by decide +kernel
theorem dL_law_2733 : decode cL_law 2733 = .ok (.i2l, 1) := by decide +kernel
theorem dL_law_2734 : decode cL_law 2734 = .ok (.lcmp, 1) := by decide +kernel
theorem dL_law_2735 : decode cL_law 2735 = .ok (.ifCond .eq 5, 3) := by decide +kernel
set_option maxRecDepth 100000 in
set_option maxHeartbeats 4000000 in
theorem law_c46 {p : Program} {l : Launch} {e : Env} {s : State} {m : MethodId} {below : List Frame} {meth : Method} {c : Code} {b : Nat} {xs : Nat → Int32} {D : va_G} {Y : Nat → ClassId} (B : VB p s m #[Value.ref b] meth c D Y (fun q => s.heap.size ≤ q) cL_law 8 RL ret) (EB : EX (fun q => s.heap.size ≤ q) s s.heap) (hl9 : l.stackTraces = false) (hX : va_X b 6 xs s s.heap) (hbl : b < s.heap.size) (hbA : ¬ (fun q => s.heap.size ≤ q) b) (x0 x1 x30 x59 x88 x117 x126 x127 x129 x132 x2 x4 x6 x8 x10 x12 x14 x16 x18 x20 x27 x21 x23 x25 x22 m0 m1 m2 m3 m4 m5 m6 o0 : Nat) (p1 : Int32) (e1 : xs 1 = p1) : V p l e room_1 s m #[Value.ref b] below meth c D (fun q => s.heap.size ≤ q) 8 149 10574 (lw_Z below #[Value.ref b] s) 2687 [(4, .int 0), (3, .ref o0), (2, .ref m0), (1, .ref x0), (0, .ref b)] [] [(x0, oC 12 [.ref x1, .ref x30, .ref x59, .ref x88, .ref x117, .ref x126, .ref x127, .ref x129, .ref x132, .long 0]), (x1, oC 2 [.ref x2, .ref x4, .ref x6, .ref x8, .ref x10, .ref x12, .ref x14, .ref x16, .ref x18, .ref x20, .ref x27, .int 0]), (x20, oC 4 [.ref x21, .ref x23, .ref x25, .int 0]), (x21, oC 3 [.ref x22, .int 0]), (m0, oC 13 [.ref m1, .ref m2, .int 0, .ref m3, .ref m4, .int 0, .int 0, .int 0, .int (-1), .int 0, .int 0, .int 0, .long 0, .ref m5, .ref m6, .int 0, .int 0]), (m1, aI Y 3640 (clB 0 (fun _ => 0))), (o0, aJ Y 1 (fun _ => 0))] := by
  refine V_aload_n 2687 B dL_law_2687 3 rfl ?_
  refine V_aload_n 2688 B dL_law_2688 4 rfl ?_
  refine V_iload 2689 B dL_law_2689 0 rfl ?_
  refine V_iconst 2691 B (v := 1) dL_law_2691 (by decide +kernel) ?_
  refine V_iadd 2692 B (v := 1) dL_law_2692 (by decide +kernel) ?_
  refine V_sld 2693 B hX hbl hbA (v := p1) (vpin _ _ (by decide +kernel)) dL_law_2693 e1 ?_
  refine V_aload_n 2694 B dL_law_2694 1 rfl ?_
  refine V_hsi 2695 B EB (st := []) (As := [.ref x0, .int p1, .ref o0]) (fun sz => mL_strokeOf_1 l hl9 D Y (x0) (o0) (x1) (x30) (x59) (x88) (x117) (x126) (x127) (x129) (x132) (x2) (x4) (x6) (x8) (x10) (x12) (x14) (x16) (x18) (x20) (x27) (x21) (x23) (x25) (x22) (p1) sz) glH_RL_310 ⟨rfl, rfl⟩ ⟨(Nat.le_of_ble_eq_true rfl), (Nat.le_of_ble_eq_true rfl)⟩ ⟨(Nat.le_of_ble_eq_true rfl), (Nat.le_of_ble_eq_true rfl)⟩ [0, 0, 0, 0, 2] rfl rfl (Nat.le_of_ble_eq_true rfl) rfl (fun _ u _ => by
        first | rfl | (split <;> rfl) | (dsimp only; split <;> rfl)) dL_law_2695 (fun r0 u0 w0 => ?_)
  rcases w0 with ⟨rfl, k1, rfl⟩ | ⟨rfl, k2, k3, rfl⟩ | ⟨rfl, k4, k5, rfl⟩
  ·
    refine V_ws [(x0, oC 12 [.ref x1, .ref x30, .ref x59, .ref x88, .ref x117, .ref x126, .ref x127, .ref x129, .ref x132, .long 0]), (x1, oC 2 [.ref x2, .ref x4, .ref x6, .ref x8, .ref x10, .ref x12, .ref x14, .ref x16, .ref x18, .ref x20, .ref x27, .int 0]), (x20, oC 4 [.ref x21, .ref x23, .ref x25, .int 0]), (x21, oC 3 [.ref x22, .int 0]), (m0, oC 13 [.ref m1, .ref m2, .int 0, .ref m3, .ref m4, .int 0, .int 0, .int 0, .int (-1), .int 0, .int 0, .int 0, .long 0, .ref m5, .ref m6, .int 0, .int 0]), (m1, aI Y 3640 (clB 0 (fun _ => 0))), (o0, aJ Y 1 (fun _ => 0))] rfl ?_
    refine V_istore 2698 B (lv2 := [(5, .int 1), (4, .int 0), (3, .ref o0), (2, .ref m0), (1, .ref x0), (0, .ref b)]) dL_law_2698 (by decide) rfl ?_
    refine V_aload_n 2700 B dL_law_2700 3 rfl ?_
    refine V_aload_n 2701 B dL_law_2701 5 rfl ?_
    refine V_iload 2702 B dL_law_2702 1 rfl ?_
    refine V_iconst 2704 B (v := 1) dL_law_2704 (by decide +kernel) ?_
    refine V_iadd 2705 B (v := 1) dL_law_2705 (by decide +kernel) ?_
    refine V_sld 2706 B hX hbl hbA (v := p1) (vpin _ _ (by decide +kernel)) dL_law_2706 e1 ?_
    refine V_cvi 2707 B (st := []) (As := [.int p1]) (fun sz => mX12_strokeOf_1 l D Y (m0) (m1) (m2) (m3) (m4) (m5) (m6) (p1) sz) glV_RL_312 ⟨rfl, rfl⟩ ⟨(Nat.le_of_ble_eq_true rfl), (Nat.le_of_ble_eq_true rfl)⟩ ⟨(Nat.le_of_ble_eq_true rfl), (Nat.le_of_ble_eq_true rfl)⟩ [4, 0] rfl 13 0 rfl rfl rfl rfl (Nat.le_of_ble_eq_true rfl) rfl (fun _ u _ => by
        first | rfl | (split <;> rfl) | (dsimp only; split <;> rfl)) dL_law_2707 (fun r6 u6 w6 => ?_)
    rcases w6 with ⟨rfl, k7, k8, rfl⟩ | ⟨rfl, k9, rfl⟩ | ⟨rfl, k10, rfl⟩
    ·
      refine V_ws [(x0, oC 12 [.ref x1, .ref x30, .ref x59, .ref x88, .ref x117, .ref x126, .ref x127, .ref x129, .ref x132, .long 0]), (x1, oC 2 [.ref x2, .ref x4, .ref x6, .ref x8, .ref x10, .ref x12, .ref x14, .ref x16, .ref x18, .ref x20, .ref x27, .int 0]), (x20, oC 4 [.ref x21, .ref x23, .ref x25, .int 0]), (x21, oC 3 [.ref x22, .int 0]), (m0, oC 13 [.ref m1, .ref m2, .int 0, .ref m3, .ref m4, .int 0, .int 0, .int 0, .int (-1), .int 0, .int 0, .int 0, .long 0, .ref m5, .ref m6, .int 0, .int 0]), (m1, aI Y 3640 (clB 0 (fun _ => 0))), (o0, aJ Y 1 (fun _ => 0))] rfl ?_
      exact (q_abs (b_nlt k7 (n := 0) (by decide +kernel)) (b_lt k1 (n := (-1)) (by decide +kernel)) (by decide +kernel)).elim
    ·
      refine V_ws [(x0, oC 12 [.ref x1, .ref x30, .ref x59, .ref x88, .ref x117, .ref x126, .ref x127, .ref x129, .ref x132, .long 0]), (x1, oC 2 [.ref x2, .ref x4, .ref x6, .ref x8, .ref x10, .ref x12, .ref x14, .ref x16, .ref x18, .ref x20, .ref x27, .int 0]), (x20, oC 4 [.ref x21, .ref x23, .ref x25, .int 0]), (x21, oC 3 [.ref x22, .int 0]), (m0, oC 13 [.ref m1, .ref m2, .int 1, .ref m3, .ref m4, .int 0, .int 0, .int 0, .int (-1), .int 0, .int 0, .int 0, .long 0, .ref m5, .ref m6, .int 0, .int 0]), (m1, aI Y 3640 (clB 0 (fun _ => 0))), (o0, aJ Y 1 (fun _ => 0))] rfl ?_
      refine V_istore 2710 B (lv2 := [(6, .int 0), (5, .int 1), (4, .int 0), (3, .ref o0), (2, .ref m0), (1, .ref x0), (0, .ref b)]) dL_law_2710 (by decide) rfl ?_
      refine V_aload_n 2712 B dL_law_2712 4 rfl ?_
      refine V_cvi 2713 B (st := []) (As := []) (fun sz => mX12_thrown_2 l D Y (m0) (m1) (m2) (m3) (m4) (m5) (m6) sz) glV_RL_182 ⟨rfl, rfl⟩ ⟨(Nat.le_of_ble_eq_true rfl), (Nat.le_of_ble_eq_true rfl)⟩ ⟨(Nat.le_of_ble_eq_true rfl), (Nat.le_of_ble_eq_true rfl)⟩ [4] rfl 13 0 rfl rfl rfl rfl (Nat.le_of_ble_eq_true rfl) rfl (fun _ _ _ => rfl) dL_law_2713 (fun r11 u11 w11 => ?_)
      obtain rfl := w11
      refine V_ws [(x0, oC 12 [.ref x1, .ref x30, .ref x59, .ref x88, .ref x117, .ref x126, .ref x127, .ref x129, .ref x132, .long 0]), (x1, oC 2 [.ref x2, .ref x4, .ref x6, .ref x8, .ref x10, .ref x12, .ref x14, .ref x16, .ref x18, .ref x20, .ref x27, .int 0]), (x20, oC 4 [.ref x21, .ref x23, .ref x25, .int 0]), (x21, oC 3 [.ref x22, .int 0]), (m0, oC 13 [.ref m1, .ref m2, .int 1, .ref m3, .ref m4, .int 0, .int 0, .int 0, .int (-1), .int 0, .int 0, .int 0, .long 0, .ref m5, .ref m6, .int 0, .int 0]), (m1, aI Y 3640 (clB 0 (fun _ => 0))), (o0, aJ Y 1 (fun _ => 0))] rfl ?_
      refine V_iload 2716 B dL_law_2716 1 rfl ?_
      refine V_icmp_eq_t 2718 B 2723 dL_law_2718 (by decide) (by decide +kernel) ?_
      refine V_iload 2723 B dL_law_2723 1 rfl ?_
      refine V_if_ne_t 2725 B 2740 dL_law_2725 (by decide) (by decide +kernel) ?_
      refine V_goto 2740 B 3332 dL_law_2740 (by decide) ?_
      refine V_iinc 3332 B (v := 6) (lv2 := [(4, .int 6), (6, .int 0), (5, .int 1), (3, .ref o0), (2, .ref m0), (1, .ref x0), (0, .ref b)]) dL_law_3332 2 rfl (by decide +kernel) (by decide) rfl ?_
      refine V_goto 3335 B 23 dL_law_3335 (by decide) ?_
      refine V_iload 23 B dL_law_23 0 rfl ?_
      refine V_aload_n 25 B dL_law_25 6 rfl ?_
      refine V_slen 26 B hX hbl hbA (v := 6) (by decide +kernel) dL_law_26 ?_
      refine V_bipush 27 B (v := 6) dL_law_27 (by decide +kernel) ?_
      refine V_isub 29 B (v := 0) dL_law_29 (by decide +kernel) ?_
      refine V_icmp_gt_t 30 B 3338 dL_law_30 (by decide) (by decide +kernel) ?_
      exact law_end B (Nat.le_of_ble_eq_true rfl) (Nat.le_of_ble_eq_true rfl) dL_law_3338 dL_law_3339
    ·
      refine V_ws [(x0, oC 12 [.ref x1, .ref x30, .ref x59, .ref x88, .ref x117, .ref x126, .ref x127, .ref x129, .ref x132, .long 0]), (x1, oC 2 [.ref x2, .ref x4, .ref x6, .ref x8, .ref x10, .ref x12, .ref x14, .ref x16, .ref x18, .ref x20, .ref x27, .int 0]), (x20, oC 4 [.ref x21, .ref x23, .ref x25, .int 0]), (x21, oC 3 [.ref x22, .int 0]), (m0, oC 13 [.ref m1, .ref m2, .int 1, .ref m3, .ref m4, .int 0, .int 0, .int 0, .int (-1), .int 0, .int 0, .int 0, .long 0, .ref m5, .ref m6, .int 0, .int 0]), (m1, aI Y 3640 (clB 0 (fun _ => 0))), (o0, aJ Y 1 (fun _ => 0))] rfl ?_
      exact (q_abs (b_gt k10 (n := 26) (by decide +kernel)) (b_lt k1 (n := (-1)) (by decide +kernel)) (by decide +kernel)).elim
  ·
    refine V_ws [(x0, oC 12 [.ref x1, .ref x30, .ref x59, .ref x88, .ref x117, .ref x126, .ref x127, .ref x129, .ref x132, .long 0]), (x1, oC 2 [.ref x2, .ref x4, .ref x6, .ref x8, .ref x10, .ref x12, .ref x14, .ref x16, .ref x18, .ref x20, .ref x27, .int 0]), (x20, oC 4 [.ref x21, .ref x23, .ref x25, .int 0]), (x21, oC 3 [.ref x22, .int 0]), (m0, oC 13 [.ref m1, .ref m2, .int 0, .ref m3, .ref m4, .int 0, .int 0, .int 0, .int (-1), .int 0, .int 0, .int 0, .long 0, .ref m5, .ref m6, .int 0, .int 0]), (m1, aI Y 3640 (clB 0 (fun _ => 0))), (o0, aJ Y 1 (fun _ => 0))] rfl ?_
    refine V_istore 2698 B (lv2 := [(5, .int 1), (4, .int 0), (3, .ref o0), (2, .ref m0), (1, .ref x0), (0, .ref b)]) dL_law_2698 (by decide) rfl ?_
    refine V_aload_n 2700 B dL_law_2700 3 rfl ?_
    refine V_aload_n 2701 B dL_law_2701 5 rfl ?_
    refine V_iload 2702 B dL_law_2702 1 rfl ?_
    refine V_iconst 2704 B (v := 1) dL_law_2704 (by decide +kernel) ?_
    refine V_iadd 2705 B (v := 1) dL_law_2705 (by decide +kernel) ?_
    refine V_sld 2706 B hX hbl hbA (v := p1) (vpin _ _ (by decide +kernel)) dL_law_2706 e1 ?_
    refine V_cvi 2707 B (st := []) (As := [.int p1]) (fun sz => mX12_strokeOf_1 l D Y (m0) (m1) (m2) (m3) (m4) (m5) (m6) (p1) sz) glV_RL_312 ⟨rfl, rfl⟩ ⟨(Nat.le_of_ble_eq_true rfl), (Nat.le_of_ble_eq_true rfl)⟩ ⟨(Nat.le_of_ble_eq_true rfl), (Nat.le_of_ble_eq_true rfl)⟩ [4, 0] rfl 13 0 rfl rfl rfl rfl (Nat.le_of_ble_eq_true rfl) rfl (fun _ u _ => by
        first | rfl | (split <;> rfl) | (dsimp only; split <;> rfl)) dL_law_2707 (fun r12 u12 w12 => ?_)
    rcases w12 with ⟨rfl, k13, k14, rfl⟩ | ⟨rfl, k15, rfl⟩ | ⟨rfl, k16, rfl⟩
    ·
      refine V_ws [(x0, oC 12 [.ref x1, .ref x30, .ref x59, .ref x88, .ref x117, .ref x126, .ref x127, .ref x129, .ref x132, .long 0]), (x1, oC 2 [.ref x2, .ref x4, .ref x6, .ref x8, .ref x10, .ref x12, .ref x14, .ref x16, .ref x18, .ref x20, .ref x27, .int 0]), (x20, oC 4 [.ref x21, .ref x23, .ref x25, .int 0]), (x21, oC 3 [.ref x22, .int 0]), (m0, oC 13 [.ref m1, .ref m2, .int 0, .ref m3, .ref m4, .int 0, .int 0, .int 0, .int (-1), .int 0, .int 0, .int 0, .long 0, .ref m5, .ref m6, .int 0, .int 0]), (m1, aI Y 3640 (clB 0 (fun _ => 0))), (o0, aJ Y 1 (fun _ => 0))] rfl ?_
      exact (q_abs (b_nlt k3 (n := 26) (by decide +kernel)) (b_ngt k14 (n := 25) (by decide +kernel)) (by decide +kernel)).elim
    ·
      refine V_ws [(x0, oC 12 [.ref x1, .ref x30, .ref x59, .ref x88, .ref x117, .ref x126, .ref x127, .ref x129, .ref x132, .long 0]), (x1, oC 2 [.ref x2, .ref x4, .ref x6, .ref x8, .ref x10, .ref x12, .ref x14, .ref x16, .ref x18, .ref x20, .ref x27, .int 0]), (x20, oC 4 [.ref x21, .ref x23, .ref x25, .int 0]), (x21, oC 3 [.ref x22, .int 0]), (m0, oC 13 [.ref m1, .ref m2, .int 1, .ref m3, .ref m4, .int 0, .int 0, .int 0, .int (-1), .int 0, .int 0, .int 0, .long 0, .ref m5, .ref m6, .int 0, .int 0]), (m1, aI Y 3640 (clB 0 (fun _ => 0))), (o0, aJ Y 1 (fun _ => 0))] rfl ?_
      exact (q_abs (b_nlt k3 (n := 26) (by decide +kernel)) (b_lt k15 (n := (-1)) (by decide +kernel)) (by decide +kernel)).elim
    ·
      refine V_ws [(x0, oC 12 [.ref x1, .ref x30, .ref x59, .ref x88, .ref x117, .ref x126, .ref x127, .ref x129, .ref x132, .long 0]), (x1, oC 2 [.ref x2, .ref x4, .ref x6, .ref x8, .ref x10, .ref x12, .ref x14, .ref x16, .ref x18, .ref x20, .ref x27, .int 0]), (x20, oC 4 [.ref x21, .ref x23, .ref x25, .int 0]), (x21, oC 3 [.ref x22, .int 0]), (m0, oC 13 [.ref m1, .ref m2, .int 1, .ref m3, .ref m4, .int 0, .int 0, .int 0, .int (-1), .int 0, .int 0, .int 0, .long 0, .ref m5, .ref m6, .int 0, .int 0]), (m1, aI Y 3640 (clB 0 (fun _ => 0))), (o0, aJ Y 1 (fun _ => 0))] rfl ?_
      refine V_istore 2710 B (lv2 := [(6, .int 0), (5, .int 1), (4, .int 0), (3, .ref o0), (2, .ref m0), (1, .ref x0), (0, .ref b)]) dL_law_2710 (by decide) rfl ?_
      refine V_aload_n 2712 B dL_law_2712 4 rfl ?_
      refine V_cvi 2713 B (st := []) (As := []) (fun sz => mX12_thrown_2 l D Y (m0) (m1) (m2) (m3) (m4) (m5) (m6) sz) glV_RL_182 ⟨rfl, rfl⟩ ⟨(Nat.le_of_ble_eq_true rfl), (Nat.le_of_ble_eq_true rfl)⟩ ⟨(Nat.le_of_ble_eq_true rfl), (Nat.le_of_ble_eq_true rfl)⟩ [4] rfl 13 0 rfl rfl rfl rfl (Nat.le_of_ble_eq_true rfl) rfl (fun _ _ _ => rfl) dL_law_2713 (fun r17 u17 w17 => ?_)
      obtain rfl := w17
      refine V_ws [(x0, oC 12 [.ref x1, .ref x30, .ref x59, .ref x88, .ref x117, .ref x126, .ref x127, .ref x129, .ref x132, .long 0]), (x1, oC 2 [.ref x2, .ref x4, .ref x6, .ref x8, .ref x10, .ref x12, .ref x14, .ref x16, .ref x18, .ref x20, .ref x27, .int 0]), (x20, oC 4 [.ref x21, .ref x23, .ref x25, .int 0]), (x21, oC 3 [.ref x22, .int 0]), (m0, oC 13 [.ref m1, .ref m2, .int 1, .ref m3, .ref m4, .int 0, .int 0, .int 0, .int (-1), .int 0, .int 0, .int 0, .long 0, .ref m5, .ref m6, .int 0, .int 0]), (m1, aI Y 3640 (clB 0 (fun _ => 0))), (o0, aJ Y 1 (fun _ => 0))] rfl ?_
      refine V_iload 2716 B dL_law_2716 1 rfl ?_
      refine V_icmp_eq_t 2718 B 2723 dL_law_2718 (by decide) (by decide +kernel) ?_
      refine V_iload 2723 B dL_law_2723 1 rfl ?_
      refine V_if_ne_t 2725 B 2740 dL_law_2725 (by decide) (by decide +kernel) ?_
      refine V_goto 2740 B 3332 dL_law_2740 (by decide) ?_
      refine V_iinc 3332 B (v := 6) (lv2 := [(4, .int 6), (6, .int 0), (5, .int 1), (3, .ref o0), (2, .ref m0), (1, .ref x0), (0, .ref b)]) dL_law_3332 2 rfl (by decide +kernel) (by decide) rfl ?_
      refine V_goto 3335 B 23 dL_law_3335 (by decide) ?_
      refine V_iload 23 B dL_law_23 0 rfl ?_
      refine V_aload_n 25 B dL_law_25 6 rfl ?_
      refine V_slen 26 B hX hbl hbA (v := 6) (by decide +kernel) dL_law_26 ?_
      refine V_bipush 27 B (v := 6) dL_law_27 (by decide +kernel) ?_
      refine V_isub 29 B (v := 0) dL_law_29 (by decide +kernel) ?_
      refine V_icmp_gt_t 30 B 3338 dL_law_30 (by decide) (by decide +kernel) ?_
      exact law_end B (Nat.le_of_ble_eq_true rfl) (Nat.le_of_ble_eq_true rfl) dL_law_3338 dL_law_3339
  ·
    refine V_ws [(x0, oC 12 [.ref x1, .ref x30, .ref x59, .ref x88, .ref x117, .ref x126, .ref x127, .ref x129, .ref x132, .long 0]), (x1, oC 2 [.ref x2, .ref x4, .ref x6, .ref x8, .ref x10, .ref x12, .ref x14, .ref x16, .ref x18, .ref x20, .ref x27, .int 0]), (x20, oC 4 [.ref x21, .ref x23, .ref x25, .int 0]), (x21, oC 3 [.ref x22, .int 0]), (m0, oC 13 [.ref m1, .ref m2, .int 0, .ref m3, .ref m4, .int 0, .int 0, .int 0, .int (-1), .int 0, .int 0, .int 0, .long 0, .ref m5, .ref m6, .int 0, .int 0]), (m1, aI Y 3640 (clB 0 (fun _ => 0))), (o0, aJ Y 1 (vp_updL (fun _ => 0) 0 p1.toInt64))] rfl ?_
    refine V_istore 2698 B (lv2 := [(5, .int 0), (4, .int 0), (3, .ref o0), (2, .ref m0), (1, .ref x0), (0, .ref b)]) dL_law_2698 (by decide) rfl ?_
    refine V_aload_n 2700 B dL_law_2700 3 rfl ?_
    refine V_aload_n 2701 B dL_law_2701 5 rfl ?_
    refine V_iload 2702 B dL_law_2702 1 rfl ?_
    refine V_iconst 2704 B (v := 1) dL_law_2704 (by decide +kernel) ?_
    refine V_iadd 2705 B (v := 1) dL_law_2705 (by decide +kernel) ?_
    refine V_sld 2706 B hX hbl hbA (v := p1) (vpin _ _ (by decide +kernel)) dL_law_2706 e1 ?_
    refine V_cvi 2707 B (st := []) (As := [.int p1]) (fun sz => mX12_strokeOf_1 l D Y (m0) (m1) (m2) (m3) (m4) (m5) (m6) (p1) sz) glV_RL_312 ⟨rfl, rfl⟩ ⟨(Nat.le_of_ble_eq_true rfl), (Nat.le_of_ble_eq_true rfl)⟩ ⟨(Nat.le_of_ble_eq_true rfl), (Nat.le_of_ble_eq_true rfl)⟩ [4, 0] rfl 13 0 rfl rfl rfl rfl (Nat.le_of_ble_eq_true rfl) rfl (fun _ u _ => by
        first | rfl | (split <;> rfl) | (dsimp only; split <;> rfl)) dL_law_2707 (fun r18 u18 w18 => ?_)
    rcases w18 with ⟨rfl, k19, k20, rfl⟩ | ⟨rfl, k21, rfl⟩ | ⟨rfl, k22, rfl⟩
    ·
      refine V_ws [(x0, oC 12 [.ref x1, .ref x30, .ref x59, .ref x88, .ref x117, .ref x126, .ref x127, .ref x129, .ref x132, .long 0]), (x1, oC 2 [.ref x2, .ref x4, .ref x6, .ref x8, .ref x10, .ref x12, .ref x14, .ref x16, .ref x18, .ref x20, .ref x27, .int 0]), (x20, oC 4 [.ref x21, .ref x23, .ref x25, .int 0]), (x21, oC 3 [.ref x22, .int 0]), (m0, oC 13 [.ref m1, .ref m2, .int 0, .ref m3, .ref m4, .int 0, .int 0, .int 0, .int (-1), .int 0, .int 0, .int 0, .long 0, .ref m5, .ref m6, .int 0, .int 0]), (m1, aI Y 3640 (clB 0 (fun _ => 0))), (o0, aJ Y 1 (vp_updL (fun _ => 0) 0 p1.toInt64))] rfl ?_
      refine V_istore 2710 B (lv2 := [(6, .int p1), (5, .int 0), (4, .int 0), (3, .ref o0), (2, .ref m0), (1, .ref x0), (0, .ref b)]) dL_law_2710 (by decide) rfl ?_
      refine V_aload_n 2712 B dL_law_2712 4 rfl ?_
      refine V_cvi 2713 B (st := []) (As := []) (fun sz => mX12_thrown_1 l D Y (m0) (m1) (m2) (m3) (m4) (m5) (m6) sz) glV_RL_182 ⟨rfl, rfl⟩ ⟨(Nat.le_of_ble_eq_true rfl), (Nat.le_of_ble_eq_true rfl)⟩ ⟨(Nat.le_of_ble_eq_true rfl), (Nat.le_of_ble_eq_true rfl)⟩ [4] rfl 13 0 rfl rfl rfl rfl (Nat.le_of_ble_eq_true rfl) rfl (fun _ _ _ => rfl) dL_law_2713 (fun r23 u23 w23 => ?_)
      obtain rfl := w23
      refine V_ws [(x0, oC 12 [.ref x1, .ref x30, .ref x59, .ref x88, .ref x117, .ref x126, .ref x127, .ref x129, .ref x132, .long 0]), (x1, oC 2 [.ref x2, .ref x4, .ref x6, .ref x8, .ref x10, .ref x12, .ref x14, .ref x16, .ref x18, .ref x20, .ref x27, .int 0]), (x20, oC 4 [.ref x21, .ref x23, .ref x25, .int 0]), (x21, oC 3 [.ref x22, .int 0]), (m0, oC 13 [.ref m1, .ref m2, .int 0, .ref m3, .ref m4, .int 0, .int 0, .int 0, .int (-1), .int 0, .int 0, .int 0, .long 0, .ref m5, .ref m6, .int 0, .int 0]), (m1, aI Y 3640 (clB 0 (fun _ => 0))), (o0, aJ Y 1 (vp_updL (fun _ => 0) 0 p1.toInt64))] rfl ?_
      refine V_iload 2716 B dL_law_2716 1 rfl ?_
      refine V_icmp_eq_t 2718 B 2723 dL_law_2718 (by decide) (by decide +kernel) ?_
      refine V_iload 2723 B dL_law_2723 1 rfl ?_
      refine V_if_ne_f 2725 B 2740 dL_law_2725 (by decide) (by decide +kernel) ?_
      refine V_aload_n 2728 B dL_law_2728 3 rfl ?_
      refine V_iconst 2729 B (v := 0) dL_law_2729 (by decide +kernel) ?_
      refine V_lald 2730 B (v := p1.toInt64) 6 rfl (vpin _ _ (by decide +kernel)) dL_law_2730 rfl ?_
      refine V_iload 2731 B dL_law_2731 0 rfl ?_
      refine V_i2l 2733 B dL_law_2733 rfl ?_
      refine V_lcmp 2734 B (v := 0) dL_law_2734 (lc_refl _) ?_
      refine V_if_eq_t 2735 B 2740 dL_law_2735 (by decide) (by decide +kernel) ?_
      refine V_goto 2740 B 3332 dL_law_2740 (by decide) ?_
      refine V_iinc 3332 B (v := 6) (lv2 := [(4, .int 6), (6, .int p1), (5, .int 0), (3, .ref o0), (2, .ref m0), (1, .ref x0), (0, .ref b)]) dL_law_3332 2 rfl (by decide +kernel) (by decide) rfl ?_
      refine V_goto 3335 B 23 dL_law_3335 (by decide) ?_
      refine V_iload 23 B dL_law_23 0 rfl ?_
      refine V_aload_n 25 B dL_law_25 6 rfl ?_
      refine V_slen 26 B hX hbl hbA (v := 6) (by decide +kernel) dL_law_26 ?_
      refine V_bipush 27 B (v := 6) dL_law_27 (by decide +kernel) ?_
      refine V_isub 29 B (v := 0) dL_law_29 (by decide +kernel) ?_
      refine V_icmp_gt_t 30 B 3338 dL_law_30 (by decide) (by decide +kernel) ?_
      exact law_end B (Nat.le_of_ble_eq_true rfl) (Nat.le_of_ble_eq_true rfl) dL_law_3338 dL_law_3339
    ·
      refine V_ws [(x0, oC 12 [.ref x1, .ref x30, .ref x59, .ref x88, .ref x117, .ref x126, .ref x127, .ref x129, .ref x132, .long 0]), (x1, oC 2 [.ref x2, .ref x4, .ref x6, .ref x8, .ref x10, .ref x12, .ref x14, .ref x16, .ref x18, .ref x20, .ref x27, .int 0]), (x20, oC 4 [.ref x21, .ref x23, .ref x25, .int 0]), (x21, oC 3 [.ref x22, .int 0]), (m0, oC 13 [.ref m1, .ref m2, .int 1, .ref m3, .ref m4, .int 0, .int 0, .int 0, .int (-1), .int 0, .int 0, .int 0, .long 0, .ref m5, .ref m6, .int 0, .int 0]), (m1, aI Y 3640 (clB 0 (fun _ => 0))), (o0, aJ Y 1 (vp_updL (fun _ => 0) 0 p1.toInt64))] rfl ?_
      exact (q_abs (b_nlt k4 (n := 0) (by decide +kernel)) (b_lt k21 (n := (-1)) (by decide +kernel)) (by decide +kernel)).elim
    ·
      refine V_ws [(x0, oC 12 [.ref x1, .ref x30, .ref x59, .ref x88, .ref x117, .ref x126, .ref x127, .ref x129, .ref x132, .long 0]), (x1, oC 2 [.ref x2, .ref x4, .ref x6, .ref x8, .ref x10, .ref x12, .ref x14, .ref x16, .ref x18, .ref x20, .ref x27, .int 0]), (x20, oC 4 [.ref x21, .ref x23, .ref x25, .int 0]), (x21, oC 3 [.ref x22, .int 0]), (m0, oC 13 [.ref m1, .ref m2, .int 1, .ref m3, .ref m4, .int 0, .int 0, .int 0, .int (-1), .int 0, .int 0, .int 0, .long 0, .ref m5, .ref m6, .int 0, .int 0]), (m1, aI Y 3640 (clB 0 (fun _ => 0))), (o0, aJ Y 1 (vp_updL (fun _ => 0) 0 p1.toInt64))] rfl ?_
      exact (q_abs (b_gt k22 (n := 26) (by decide +kernel)) (b_lt k5 (n := 25) (by decide +kernel)) (by decide +kernel)).elim
theorem dL_press_0 : decode cL_press 0 = .ok (.aload_n 2, 1) := by decide +kernel
theorem dL_press_1 : decode cL_press 1 = .ok (.iconst 0, 1) := by decide +kernel
theorem dL_press_2 : decode cL_press 2 = .ok (.aload_n 0, 1) := by decide +kernel
theorem dL_press_3 : decode cL_press 3 = .ok (.iload_n 1, 1) := by decide +kernel
theorem dL_press_4 : decode cL_press 4 = .ok (.invokevirtual 124, 3) := by decide +kernel
theorem glV_RL_124 : GLV RL 124 yX11_press RX11 cX11_press 2 (some .int) 1 := ⟨⟨(mT7 58 rfl rfl), (mT7 59 rfl rfl), (mT7 60 rfl rfl), (mT1 1 rfl rfl), (mT7 61 rfl rfl)⟩, by decide +kernel⟩
theorem dL_press_12 : decode cL_press 12 = .ok (.astore_n 3, 1) := by decide +kernel
theorem dL_press_13 : decode cL_press 13 = .ok (.iconst 1, 1) := by decide +kernel
theorem dL_press_14 : decode cL_press 14 = .ok (.ireturn, 1) := by decide +kernel
theorem dL_press_7 : decode cL_press 7 = .ok (.i2l, 1) := by decide +kernel
theorem dL_press_8 : decode cL_press 8 = .ok (.lastore, 1) := by decide +kernel
theorem dL_press_9 : decode cL_press 9 = .ok (.goto 6, 3) := by decide +kernel
theorem dL_press_15 : decode cL_press 15 = .ok (.iconst 0, 1) := by decide +kernel
theorem dL_press_16 : decode cL_press 16 = .ok (.ireturn, 1) := by decide +kernel
set_option maxRecDepth 100000 in
set_option maxHeartbeats 4000000 in
theorem mL_press_1 (l : Launch) (hl9 : l.stackTraces = false) (D : va_G) (Y : Nat → ClassId) (h0 : Nat) (h12 : Nat) (h1 : Nat) (g0 : Nat) (g1 : Nat) (g2 : Nat) (h8 : Nat) (h11 : Nat) (g3 : Nat) (g4 : Nat) (g5 : Nat) (h2 : Nat) (g6 : Nat) (g7 : Nat) (g8 : Nat) (g9 : Nat) (h4 : Nat) (g10 : Nat) (g11 : Nat) (g12 : Nat) (h5 : Nat) (h7 : Nat) (h3 : Nat) (g13 : Nat) (h6 : Nat) (g14 : Nat) (g15 : Nat) (g16 : Nat) (g17 : Nat) (h9 : Nat) (g18 : Nat) (g19 : Nat) (g20 : Nat) (h10 : Nat) (p0 : Int32) (sz : Nat) : Met l yL_press (Cond.codeWith yL_press cL_press 4 (some .int) [(0, 9, 12, 13)] :: lw_good) (mkR 8 1 6 123) (PreX D Y [.ref h0, .int p0, .ref h12] [(h0, oC 12 [.ref h1, .ref g0, .ref g1, .ref g2, .ref h8, .ref h11, .ref g3, .ref g4, .ref g5, .long 0]), (h1, oC 2 [.ref h2, .ref g6, .ref g7, .ref g8, .ref g9, .ref h4, .ref g10, .ref g11, .ref g12, .ref h5, .ref h7, .int 0]), (h2, oC 3 [.ref h3, .int 1]), (h3, aI Y 6 (upd (fun _ => 0) 0 (-1))), (h4, oC 3 [.ref g13, .int 0]), (h5, oC 4 [.ref h6, .ref g14, .ref g15, .int 0]), (h6, oC 3 [.ref g16, .int 0]), (h7, oC 9 [.ref g17, .int 0, .long 0, .int (-1), .int 0, .int 0, .int 0, .int 0, .int 0]), (h8, oC 11 [.ref h1, .ref h9, .ref g18, .ref g19, .ref g20]), (h9, oC 3 [.ref h10, .int 0]), (h10, aI Y 6 (fun _ => 0)), (h11, oC 10 [.ref h1, .ref h8]), (h12, aJ Y 1 (fun _ => 0))] sz) (QI D (fun (r : Int32) (u : Nat) => (u = 0 ∧ p0 < 0 ∧ 1 = r) ∨ (u = 1 ∧ ¬ p0 < 0 ∧ ¬ p0 < 26 ∧ 1 = r) ∨ (u = 2 ∧ ¬ p0 < 0 ∧ p0 < 26 ∧ 0 = r)) (fun (u : Nat) => match u with | 0 => [(h0, oC 12 [.ref h1, .ref g0, .ref g1, .ref g2, .ref h8, .ref h11, .ref g3, .ref g4, .ref g5, .long 0]), (h1, oC 2 [.ref h2, .ref g6, .ref g7, .ref g8, .ref g9, .ref h4, .ref g10, .ref g11, .ref g12, .ref h5, .ref h7, .int 0]), (h2, oC 3 [.ref h3, .int 1]), (h3, aI Y 6 (upd (fun _ => 0) 0 (-1))), (h4, oC 3 [.ref g13, .int 0]), (h5, oC 4 [.ref h6, .ref g14, .ref g15, .int 0]), (h6, oC 3 [.ref g16, .int 0]), (h7, oC 9 [.ref g17, .int 0, .long 0, .int (-1), .int 0, .int 0, .int 0, .int 0, .int 0]), (h8, oC 11 [.ref h1, .ref h9, .ref g18, .ref g19, .ref g20]), (h9, oC 3 [.ref h10, .int 0]), (h10, aI Y 6 (fun _ => 0)), (h11, oC 10 [.ref h1, .ref h8]), (h12, aJ Y 1 (fun _ => 0))] | 1 => [(h0, oC 12 [.ref h1, .ref g0, .ref g1, .ref g2, .ref h8, .ref h11, .ref g3, .ref g4, .ref g5, .long 0]), (h1, oC 2 [.ref h2, .ref g6, .ref g7, .ref g8, .ref g9, .ref h4, .ref g10, .ref g11, .ref g12, .ref h5, .ref h7, .int 0]), (h2, oC 3 [.ref h3, .int 1]), (h3, aI Y 6 (upd (fun _ => 0) 0 (-1))), (h4, oC 3 [.ref g13, .int 0]), (h5, oC 4 [.ref h6, .ref g14, .ref g15, .int 0]), (h6, oC 3 [.ref g16, .int 0]), (h7, oC 9 [.ref g17, .int 0, .long 0, .int (-1), .int 0, .int 0, .int 0, .int 0, .int 0]), (h8, oC 11 [.ref h1, .ref h9, .ref g18, .ref g19, .ref g20]), (h9, oC 3 [.ref h10, .int 0]), (h10, aI Y 6 (fun _ => 0)), (h11, oC 10 [.ref h1, .ref h8]), (h12, aJ Y 1 (fun _ => 0))] | _ => [(h0, oC 12 [.ref h1, .ref g0, .ref g1, .ref g2, .ref h8, .ref h11, .ref g3, .ref g4, .ref g5, .long 0]), (h1, oC 2 [.ref h2, .ref g6, .ref g7, .ref g8, .ref g9, .ref h4, .ref g10, .ref g11, .ref g12, .ref h5, .ref h7, .int 0]), (h2, oC 3 [.ref h3, .int 1]), (h3, aI Y 6 (upd (fun _ => 0) 0 (-1))), (h4, oC 3 [.ref g13, .int 0]), (h5, oC 4 [.ref h6, .ref g14, .ref g15, .int 0]), (h6, oC 3 [.ref g16, .int 0]), (h7, oC 9 [.ref g17, .int 0, .long 0, .int (-1), .int 1, .int 1, .int 0, .int 0, .int 0]), (h8, oC 11 [.ref h1, .ref h9, .ref g18, .ref g19, .ref g20]), (h9, oC 3 [.ref h10, .int 6]), (h10, aI Y 6 (upd (upd (upd (upd (upd (upd (upd (fun _ => 0) 0 (-1)) 1 (-1)) 2 (-1)) 3 (-1)) 4 (-1)) 5 (-1)) 0 0)), (h11, oC 10 [.ref h1, .ref h8]), (h12, aJ Y 1 (vp_updL (fun _ => 0) 0 (-1)))]) (va_A [(h0, oC 12 [.ref h1, .ref g0, .ref g1, .ref g2, .ref h8, .ref h11, .ref g3, .ref g4, .ref g5, .long 0]), (h1, oC 2 [.ref h2, .ref g6, .ref g7, .ref g8, .ref g9, .ref h4, .ref g10, .ref g11, .ref g12, .ref h5, .ref h7, .int 0]), (h2, oC 3 [.ref h3, .int 1]), (h3, aI Y 6 (upd (fun _ => 0) 0 (-1))), (h4, oC 3 [.ref g13, .int 0]), (h5, oC 4 [.ref h6, .ref g14, .ref g15, .int 0]), (h6, oC 3 [.ref g16, .int 0]), (h7, oC 9 [.ref g17, .int 0, .long 0, .int (-1), .int 0, .int 0, .int 0, .int 0, .int 0]), (h8, oC 11 [.ref h1, .ref h9, .ref g18, .ref g19, .ref g20]), (h9, oC 3 [.ref h10, .int 0]), (h10, aI Y 6 (fun _ => 0)), (h11, oC 10 [.ref h1, .ref h8]), (h12, aJ Y 1 (fun _ => 0))] sz)) 1 6 (va_A [(h0, oC 12 [.ref h1, .ref g0, .ref g1, .ref g2, .ref h8, .ref h11, .ref g3, .ref g4, .ref g5, .long 0]), (h1, oC 2 [.ref h2, .ref g6, .ref g7, .ref g8, .ref g9, .ref h4, .ref g10, .ref g11, .ref g12, .ref h5, .ref h7, .int 0]), (h2, oC 3 [.ref h3, .int 1]), (h3, aI Y 6 (upd (fun _ => 0) 0 (-1))), (h4, oC 3 [.ref g13, .int 0]), (h5, oC 4 [.ref h6, .ref g14, .ref g15, .int 0]), (h6, oC 3 [.ref g16, .int 0]), (h7, oC 9 [.ref g17, .int 0, .long 0, .int (-1), .int 0, .int 0, .int 0, .int 0, .int 0]), (h8, oC 11 [.ref h1, .ref h9, .ref g18, .ref g19, .ref g20]), (h9, oC 3 [.ref h10, .int 0]), (h10, aI Y 6 (fun _ => 0)), (h11, oC 10 [.ref h1, .ref h8]), (h12, aJ Y 1 (fun _ => 0))] sz) :=
  metH_of (by decide +kernel) (Nat.le_of_ble_eq_true rfl) (fun p e s m args below meth c B EB htab hsz => by
    have B : VB p s m args meth c D Y (va_A [(h0, oC 12 [.ref h1, .ref g0, .ref g1, .ref g2, .ref h8, .ref h11, .ref g3, .ref g4, .ref g5, .long 0]), (h1, oC 2 [.ref h2, .ref g6, .ref g7, .ref g8, .ref g9, .ref h4, .ref g10, .ref g11, .ref g12, .ref h5, .ref h7, .int 0]), (h2, oC 3 [.ref h3, .int 1]), (h3, aI Y 6 (upd (fun _ => 0) 0 (-1))), (h4, oC 3 [.ref g13, .int 0]), (h5, oC 4 [.ref h6, .ref g14, .ref g15, .int 0]), (h6, oC 3 [.ref g16, .int 0]), (h7, oC 9 [.ref g17, .int 0, .long 0, .int (-1), .int 0, .int 0, .int 0, .int 0, .int 0]), (h8, oC 11 [.ref h1, .ref h9, .ref g18, .ref g19, .ref g20]), (h9, oC 3 [.ref h10, .int 0]), (h10, aI Y 6 (fun _ => 0)), (h11, oC 10 [.ref h1, .ref h8]), (h12, aJ Y 1 (fun _ => 0))] sz) cL_press 4 RL (some .int) := B
    refine V_aload_n 0 B dL_press_0 2 rfl ?_
    refine V_iconst 1 B (v := 0) dL_press_1 (by decide +kernel) ?_
    refine V_aload_n 2 B dL_press_2 0 rfl ?_
    refine V_iload_n 3 B dL_press_3 1 rfl ?_
    refine V_xvi 4 B EB (st := [.int 0, .ref h12]) (As := [.int p0]) (fun sz => mX11_press_1 l hl9 D Y (h0) (h1) (g0) (g1) (g2) (h8) (h11) (g3) (g4) (g5) (h2) (g6) (g7) (g8) (g9) (h4) (g10) (g11) (g12) (h5) (h7) (h3) (g13) (h6) (g14) (g15) (g16) (g17) (h9) (g18) (g19) (g20) (h10) (p0) sz) glV_RL_124 ⟨rfl, rfl⟩ ⟨(Nat.le_of_ble_eq_true rfl), (Nat.le_of_ble_eq_true rfl)⟩ ⟨(Nat.le_of_ble_eq_true rfl), (Nat.le_of_ble_eq_true rfl)⟩ [0, 0, 0, 0, 0, 0, 0, 0, 0, 0, 0, 0] rfl 12 0 rfl rfl rfl rfl (Nat.le_of_ble_eq_true rfl) rfl (fun _ _ _ => rfl) (fun _ _ _ => rfl) dL_press_4 (fun E u0 w0 => ?_) (fun r0 u0 w0 => ?_)
    ·
      rcases w0 with ⟨rfl, k1⟩ | ⟨rfl, k2, k3⟩
      ·
        refine VX_catch 4 B htab [] (0, 9, 12, 13) [] rfl "java/lang/IllegalArgumentException" (fun z hz => nomatch hz) rfl (by decide) (mT5 20 rfl rfl) (EB.2.2.2.1 _ (List.mem_of_getElem? (i := 0) rfl)) 12 rfl (fun q9 => ?_)
        refine V_ws [(h0, oC 12 [.ref h1, .ref g0, .ref g1, .ref g2, .ref h8, .ref h11, .ref g3, .ref g4, .ref g5, .long 0]), (h1, oC 2 [.ref h2, .ref g6, .ref g7, .ref g8, .ref g9, .ref h4, .ref g10, .ref g11, .ref g12, .ref h5, .ref h7, .int 0]), (h2, oC 3 [.ref h3, .int 1]), (h3, aI Y 6 (upd (fun _ => 0) 0 (-1))), (h4, oC 3 [.ref g13, .int 0]), (h5, oC 4 [.ref h6, .ref g14, .ref g15, .int 0]), (h6, oC 3 [.ref g16, .int 0]), (h7, oC 9 [.ref g17, .int 0, .long 0, .int (-1), .int 0, .int 0, .int 0, .int 0, .int 0]), (h8, oC 11 [.ref h1, .ref h9, .ref g18, .ref g19, .ref g20]), (h9, oC 3 [.ref h10, .int 0]), (h10, aI Y 6 (fun _ => 0)), (h11, oC 10 [.ref h1, .ref h8]), (h12, aJ Y 1 (fun _ => 0))] rfl ?_
        refine V_astore_n 12 B (lv2 := [(3, .ref q9), (0, .ref h0), (1, .int p0), (2, .ref h12)]) dL_press_12 (by decide) rfl ?_
        refine V_iconst 13 B (v := 1) dL_press_13 (by decide +kernel) ?_
        exact V_iret 14 B dL_press_14 0 (Or.inl ⟨rfl, k1, rfl⟩) rfl
      ·
        refine VX_catch 4 B htab [] (0, 9, 12, 13) [] rfl "java/lang/IllegalArgumentException" (fun z hz => nomatch hz) rfl (by decide) (mT5 20 rfl rfl) (EB.2.2.2.1 _ (List.mem_of_getElem? (i := 0) rfl)) 12 rfl (fun q9 => ?_)
        refine V_ws [(h0, oC 12 [.ref h1, .ref g0, .ref g1, .ref g2, .ref h8, .ref h11, .ref g3, .ref g4, .ref g5, .long 0]), (h1, oC 2 [.ref h2, .ref g6, .ref g7, .ref g8, .ref g9, .ref h4, .ref g10, .ref g11, .ref g12, .ref h5, .ref h7, .int 0]), (h2, oC 3 [.ref h3, .int 1]), (h3, aI Y 6 (upd (fun _ => 0) 0 (-1))), (h4, oC 3 [.ref g13, .int 0]), (h5, oC 4 [.ref h6, .ref g14, .ref g15, .int 0]), (h6, oC 3 [.ref g16, .int 0]), (h7, oC 9 [.ref g17, .int 0, .long 0, .int (-1), .int 0, .int 0, .int 0, .int 0, .int 0]), (h8, oC 11 [.ref h1, .ref h9, .ref g18, .ref g19, .ref g20]), (h9, oC 3 [.ref h10, .int 0]), (h10, aI Y 6 (fun _ => 0)), (h11, oC 10 [.ref h1, .ref h8]), (h12, aJ Y 1 (fun _ => 0))] rfl ?_
        refine V_astore_n 12 B (lv2 := [(3, .ref q9), (0, .ref h0), (1, .int p0), (2, .ref h12)]) dL_press_12 (by decide) rfl ?_
        refine V_iconst 13 B (v := 1) dL_press_13 (by decide +kernel) ?_
        exact V_iret 14 B dL_press_14 1 (Or.inr (Or.inl ⟨rfl, k2, k3, rfl⟩)) rfl
    ·
      obtain ⟨k4, k5, rfl⟩ := w0
      refine V_ws [(h0, oC 12 [.ref h1, .ref g0, .ref g1, .ref g2, .ref h8, .ref h11, .ref g3, .ref g4, .ref g5, .long 0]), (h1, oC 2 [.ref h2, .ref g6, .ref g7, .ref g8, .ref g9, .ref h4, .ref g10, .ref g11, .ref g12, .ref h5, .ref h7, .int 0]), (h2, oC 3 [.ref h3, .int 1]), (h3, aI Y 6 (upd (fun _ => 0) 0 (-1))), (h4, oC 3 [.ref g13, .int 0]), (h5, oC 4 [.ref h6, .ref g14, .ref g15, .int 0]), (h6, oC 3 [.ref g16, .int 0]), (h7, oC 9 [.ref g17, .int 0, .long 0, .int (-1), .int 1, .int 1, .int 0, .int 0, .int 0]), (h8, oC 11 [.ref h1, .ref h9, .ref g18, .ref g19, .ref g20]), (h9, oC 3 [.ref h10, .int 6]), (h10, aI Y 6 (upd (upd (upd (upd (upd (upd (upd (fun _ => 0) 0 (-1)) 1 (-1)) 2 (-1)) 3 (-1)) 4 (-1)) 5 (-1)) 0 0)), (h11, oC 10 [.ref h1, .ref h8]), (h12, aJ Y 1 (fun _ => 0))] rfl ?_
      refine V_i2l 7 B (v := (-1)) dL_press_7 (by decide +kernel) ?_
      refine V_last 8 B 12 rfl (vpin _ _ (by decide +kernel)) dL_press_8 [(h0, oC 12 [.ref h1, .ref g0, .ref g1, .ref g2, .ref h8, .ref h11, .ref g3, .ref g4, .ref g5, .long 0]), (h1, oC 2 [.ref h2, .ref g6, .ref g7, .ref g8, .ref g9, .ref h4, .ref g10, .ref g11, .ref g12, .ref h5, .ref h7, .int 0]), (h2, oC 3 [.ref h3, .int 1]), (h3, aI Y 6 (upd (fun _ => 0) 0 (-1))), (h4, oC 3 [.ref g13, .int 0]), (h5, oC 4 [.ref h6, .ref g14, .ref g15, .int 0]), (h6, oC 3 [.ref g16, .int 0]), (h7, oC 9 [.ref g17, .int 0, .long 0, .int (-1), .int 1, .int 1, .int 0, .int 0, .int 0]), (h8, oC 11 [.ref h1, .ref h9, .ref g18, .ref g19, .ref g20]), (h9, oC 3 [.ref h10, .int 6]), (h10, aI Y 6 (upd (upd (upd (upd (upd (upd (upd (fun _ => 0) 0 (-1)) 1 (-1)) 2 (-1)) 3 (-1)) 4 (-1)) 5 (-1)) 0 0)), (h11, oC 10 [.ref h1, .ref h8]), (h12, aJ Y 1 (vp_updL (fun _ => 0) 0 (-1)))] rfl ?_
      refine V_goto 9 B 15 dL_press_9 (by decide) ?_
      refine V_iconst 15 B (v := 0) dL_press_15 (by decide +kernel) ?_
      exact V_iret 16 B dL_press_16 2 (Or.inr (Or.inr ⟨rfl, k4, k5, rfl⟩)) rfl)
theorem dL_law_2743 : decode cL_law 2743 = .ok (.aload_n 1, 1) := by decide +kernel
theorem dL_law_2744 : decode cL_law 2744 = .ok (.aload_n 0, 1) := by decide +kernel
theorem dL_law_2745 : decode cL_law 2745 = .ok (.iload 4, 2) := by decide +kernel
theorem dL_law_2747 : decode cL_law 2747 = .ok (.iconst 1, 1) := by decide +kernel
theorem dL_law_2748 : decode cL_law 2748 = .ok (.iadd, 1) := by decide +kernel
theorem dL_law_2749 : decode cL_law 2749 = .ok (.iaload, 1) := by decide +kernel
theorem dL_law_2750 : decode cL_law 2750 = .ok (.aload_n 3, 1) := by decide +kernel
theorem dL_law_2751 : decode cL_law 2751 = .ok (.invokestatic 313, 3) := by decide +kernel
theorem glH_RL_313 : GLH RL 313 yL_press cL_press 4 (some .int) [(0, 9, 12, 13)] 3 := ⟨⟨(mT7 55 rfl rfl), (mT7 56 rfl rfl), (mT1 0 rfl rfl), (mT7 57 rfl rfl)⟩, by decide +kernel⟩
theorem dL_law_2754 : decode cL_law 2754 = .ok (.istore 5, 2) := by decide +kernel
theorem dL_law_2756 : decode cL_law 2756 = .ok (.aload_n 2, 1) := by decide +kernel
theorem dL_law_2757 : decode cL_law 2757 = .ok (.aload_n 0, 1) := by decide +kernel
theorem dL_law_2758 : decode cL_law 2758 = .ok (.iload 4, 2) := by decide +kernel
theorem dL_law_2760 : decode cL_law 2760 = .ok (.iconst 1, 1) := by decide +kernel
theorem dL_law_2761 : decode cL_law 2761 = .ok (.iadd, 1) := by decide +kernel
theorem dL_law_2762 : decode cL_law 2762 = .ok (.iaload, 1) := by decide +kernel
theorem dL_law_2763 : decode cL_law 2763 = .ok (.invokevirtual 315, 3) := by decide +kernel
theorem glV_RL_315 : GLV RL 315 yX12_press RX12 cX12_press 2 (some .int) 1 := ⟨⟨(mT9 93 rfl rfl), (mT9 94 rfl rfl), (mT9 95 rfl rfl), (mT1 13 rfl rfl), (mT9 96 rfl rfl)⟩, by decide +kernel⟩
theorem dL_law_2766 : decode cL_law 2766 = .ok (.istore 6, 2) := by decide +kernel
theorem dL_law_2768 : decode cL_law 2768 = .ok (.aload_n 2, 1) := by decide +kernel
theorem dL_law_2769 : decode cL_law 2769 = .ok (.invokevirtual 182, 3) := by decide +kernel
theorem dL_law_2772 : decode cL_law 2772 = .ok (.iload 5, 2) := by decide +kernel
theorem dL_law_2774 : decode cL_law 2774 = .ok (.if_icmp .eq 5, 3) := by decide +kernel
theorem dL_law_2779 : decode cL_law 2779 = .ok (.iload 5, 2) := by decide +kernel
theorem dL_law_2781 : decode cL_law 2781 = .ok (.ifCond .ne 15, 3) := by decide +kernel
theorem dL_law_2796 : decode cL_law 2796 = .ok (.goto 536, 3) := by decide +kernel
theorem dL_law_2784 : decode cL_law 2784 = .ok (.aload_n 3, 1) := by decide +kernel
theorem dL_law_2785 : decode cL_law 2785 = .ok (.iconst 0, 1) := by decide +kernel
theorem dL_law_2786 : decode cL_law 2786 = .ok (.laload, 1) := by decide +kernel
theorem dL_law_2787 : decode cL_law 2787 = .ok (.iload 6, 2) := by decide +kernel
theorem dL_law_2789 : decode cL_law 2789 = .ok (.i2l, 1) := by decide +kernel
theorem dL_law_2790 : decode cL_law 2790 = .ok (.lcmp, 1) := by decide +kernel
theorem dL_law_2791 : decode cL_law 2791 = .ok (.ifCond .eq 5, 3) := by decide +kernel
set_option maxRecDepth 100000 in
set_option maxHeartbeats 4000000 in
theorem law_c47 {p : Program} {l : Launch} {e : Env} {s : State} {m : MethodId} {below : List Frame} {meth : Method} {c : Code} {b : Nat} {xs : Nat → Int32} {D : va_G} {Y : Nat → ClassId} (B : VB p s m #[Value.ref b] meth c D Y (fun q => s.heap.size ≤ q) cL_law 8 RL ret) (EB : EX (fun q => s.heap.size ≤ q) s s.heap) (hl9 : l.stackTraces = false) (hX : va_X b 6 xs s s.heap) (hbl : b < s.heap.size) (hbA : ¬ (fun q => s.heap.size ≤ q) b) (x0 x1 x30 x59 x88 x117 x126 x127 x129 x132 x2 x4 x6 x8 x10 x12 x14 x16 x18 x20 x27 x3 x13 x21 x23 x25 x22 x28 x118 x120 x122 x124 x119 m0 m1 m2 m3 m4 m5 m6 o0 : Nat) (p1 : Int32) (e1 : xs 1 = p1) : V p l e room_1 s m #[Value.ref b] below meth c D (fun q => s.heap.size ≤ q) 8 149 10574 (lw_Z below #[Value.ref b] s) 2743 [(4, .int 0), (3, .ref o0), (2, .ref m0), (1, .ref x0), (0, .ref b)] [] [(x0, oC 12 [.ref x1, .ref x30, .ref x59, .ref x88, .ref x117, .ref x126, .ref x127, .ref x129, .ref x132, .long 0]), (x1, oC 2 [.ref x2, .ref x4, .ref x6, .ref x8, .ref x10, .ref x12, .ref x14, .ref x16, .ref x18, .ref x20, .ref x27, .int 0]), (x2, oC 3 [.ref x3, .int 1]), (x3, aI Y 6 (upd (fun _ => 0) 0 (-1))), (x12, oC 3 [.ref x13, .int 0]), (x20, oC 4 [.ref x21, .ref x23, .ref x25, .int 0]), (x21, oC 3 [.ref x22, .int 0]), (x27, oC 9 [.ref x28, .int 0, .long 0, .int (-1), .int 0, .int 0, .int 0, .int 0, .int 0]), (x117, oC 11 [.ref x1, .ref x118, .ref x120, .ref x122, .ref x124]), (x118, oC 3 [.ref x119, .int 0]), (x119, aI Y 6 (fun _ => 0)), (x126, oC 10 [.ref x1, .ref x117]), (m0, oC 13 [.ref m1, .ref m2, .int 0, .ref m3, .ref m4, .int 0, .int 0, .int 0, .int (-1), .int 0, .int 0, .int 0, .long 0, .ref m5, .ref m6, .int 0, .int 0]), (m1, aI Y 3640 (clB 0 (fun _ => 0))), (o0, aJ Y 1 (fun _ => 0))] := by
  refine V_aload_n 2743 B dL_law_2743 3 rfl ?_
  refine V_aload_n 2744 B dL_law_2744 4 rfl ?_
  refine V_iload 2745 B dL_law_2745 0 rfl ?_
  refine V_iconst 2747 B (v := 1) dL_law_2747 (by decide +kernel) ?_
  refine V_iadd 2748 B (v := 1) dL_law_2748 (by decide +kernel) ?_
  refine V_sld 2749 B hX hbl hbA (v := p1) (vpin _ _ (by decide +kernel)) dL_law_2749 e1 ?_
  refine V_aload_n 2750 B dL_law_2750 1 rfl ?_
  refine V_hsi 2751 B EB (st := []) (As := [.ref x0, .int p1, .ref o0]) (fun sz => mL_press_1 l hl9 D Y (x0) (o0) (x1) (x30) (x59) (x88) (x117) (x126) (x127) (x129) (x132) (x2) (x4) (x6) (x8) (x10) (x12) (x14) (x16) (x18) (x20) (x27) (x3) (x13) (x21) (x23) (x25) (x22) (x28) (x118) (x120) (x122) (x124) (x119) (p1) sz) glH_RL_313 ⟨rfl, rfl⟩ ⟨(Nat.le_of_ble_eq_true rfl), (Nat.le_of_ble_eq_true rfl)⟩ ⟨(Nat.le_of_ble_eq_true rfl), (Nat.le_of_ble_eq_true rfl)⟩ [0, 0, 0, 0, 0, 0, 0, 0, 0, 0, 0, 0, 2] rfl rfl (Nat.le_of_ble_eq_true rfl) rfl (fun _ u _ => by
        first | rfl | (split <;> rfl) | (dsimp only; split <;> rfl)) dL_law_2751 (fun r0 u0 w0 => ?_)
  rcases w0 with ⟨rfl, k1, rfl⟩ | ⟨rfl, k2, k3, rfl⟩ | ⟨rfl, k4, k5, rfl⟩
  ·
    refine V_ws [(x0, oC 12 [.ref x1, .ref x30, .ref x59, .ref x88, .ref x117, .ref x126, .ref x127, .ref x129, .ref x132, .long 0]), (x1, oC 2 [.ref x2, .ref x4, .ref x6, .ref x8, .ref x10, .ref x12, .ref x14, .ref x16, .ref x18, .ref x20, .ref x27, .int 0]), (x2, oC 3 [.ref x3, .int 1]), (x3, aI Y 6 (upd (fun _ => 0) 0 (-1))), (x12, oC 3 [.ref x13, .int 0]), (x20, oC 4 [.ref x21, .ref x23, .ref x25, .int 0]), (x21, oC 3 [.ref x22, .int 0]), (x27, oC 9 [.ref x28, .int 0, .long 0, .int (-1), .int 0, .int 0, .int 0, .int 0, .int 0]), (x117, oC 11 [.ref x1, .ref x118, .ref x120, .ref x122, .ref x124]), (x118, oC 3 [.ref x119, .int 0]), (x119, aI Y 6 (fun _ => 0)), (x126, oC 10 [.ref x1, .ref x117]), (m0, oC 13 [.ref m1, .ref m2, .int 0, .ref m3, .ref m4, .int 0, .int 0, .int 0, .int (-1), .int 0, .int 0, .int 0, .long 0, .ref m5, .ref m6, .int 0, .int 0]), (m1, aI Y 3640 (clB 0 (fun _ => 0))), (o0, aJ Y 1 (fun _ => 0))] rfl ?_
    refine V_istore 2754 B (lv2 := [(5, .int 1), (4, .int 0), (3, .ref o0), (2, .ref m0), (1, .ref x0), (0, .ref b)]) dL_law_2754 (by decide) rfl ?_
    refine V_aload_n 2756 B dL_law_2756 3 rfl ?_
    refine V_aload_n 2757 B dL_law_2757 5 rfl ?_
    refine V_iload 2758 B dL_law_2758 1 rfl ?_
    refine V_iconst 2760 B (v := 1) dL_law_2760 (by decide +kernel) ?_
    refine V_iadd 2761 B (v := 1) dL_law_2761 (by decide +kernel) ?_
    refine V_sld 2762 B hX hbl hbA (v := p1) (vpin _ _ (by decide +kernel)) dL_law_2762 e1 ?_
    refine V_cvi 2763 B (st := []) (As := [.int p1]) (fun sz => mX12_press_1 l D Y (m0) (m1) (m2) (m3) (m4) (m5) (m6) (p1) sz) glV_RL_315 ⟨rfl, rfl⟩ ⟨(Nat.le_of_ble_eq_true rfl), (Nat.le_of_ble_eq_true rfl)⟩ ⟨(Nat.le_of_ble_eq_true rfl), (Nat.le_of_ble_eq_true rfl)⟩ [12, 0] rfl 13 0 rfl rfl rfl rfl (Nat.le_of_ble_eq_true rfl) rfl (fun _ u _ => by
        first | rfl | (split <;> rfl) | (dsimp only; split <;> rfl)) dL_law_2763 (fun r6 u6 w6 => ?_)
    rcases w6 with ⟨rfl, k7, k8, rfl⟩ | ⟨rfl, k9, rfl⟩ | ⟨rfl, k10, rfl⟩
    ·
      refine V_ws [(x0, oC 12 [.ref x1, .ref x30, .ref x59, .ref x88, .ref x117, .ref x126, .ref x127, .ref x129, .ref x132, .long 0]), (x1, oC 2 [.ref x2, .ref x4, .ref x6, .ref x8, .ref x10, .ref x12, .ref x14, .ref x16, .ref x18, .ref x20, .ref x27, .int 0]), (x2, oC 3 [.ref x3, .int 1]), (x3, aI Y 6 (upd (fun _ => 0) 0 (-1))), (x12, oC 3 [.ref x13, .int 0]), (x20, oC 4 [.ref x21, .ref x23, .ref x25, .int 0]), (x21, oC 3 [.ref x22, .int 0]), (x27, oC 9 [.ref x28, .int 0, .long 0, .int (-1), .int 0, .int 0, .int 0, .int 0, .int 0]), (x117, oC 11 [.ref x1, .ref x118, .ref x120, .ref x122, .ref x124]), (x118, oC 3 [.ref x119, .int 0]), (x119, aI Y 6 (fun _ => 0)), (x126, oC 10 [.ref x1, .ref x117]), (m0, oC 13 [.ref m1, .ref m2, .int 0, .ref m3, .ref m4, .int 0, .int 0, .int 0, .int (-1), .int 0, .int 0, .int 0, .long 0, .ref m5, .ref m6, .int 0, .int 0]), (m1, aI Y 3640 (upd (upd (upd (upd (upd (upd (clB 0 (fun _ => 0)) 13 1) 10 0) 3629 1) 3630 p1) 12 1) 8 0)), (o0, aJ Y 1 (fun _ => 0))] rfl ?_
      exact (q_abs (b_nlt k7 (n := 0) (by decide +kernel)) (b_lt k1 (n := (-1)) (by decide +kernel)) (by decide +kernel)).elim
    ·
      refine V_ws [(x0, oC 12 [.ref x1, .ref x30, .ref x59, .ref x88, .ref x117, .ref x126, .ref x127, .ref x129, .ref x132, .long 0]), (x1, oC 2 [.ref x2, .ref x4, .ref x6, .ref x8, .ref x10, .ref x12, .ref x14, .ref x16, .ref x18, .ref x20, .ref x27, .int 0]), (x2, oC 3 [.ref x3, .int 1]), (x3, aI Y 6 (upd (fun _ => 0) 0 (-1))), (x12, oC 3 [.ref x13, .int 0]), (x20, oC 4 [.ref x21, .ref x23, .ref x25, .int 0]), (x21, oC 3 [.ref x22, .int 0]), (x27, oC 9 [.ref x28, .int 0, .long 0, .int (-1), .int 0, .int 0, .int 0, .int 0, .int 0]), (x117, oC 11 [.ref x1, .ref x118, .ref x120, .ref x122, .ref x124]), (x118, oC 3 [.ref x119, .int 0]), (x119, aI Y 6 (fun _ => 0)), (x126, oC 10 [.ref x1, .ref x117]), (m0, oC 13 [.ref m1, .ref m2, .int 1, .ref m3, .ref m4, .int 0, .int 0, .int 0, .int (-1), .int 0, .int 0, .int 0, .long 0, .ref m5, .ref m6, .int 0, .int 0]), (m1, aI Y 3640 (clB 0 (fun _ => 0))), (o0, aJ Y 1 (fun _ => 0))] rfl ?_
      refine V_istore 2766 B (lv2 := [(6, .int 0), (5, .int 1), (4, .int 0), (3, .ref o0), (2, .ref m0), (1, .ref x0), (0, .ref b)]) dL_law_2766 (by decide) rfl ?_
      refine V_aload_n 2768 B dL_law_2768 4 rfl ?_
      refine V_cvi 2769 B (st := []) (As := []) (fun sz => mX12_thrown_2 l D Y (m0) (m1) (m2) (m3) (m4) (m5) (m6) sz) glV_RL_182 ⟨rfl, rfl⟩ ⟨(Nat.le_of_ble_eq_true rfl), (Nat.le_of_ble_eq_true rfl)⟩ ⟨(Nat.le_of_ble_eq_true rfl), (Nat.le_of_ble_eq_true rfl)⟩ [12] rfl 13 0 rfl rfl rfl rfl (Nat.le_of_ble_eq_true rfl) rfl (fun _ _ _ => rfl) dL_law_2769 (fun r11 u11 w11 => ?_)
      obtain rfl := w11
      refine V_ws [(x0, oC 12 [.ref x1, .ref x30, .ref x59, .ref x88, .ref x117, .ref x126, .ref x127, .ref x129, .ref x132, .long 0]), (x1, oC 2 [.ref x2, .ref x4, .ref x6, .ref x8, .ref x10, .ref x12, .ref x14, .ref x16, .ref x18, .ref x20, .ref x27, .int 0]), (x2, oC 3 [.ref x3, .int 1]), (x3, aI Y 6 (upd (fun _ => 0) 0 (-1))), (x12, oC 3 [.ref x13, .int 0]), (x20, oC 4 [.ref x21, .ref x23, .ref x25, .int 0]), (x21, oC 3 [.ref x22, .int 0]), (x27, oC 9 [.ref x28, .int 0, .long 0, .int (-1), .int 0, .int 0, .int 0, .int 0, .int 0]), (x117, oC 11 [.ref x1, .ref x118, .ref x120, .ref x122, .ref x124]), (x118, oC 3 [.ref x119, .int 0]), (x119, aI Y 6 (fun _ => 0)), (x126, oC 10 [.ref x1, .ref x117]), (m0, oC 13 [.ref m1, .ref m2, .int 1, .ref m3, .ref m4, .int 0, .int 0, .int 0, .int (-1), .int 0, .int 0, .int 0, .long 0, .ref m5, .ref m6, .int 0, .int 0]), (m1, aI Y 3640 (clB 0 (fun _ => 0))), (o0, aJ Y 1 (fun _ => 0))] rfl ?_
      refine V_iload 2772 B dL_law_2772 1 rfl ?_
      refine V_icmp_eq_t 2774 B 2779 dL_law_2774 (by decide) (by decide +kernel) ?_
      refine V_iload 2779 B dL_law_2779 1 rfl ?_
      refine V_if_ne_t 2781 B 2796 dL_law_2781 (by decide) (by decide +kernel) ?_
      refine V_goto 2796 B 3332 dL_law_2796 (by decide) ?_
      refine V_iinc 3332 B (v := 6) (lv2 := [(4, .int 6), (6, .int 0), (5, .int 1), (3, .ref o0), (2, .ref m0), (1, .ref x0), (0, .ref b)]) dL_law_3332 2 rfl (by decide +kernel) (by decide) rfl ?_
      refine V_goto 3335 B 23 dL_law_3335 (by decide) ?_
      refine V_iload 23 B dL_law_23 0 rfl ?_
      refine V_aload_n 25 B dL_law_25 6 rfl ?_
      refine V_slen 26 B hX hbl hbA (v := 6) (by decide +kernel) dL_law_26 ?_
      refine V_bipush 27 B (v := 6) dL_law_27 (by decide +kernel) ?_
      refine V_isub 29 B (v := 0) dL_law_29 (by decide +kernel) ?_
      refine V_icmp_gt_t 30 B 3338 dL_law_30 (by decide) (by decide +kernel) ?_
      exact law_end B (Nat.le_of_ble_eq_true rfl) (Nat.le_of_ble_eq_true rfl) dL_law_3338 dL_law_3339
    ·
      refine V_ws [(x0, oC 12 [.ref x1, .ref x30, .ref x59, .ref x88, .ref x117, .ref x126, .ref x127, .ref x129, .ref x132, .long 0]), (x1, oC 2 [.ref x2, .ref x4, .ref x6, .ref x8, .ref x10, .ref x12, .ref x14, .ref x16, .ref x18, .ref x20, .ref x27, .int 0]), (x2, oC 3 [.ref x3, .int 1]), (x3, aI Y 6 (upd (fun _ => 0) 0 (-1))), (x12, oC 3 [.ref x13, .int 0]), (x20, oC 4 [.ref x21, .ref x23, .ref x25, .int 0]), (x21, oC 3 [.ref x22, .int 0]), (x27, oC 9 [.ref x28, .int 0, .long 0, .int (-1), .int 0, .int 0, .int 0, .int 0, .int 0]), (x117, oC 11 [.ref x1, .ref x118, .ref x120, .ref x122, .ref x124]), (x118, oC 3 [.ref x119, .int 0]), (x119, aI Y 6 (fun _ => 0)), (x126, oC 10 [.ref x1, .ref x117]), (m0, oC 13 [.ref m1, .ref m2, .int 1, .ref m3, .ref m4, .int 0, .int 0, .int 0, .int (-1), .int 0, .int 0, .int 0, .long 0, .ref m5, .ref m6, .int 0, .int 0]), (m1, aI Y 3640 (clB 0 (fun _ => 0))), (o0, aJ Y 1 (fun _ => 0))] rfl ?_
      exact (q_abs (b_gt k10 (n := 26) (by decide +kernel)) (b_lt k1 (n := (-1)) (by decide +kernel)) (by decide +kernel)).elim
  ·
    refine V_ws [(x0, oC 12 [.ref x1, .ref x30, .ref x59, .ref x88, .ref x117, .ref x126, .ref x127, .ref x129, .ref x132, .long 0]), (x1, oC 2 [.ref x2, .ref x4, .ref x6, .ref x8, .ref x10, .ref x12, .ref x14, .ref x16, .ref x18, .ref x20, .ref x27, .int 0]), (x2, oC 3 [.ref x3, .int 1]), (x3, aI Y 6 (upd (fun _ => 0) 0 (-1))), (x12, oC 3 [.ref x13, .int 0]), (x20, oC 4 [.ref x21, .ref x23, .ref x25, .int 0]), (x21, oC 3 [.ref x22, .int 0]), (x27, oC 9 [.ref x28, .int 0, .long 0, .int (-1), .int 0, .int 0, .int 0, .int 0, .int 0]), (x117, oC 11 [.ref x1, .ref x118, .ref x120, .ref x122, .ref x124]), (x118, oC 3 [.ref x119, .int 0]), (x119, aI Y 6 (fun _ => 0)), (x126, oC 10 [.ref x1, .ref x117]), (m0, oC 13 [.ref m1, .ref m2, .int 0, .ref m3, .ref m4, .int 0, .int 0, .int 0, .int (-1), .int 0, .int 0, .int 0, .long 0, .ref m5, .ref m6, .int 0, .int 0]), (m1, aI Y 3640 (clB 0 (fun _ => 0))), (o0, aJ Y 1 (fun _ => 0))] rfl ?_
    refine V_istore 2754 B (lv2 := [(5, .int 1), (4, .int 0), (3, .ref o0), (2, .ref m0), (1, .ref x0), (0, .ref b)]) dL_law_2754 (by decide) rfl ?_
    refine V_aload_n 2756 B dL_law_2756 3 rfl ?_
    refine V_aload_n 2757 B dL_law_2757 5 rfl ?_
    refine V_iload 2758 B dL_law_2758 1 rfl ?_
    refine V_iconst 2760 B (v := 1) dL_law_2760 (by decide +kernel) ?_
    refine V_iadd 2761 B (v := 1) dL_law_2761 (by decide +kernel) ?_
    refine V_sld 2762 B hX hbl hbA (v := p1) (vpin _ _ (by decide +kernel)) dL_law_2762 e1 ?_
    refine V_cvi 2763 B (st := []) (As := [.int p1]) (fun sz => mX12_press_1 l D Y (m0) (m1) (m2) (m3) (m4) (m5) (m6) (p1) sz) glV_RL_315 ⟨rfl, rfl⟩ ⟨(Nat.le_of_ble_eq_true rfl), (Nat.le_of_ble_eq_true rfl)⟩ ⟨(Nat.le_of_ble_eq_true rfl), (Nat.le_of_ble_eq_true rfl)⟩ [12, 0] rfl 13 0 rfl rfl rfl rfl (Nat.le_of_ble_eq_true rfl) rfl (fun _ u _ => by
        first | rfl | (split <;> rfl) | (dsimp only; split <;> rfl)) dL_law_2763 (fun r12 u12 w12 => ?_)
    rcases w12 with ⟨rfl, k13, k14, rfl⟩ | ⟨rfl, k15, rfl⟩ | ⟨rfl, k16, rfl⟩
    ·
      refine V_ws [(x0, oC 12 [.ref x1, .ref x30, .ref x59, .ref x88, .ref x117, .ref x126, .ref x127, .ref x129, .ref x132, .long 0]), (x1, oC 2 [.ref x2, .ref x4, .ref x6, .ref x8, .ref x10, .ref x12, .ref x14, .ref x16, .ref x18, .ref x20, .ref x27, .int 0]), (x2, oC 3 [.ref x3, .int 1]), (x3, aI Y 6 (upd (fun _ => 0) 0 (-1))), (x12, oC 3 [.ref x13, .int 0]), (x20, oC 4 [.ref x21, .ref x23, .ref x25, .int 0]), (x21, oC 3 [.ref x22, .int 0]), (x27, oC 9 [.ref x28, .int 0, .long 0, .int (-1), .int 0, .int 0, .int 0, .int 0, .int 0]), (x117, oC 11 [.ref x1, .ref x118, .ref x120, .ref x122, .ref x124]), (x118, oC 3 [.ref x119, .int 0]), (x119, aI Y 6 (fun _ => 0)), (x126, oC 10 [.ref x1, .ref x117]), (m0, oC 13 [.ref m1, .ref m2, .int 0, .ref m3, .ref m4, .int 0, .int 0, .int 0, .int (-1), .int 0, .int 0, .int 0, .long 0, .ref m5, .ref m6, .int 0, .int 0]), (m1, aI Y 3640 (upd (upd (upd (upd (upd (upd (clB 0 (fun _ => 0)) 13 1) 10 0) 3629 1) 3630 p1) 12 1) 8 0)), (o0, aJ Y 1 (fun _ => 0))] rfl ?_
      exact (q_abs (b_nlt k3 (n := 26) (by decide +kernel)) (b_ngt k14 (n := 25) (by decide +kernel)) (by decide +kernel)).elim
    ·
      refine V_ws [(x0, oC 12 [.ref x1, .ref x30, .ref x59, .ref x88, .ref x117, .ref x126, .ref x127, .ref x129, .ref x132, .long 0]), (x1, oC 2 [.ref x2, .ref x4, .ref x6, .ref x8, .ref x10, .ref x12, .ref x14, .ref x16, .ref x18, .ref x20, .ref x27, .int 0]), (x2, oC 3 [.ref x3, .int 1]), (x3, aI Y 6 (upd (fun _ => 0) 0 (-1))), (x12, oC 3 [.ref x13, .int 0]), (x20, oC 4 [.ref x21, .ref x23, .ref x25, .int 0]), (x21, oC 3 [.ref x22, .int 0]), (x27, oC 9 [.ref x28, .int 0, .long 0, .int (-1), .int 0, .int 0, .int 0, .int 0, .int 0]), (x117, oC 11 [.ref x1, .ref x118, .ref x120, .ref x122, .ref x124]), (x118, oC 3 [.ref x119, .int 0]), (x119, aI Y 6 (fun _ => 0)), (x126, oC 10 [.ref x1, .ref x117]), (m0, oC 13 [.ref m1, .ref m2, .int 1, .ref m3, .ref m4, .int 0, .int 0, .int 0, .int (-1), .int 0, .int 0, .int 0, .long 0, .ref m5, .ref m6, .int 0, .int 0]), (m1, aI Y 3640 (clB 0 (fun _ => 0))), (o0, aJ Y 1 (fun _ => 0))] rfl ?_
      exact (q_abs (b_nlt k3 (n := 26) (by decide +kernel)) (b_lt k15 (n := (-1)) (by decide +kernel)) (by decide +kernel)).elim
    ·
      refine V_ws [(x0, oC 12 [.ref x1, .ref x30, .ref x59, .ref x88, .ref x117, .ref x126, .ref x127, .ref x129, .ref x132, .long 0]), (x1, oC 2 [.ref x2, .ref x4, .ref x6, .ref x8, .ref x10, .ref x12, .ref x14, .ref x16, .ref x18, .ref x20, .ref x27, .int 0]), (x2, oC 3 [.ref x3, .int 1]), (x3, aI Y 6 (upd (fun _ => 0) 0 (-1))), (x12, oC 3 [.ref x13, .int 0]), (x20, oC 4 [.ref x21, .ref x23, .ref x25, .int 0]), (x21, oC 3 [.ref x22, .int 0]), (x27, oC 9 [.ref x28, .int 0, .long 0, .int (-1), .int 0, .int 0, .int 0, .int 0, .int 0]), (x117, oC 11 [.ref x1, .ref x118, .ref x120, .ref x122, .ref x124]), (x118, oC 3 [.ref x119, .int 0]), (x119, aI Y 6 (fun _ => 0)), (x126, oC 10 [.ref x1, .ref x117]), (m0, oC 13 [.ref m1, .ref m2, .int 1, .ref m3, .ref m4, .int 0, .int 0, .int 0, .int (-1), .int 0, .int 0, .int 0, .long 0, .ref m5, .ref m6, .int 0, .int 0]), (m1, aI Y 3640 (clB 0 (fun _ => 0))), (o0, aJ Y 1 (fun _ => 0))] rfl ?_
      refine V_istore 2766 B (lv2 := [(6, .int 0), (5, .int 1), (4, .int 0), (3, .ref o0), (2, .ref m0), (1, .ref x0), (0, .ref b)]) dL_law_2766 (by decide) rfl ?_
      refine V_aload_n 2768 B dL_law_2768 4 rfl ?_
      refine V_cvi 2769 B (st := []) (As := []) (fun sz => mX12_thrown_2 l D Y (m0) (m1) (m2) (m3) (m4) (m5) (m6) sz) glV_RL_182 ⟨rfl, rfl⟩ ⟨(Nat.le_of_ble_eq_true rfl), (Nat.le_of_ble_eq_true rfl)⟩ ⟨(Nat.le_of_ble_eq_true rfl), (Nat.le_of_ble_eq_true rfl)⟩ [12] rfl 13 0 rfl rfl rfl rfl (Nat.le_of_ble_eq_true rfl) rfl (fun _ _ _ => rfl) dL_law_2769 (fun r17 u17 w17 => ?_)
      obtain rfl := w17
      refine V_ws [(x0, oC 12 [.ref x1, .ref x30, .ref x59, .ref x88, .ref x117, .ref x126, .ref x127, .ref x129, .ref x132, .long 0]), (x1, oC 2 [.ref x2, .ref x4, .ref x6, .ref x8, .ref x10, .ref x12, .ref x14, .ref x16, .ref x18, .ref x20, .ref x27, .int 0]), (x2, oC 3 [.ref x3, .int 1]), (x3, aI Y 6 (upd (fun _ => 0) 0 (-1))), (x12, oC 3 [.ref x13, .int 0]), (x20, oC 4 [.ref x21, .ref x23, .ref x25, .int 0]), (x21, oC 3 [.ref x22, .int 0]), (x27, oC 9 [.ref x28, .int 0, .long 0, .int (-1), .int 0, .int 0, .int 0, .int 0, .int 0]), (x117, oC 11 [.ref x1, .ref x118, .ref x120, .ref x122, .ref x124]), (x118, oC 3 [.ref x119, .int 0]), (x119, aI Y 6 (fun _ => 0)), (x126, oC 10 [.ref x1, .ref x117]), (m0, oC 13 [.ref m1, .ref m2, .int 1, .ref m3, .ref m4, .int 0, .int 0, .int 0, .int (-1), .int 0, .int 0, .int 0, .long 0, .ref m5, .ref m6, .int 0, .int 0]), (m1, aI Y 3640 (clB 0 (fun _ => 0))), (o0, aJ Y 1 (fun _ => 0))] rfl ?_
      refine V_iload 2772 B dL_law_2772 1 rfl ?_
      refine V_icmp_eq_t 2774 B 2779 dL_law_2774 (by decide) (by decide +kernel) ?_
      refine V_iload 2779 B dL_law_2779 1 rfl ?_
      refine V_if_ne_t 2781 B 2796 dL_law_2781 (by decide) (by decide +kernel) ?_
      refine V_goto 2796 B 3332 dL_law_2796 (by decide) ?_
      refine V_iinc 3332 B (v := 6) (lv2 := [(4, .int 6), (6, .int 0), (5, .int 1), (3, .ref o0), (2, .ref m0), (1, .ref x0), (0, .ref b)]) dL_law_3332 2 rfl (by decide +kernel) (by decide) rfl ?_
      refine V_goto 3335 B 23 dL_law_3335 (by decide) ?_
      refine V_iload 23 B dL_law_23 0 rfl ?_
      refine V_aload_n 25 B dL_law_25 6 rfl ?_
      refine V_slen 26 B hX hbl hbA (v := 6) (by decide +kernel) dL_law_26 ?_
      refine V_bipush 27 B (v := 6) dL_law_27 (by decide +kernel) ?_
      refine V_isub 29 B (v := 0) dL_law_29 (by decide +kernel) ?_
      refine V_icmp_gt_t 30 B 3338 dL_law_30 (by decide) (by decide +kernel) ?_
      exact law_end B (Nat.le_of_ble_eq_true rfl) (Nat.le_of_ble_eq_true rfl) dL_law_3338 dL_law_3339
  ·
    refine V_ws [(x0, oC 12 [.ref x1, .ref x30, .ref x59, .ref x88, .ref x117, .ref x126, .ref x127, .ref x129, .ref x132, .long 0]), (x1, oC 2 [.ref x2, .ref x4, .ref x6, .ref x8, .ref x10, .ref x12, .ref x14, .ref x16, .ref x18, .ref x20, .ref x27, .int 0]), (x2, oC 3 [.ref x3, .int 1]), (x3, aI Y 6 (upd (fun _ => 0) 0 (-1))), (x12, oC 3 [.ref x13, .int 0]), (x20, oC 4 [.ref x21, .ref x23, .ref x25, .int 0]), (x21, oC 3 [.ref x22, .int 0]), (x27, oC 9 [.ref x28, .int 0, .long 0, .int (-1), .int 1, .int 1, .int 0, .int 0, .int 0]), (x117, oC 11 [.ref x1, .ref x118, .ref x120, .ref x122, .ref x124]), (x118, oC 3 [.ref x119, .int 6]), (x119, aI Y 6 (upd (upd (upd (upd (upd (upd (upd (fun _ => 0) 0 (-1)) 1 (-1)) 2 (-1)) 3 (-1)) 4 (-1)) 5 (-1)) 0 0)), (x126, oC 10 [.ref x1, .ref x117]), (m0, oC 13 [.ref m1, .ref m2, .int 0, .ref m3, .ref m4, .int 0, .int 0, .int 0, .int (-1), .int 0, .int 0, .int 0, .long 0, .ref m5, .ref m6, .int 0, .int 0]), (m1, aI Y 3640 (clB 0 (fun _ => 0))), (o0, aJ Y 1 (vp_updL (fun _ => 0) 0 (-1)))] rfl ?_
    refine V_istore 2754 B (lv2 := [(5, .int 0), (4, .int 0), (3, .ref o0), (2, .ref m0), (1, .ref x0), (0, .ref b)]) dL_law_2754 (by decide) rfl ?_
    refine V_aload_n 2756 B dL_law_2756 3 rfl ?_
    refine V_aload_n 2757 B dL_law_2757 5 rfl ?_
    refine V_iload 2758 B dL_law_2758 1 rfl ?_
    refine V_iconst 2760 B (v := 1) dL_law_2760 (by decide +kernel) ?_
    refine V_iadd 2761 B (v := 1) dL_law_2761 (by decide +kernel) ?_
    refine V_sld 2762 B hX hbl hbA (v := p1) (vpin _ _ (by decide +kernel)) dL_law_2762 e1 ?_
    refine V_cvi 2763 B (st := []) (As := [.int p1]) (fun sz => mX12_press_1 l D Y (m0) (m1) (m2) (m3) (m4) (m5) (m6) (p1) sz) glV_RL_315 ⟨rfl, rfl⟩ ⟨(Nat.le_of_ble_eq_true rfl), (Nat.le_of_ble_eq_true rfl)⟩ ⟨(Nat.le_of_ble_eq_true rfl), (Nat.le_of_ble_eq_true rfl)⟩ [12, 0] rfl 13 0 rfl rfl rfl rfl (Nat.le_of_ble_eq_true rfl) rfl (fun _ u _ => by
        first | rfl | (split <;> rfl) | (dsimp only; split <;> rfl)) dL_law_2763 (fun r18 u18 w18 => ?_)
    rcases w18 with ⟨rfl, k19, k20, rfl⟩ | ⟨rfl, k21, rfl⟩ | ⟨rfl, k22, rfl⟩
    ·
      refine V_ws [(x0, oC 12 [.ref x1, .ref x30, .ref x59, .ref x88, .ref x117, .ref x126, .ref x127, .ref x129, .ref x132, .long 0]), (x1, oC 2 [.ref x2, .ref x4, .ref x6, .ref x8, .ref x10, .ref x12, .ref x14, .ref x16, .ref x18, .ref x20, .ref x27, .int 0]), (x2, oC 3 [.ref x3, .int 1]), (x3, aI Y 6 (upd (fun _ => 0) 0 (-1))), (x12, oC 3 [.ref x13, .int 0]), (x20, oC 4 [.ref x21, .ref x23, .ref x25, .int 0]), (x21, oC 3 [.ref x22, .int 0]), (x27, oC 9 [.ref x28, .int 0, .long 0, .int (-1), .int 1, .int 1, .int 0, .int 0, .int 0]), (x117, oC 11 [.ref x1, .ref x118, .ref x120, .ref x122, .ref x124]), (x118, oC 3 [.ref x119, .int 6]), (x119, aI Y 6 (upd (upd (upd (upd (upd (upd (upd (fun _ => 0) 0 (-1)) 1 (-1)) 2 (-1)) 3 (-1)) 4 (-1)) 5 (-1)) 0 0)), (x126, oC 10 [.ref x1, .ref x117]), (m0, oC 13 [.ref m1, .ref m2, .int 0, .ref m3, .ref m4, .int 0, .int 0, .int 0, .int (-1), .int 0, .int 0, .int 0, .long 0, .ref m5, .ref m6, .int 0, .int 0]), (m1, aI Y 3640 (upd (upd (upd (upd (upd (upd (clB 0 (fun _ => 0)) 13 1) 10 0) 3629 1) 3630 p1) 12 1) 8 0)), (o0, aJ Y 1 (vp_updL (fun _ => 0) 0 (-1)))] rfl ?_
      refine V_istore 2766 B (lv2 := [(6, .int (-1)), (5, .int 0), (4, .int 0), (3, .ref o0), (2, .ref m0), (1, .ref x0), (0, .ref b)]) dL_law_2766 (by decide) rfl ?_
      refine V_aload_n 2768 B dL_law_2768 4 rfl ?_
      refine V_cvi 2769 B (st := []) (As := []) (fun sz => mX12_thrown_1 l D Y (m0) (m1) (m2) (m3) (m4) (m5) (m6) sz) glV_RL_182 ⟨rfl, rfl⟩ ⟨(Nat.le_of_ble_eq_true rfl), (Nat.le_of_ble_eq_true rfl)⟩ ⟨(Nat.le_of_ble_eq_true rfl), (Nat.le_of_ble_eq_true rfl)⟩ [12] rfl 13 0 rfl rfl rfl rfl (Nat.le_of_ble_eq_true rfl) rfl (fun _ _ _ => rfl) dL_law_2769 (fun r23 u23 w23 => ?_)
      obtain rfl := w23
      refine V_ws [(x0, oC 12 [.ref x1, .ref x30, .ref x59, .ref x88, .ref x117, .ref x126, .ref x127, .ref x129, .ref x132, .long 0]), (x1, oC 2 [.ref x2, .ref x4, .ref x6, .ref x8, .ref x10, .ref x12, .ref x14, .ref x16, .ref x18, .ref x20, .ref x27, .int 0]), (x2, oC 3 [.ref x3, .int 1]), (x3, aI Y 6 (upd (fun _ => 0) 0 (-1))), (x12, oC 3 [.ref x13, .int 0]), (x20, oC 4 [.ref x21, .ref x23, .ref x25, .int 0]), (x21, oC 3 [.ref x22, .int 0]), (x27, oC 9 [.ref x28, .int 0, .long 0, .int (-1), .int 1, .int 1, .int 0, .int 0, .int 0]), (x117, oC 11 [.ref x1, .ref x118, .ref x120, .ref x122, .ref x124]), (x118, oC 3 [.ref x119, .int 6]), (x119, aI Y 6 (upd (upd (upd (upd (upd (upd (upd (fun _ => 0) 0 (-1)) 1 (-1)) 2 (-1)) 3 (-1)) 4 (-1)) 5 (-1)) 0 0)), (x126, oC 10 [.ref x1, .ref x117]), (m0, oC 13 [.ref m1, .ref m2, .int 0, .ref m3, .ref m4, .int 0, .int 0, .int 0, .int (-1), .int 0, .int 0, .int 0, .long 0, .ref m5, .ref m6, .int 0, .int 0]), (m1, aI Y 3640 (upd (upd (upd (upd (upd (upd (clB 0 (fun _ => 0)) 13 1) 10 0) 3629 1) 3630 p1) 12 1) 8 0)), (o0, aJ Y 1 (vp_updL (fun _ => 0) 0 (-1)))] rfl ?_
      refine V_iload 2772 B dL_law_2772 1 rfl ?_
      refine V_icmp_eq_t 2774 B 2779 dL_law_2774 (by decide) (by decide +kernel) ?_
      refine V_iload 2779 B dL_law_2779 1 rfl ?_
      refine V_if_ne_f 2781 B 2796 dL_law_2781 (by decide) (by decide +kernel) ?_
      refine V_aload_n 2784 B dL_law_2784 3 rfl ?_
      refine V_iconst 2785 B (v := 0) dL_law_2785 (by decide +kernel) ?_
      refine V_lald 2786 B (v := (-1)) 14 rfl (vpin _ _ (by decide +kernel)) dL_law_2786 rfl ?_
      refine V_iload 2787 B dL_law_2787 0 rfl ?_
      refine V_i2l 2789 B (v := (-1)) dL_law_2789 (by decide +kernel) ?_
      refine V_lcmp 2790 B (v := 0) dL_law_2790 (by decide +kernel) ?_
      refine V_if_eq_t 2791 B 2796 dL_law_2791 (by decide) (by decide +kernel) ?_
      refine V_goto 2796 B 3332 dL_law_2796 (by decide) ?_
      refine V_iinc 3332 B (v := 6) (lv2 := [(4, .int 6), (6, .int (-1)), (5, .int 0), (3, .ref o0), (2, .ref m0), (1, .ref x0), (0, .ref b)]) dL_law_3332 2 rfl (by decide +kernel) (by decide) rfl ?_
      refine V_goto 3335 B 23 dL_law_3335 (by decide) ?_
      refine V_iload 23 B dL_law_23 0 rfl ?_
      refine V_aload_n 25 B dL_law_25 6 rfl ?_
      refine V_slen 26 B hX hbl hbA (v := 6) (by decide +kernel) dL_law_26 ?_
      refine V_bipush 27 B (v := 6) dL_law_27 (by decide +kernel) ?_
      refine V_isub 29 B (v := 0) dL_law_29 (by decide +kernel) ?_
      refine V_icmp_gt_t 30 B 3338 dL_law_30 (by decide) (by decide +kernel) ?_
      exact law_end B (Nat.le_of_ble_eq_true rfl) (Nat.le_of_ble_eq_true rfl) dL_law_3338 dL_law_3339
    ·
      refine V_ws [(x0, oC 12 [.ref x1, .ref x30, .ref x59, .ref x88, .ref x117, .ref x126, .ref x127, .ref x129, .ref x132, .long 0]), (x1, oC 2 [.ref x2, .ref x4, .ref x6, .ref x8, .ref x10, .ref x12, .ref x14, .ref x16, .ref x18, .ref x20, .ref x27, .int 0]), (x2, oC 3 [.ref x3, .int 1]), (x3, aI Y 6 (upd (fun _ => 0) 0 (-1))), (x12, oC 3 [.ref x13, .int 0]), (x20, oC 4 [.ref x21, .ref x23, .ref x25, .int 0]), (x21, oC 3 [.ref x22, .int 0]), (x27, oC 9 [.ref x28, .int 0, .long 0, .int (-1), .int 1, .int 1, .int 0, .int 0, .int 0]), (x117, oC 11 [.ref x1, .ref x118, .ref x120, .ref x122, .ref x124]), (x118, oC 3 [.ref x119, .int 6]), (x119, aI Y 6 (upd (upd (upd (upd (upd (upd (upd (fun _ => 0) 0 (-1)) 1 (-1)) 2 (-1)) 3 (-1)) 4 (-1)) 5 (-1)) 0 0)), (x126, oC 10 [.ref x1, .ref x117]), (m0, oC 13 [.ref m1, .ref m2, .int 1, .ref m3, .ref m4, .int 0, .int 0, .int 0, .int (-1), .int 0, .int 0, .int 0, .long 0, .ref m5, .ref m6, .int 0, .int 0]), (m1, aI Y 3640 (clB 0 (fun _ => 0))), (o0, aJ Y 1 (vp_updL (fun _ => 0) 0 (-1)))] rfl ?_
      exact (q_abs (b_nlt k4 (n := 0) (by decide +kernel)) (b_lt k21 (n := (-1)) (by decide +kernel)) (by decide +kernel)).elim
    ·
      refine V_ws [(x0, oC 12 [.ref x1, .ref x30, .ref x59, .ref x88, .ref x117, .ref x126, .ref x127, .ref x129, .ref x132, .long 0]), (x1, oC 2 [.ref x2, .ref x4, .ref x6, .ref x8, .ref x10, .ref x12, .ref x14, .ref x16, .ref x18, .ref x20, .ref x27, .int 0]), (x2, oC 3 [.ref x3, .int 1]), (x3, aI Y 6 (upd (fun _ => 0) 0 (-1))), (x12, oC 3 [.ref x13, .int 0]), (x20, oC 4 [.ref x21, .ref x23, .ref x25, .int 0]), (x21, oC 3 [.ref x22, .int 0]), (x27, oC 9 [.ref x28, .int 0, .long 0, .int (-1), .int 1, .int 1, .int 0, .int 0, .int 0]), (x117, oC 11 [.ref x1, .ref x118, .ref x120, .ref x122, .ref x124]), (x118, oC 3 [.ref x119, .int 6]), (x119, aI Y 6 (upd (upd (upd (upd (upd (upd (upd (fun _ => 0) 0 (-1)) 1 (-1)) 2 (-1)) 3 (-1)) 4 (-1)) 5 (-1)) 0 0)), (x126, oC 10 [.ref x1, .ref x117]), (m0, oC 13 [.ref m1, .ref m2, .int 1, .ref m3, .ref m4, .int 0, .int 0, .int 0, .int (-1), .int 0, .int 0, .int 0, .long 0, .ref m5, .ref m6, .int 0, .int 0]), (m1, aI Y 3640 (clB 0 (fun _ => 0))), (o0, aJ Y 1 (vp_updL (fun _ => 0) 0 (-1)))] rfl ?_
      exact (q_abs (b_gt k22 (n := 26) (by decide +kernel)) (b_lt k5 (n := 25) (by decide +kernel)) (by decide +kernel)).elim
