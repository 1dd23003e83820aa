theorem dL_release_0 : decode cL_release 0 = .ok (.aload_n 2, 1) := by decide +kernel
theorem dL_release_1 : decode cL_release 1 = .ok (.iconst 0, 1) := by decide +kernel
theorem dL_release_2 : decode cL_release 2 = .ok (.aload_n 0, 1) := by decide +kernel
theorem dL_release_3 : decode cL_release 3 = .ok (.iload_n 1, 1) := by decide +kernel
theorem dL_release_4 : decode cL_release 4 = .ok (.invokevirtual 127, 3) := by decide +kernel
theorem glV_RL_127 : GLV RL 127 yX11_release RX11 cX11_release 2 (some .boolean) 1 := ⟨⟨(mT7 66 rfl rfl), (mT7 67 rfl rfl), (mT7 68 rfl rfl), (mT1 1 rfl rfl), (mT7 69 rfl rfl)⟩, by decide +kernel⟩
theorem dL_release_19 : decode cL_release 19 = .ok (.astore_n 3, 1) := by decide +kernel
theorem dL_release_20 : decode cL_release 20 = .ok (.iconst 1, 1) := by decide +kernel
theorem dL_release_21 : decode cL_release 21 = .ok (.ireturn, 1) := by decide +kernel
theorem dL_release_7 : decode cL_release 7 = .ok (.ifCond .eq 7, 3) := by decide +kernel
theorem dL_release_14 : decode cL_release 14 = .ok (.lconst 0, 1) := by decide +kernel
theorem dL_release_15 : decode cL_release 15 = .ok (.lastore, 1) := by decide +kernel
theorem dL_release_16 : decode cL_release 16 = .ok (.goto 6, 3) := by decide +kernel
theorem dL_release_22 : decode cL_release 22 = .ok (.iconst 0, 1) := by decide +kernel
theorem dL_release_23 : decode cL_release 23 = .ok (.ireturn, 1) := by decide +kernel
set_option maxRecDepth 100000 in
set_option maxHeartbeats 4000000 in
theorem mL_release_1 (l : Launch) (hl9 : l.stackTraces = false) (D : va_G) (Y : Nat → ClassId) (h0 : Nat) (h4 : Nat) (h1 : Nat) (g0 : Nat) (g1 : Nat) (g2 : Nat) (g3 : Nat) (g4 : Nat) (g5 : Nat) (g6 : Nat) (g7 : Nat) (g8 : Nat) (g9 : Nat) (g10 : Nat) (g11 : Nat) (g12 : Nat) (g13 : Nat) (g14 : Nat) (g15 : Nat) (g16 : Nat) (h2 : Nat) (g17 : Nat) (h3 : Nat) (g18 : Nat) (g19 : Nat) (g20 : Nat) (p0 : Int32) (sz : Nat) : Met l yL_release (Cond.codeWith yL_release cL_release 4 (some .int) [(0, 16, 19, 13)] :: lw_good) (mkR 8 1 6 123) (PreX D Y [.ref h0, .int p0, .ref h4] [(h0, oC 12 [.ref h1, .ref g0, .ref g1, .ref g2, .ref g3, .ref g4, .ref g5, .ref g6, .ref g7, .long 0]), (h1, oC 2 [.ref g8, .ref g9, .ref g10, .ref g11, .ref g12, .ref g13, .ref g14, .ref g15, .ref g16, .ref h2, .ref g17, .int 0]), (h2, oC 4 [.ref h3, .ref g18, .ref g19, .int 0]), (h3, oC 3 [.ref g20, .int 0]), (h4, aJ Y 1 (fun _ => 0))] sz) (QI D (fun (r : Int32) (u : Nat) => (u = 0 ∧ p0 < 0 ∧ 1 = r) ∨ (u = 1 ∧ ¬ p0 < 0 ∧ ¬ p0 < 26 ∧ 1 = r) ∨ (u = 2 ∧ ¬ p0 < 0 ∧ p0 < 26 ∧ 0 = r)) (fun (u : Nat) => match u with | 0 => [(h0, oC 12 [.ref h1, .ref g0, .ref g1, .ref g2, .ref g3, .ref g4, .ref g5, .ref g6, .ref g7, .long 0]), (h1, oC 2 [.ref g8, .ref g9, .ref g10, .ref g11, .ref g12, .ref g13, .ref g14, .ref g15, .ref g16, .ref h2, .ref g17, .int 0]), (h2, oC 4 [.ref h3, .ref g18, .ref g19, .int 0]), (h3, oC 3 [.ref g20, .int 0]), (h4, aJ Y 1 (fun _ => 0))] | 1 => [(h0, oC 12 [.ref h1, .ref g0, .ref g1, .ref g2, .ref g3, .ref g4, .ref g5, .ref g6, .ref g7, .long 0]), (h1, oC 2 [.ref g8, .ref g9, .ref g10, .ref g11, .ref g12, .ref g13, .ref g14, .ref g15, .ref g16, .ref h2, .ref g17, .int 0]), (h2, oC 4 [.ref h3, .ref g18, .ref g19, .int 0]), (h3, oC 3 [.ref g20, .int 0]), (h4, aJ Y 1 (fun _ => 0))] | _ => [(h0, oC 12 [.ref h1, .ref g0, .ref g1, .ref g2, .ref g3, .ref g4, .ref g5, .ref g6, .ref g7, .long 0]), (h1, oC 2 [.ref g8, .ref g9, .ref g10, .ref g11, .ref g12, .ref g13, .ref g14, .ref g15, .ref g16, .ref h2, .ref g17, .int 0]), (h2, oC 4 [.ref h3, .ref g18, .ref g19, .int 0]), (h3, oC 3 [.ref g20, .int 0]), (h4, aJ Y 1 (vp_updL (fun _ => 0) 0 0))]) (va_A [(h0, oC 12 [.ref h1, .ref g0, .ref g1, .ref g2, .ref g3, .ref g4, .ref g5, .ref g6, .ref g7, .long 0]), (h1, oC 2 [.ref g8, .ref g9, .ref g10, .ref g11, .ref g12, .ref g13, .ref g14, .ref g15, .ref g16, .ref h2, .ref g17, .int 0]), (h2, oC 4 [.ref h3, .ref g18, .ref g19, .int 0]), (h3, oC 3 [.ref g20, .int 0]), (h4, aJ Y 1 (fun _ => 0))] sz)) 1 6 (va_A [(h0, oC 12 [.ref h1, .ref g0, .ref g1, .ref g2, .ref g3, .ref g4, .ref g5, .ref g6, .ref g7, .long 0]), (h1, oC 2 [.ref g8, .ref g9, .ref g10, .ref g11, .ref g12, .ref g13, .ref g14, .ref g15, .ref g16, .ref h2, .ref g17, .int 0]), (h2, oC 4 [.ref h3, .ref g18, .ref g19, .int 0]), (h3, oC 3 [.ref g20, .int 0]), (h4, aJ Y 1 (fun _ => 0))] sz) :=
  metH_of (by decide +kernel) (Nat.le_of_ble_eq_true rfl) (fun p e s m args below meth c B EB htab hsz => by
    have B : VB p s m args meth c D Y (va_A [(h0, oC 12 [.ref h1, .ref g0, .ref g1, .ref g2, .ref g3, .ref g4, .ref g5, .ref g6, .ref g7, .long 0]), (h1, oC 2 [.ref g8, .ref g9, .ref g10, .ref g11, .ref g12, .ref g13, .ref g14, .ref g15, .ref g16, .ref h2, .ref g17, .int 0]), (h2, oC 4 [.ref h3, .ref g18, .ref g19, .int 0]), (h3, oC 3 [.ref g20, .int 0]), (h4, aJ Y 1 (fun _ => 0))] sz) cL_release 4 RL (some .int) := B
    refine V_aload_n 0 B dL_release_0 2 rfl ?_
    refine V_iconst 1 B (v := 0) dL_release_1 (by decide +kernel) ?_
    refine V_aload_n 2 B dL_release_2 0 rfl ?_
    refine V_iload_n 3 B dL_release_3 1 rfl ?_
    refine V_xvi 4 B EB (st := [.int 0, .ref h4]) (As := [.int p0]) (fun sz => mX11_release_1 l hl9 D Y (h0) (h1) (g0) (g1) (g2) (g3) (g4) (g5) (g6) (g7) (g8) (g9) (g10) (g11) (g12) (g13) (g14) (g15) (g16) (h2) (g17) (h3) (g18) (g19) (g20) (p0) sz) glV_RL_127 ⟨rfl, rfl⟩ ⟨(Nat.le_of_ble_eq_true rfl), (Nat.le_of_ble_eq_true rfl)⟩ ⟨(Nat.le_of_ble_eq_true rfl), (Nat.le_of_ble_eq_true rfl)⟩ [0, 0, 0, 0] rfl 12 0 rfl rfl rfl rfl (Nat.le_of_ble_eq_true rfl) rfl (fun _ _ _ => rfl) (fun _ _ _ => rfl) dL_release_4 (fun E u0 w0 => ?_) (fun r0 u0 w0 => ?_)
    ·
      rcases w0 with ⟨rfl, k1⟩ | ⟨rfl, k2, k3⟩
      ·
        refine VX_catch 4 B htab [] (0, 16, 19, 13) [] rfl "java/lang/IllegalArgumentException" (fun z hz => nomatch hz) rfl (by decide) (mT5 20 rfl rfl) (EB.2.2.2.1 _ (List.mem_of_getElem? (i := 0) rfl)) 19 rfl (fun q9 => ?_)
        refine V_ws [(h0, oC 12 [.ref h1, .ref g0, .ref g1, .ref g2, .ref g3, .ref g4, .ref g5, .ref g6, .ref g7, .long 0]), (h1, oC 2 [.ref g8, .ref g9, .ref g10, .ref g11, .ref g12, .ref g13, .ref g14, .ref g15, .ref g16, .ref h2, .ref g17, .int 0]), (h2, oC 4 [.ref h3, .ref g18, .ref g19, .int 0]), (h3, oC 3 [.ref g20, .int 0]), (h4, aJ Y 1 (fun _ => 0))] rfl ?_
        refine V_astore_n 19 B (lv2 := [(3, .ref q9), (0, .ref h0), (1, .int p0), (2, .ref h4)]) dL_release_19 (by decide) rfl ?_
        refine V_iconst 20 B (v := 1) dL_release_20 (by decide +kernel) ?_
        exact V_iret 21 B dL_release_21 0 (Or.inl ⟨rfl, k1, rfl⟩) rfl
      ·
        refine VX_catch 4 B htab [] (0, 16, 19, 13) [] rfl "java/lang/IllegalArgumentException" (fun z hz => nomatch hz) rfl (by decide) (mT5 20 rfl rfl) (EB.2.2.2.1 _ (List.mem_of_getElem? (i := 0) rfl)) 19 rfl (fun q9 => ?_)
        refine V_ws [(h0, oC 12 [.ref h1, .ref g0, .ref g1, .ref g2, .ref g3, .ref g4, .ref g5, .ref g6, .ref g7, .long 0]), (h1, oC 2 [.ref g8, .ref g9, .ref g10, .ref g11, .ref g12, .ref g13, .ref g14, .ref g15, .ref g16, .ref h2, .ref g17, .int 0]), (h2, oC 4 [.ref h3, .ref g18, .ref g19, .int 0]), (h3, oC 3 [.ref g20, .int 0]), (h4, aJ Y 1 (fun _ => 0))] rfl ?_
        refine V_astore_n 19 B (lv2 := [(3, .ref q9), (0, .ref h0), (1, .int p0), (2, .ref h4)]) dL_release_19 (by decide) rfl ?_
        refine V_iconst 20 B (v := 1) dL_release_20 (by decide +kernel) ?_
        exact V_iret 21 B dL_release_21 1 (Or.inr (Or.inl ⟨rfl, k2, k3, rfl⟩)) rfl
    ·
      obtain ⟨k4, k5, rfl⟩ := w0
      refine V_ws [(h0, oC 12 [.ref h1, .ref g0, .ref g1, .ref g2, .ref g3, .ref g4, .ref g5, .ref g6, .ref g7, .long 0]), (h1, oC 2 [.ref g8, .ref g9, .ref g10, .ref g11, .ref g12, .ref g13, .ref g14, .ref g15, .ref g16, .ref h2, .ref g17, .int 0]), (h2, oC 4 [.ref h3, .ref g18, .ref g19, .int 0]), (h3, oC 3 [.ref g20, .int 0]), (h4, aJ Y 1 (fun _ => 0))] rfl ?_
      refine V_if_eq_t 7 B 14 dL_release_7 (by decide) (by decide +kernel) ?_
      refine V_lconst 14 B (v := 0) dL_release_14 (by decide +kernel) ?_
      refine V_last 15 B 4 rfl (vpin _ _ (by decide +kernel)) dL_release_15 [(h0, oC 12 [.ref h1, .ref g0, .ref g1, .ref g2, .ref g3, .ref g4, .ref g5, .ref g6, .ref g7, .long 0]), (h1, oC 2 [.ref g8, .ref g9, .ref g10, .ref g11, .ref g12, .ref g13, .ref g14, .ref g15, .ref g16, .ref h2, .ref g17, .int 0]), (h2, oC 4 [.ref h3, .ref g18, .ref g19, .int 0]), (h3, oC 3 [.ref g20, .int 0]), (h4, aJ Y 1 (vp_updL (fun _ => 0) 0 0))] rfl ?_
      refine V_goto 16 B 22 dL_release_16 (by decide) ?_
      refine V_iconst 22 B (v := 0) dL_release_22 (by decide +kernel) ?_
      exact V_iret 23 B dL_release_23 2 (Or.inr (Or.inr ⟨rfl, k4, k5, rfl⟩)) rfl)
theorem dL_law_2799 : decode cL_law 2799 = .ok (.aload_n 1, 1) := by decide +kernel
theorem dL_law_2800 : decode cL_law 2800 = .ok (.aload_n 0, 1) := by decide +kernel
theorem dL_law_2801 : decode cL_law 2801 = .ok (.iload 4, 2) := by decide +kernel
theorem dL_law_2803 : decode cL_law 2803 = .ok (.iconst 1, 1) := by decide +kernel
theorem dL_law_2804 : decode cL_law 2804 = .ok (.iadd, 1) := by decide +kernel
theorem dL_law_2805 : decode cL_law 2805 = .ok (.iaload, 1) := by decide +kernel
theorem dL_law_2806 : decode cL_law 2806 = .ok (.aload_n 3, 1) := by decide +kernel
theorem dL_law_2807 : decode cL_law 2807 = .ok (.invokestatic 316, 3) := by decide +kernel
theorem glH_RL_316 : GLH RL 316 yL_release cL_release 4 (some .int) [(0, 16, 19, 13)] 3 := ⟨⟨(mT7 63 rfl rfl), (mT7 64 rfl rfl), (mT1 0 rfl rfl), (mT7 65 rfl rfl)⟩, by decide +kernel⟩
theorem dL_law_2810 : decode cL_law 2810 = .ok (.istore 5, 2) := by decide +kernel
theorem dL_law_2812 : decode cL_law 2812 = .ok (.aload_n 2, 1) := by decide +kernel
theorem dL_law_2813 : decode cL_law 2813 = .ok (.aload_n 0, 1) := by decide +kernel
theorem dL_law_2814 : decode cL_law 2814 = .ok (.iload 4, 2) := by decide +kernel
theorem dL_law_2816 : decode cL_law 2816 = .ok (.iconst 1, 1) := by decide +kernel
theorem dL_law_2817 : decode cL_law 2817 = .ok (.iadd, 1) := by decide +kernel
theorem dL_law_2818 : decode cL_law 2818 = .ok (.iaload, 1) := by decide +kernel
theorem dL_law_2819 : decode cL_law 2819 = .ok (.invokevirtual 318, 3) := by decide +kernel
theorem glV_RL_318 : GLV RL 318 yX12_release RX12 cX12_release 3 (some .boolean) 1 := ⟨⟨(mT9 109 rfl rfl), (mT9 110 rfl rfl), (mT9 111 rfl rfl), (mT1 13 rfl rfl), (mT9 112 rfl rfl)⟩, by decide +kernel⟩
theorem dL_law_2822 : decode cL_law 2822 = .ok (.istore 6, 2) := by decide +kernel
theorem dL_law_2824 : decode cL_law 2824 = .ok (.aload_n 2, 1) := by decide +kernel
theorem dL_law_2825 : decode cL_law 2825 = .ok (.invokevirtual 182, 3) := by decide +kernel
theorem dL_law_2828 : decode cL_law 2828 = .ok (.iload 5, 2) := by decide +kernel
theorem dL_law_2830 : decode cL_law 2830 = .ok (.if_icmp .eq 5, 3) := by decide +kernel
theorem dL_law_2835 : decode cL_law 2835 = .ok (.iload 5, 2) := by decide +kernel
theorem dL_law_2837 : decode cL_law 2837 = .ok (.ifCond .ne 22, 3) := by decide +kernel
theorem dL_law_2859 : decode cL_law 2859 = .ok (.goto 473, 3) := by decide +kernel
theorem dL_law_2840 : decode cL_law 2840 = .ok (.aload_n 3, 1) := by decide +kernel
theorem dL_law_2841 : decode cL_law 2841 = .ok (.iconst 0, 1) := by decide +kernel
theorem dL_law_2842 : decode cL_law 2842 = .ok (.laload, 1) := by decide +kernel
theorem dL_law_2843 : decode cL_law 2843 = .ok (.iload 6, 2) := by decide +kernel
theorem dL_law_2845 : decode cL_law 2845 = .ok (.ifCond .eq 7, 3) := by decide +kernel
theorem dL_law_2852 : decode cL_law 2852 = .ok (.lconst 0, 1) := by decide +kernel
theorem dL_law_2853 : decode cL_law 2853 = .ok (.lcmp, 1) := by decide +kernel
theorem dL_law_2854 : decode cL_law 2854 = .ok (.ifCond .eq 5, 3) := by decide +kernel
set_option maxRecDepth 100000 in
set_option maxHeartbeats 4000000 in
theorem law_c48 {p : Program} {l : Launch} {e : Env} {s : State} {m : MethodId} {below : List Frame} {meth : Method} {c : Code} {b : Nat} {xs : Nat → Int32} {D : va_G} {Y : Nat → ClassId} (B : VB p s m #[Value.ref b] meth c D Y (fun q => s.heap.size ≤ q) cL_law 8 RL ret) (EB : EX (fun q => s.heap.size ≤ q) s s.heap) (hl9 : l.stackTraces = false) (hX : va_X b 6 xs s s.heap) (hbl : b < s.heap.size) (hbA : ¬ (fun q => s.heap.size ≤ q) b) (x0 x1 x30 x59 x88 x117 x126 x127 x129 x132 x2 x4 x6 x8 x10 x12 x14 x16 x18 x20 x27 x21 x23 x25 x22 m0 m1 m2 m3 m4 m5 m6 o0 : Nat) (p1 : Int32) (e1 : xs 1 = p1) : V p l e room_1 s m #[Value.ref b] below meth c D (fun q => s.heap.size ≤ q) 8 149 10574 (lw_Z below #[Value.ref b] s) 2799 [(4, .int 0), (3, .ref o0), (2, .ref m0), (1, .ref x0), (0, .ref b)] [] [(x0, oC 12 [.ref x1, .ref x30, .ref x59, .ref x88, .ref x117, .ref x126, .ref x127, .ref x129, .ref x132, .long 0]), (x1, oC 2 [.ref x2, .ref x4, .ref x6, .ref x8, .ref x10, .ref x12, .ref x14, .ref x16, .ref x18, .ref x20, .ref x27, .int 0]), (x20, oC 4 [.ref x21, .ref x23, .ref x25, .int 0]), (x21, oC 3 [.ref x22, .int 0]), (m0, oC 13 [.ref m1, .ref m2, .int 0, .ref m3, .ref m4, .int 0, .int 0, .int 0, .int (-1), .int 0, .int 0, .int 0, .long 0, .ref m5, .ref m6, .int 0, .int 0]), (m1, aI Y 3640 (clB 0 (fun _ => 0))), (o0, aJ Y 1 (fun _ => 0))] := by
  refine V_aload_n 2799 B dL_law_2799 3 rfl ?_
  refine V_aload_n 2800 B dL_law_2800 4 rfl ?_
  refine V_iload 2801 B dL_law_2801 0 rfl ?_
  refine V_iconst 2803 B (v := 1) dL_law_2803 (by decide +kernel) ?_
  refine V_iadd 2804 B (v := 1) dL_law_2804 (by decide +kernel) ?_
  refine V_sld 2805 B hX hbl hbA (v := p1) (vpin _ _ (by decide +kernel)) dL_law_2805 e1 ?_
  refine V_aload_n 2806 B dL_law_2806 1 rfl ?_
  refine V_hsi 2807 B EB (st := []) (As := [.ref x0, .int p1, .ref o0]) (fun sz => mL_release_1 l hl9 D Y (x0) (o0) (x1) (x30) (x59) (x88) (x117) (x126) (x127) (x129) (x132) (x2) (x4) (x6) (x8) (x10) (x12) (x14) (x16) (x18) (x20) (x27) (x21) (x23) (x25) (x22) (p1) sz) glH_RL_316 ⟨rfl, rfl⟩ ⟨(Nat.le_of_ble_eq_true rfl), (Nat.le_of_ble_eq_true rfl)⟩ ⟨(Nat.le_of_ble_eq_true rfl), (Nat.le_of_ble_eq_true rfl)⟩ [0, 0, 0, 0, 2] rfl rfl (Nat.le_of_ble_eq_true rfl) rfl (fun _ u _ => by
        first | rfl | (split <;> rfl) | (dsimp only; split <;> rfl)) dL_law_2807 (fun r0 u0 w0 => ?_)
  rcases w0 with ⟨rfl, k1, rfl⟩ | ⟨rfl, k2, k3, rfl⟩ | ⟨rfl, k4, k5, rfl⟩
  ·
    refine V_ws [(x0, oC 12 [.ref x1, .ref x30, .ref x59, .ref x88, .ref x117, .ref x126, .ref x127, .ref x129, .ref x132, .long 0]), (x1, oC 2 [.ref x2, .ref x4, .ref x6, .ref x8, .ref x10, .ref x12, .ref x14, .ref x16, .ref x18, .ref x20, .ref x27, .int 0]), (x20, oC 4 [.ref x21, .ref x23, .ref x25, .int 0]), (x21, oC 3 [.ref x22, .int 0]), (m0, oC 13 [.ref m1, .ref m2, .int 0, .ref m3, .ref m4, .int 0, .int 0, .int 0, .int (-1), .int 0, .int 0, .int 0, .long 0, .ref m5, .ref m6, .int 0, .int 0]), (m1, aI Y 3640 (clB 0 (fun _ => 0))), (o0, aJ Y 1 (fun _ => 0))] rfl ?_
    refine V_istore 2810 B (lv2 := [(5, .int 1), (4, .int 0), (3, .ref o0), (2, .ref m0), (1, .ref x0), (0, .ref b)]) dL_law_2810 (by decide) rfl ?_
    refine V_aload_n 2812 B dL_law_2812 3 rfl ?_
    refine V_aload_n 2813 B dL_law_2813 5 rfl ?_
    refine V_iload 2814 B dL_law_2814 1 rfl ?_
    refine V_iconst 2816 B (v := 1) dL_law_2816 (by decide +kernel) ?_
    refine V_iadd 2817 B (v := 1) dL_law_2817 (by decide +kernel) ?_
    refine V_sld 2818 B hX hbl hbA (v := p1) (vpin _ _ (by decide +kernel)) dL_law_2818 e1 ?_
    refine V_cvi 2819 B (st := []) (As := [.int p1]) (fun sz => mX12_release_1 l D Y (m0) (m1) (m2) (m3) (m4) (m5) (m6) (p1) sz) glV_RL_318 ⟨rfl, rfl⟩ ⟨(Nat.le_of_ble_eq_true rfl), (Nat.le_of_ble_eq_true rfl)⟩ ⟨(Nat.le_of_ble_eq_true rfl), (Nat.le_of_ble_eq_true rfl)⟩ [4, 0] rfl 13 0 rfl rfl rfl rfl (Nat.le_of_ble_eq_true rfl) rfl (fun _ u _ => by
        first | rfl | (split <;> rfl) | (dsimp only; split <;> rfl)) dL_law_2819 (fun r6 u6 w6 => ?_)
    rcases w6 with ⟨rfl, k7, k8, rfl⟩ | ⟨rfl, k9, rfl⟩ | ⟨rfl, k10, rfl⟩
    ·
      refine V_ws [(x0, oC 12 [.ref x1, .ref x30, .ref x59, .ref x88, .ref x117, .ref x126, .ref x127, .ref x129, .ref x132, .long 0]), (x1, oC 2 [.ref x2, .ref x4, .ref x6, .ref x8, .ref x10, .ref x12, .ref x14, .ref x16, .ref x18, .ref x20, .ref x27, .int 0]), (x20, oC 4 [.ref x21, .ref x23, .ref x25, .int 0]), (x21, oC 3 [.ref x22, .int 0]), (m0, oC 13 [.ref m1, .ref m2, .int 0, .ref m3, .ref m4, .int 0, .int 0, .int 0, .int (-1), .int 0, .int 0, .int 0, .long 0, .ref m5, .ref m6, .int 0, .int 0]), (m1, aI Y 3640 (clB 0 (fun _ => 0))), (o0, aJ Y 1 (fun _ => 0))] rfl ?_
      exact (q_abs (b_nlt k7 (n := 0) (by decide +kernel)) (b_lt k1 (n := (-1)) (by decide +kernel)) (by decide +kernel)).elim
    ·
      refine V_ws [(x0, oC 12 [.ref x1, .ref x30, .ref x59, .ref x88, .ref x117, .ref x126, .ref x127, .ref x129, .ref x132, .long 0]), (x1, oC 2 [.ref x2, .ref x4, .ref x6, .ref x8, .ref x10, .ref x12, .ref x14, .ref x16, .ref x18, .ref x20, .ref x27, .int 0]), (x20, oC 4 [.ref x21, .ref x23, .ref x25, .int 0]), (x21, oC 3 [.ref x22, .int 0]), (m0, oC 13 [.ref m1, .ref m2, .int 1, .ref m3, .ref m4, .int 0, .int 0, .int 0, .int (-1), .int 0, .int 0, .int 0, .long 0, .ref m5, .ref m6, .int 0, .int 0]), (m1, aI Y 3640 (clB 0 (fun _ => 0))), (o0, aJ Y 1 (fun _ => 0))] rfl ?_
      refine V_istore 2822 B (lv2 := [(6, .int 0), (5, .int 1), (4, .int 0), (3, .ref o0), (2, .ref m0), (1, .ref x0), (0, .ref b)]) dL_law_2822 (by decide) rfl ?_
      refine V_aload_n 2824 B dL_law_2824 4 rfl ?_
      refine V_cvi 2825 B (st := []) (As := []) (fun sz => mX12_thrown_2 l D Y (m0) (m1) (m2) (m3) (m4) (m5) (m6) sz) glV_RL_182 ⟨rfl, rfl⟩ ⟨(Nat.le_of_ble_eq_true rfl), (Nat.le_of_ble_eq_true rfl)⟩ ⟨(Nat.le_of_ble_eq_true rfl), (Nat.le_of_ble_eq_true rfl)⟩ [4] rfl 13 0 rfl rfl rfl rfl (Nat.le_of_ble_eq_true rfl) rfl (fun _ _ _ => rfl) dL_law_2825 (fun r11 u11 w11 => ?_)
      obtain rfl := w11
      refine V_ws [(x0, oC 12 [.ref x1, .ref x30, .ref x59, .ref x88, .ref x117, .ref x126, .ref x127, .ref x129, .ref x132, .long 0]), (x1, oC 2 [.ref x2, .ref x4, .ref x6, .ref x8, .ref x10, .ref x12, .ref x14, .ref x16, .ref x18, .ref x20, .ref x27, .int 0]), (x20, oC 4 [.ref x21, .ref x23, .ref x25, .int 0]), (x21, oC 3 [.ref x22, .int 0]), (m0, oC 13 [.ref m1, .ref m2, .int 1, .ref m3, .ref m4, .int 0, .int 0, .int 0, .int (-1), .int 0, .int 0, .int 0, .long 0, .ref m5, .ref m6, .int 0, .int 0]), (m1, aI Y 3640 (clB 0 (fun _ => 0))), (o0, aJ Y 1 (fun _ => 0))] rfl ?_
      refine V_iload 2828 B dL_law_2828 1 rfl ?_
      refine V_icmp_eq_t 2830 B 2835 dL_law_2830 (by decide) (by decide +kernel) ?_
      refine V_iload 2835 B dL_law_2835 1 rfl ?_
      refine V_if_ne_t 2837 B 2859 dL_law_2837 (by decide) (by decide +kernel) ?_
      refine V_goto 2859 B 3332 dL_law_2859 (by decide) ?_
      refine V_iinc 3332 B (v := 6) (lv2 := [(4, .int 6), (6, .int 0), (5, .int 1), (3, .ref o0), (2, .ref m0), (1, .ref x0), (0, .ref b)]) dL_law_3332 2 rfl (by decide +kernel) (by decide) rfl ?_
      refine V_goto 3335 B 23 dL_law_3335 (by decide) ?_
      refine V_iload 23 B dL_law_23 0 rfl ?_
      refine V_aload_n 25 B dL_law_25 6 rfl ?_
      refine V_slen 26 B hX hbl hbA (v := 6) (by decide +kernel) dL_law_26 ?_
      refine V_bipush 27 B (v := 6) dL_law_27 (by decide +kernel) ?_
      refine V_isub 29 B (v := 0) dL_law_29 (by decide +kernel) ?_
      refine V_icmp_gt_t 30 B 3338 dL_law_30 (by decide) (by decide +kernel) ?_
      exact law_end B (Nat.le_of_ble_eq_true rfl) (Nat.le_of_ble_eq_true rfl) dL_law_3338 dL_law_3339
    ·
      refine V_ws [(x0, oC 12 [.ref x1, .ref x30, .ref x59, .ref x88, .ref x117, .ref x126, .ref x127, .ref x129, .ref x132, .long 0]), (x1, oC 2 [.ref x2, .ref x4, .ref x6, .ref x8, .ref x10, .ref x12, .ref x14, .ref x16, .ref x18, .ref x20, .ref x27, .int 0]), (x20, oC 4 [.ref x21, .ref x23, .ref x25, .int 0]), (x21, oC 3 [.ref x22, .int 0]), (m0, oC 13 [.ref m1, .ref m2, .int 1, .ref m3, .ref m4, .int 0, .int 0, .int 0, .int (-1), .int 0, .int 0, .int 0, .long 0, .ref m5, .ref m6, .int 0, .int 0]), (m1, aI Y 3640 (clB 0 (fun _ => 0))), (o0, aJ Y 1 (fun _ => 0))] rfl ?_
      exact (q_abs (b_gt k10 (n := 26) (by decide +kernel)) (b_lt k1 (n := (-1)) (by decide +kernel)) (by decide +kernel)).elim
  ·
    refine V_ws [(x0, oC 12 [.ref x1, .ref x30, .ref x59, .ref x88, .ref x117, .ref x126, .ref x127, .ref x129, .ref x132, .long 0]), (x1, oC 2 [.ref x2, .ref x4, .ref x6, .ref x8, .ref x10, .ref x12, .ref x14, .ref x16, .ref x18, .ref x20, .ref x27, .int 0]), (x20, oC 4 [.ref x21, .ref x23, .ref x25, .int 0]), (x21, oC 3 [.ref x22, .int 0]), (m0, oC 13 [.ref m1, .ref m2, .int 0, .ref m3, .ref m4, .int 0, .int 0, .int 0, .int (-1), .int 0, .int 0, .int 0, .long 0, .ref m5, .ref m6, .int 0, .int 0]), (m1, aI Y 3640 (clB 0 (fun _ => 0))), (o0, aJ Y 1 (fun _ => 0))] rfl ?_
    refine V_istore 2810 B (lv2 := [(5, .int 1), (4, .int 0), (3, .ref o0), (2, .ref m0), (1, .ref x0), (0, .ref b)]) dL_law_2810 (by decide) rfl ?_
    refine V_aload_n 2812 B dL_law_2812 3 rfl ?_
    refine V_aload_n 2813 B dL_law_2813 5 rfl ?_
    refine V_iload 2814 B dL_law_2814 1 rfl ?_
    refine V_iconst 2816 B (v := 1) dL_law_2816 (by decide +kernel) ?_
    refine V_iadd 2817 B (v := 1) dL_law_2817 (by decide +kernel) ?_
    refine V_sld 2818 B hX hbl hbA (v := p1) (vpin _ _ (by decide +kernel)) dL_law_2818 e1 ?_
    refine V_cvi 2819 B (st := []) (As := [.int p1]) (fun sz => mX12_release_1 l D Y (m0) (m1) (m2) (m3) (m4) (m5) (m6) (p1) sz) glV_RL_318 ⟨rfl, rfl⟩ ⟨(Nat.le_of_ble_eq_true rfl), (Nat.le_of_ble_eq_true rfl)⟩ ⟨(Nat.le_of_ble_eq_true rfl), (Nat.le_of_ble_eq_true rfl)⟩ [4, 0] rfl 13 0 rfl rfl rfl rfl (Nat.le_of_ble_eq_true rfl) rfl (fun _ u _ => by
        first | rfl | (split <;> rfl) | (dsimp only; split <;> rfl)) dL_law_2819 (fun r12 u12 w12 => ?_)
    rcases w12 with ⟨rfl, k13, k14, rfl⟩ | ⟨rfl, k15, rfl⟩ | ⟨rfl, k16, rfl⟩
    ·
      refine V_ws [(x0, oC 12 [.ref x1, .ref x30, .ref x59, .ref x88, .ref x117, .ref x126, .ref x127, .ref x129, .ref x132, .long 0]), (x1, oC 2 [.ref x2, .ref x4, .ref x6, .ref x8, .ref x10, .ref x12, .ref x14, .ref x16, .ref x18, .ref x20, .ref x27, .int 0]), (x20, oC 4 [.ref x21, .ref x23, .ref x25, .int 0]), (x21, oC 3 [.ref x22, .int 0]), (m0, oC 13 [.ref m1, .ref m2, .int 0, .ref m3, .ref m4, .int 0, .int 0, .int 0, .int (-1), .int 0, .int 0, .int 0, .long 0, .ref m5, .ref m6, .int 0, .int 0]), (m1, aI Y 3640 (clB 0 (fun _ => 0))), (o0, aJ Y 1 (fun _ => 0))] rfl ?_
      exact (q_abs (b_nlt k3 (n := 26) (by decide +kernel)) (b_ngt k14 (n := 25) (by decide +kernel)) (by decide +kernel)).elim
    ·
      refine V_ws [(x0, oC 12 [.ref x1, .ref x30, .ref x59, .ref x88, .ref x117, .ref x126, .ref x127, .ref x129, .ref x132, .long 0]), (x1, oC 2 [.ref x2, .ref x4, .ref x6, .ref x8, .ref x10, .ref x12, .ref x14, .ref x16, .ref x18, .ref x20, .ref x27, .int 0]), (x20, oC 4 [.ref x21, .ref x23, .ref x25, .int 0]), (x21, oC 3 [.ref x22, .int 0]), (m0, oC 13 [.ref m1, .ref m2, .int 1, .ref m3, .ref m4, .int 0, .int 0, .int 0, .int (-1), .int 0, .int 0, .int 0, .long 0, .ref m5, .ref m6, .int 0, .int 0]), (m1, aI Y 3640 (clB 0 (fun _ => 0))), (o0, aJ Y 1 (fun _ => 0))] rfl ?_
      exact (q_abs (b_nlt k3 (n := 26) (by decide +kernel)) (b_lt k15 (n := (-1)) (by decide +kernel)) (by decide +kernel)).elim
    ·
      refine V_ws [(x0, oC 12 [.ref x1, .ref x30, .ref x59, .ref x88, .ref x117, .ref x126, .ref x127, .ref x129, .ref x132, .long 0]), (x1, oC 2 [.ref x2, .ref x4, .ref x6, .ref x8, .ref x10, .ref x12, .ref x14, .ref x16, .ref x18, .ref x20, .ref x27, .int 0]), (x20, oC 4 [.ref x21, .ref x23, .ref x25, .int 0]), (x21, oC 3 [.ref x22, .int 0]), (m0, oC 13 [.ref m1, .ref m2, .int 1, .ref m3, .ref m4, .int 0, .int 0, .int 0, .int (-1), .int 0, .int 0, .int 0, .long 0, .ref m5, .ref m6, .int 0, .int 0]), (m1, aI Y 3640 (clB 0 (fun _ => 0))), (o0, aJ Y 1 (fun _ => 0))] rfl ?_
      refine V_istore 2822 B (lv2 := [(6, .int 0), (5, .int 1), (4, .int 0), (3, .ref o0), (2, .ref m0), (1, .ref x0), (0, .ref b)]) dL_law_2822 (by decide) rfl ?_
      refine V_aload_n 2824 B dL_law_2824 4 rfl ?_
      refine V_cvi 2825 B (st := []) (As := []) (fun sz => mX12_thrown_2 l D Y (m0) (m1) (m2) (m3) (m4) (m5) (m6) sz) glV_RL_182 ⟨rfl, rfl⟩ ⟨(Nat.le_of_ble_eq_true rfl), (Nat.le_of_ble_eq_true rfl)⟩ ⟨(Nat.le_of_ble_eq_true rfl), (Nat.le_of_ble_eq_true rfl)⟩ [4] rfl 13 0 rfl rfl rfl rfl (Nat.le_of_ble_eq_true rfl) rfl (fun _ _ _ => rfl) dL_law_2825 (fun r17 u17 w17 => ?_)
      obtain rfl := w17
      refine V_ws [(x0, oC 12 [.ref x1, .ref x30, .ref x59, .ref x88, .ref x117, .ref x126, .ref x127, .ref x129, .ref x132, .long 0]), (x1, oC 2 [.ref x2, .ref x4, .ref x6, .ref x8, .ref x10, .ref x12, .ref x14, .ref x16, .ref x18, .ref x20, .ref x27, .int 0]), (x20, oC 4 [.ref x21, .ref x23, .ref x25, .int 0]), (x21, oC 3 [.ref x22, .int 0]), (m0, oC 13 [.ref m1, .ref m2, .int 1, .ref m3, .ref m4, .int 0, .int 0, .int 0, .int (-1), .int 0, .int 0, .int 0, .long 0, .ref m5, .ref m6, .int 0, .int 0]), (m1, aI Y 3640 (clB 0 (fun _ => 0))), (o0, aJ Y 1 (fun _ => 0))] rfl ?_
      refine V_iload 2828 B dL_law_2828 1 rfl ?_
      refine V_icmp_eq_t 2830 B 2835 dL_law_2830 (by decide) (by decide +kernel) ?_
      refine V_iload 2835 B dL_law_2835 1 rfl ?_
      refine V_if_ne_t 2837 B 2859 dL_law_2837 (by decide) (by decide +kernel) ?_
      refine V_goto 2859 B 3332 dL_law_2859 (by decide) ?_
      refine V_iinc 3332 B (v := 6) (lv2 := [(4, .int 6), (6, .int 0), (5, .int 1), (3, .ref o0), (2, .ref m0), (1, .ref x0), (0, .ref b)]) dL_law_3332 2 rfl (by decide +kernel) (by decide) rfl ?_
      refine V_goto 3335 B 23 dL_law_3335 (by decide) ?_
      refine V_iload 23 B dL_law_23 0 rfl ?_
      refine V_aload_n 25 B dL_law_25 6 rfl ?_
      refine V_slen 26 B hX hbl hbA (v := 6) (by decide +kernel) dL_law_26 ?_
      refine V_bipush 27 B (v := 6) dL_law_27 (by decide +kernel) ?_
      refine V_isub 29 B (v := 0) dL_law_29 (by decide +kernel) ?_
      refine V_icmp_gt_t 30 B 3338 dL_law_30 (by decide) (by decide +kernel) ?_
      exact law_end B (Nat.le_of_ble_eq_true rfl) (Nat.le_of_ble_eq_true rfl) dL_law_3338 dL_law_3339
  ·
    refine V_ws [(x0, oC 12 [.ref x1, .ref x30, .ref x59, .ref x88, .ref x117, .ref x126, .ref x127, .ref x129, .ref x132, .long 0]), (x1, oC 2 [.ref x2, .ref x4, .ref x6, .ref x8, .ref x10, .ref x12, .ref x14, .ref x16, .ref x18, .ref x20, .ref x27, .int 0]), (x20, oC 4 [.ref x21, .ref x23, .ref x25, .int 0]), (x21, oC 3 [.ref x22, .int 0]), (m0, oC 13 [.ref m1, .ref m2, .int 0, .ref m3, .ref m4, .int 0, .int 0, .int 0, .int (-1), .int 0, .int 0, .int 0, .long 0, .ref m5, .ref m6, .int 0, .int 0]), (m1, aI Y 3640 (clB 0 (fun _ => 0))), (o0, aJ Y 1 (vp_updL (fun _ => 0) 0 0))] rfl ?_
    refine V_istore 2810 B (lv2 := [(5, .int 0), (4, .int 0), (3, .ref o0), (2, .ref m0), (1, .ref x0), (0, .ref b)]) dL_law_2810 (by decide) rfl ?_
    refine V_aload_n 2812 B dL_law_2812 3 rfl ?_
    refine V_aload_n 2813 B dL_law_2813 5 rfl ?_
    refine V_iload 2814 B dL_law_2814 1 rfl ?_
    refine V_iconst 2816 B (v := 1) dL_law_2816 (by decide +kernel) ?_
    refine V_iadd 2817 B (v := 1) dL_law_2817 (by decide +kernel) ?_
    refine V_sld 2818 B hX hbl hbA (v := p1) (vpin _ _ (by decide +kernel)) dL_law_2818 e1 ?_
    refine V_cvi 2819 B (st := []) (As := [.int p1]) (fun sz => mX12_release_1 l D Y (m0) (m1) (m2) (m3) (m4) (m5) (m6) (p1) sz) glV_RL_318 ⟨rfl, rfl⟩ ⟨(Nat.le_of_ble_eq_true rfl), (Nat.le_of_ble_eq_true rfl)⟩ ⟨(Nat.le_of_ble_eq_true rfl), (Nat.le_of_ble_eq_true rfl)⟩ [4, 0] rfl 13 0 rfl rfl rfl rfl (Nat.le_of_ble_eq_true rfl) rfl (fun _ u _ => by
        first | rfl | (split <;> rfl) | (dsimp only; split <;> rfl)) dL_law_2819 (fun r18 u18 w18 => ?_)
    rcases w18 with ⟨rfl, k19, k20, rfl⟩ | ⟨rfl, k21, rfl⟩ | ⟨rfl, k22, rfl⟩
    ·
      refine V_ws [(x0, oC 12 [.ref x1, .ref x30, .ref x59, .ref x88, .ref x117, .ref x126, .ref x127, .ref x129, .ref x132, .long 0]), (x1, oC 2 [.ref x2, .ref x4, .ref x6, .ref x8, .ref x10, .ref x12, .ref x14, .ref x16, .ref x18, .ref x20, .ref x27, .int 0]), (x20, oC 4 [.ref x21, .ref x23, .ref x25, .int 0]), (x21, oC 3 [.ref x22, .int 0]), (m0, oC 13 [.ref m1, .ref m2, .int 0, .ref m3, .ref m4, .int 0, .int 0, .int 0, .int (-1), .int 0, .int 0, .int 0, .long 0, .ref m5, .ref m6, .int 0, .int 0]), (m1, aI Y 3640 (clB 0 (fun _ => 0))), (o0, aJ Y 1 (vp_updL (fun _ => 0) 0 0))] rfl ?_
      refine V_istore 2822 B (lv2 := [(6, .int 0), (5, .int 0), (4, .int 0), (3, .ref o0), (2, .ref m0), (1, .ref x0), (0, .ref b)]) dL_law_2822 (by decide) rfl ?_
      refine V_aload_n 2824 B dL_law_2824 4 rfl ?_
      refine V_cvi 2825 B (st := []) (As := []) (fun sz => mX12_thrown_1 l D Y (m0) (m1) (m2) (m3) (m4) (m5) (m6) sz) glV_RL_182 ⟨rfl, rfl⟩ ⟨(Nat.le_of_ble_eq_true rfl), (Nat.le_of_ble_eq_true rfl)⟩ ⟨(Nat.le_of_ble_eq_true rfl), (Nat.le_of_ble_eq_true rfl)⟩ [4] rfl 13 0 rfl rfl rfl rfl (Nat.le_of_ble_eq_true rfl) rfl (fun _ _ _ => rfl) dL_law_2825 (fun r23 u23 w23 => ?_)
      obtain rfl := w23
      refine V_ws [(x0, oC 12 [.ref x1, .ref x30, .ref x59, .ref x88, .ref x117, .ref x126, .ref x127, .ref x129, .ref x132, .long 0]), (x1, oC 2 [.ref x2, .ref x4, .ref x6, .ref x8, .ref x10, .ref x12, .ref x14, .ref x16, .ref x18, .ref x20, .ref x27, .int 0]), (x20, oC 4 [.ref x21, .ref x23, .ref x25, .int 0]), (x21, oC 3 [.ref x22, .int 0]), (m0, oC 13 [.ref m1, .ref m2, .int 0, .ref m3, .ref m4, .int 0, .int 0, .int 0, .int (-1), .int 0, .int 0, .int 0, .long 0, .ref m5, .ref m6, .int 0, .int 0]), (m1, aI Y 3640 (clB 0 (fun _ => 0))), (o0, aJ Y 1 (vp_updL (fun _ => 0) 0 0))] rfl ?_
      refine V_iload 2828 B dL_law_2828 1 rfl ?_
      refine V_icmp_eq_t 2830 B 2835 dL_law_2830 (by decide) (by decide +kernel) ?_
      refine V_iload 2835 B dL_law_2835 1 rfl ?_
      refine V_if_ne_f 2837 B 2859 dL_law_2837 (by decide) (by decide +kernel) ?_
      refine V_aload_n 2840 B dL_law_2840 3 rfl ?_
      refine V_iconst 2841 B (v := 0) dL_law_2841 (by decide +kernel) ?_
      refine V_lald 2842 B (v := 0) 6 rfl (vpin _ _ (by decide +kernel)) dL_law_2842 rfl ?_
      refine V_iload 2843 B dL_law_2843 0 rfl ?_
      refine V_if_eq_t 2845 B 2852 dL_law_2845 (by decide) (by decide +kernel) ?_
      refine V_lconst 2852 B (v := 0) dL_law_2852 (by decide +kernel) ?_
      refine V_lcmp 2853 B (v := 0) dL_law_2853 (by decide +kernel) ?_
      refine V_if_eq_t 2854 B 2859 dL_law_2854 (by decide) (by decide +kernel) ?_
      refine V_goto 2859 B 3332 dL_law_2859 (by decide) ?_
      refine V_iinc 3332 B (v := 6) (lv2 := [(4, .int 6), (6, .int 0), (5, .int 0), (3, .ref o0), (2, .ref m0), (1, .ref x0), (0, .ref b)]) dL_law_3332 2 rfl (by decide +kernel) (by decide) rfl ?_
      refine V_goto 3335 B 23 dL_law_3335 (by decide) ?_
      refine V_iload 23 B dL_law_23 0 rfl ?_
      refine V_aload_n 25 B dL_law_25 6 rfl ?_
      refine V_slen 26 B hX hbl hbA (v := 6) (by decide +kernel) dL_law_26 ?_
      refine V_bipush 27 B (v := 6) dL_law_27 (by decide +kernel) ?_
      refine V_isub 29 B (v := 0) dL_law_29 (by decide +kernel) ?_
      refine V_icmp_gt_t 30 B 3338 dL_law_30 (by decide) (by decide +kernel) ?_
      exact law_end B (Nat.le_of_ble_eq_true rfl) (Nat.le_of_ble_eq_true rfl) dL_law_3338 dL_law_3339
    ·
      refine V_ws [(x0, oC 12 [.ref x1, .ref x30, .ref x59, .ref x88, .ref x117, .ref x126, .ref x127, .ref x129, .ref x132, .long 0]), (x1, oC 2 [.ref x2, .ref x4, .ref x6, .ref x8, .ref x10, .ref x12, .ref x14, .ref x16, .ref x18, .ref x20, .ref x27, .int 0]), (x20, oC 4 [.ref x21, .ref x23, .ref x25, .int 0]), (x21, oC 3 [.ref x22, .int 0]), (m0, oC 13 [.ref m1, .ref m2, .int 1, .ref m3, .ref m4, .int 0, .int 0, .int 0, .int (-1), .int 0, .int 0, .int 0, .long 0, .ref m5, .ref m6, .int 0, .int 0]), (m1, aI Y 3640 (clB 0 (fun _ => 0))), (o0, aJ Y 1 (vp_updL (fun _ => 0) 0 0))] rfl ?_
      exact (q_abs (b_nlt k4 (n := 0) (by decide +kernel)) (b_lt k21 (n := (-1)) (by decide +kernel)) (by decide +kernel)).elim
    ·
      refine V_ws [(x0, oC 12 [.ref x1, .ref x30, .ref x59, .ref x88, .ref x117, .ref x126, .ref x127, .ref x129, .ref x132, .long 0]), (x1, oC 2 [.ref x2, .ref x4, .ref x6, .ref x8, .ref x10, .ref x12, .ref x14, .ref x16, .ref x18, .ref x20, .ref x27, .int 0]), (x20, oC 4 [.ref x21, .ref x23, .ref x25, .int 0]), (x21, oC 3 [.ref x22, .int 0]), (m0, oC 13 [.ref m1, .ref m2, .int 1, .ref m3, .ref m4, .int 0, .int 0, .int 0, .int (-1), .int 0, .int 0, .int 0, .long 0, .ref m5, .ref m6, .int 0, .int 0]), (m1, aI Y 3640 (clB 0 (fun _ => 0))), (o0, aJ Y 1 (vp_updL (fun _ => 0) 0 0))] rfl ?_
      exact (q_abs (b_gt k22 (n := 26) (by decide +kernel)) (b_lt k5 (n := 25) (by decide +kernel)) (by decide +kernel)).elim
theorem dL_type_0 : decode cL_type 0 = .ok (.aload_n 2, 1) := by decide +kernel
theorem dL_type_1 : decode cL_type 1 = .ok (.iconst 0, 1) := by decide +kernel
theorem dL_type_2 : decode cL_type 2 = .ok (.aload_n 0, 1) := by decide +kernel
theorem dL_type_3 : decode cL_type 3 = .ok (.iload_n 1, 1) := by decide +kernel
theorem dL_type_4 : decode cL_type 4 = .ok (.invokevirtual 131, 3) := by decide +kernel
theorem glV_RL_131 : GLV RL 131 yX11_type RX11 cX11_type 2 (some .int) 1 := ⟨⟨(mT7 74 rfl rfl), (mT7 75 rfl rfl), (mT7 76 rfl rfl), (mT1 1 rfl rfl), (mT7 77 rfl rfl)⟩, by decide +kernel⟩
theorem dL_type_12 : decode cL_type 12 = .ok (.astore_n 3, 1) := by decide +kernel
theorem dL_type_13 : decode cL_type 13 = .ok (.iconst 1, 1) := by decide +kernel
theorem dL_type_14 : decode cL_type 14 = .ok (.ireturn, 1) := by decide +kernel
theorem dL_type_7 : decode cL_type 7 = .ok (.i2l, 1) := by decide +kernel
theorem dL_type_8 : decode cL_type 8 = .ok (.lastore, 1) := by decide +kernel
theorem dL_type_9 : decode cL_type 9 = .ok (.goto 6, 3) := by decide +kernel
theorem dL_type_15 : decode cL_type 15 = .ok (.iconst 0, 1) := by decide +kernel
theorem dL_type_16 : decode cL_type 16 = .ok (.ireturn, 1) := by decide +kernel
set_option maxRecDepth 100000 in
set_option maxHeartbeats 4000000 in
theorem mL_type_1 (l : Launch) (hl9 : l.stackTraces = false) (D : va_G) (Y : Nat → ClassId) (h0 : Nat) (h10 : Nat) (h1 : Nat) (g0 : Nat) (g1 : Nat) (g2 : Nat) (h6 : Nat) (h9 : Nat) (g3 : Nat) (g4 : Nat) (g5 : Nat) (h2 : Nat) (g6 : Nat) (g7 : Nat) (g8 : Nat) (g9 : Nat) (h4 : Nat) (g10 : Nat) (g11 : Nat) (g12 : Nat) (g13 : Nat) (h5 : Nat) (h3 : Nat) (g14 : Nat) (g15 : Nat) (h7 : Nat) (g16 : Nat) (g17 : Nat) (g18 : Nat) (h8 : Nat) (p0 : Int32) (sz : Nat) : Met l yL_type (Cond.codeWith yL_type cL_type 4 (some .int) [(0, 9, 12, 13)] :: lw_good) (mkR 8 1 6 123) (PreX D Y [.ref h0, .int p0, .ref h10] [(h0, oC 12 [.ref h1, .ref g0, .ref g1, .ref g2, .ref h6, .ref h9, .ref g3, .ref g4, .ref g5, .long 0]), (h1, oC 2 [.ref h2, .ref g6, .ref g7, .ref g8, .ref g9, .ref h4, .ref g10, .ref g11, .ref g12, .ref g13, .ref h5, .int 0]), (h2, oC 3 [.ref h3, .int 1]), (h3, aI Y 6 (upd (fun _ => 0) 0 (-1))), (h4, oC 3 [.ref g14, .int 0]), (h5, oC 9 [.ref g15, .int 0, .long 0, .int (-1), .int 0, .int 0, .int 0, .int 0, .int 0]), (h6, oC 11 [.ref h1, .ref h7, .ref g16, .ref g17, .ref g18]), (h7, oC 3 [.ref h8, .int 0]), (h8, aI Y 6 (fun _ => 0)), (h9, oC 10 [.ref h1, .ref h6]), (h10, aJ Y 1 (fun _ => 0))] sz) (QI D (fun (r : Int32) (u : Nat) => (u = 0 ∧ p0 < 0 ∧ 1 = r) ∨ (u = 1 ∧ ¬ p0 < 0 ∧ 512 ≤ p0 ∧ 1 = r) ∨ (u = 2 ∧ ¬ p0 < 0 ∧ ¬ 512 ≤ p0 ∧ 26 ≤ (p0 &&& 31) ∧ 1 = r) ∨ (u = 3 ∧ ¬ p0 < 0 ∧ ¬ 512 ≤ p0 ∧ ¬ 26 ≤ (p0 &&& 31) ∧ 0 = r)) (fun (u : Nat) => match u with | 0 => [(h0, oC 12 [.ref h1, .ref g0, .ref g1, .ref g2, .ref h6, .ref h9, .ref g3, .ref g4, .ref g5, .long 0]), (h1, oC 2 [.ref h2, .ref g6, .ref g7, .ref g8, .ref g9, .ref h4, .ref g10, .ref g11, .ref g12, .ref g13, .ref h5, .int 0]), (h2, oC 3 [.ref h3, .int 1]), (h3, aI Y 6 (upd (fun _ => 0) 0 (-1))), (h4, oC 3 [.ref g14, .int 0]), (h5, oC 9 [.ref g15, .int 0, .long 0, .int (-1), .int 0, .int 0, .int 0, .int 0, .int 0]), (h6, oC 11 [.ref h1, .ref h7, .ref g16, .ref g17, .ref g18]), (h7, oC 3 [.ref h8, .int 0]), (h8, aI Y 6 (fun _ => 0)), (h9, oC 10 [.ref h1, .ref h6]), (h10, aJ Y 1 (fun _ => 0))] | 1 => [(h0, oC 12 [.ref h1, .ref g0, .ref g1, .ref g2, .ref h6, .ref h9, .ref g3, .ref g4, .ref g5, .long 0]), (h1, oC 2 [.ref h2, .ref g6, .ref g7, .ref g8, .ref g9, .ref h4, .ref g10, .ref g11, .ref g12, .ref g13, .ref h5, .int 0]), (h2, oC 3 [.ref h3, .int 1]), (h3, aI Y 6 (upd (fun _ => 0) 0 (-1))), (h4, oC 3 [.ref g14, .int 0]), (h5, oC 9 [.ref g15, .int 0, .long 0, .int (-1), .int 0, .int 0, .int 0, .int 0, .int 0]), (h6, oC 11 [.ref h1, .ref h7, .ref g16, .ref g17, .ref g18]), (h7, oC 3 [.ref h8, .int 0]), (h8, aI Y 6 (fun _ => 0)), (h9, oC 10 [.ref h1, .ref h6]), (h10, aJ Y 1 (fun _ => 0))] | 2 => [(h0, oC 12 [.ref h1, .ref g0, .ref g1, .ref g2, .ref h6, .ref h9, .ref g3, .ref g4, .ref g5, .long 0]), (h1, oC 2 [.ref h2, .ref g6, .ref g7, .ref g8, .ref g9, .ref h4, .ref g10, .ref g11, .ref g12, .ref g13, .ref h5, .int 0]), (h2, oC 3 [.ref h3, .int 1]), (h3, aI Y 6 (upd (fun _ => 0) 0 (-1))), (h4, oC 3 [.ref g14, .int 0]), (h5, oC 9 [.ref g15, .int 0, .long 0, .int (-1), .int 0, .int 0, .int 0, .int 0, .int 0]), (h6, oC 11 [.ref h1, .ref h7, .ref g16, .ref g17, .ref g18]), (h7, oC 3 [.ref h8, .int 0]), (h8, aI Y 6 (fun _ => 0)), (h9, oC 10 [.ref h1, .ref h6]), (h10, aJ Y 1 (fun _ => 0))] | _ => [(h0, oC 12 [.ref h1, .ref g0, .ref g1, .ref g2, .ref h6, .ref h9, .ref g3, .ref g4, .ref g5, .long 0]), (h1, oC 2 [.ref h2, .ref g6, .ref g7, .ref g8, .ref g9, .ref h4, .ref g10, .ref g11, .ref g12, .ref g13, .ref h5, .int 0]), (h2, oC 3 [.ref h3, .int 1]), (h3, aI Y 6 (upd (fun _ => 0) 0 (-1))), (h4, oC 3 [.ref g14, .int 0]), (h5, oC 9 [.ref g15, .int 0, .long 0, .int (-1), .int 1, .int 1, .int 0, .int 0, .int 0]), (h6, oC 11 [.ref h1, .ref h7, .ref g16, .ref g17, .ref g18]), (h7, oC 3 [.ref h8, .int 6]), (h8, aI Y 6 (upd (upd (upd (upd (upd (upd (upd (fun _ => 0) 0 (-1)) 1 (-1)) 2 (-1)) 3 (-1)) 4 (-1)) 5 (-1)) 0 0)), (h9, oC 10 [.ref h1, .ref h6]), (h10, aJ Y 1 (vp_updL (fun _ => 0) 0 (-1)))]) (va_A [(h0, oC 12 [.ref h1, .ref g0, .ref g1, .ref g2, .ref h6, .ref h9, .ref g3, .ref g4, .ref g5, .long 0]), (h1, oC 2 [.ref h2, .ref g6, .ref g7, .ref g8, .ref g9, .ref h4, .ref g10, .ref g11, .ref g12, .ref g13, .ref h5, .int 0]), (h2, oC 3 [.ref h3, .int 1]), (h3, aI Y 6 (upd (fun _ => 0) 0 (-1))), (h4, oC 3 [.ref g14, .int 0]), (h5, oC 9 [.ref g15, .int 0, .long 0, .int (-1), .int 0, .int 0, .int 0, .int 0, .int 0]), (h6, oC 11 [.ref h1, .ref h7, .ref g16, .ref g17, .ref g18]), (h7, oC 3 [.ref h8, .int 0]), (h8, aI Y 6 (fun _ => 0)), (h9, oC 10 [.ref h1, .ref h6]), (h10, aJ Y 1 (fun _ => 0))] sz)) 1 6 (va_A [(h0, oC 12 [.ref h1, .ref g0, .ref g1, .ref g2, .ref h6, .ref h9, .ref g3, .ref g4, .ref g5, .long 0]), (h1, oC 2 [.ref h2, .ref g6, .ref g7, .ref g8, .ref g9, .ref h4, .ref g10, .ref g11, .ref g12, .ref g13, .ref h5, .int 0]), (h2, oC 3 [.ref h3, .int 1]), (h3, aI Y 6 (upd (fun _ => 0) 0 (-1))), (h4, oC 3 [.ref g14, .int 0]), (h5, oC 9 [.ref g15, .int 0, .long 0, .int (-1), .int 0, .int 0, .int 0, .int 0, .int 0]), (h6, oC 11 [.ref h1, .ref h7, .ref g16, .ref g17, .ref g18]), (h7, oC 3 [.ref h8, .int 0]), (h8, aI Y 6 (fun _ => 0)), (h9, oC 10 [.ref h1, .ref h6]), (h10, aJ Y 1 (fun _ => 0))] sz) :=
  metH_of (by decide +kernel) (Nat.le_of_ble_eq_true rfl) (fun p e s m args below meth c B EB htab hsz => by
    have B : VB p s m args meth c D Y (va_A [(h0, oC 12 [.ref h1, .ref g0, .ref g1, .ref g2, .ref h6, .ref h9, .ref g3, .ref g4, .ref g5, .long 0]), (h1, oC 2 [.ref h2, .ref g6, .ref g7, .ref g8, .ref g9, .ref h4, .ref g10, .ref g11, .ref g12, .ref g13, .ref h5, .int 0]), (h2, oC 3 [.ref h3, .int 1]), (h3, aI Y 6 (upd (fun _ => 0) 0 (-1))), (h4, oC 3 [.ref g14, .int 0]), (h5, oC 9 [.ref g15, .int 0, .long 0, .int (-1), .int 0, .int 0, .int 0, .int 0, .int 0]), (h6, oC 11 [.ref h1, .ref h7, .ref g16, .ref g17, .ref g18]), (h7, oC 3 [.ref h8, .int 0]), (h8, aI Y 6 (fun _ => 0)), (h9, oC 10 [.ref h1, .ref h6]), (h10, aJ Y 1 (fun _ => 0))] sz) cL_type 4 RL (some .int) := B
    refine V_aload_n 0 B dL_type_0 2 rfl ?_
    refine V_iconst 1 B (v := 0) dL_type_1 (by decide +kernel) ?_
    refine V_aload_n 2 B dL_type_2 0 rfl ?_
    refine V_iload_n 3 B dL_type_3 1 rfl ?_
    refine V_xvi 4 B EB (st := [.int 0, .ref h10]) (As := [.int p0]) (fun sz => mX11_type_1 l hl9 D Y (h0) (h1) (g0) (g1) (g2) (h6) (h9) (g3) (g4) (g5) (h2) (g6) (g7) (g8) (g9) (h4) (g10) (g11) (g12) (g13) (h5) (h3) (g14) (g15) (h7) (g16) (g17) (g18) (h8) (p0) sz) glV_RL_131 ⟨rfl, rfl⟩ ⟨(Nat.le_of_ble_eq_true rfl), (Nat.le_of_ble_eq_true rfl)⟩ ⟨(Nat.le_of_ble_eq_true rfl), (Nat.le_of_ble_eq_true rfl)⟩ [0, 0, 0, 0, 0, 0, 0, 0, 0, 0] rfl 12 0 rfl rfl rfl rfl (Nat.le_of_ble_eq_true rfl) rfl (fun _ _ _ => rfl) (fun _ _ _ => rfl) dL_type_4 (fun E u0 w0 => ?_) (fun r0 u0 w0 => ?_)
    ·
      rcases w0 with ⟨rfl, k1⟩ | ⟨rfl, k2, k3⟩ | ⟨rfl, k4, k5, k6⟩
      ·
        refine VX_catch 4 B htab [] (0, 9, 12, 13) [] rfl "java/lang/IllegalArgumentException" (fun z hz => nomatch hz) rfl (by decide) (mT5 20 rfl rfl) (EB.2.2.2.1 _ (List.mem_of_getElem? (i := 0) rfl)) 12 rfl (fun q9 => ?_)
        refine V_ws [(h0, oC 12 [.ref h1, .ref g0, .ref g1, .ref g2, .ref h6, .ref h9, .ref g3, .ref g4, .ref g5, .long 0]), (h1, oC 2 [.ref h2, .ref g6, .ref g7, .ref g8, .ref g9, .ref h4, .ref g10, .ref g11, .ref g12, .ref g13, .ref h5, .int 0]), (h2, oC 3 [.ref h3, .int 1]), (h3, aI Y 6 (upd (fun _ => 0) 0 (-1))), (h4, oC 3 [.ref g14, .int 0]), (h5, oC 9 [.ref g15, .int 0, .long 0, .int (-1), .int 0, .int 0, .int 0, .int 0, .int 0]), (h6, oC 11 [.ref h1, .ref h7, .ref g16, .ref g17, .ref g18]), (h7, oC 3 [.ref h8, .int 0]), (h8, aI Y 6 (fun _ => 0)), (h9, oC 10 [.ref h1, .ref h6]), (h10, aJ Y 1 (fun _ => 0))] rfl ?_
        refine V_astore_n 12 B (lv2 := [(3, .ref q9), (0, .ref h0), (1, .int p0), (2, .ref h10)]) dL_type_12 (by decide) rfl ?_
        refine V_iconst 13 B (v := 1) dL_type_13 (by decide +kernel) ?_
        exact V_iret 14 B dL_type_14 0 (Or.inl ⟨rfl, k1, rfl⟩) rfl
      ·
        refine VX_catch 4 B htab [] (0, 9, 12, 13) [] rfl "java/lang/IllegalArgumentException" (fun z hz => nomatch hz) rfl (by decide) (mT5 20 rfl rfl) (EB.2.2.2.1 _ (List.mem_of_getElem? (i := 0) rfl)) 12 rfl (fun q9 => ?_)
        refine V_ws [(h0, oC 12 [.ref h1, .ref g0, .ref g1, .ref g2, .ref h6, .ref h9, .ref g3, .ref g4, .ref g5, .long 0]), (h1, oC 2 [.ref h2, .ref g6, .ref g7, .ref g8, .ref g9, .ref h4, .ref g10, .ref g11, .ref g12, .ref g13, .ref h5, .int 0]), (h2, oC 3 [.ref h3, .int 1]), (h3, aI Y 6 (upd (fun _ => 0) 0 (-1))), (h4, oC 3 [.ref g14, .int 0]), (h5, oC 9 [.ref g15, .int 0, .long 0, .int (-1), .int 0, .int 0, .int 0, .int 0, .int 0]), (h6, oC 11 [.ref h1, .ref h7, .ref g16, .ref g17, .ref g18]), (h7, oC 3 [.ref h8, .int 0]), (h8, aI Y 6 (fun _ => 0)), (h9, oC 10 [.ref h1, .ref h6]), (h10, aJ Y 1 (fun _ => 0))] rfl ?_
        refine V_astore_n 12 B (lv2 := [(3, .ref q9), (0, .ref h0), (1, .int p0), (2, .ref h10)]) dL_type_12 (by decide) rfl ?_
        refine V_iconst 13 B (v := 1) dL_type_13 (by decide +kernel) ?_
        exact V_iret 14 B dL_type_14 1 (Or.inr (Or.inl ⟨rfl, k2, k3, rfl⟩)) rfl
      ·
        refine VX_catch 4 B htab [] (0, 9, 12, 13) [] rfl "java/lang/IllegalArgumentException" (fun z hz => nomatch hz) rfl (by decide) (mT5 20 rfl rfl) (EB.2.2.2.1 _ (List.mem_of_getElem? (i := 0) rfl)) 12 rfl (fun q9 => ?_)
        refine V_ws [(h0, oC 12 [.ref h1, .ref g0, .ref g1, .ref g2, .ref h6, .ref h9, .ref g3, .ref g4, .ref g5, .long 0]), (h1, oC 2 [.ref h2, .ref g6, .ref g7, .ref g8, .ref g9, .ref h4, .ref g10, .ref g11, .ref g12, .ref g13, .ref h5, .int 0]), (h2, oC 3 [.ref h3, .int 1]), (h3, aI Y 6 (upd (fun _ => 0) 0 (-1))), (h4, oC 3 [.ref g14, .int 0]), (h5, oC 9 [.ref g15, .int 0, .long 0, .int (-1), .int 0, .int 0, .int 0, .int 0, .int 0]), (h6, oC 11 [.ref h1, .ref h7, .ref g16, .ref g17, .ref g18]), (h7, oC 3 [.ref h8, .int 0]), (h8, aI Y 6 (fun _ => 0)), (h9, oC 10 [.ref h1, .ref h6]), (h10, aJ Y 1 (fun _ => 0))] rfl ?_
        refine V_astore_n 12 B (lv2 := [(3, .ref q9), (0, .ref h0), (1, .int p0), (2, .ref h10)]) dL_type_12 (by decide) rfl ?_
        refine V_iconst 13 B (v := 1) dL_type_13 (by decide +kernel) ?_
        exact V_iret 14 B dL_type_14 2 (Or.inr (Or.inr (Or.inl ⟨rfl, k4, k5, k6, rfl⟩))) rfl
    ·
      obtain ⟨k7, k8, k9, rfl⟩ := w0
      refine V_ws [(h0, oC 12 [.ref h1, .ref g0, .ref g1, .ref g2, .ref h6, .ref h9, .ref g3, .ref g4, .ref g5, .long 0]), (h1, oC 2 [.ref h2, .ref g6, .ref g7, .ref g8, .ref g9, .ref h4, .ref g10, .ref g11, .ref g12, .ref g13, .ref h5, .int 0]), (h2, oC 3 [.ref h3, .int 1]), (h3, aI Y 6 (upd (fun _ => 0) 0 (-1))), (h4, oC 3 [.ref g14, .int 0]), (h5, oC 9 [.ref g15, .int 0, .long 0, .int (-1), .int 1, .int 1, .int 0, .int 0, .int 0]), (h6, oC 11 [.ref h1, .ref h7, .ref g16, .ref g17, .ref g18]), (h7, oC 3 [.ref h8, .int 6]), (h8, aI Y 6 (upd (upd (upd (upd (upd (upd (upd (fun _ => 0) 0 (-1)) 1 (-1)) 2 (-1)) 3 (-1)) 4 (-1)) 5 (-1)) 0 0)), (h9, oC 10 [.ref h1, .ref h6]), (h10, aJ Y 1 (fun _ => 0))] rfl ?_
      refine V_i2l 7 B (v := (-1)) dL_type_7 (by decide +kernel) ?_
      refine V_last 8 B 10 rfl (vpin _ _ (by decide +kernel)) dL_type_8 [(h0, oC 12 [.ref h1, .ref g0, .ref g1, .ref g2, .ref h6, .ref h9, .ref g3, .ref g4, .ref g5, .long 0]), (h1, oC 2 [.ref h2, .ref g6, .ref g7, .ref g8, .ref g9, .ref h4, .ref g10, .ref g11, .ref g12, .ref g13, .ref h5, .int 0]), (h2, oC 3 [.ref h3, .int 1]), (h3, aI Y 6 (upd (fun _ => 0) 0 (-1))), (h4, oC 3 [.ref g14, .int 0]), (h5, oC 9 [.ref g15, .int 0, .long 0, .int (-1), .int 1, .int 1, .int 0, .int 0, .int 0]), (h6, oC 11 [.ref h1, .ref h7, .ref g16, .ref g17, .ref g18]), (h7, oC 3 [.ref h8, .int 6]), (h8, aI Y 6 (upd (upd (upd (upd (upd (upd (upd (fun _ => 0) 0 (-1)) 1 (-1)) 2 (-1)) 3 (-1)) 4 (-1)) 5 (-1)) 0 0)), (h9, oC 10 [.ref h1, .ref h6]), (h10, aJ Y 1 (vp_updL (fun _ => 0) 0 (-1)))] rfl ?_
      refine V_goto 9 B 15 dL_type_9 (by decide) ?_
      refine V_iconst 15 B (v := 0) dL_type_15 (by decide +kernel) ?_
      exact V_iret 16 B dL_type_16 3 (Or.inr (Or.inr (Or.inr ⟨rfl, k7, k8, k9, rfl⟩))) rfl)
theorem dL_law_2862 : decode cL_law 2862 = .ok (.aload_n 1, 1) := by decide +kernel
theorem dL_law_2863 : decode cL_law 2863 = .ok (.aload_n 0, 1) := by decide +kernel
theorem dL_law_2864 : decode cL_law 2864 = .ok (.iload 4, 2) := by decide +kernel
theorem dL_law_2866 : decode cL_law 2866 = .ok (.iconst 1, 1) := by decide +kernel
theorem dL_law_2867 : decode cL_law 2867 = .ok (.iadd, 1) := by decide +kernel
theorem dL_law_2868 : decode cL_law 2868 = .ok (.iaload, 1) := by decide +kernel
theorem dL_law_2869 : decode cL_law 2869 = .ok (.aload_n 3, 1) := by decide +kernel
theorem dL_law_2870 : decode cL_law 2870 = .ok (.invokestatic 319, 3) := by decide +kernel
theorem glH_RL_319 : GLH RL 319 yL_type cL_type 4 (some .int) [(0, 9, 12, 13)] 3 := ⟨⟨(mT7 71 rfl rfl), (mT7 72 rfl rfl), (mT1 0 rfl rfl), (mT7 73 rfl rfl)⟩, by decide +kernel⟩
theorem dL_law_2873 : decode cL_law 2873 = .ok (.istore 5, 2) := by decide +kernel
theorem dL_law_2875 : decode cL_law 2875 = .ok (.aload_n 2, 1) := by decide +kernel
theorem dL_law_2876 : decode cL_law 2876 = .ok (.aload_n 0, 1) := by decide +kernel
theorem dL_law_2877 : decode cL_law 2877 = .ok (.iload 4, 2) := by decide +kernel
theorem dL_law_2879 : decode cL_law 2879 = .ok (.iconst 1, 1) := by decide +kernel
theorem dL_law_2880 : decode cL_law 2880 = .ok (.iadd, 1) := by decide +kernel
theorem dL_law_2881 : decode cL_law 2881 = .ok (.iaload, 1) := by decide +kernel
theorem dL_law_2882 : decode cL_law 2882 = .ok (.invokevirtual 321, 3) := by decide +kernel
theorem glV_RL_321 : GLV RL 321 yX12_type RX12 cX12_type 2 (some .int) 1 := ⟨⟨(mT9 113 rfl rfl), (mT9 114 rfl rfl), (mT9 115 rfl rfl), (mT1 13 rfl rfl), (mT9 116 rfl rfl)⟩, by decide +kernel⟩
theorem dL_law_2885 : decode cL_law 2885 = .ok (.istore 6, 2) := by decide +kernel
theorem dL_law_2887 : decode cL_law 2887 = .ok (.aload_n 2, 1) := by decide +kernel
theorem dL_law_2888 : decode cL_law 2888 = .ok (.invokevirtual 182, 3) := by decide +kernel
theorem dL_law_2891 : decode cL_law 2891 = .ok (.iload 5, 2) := by decide +kernel
theorem dL_law_2893 : decode cL_law 2893 = .ok (.if_icmp .eq 5, 3) := by decide +kernel
theorem dL_law_2898 : decode cL_law 2898 = .ok (.iload 5, 2) := by decide +kernel
theorem dL_law_2900 : decode cL_law 2900 = .ok (.ifCond .ne 15, 3) := by decide +kernel
theorem dL_law_2915 : decode cL_law 2915 = .ok (.goto 417, 3) := by decide +kernel
theorem dL_law_2903 : decode cL_law 2903 = .ok (.aload_n 3, 1) := by decide +kernel
theorem dL_law_2904 : decode cL_law 2904 = .ok (.iconst 0, 1) := by decide +kernel
theorem dL_law_2905 : decode cL_law 2905 = .ok (.laload, 1) := by decide +kernel
theorem dL_law_2906 : decode cL_law 2906 = .ok (.iload 6, 2) := by decide +kernel
theorem dL_law_2908 : decode cL_law 2908 = .ok (.i2l, 1) := by decide +kernel
theorem dL_law_2909 : decode cL_law 2909 = .ok (.lcmp, 1) := by decide +kernel
theorem dL_law_2910 : decode cL_law 2910 = .ok (.ifCond .eq 5, 3) := by decide +kernel
set_option maxRecDepth 100000 in
set_option maxHeartbeats 4000000 in
theorem law_c49 {p : Program} {l : Launch} {e : Env} {s : State} {m : MethodId} {below : List Frame} {meth : Method} {c : Code} {b : Nat} {xs : Nat → Int32} {D : va_G} {Y : Nat → ClassId} (B : VB p s m #[Value.ref b] meth c D Y (fun q => s.heap.size ≤ q) cL_law 8 RL ret) (EB : EX (fun q => s.heap.size ≤ q) s s.heap) (hl9 : l.stackTraces = false) (hX : va_X b 6 xs s s.heap) (hbl : b < s.heap.size) (hbA : ¬ (fun q => s.heap.size ≤ q) b) (x0 x1 x30 x59 x88 x117 x126 x127 x129 x132 x2 x4 x6 x8 x10 x12 x14 x16 x18 x20 x27 x3 x13 x28 x118 x120 x122 x124 x119 m0 m1 m2 m3 m4 m5 m6 o0 : Nat) (p1 : Int32) (e1 : xs 1 = p1) : V p l e room_1 s m #[Value.ref b] below meth c D (fun q => s.heap.size ≤ q) 8 149 10574 (lw_Z below #[Value.ref b] s) 2862 [(4, .int 0), (3, .ref o0), (2, .ref m0), (1, .ref x0), (0, .ref b)] [] [(x0, oC 12 [.ref x1, .ref x30, .ref x59, .ref x88, .ref x117, .ref x126, .ref x127, .ref x129, .ref x132, .long 0]), (x1, oC 2 [.ref x2, .ref x4, .ref x6, .ref x8, .ref x10, .ref x12, .ref x14, .ref x16, .ref x18, .ref x20, .ref x27, .int 0]), (x2, oC 3 [.ref x3, .int 1]), (x3, aI Y 6 (upd (fun _ => 0) 0 (-1))), (x12, oC 3 [.ref x13, .int 0]), (x27, oC 9 [.ref x28, .int 0, .long 0, .int (-1), .int 0, .int 0, .int 0, .int 0, .int 0]), (x117, oC 11 [.ref x1, .ref x118, .ref x120, .ref x122, .ref x124]), (x118, oC 3 [.ref x119, .int 0]), (x119, aI Y 6 (fun _ => 0)), (x126, oC 10 [.ref x1, .ref x117]), (m0, oC 13 [.ref m1, .ref m2, .int 0, .ref m3, .ref m4, .int 0, .int 0, .int 0, .int (-1), .int 0, .int 0, .int 0, .long 0, .ref m5, .ref m6, .int 0, .int 0]), (m1, aI Y 3640 (clB 0 (fun _ => 0))), (o0, aJ Y 1 (fun _ => 0))] := by
  refine V_aload_n 2862 B dL_law_2862 3 rfl ?_
  refine V_aload_n 2863 B dL_law_2863 4 rfl ?_
  refine V_iload 2864 B dL_law_2864 0 rfl ?_
  refine V_iconst 2866 B (v := 1) dL_law_2866 (by decide +kernel) ?_
  refine V_iadd 2867 B (v := 1) dL_law_2867 (by decide +kernel) ?_
  refine V_sld 2868 B hX hbl hbA (v := p1) (vpin _ _ (by decide +kernel)) dL_law_2868 e1 ?_
  refine V_aload_n 2869 B dL_law_2869 1 rfl ?_
  refine V_hsi 2870 B EB (st := []) (As := [.ref x0, .int p1, .ref o0]) (fun sz => mL_type_1 l hl9 D Y (x0) (o0) (x1) (x30) (x59) (x88) (x117) (x126) (x127) (x129) (x132) (x2) (x4) (x6) (x8) (x10) (x12) (x14) (x16) (x18) (x20) (x27) (x3) (x13) (x28) (x118) (x120) (x122) (x124) (x119) (p1) sz) glH_RL_319 ⟨rfl, rfl⟩ ⟨(Nat.le_of_ble_eq_true rfl), (Nat.le_of_ble_eq_true rfl)⟩ ⟨(Nat.le_of_ble_eq_true rfl), (Nat.le_of_ble_eq_true rfl)⟩ [0, 0, 0, 0, 0, 0, 0, 0, 0, 0, 2] rfl rfl (Nat.le_of_ble_eq_true rfl) rfl (fun _ u _ => by
        first | rfl | (split <;> rfl) | (dsimp only; split <;> rfl)) dL_law_2870 (fun r0 u0 w0 => ?_)
  rcases w0 with ⟨rfl, k1, rfl⟩ | ⟨rfl, k2, k3, rfl⟩ | ⟨rfl, k4, k5, k6, rfl⟩ | ⟨rfl, k7, k8, k9, rfl⟩
  ·
    refine V_ws [(x0, oC 12 [.ref x1, .ref x30, .ref x59, .ref x88, .ref x117, .ref x126, .ref x127, .ref x129, .ref x132, .long 0]), (x1, oC 2 [.ref x2, .ref x4, .ref x6, .ref x8, .ref x10, .ref x12, .ref x14, .ref x16, .ref x18, .ref x20, .ref x27, .int 0]), (x2, oC 3 [.ref x3, .int 1]), (x3, aI Y 6 (upd (fun _ => 0) 0 (-1))), (x12, oC 3 [.ref x13, .int 0]), (x27, oC 9 [.ref x28, .int 0, .long 0, .int (-1), .int 0, .int 0, .int 0, .int 0, .int 0]), (x117, oC 11 [.ref x1, .ref x118, .ref x120, .ref x122, .ref x124]), (x118, oC 3 [.ref x119, .int 0]), (x119, aI Y 6 (fun _ => 0)), (x126, oC 10 [.ref x1, .ref x117]), (m0, oC 13 [.ref m1, .ref m2, .int 0, .ref m3, .ref m4, .int 0, .int 0, .int 0, .int (-1), .int 0, .int 0, .int 0, .long 0, .ref m5, .ref m6, .int 0, .int 0]), (m1, aI Y 3640 (clB 0 (fun _ => 0))), (o0, aJ Y 1 (fun _ => 0))] rfl ?_
    refine V_istore 2873 B (lv2 := [(5, .int 1), (4, .int 0), (3, .ref o0), (2, .ref m0), (1, .ref x0), (0, .ref b)]) dL_law_2873 (by decide) rfl ?_
    refine V_aload_n 2875 B dL_law_2875 3 rfl ?_
    refine V_aload_n 2876 B dL_law_2876 5 rfl ?_
    refine V_iload 2877 B dL_law_2877 1 rfl ?_
    refine V_iconst 2879 B (v := 1) dL_law_2879 (by decide +kernel) ?_
    refine V_iadd 2880 B (v := 1) dL_law_2880 (by decide +kernel) ?_
    refine V_sld 2881 B hX hbl hbA (v := p1) (vpin _ _ (by decide +kernel)) dL_law_2881 e1 ?_
    refine V_cvi 2882 B (st := []) (As := [.int p1]) (fun sz => mX12_type_1 l D Y (m0) (m1) (m2) (m3) (m4) (m5) (m6) (p1) sz) glV_RL_321 ⟨rfl, rfl⟩ ⟨(Nat.le_of_ble_eq_true rfl), (Nat.le_of_ble_eq_true rfl)⟩ ⟨(Nat.le_of_ble_eq_true rfl), (Nat.le_of_ble_eq_true rfl)⟩ [10, 0] rfl 13 0 rfl rfl rfl rfl (Nat.le_of_ble_eq_true rfl) rfl (fun _ u _ => by
        first | rfl | (split <;> rfl) | (dsimp only; split <;> rfl)) dL_law_2882 (fun r10 u10 w10 => ?_)
    rcases w10 with ⟨rfl, k11, k12, k13, rfl⟩ | ⟨rfl, k14, k15, k16, rfl⟩ | ⟨rfl, k17, rfl⟩ | ⟨rfl, k18, rfl⟩
    ·
      refine V_ws [(x0, oC 12 [.ref x1, .ref x30, .ref x59, .ref x88, .ref x117, .ref x126, .ref x127, .ref x129, .ref x132, .long 0]), (x1, oC 2 [.ref x2, .ref x4, .ref x6, .ref x8, .ref x10, .ref x12, .ref x14, .ref x16, .ref x18, .ref x20, .ref x27, .int 0]), (x2, oC 3 [.ref x3, .int 1]), (x3, aI Y 6 (upd (fun _ => 0) 0 (-1))), (x12, oC 3 [.ref x13, .int 0]), (x27, oC 9 [.ref x28, .int 0, .long 0, .int (-1), .int 0, .int 0, .int 0, .int 0, .int 0]), (x117, oC 11 [.ref x1, .ref x118, .ref x120, .ref x122, .ref x124]), (x118, oC 3 [.ref x119, .int 0]), (x119, aI Y 6 (fun _ => 0)), (x126, oC 10 [.ref x1, .ref x117]), (m0, oC 13 [.ref m1, .ref m2, .int 1, .ref m3, .ref m4, .int 0, .int 0, .int 0, .int (-1), .int 0, .int 0, .int 0, .long 0, .ref m5, .ref m6, .int 0, .int 0]), (m1, aI Y 3640 (clB 0 (fun _ => 0))), (o0, aJ Y 1 (fun _ => 0))] rfl ?_
      exact (q_abs (b_nlt k11 (n := 0) (by decide +kernel)) (b_lt k1 (n := (-1)) (by decide +kernel)) (by decide +kernel)).elim
    ·
      refine V_ws [(x0, oC 12 [.ref x1, .ref x30, .ref x59, .ref x88, .ref x117, .ref x126, .ref x127, .ref x129, .ref x132, .long 0]), (x1, oC 2 [.ref x2, .ref x4, .ref x6, .ref x8, .ref x10, .ref x12, .ref x14, .ref x16, .ref x18, .ref x20, .ref x27, .int 0]), (x2, oC 3 [.ref x3, .int 1]), (x3, aI Y 6 (upd (fun _ => 0) 0 (-1))), (x12, oC 3 [.ref x13, .int 0]), (x27, oC 9 [.ref x28, .int 0, .long 0, .int (-1), .int 0, .int 0, .int 0, .int 0, .int 0]), (x117, oC 11 [.ref x1, .ref x118, .ref x120, .ref x122, .ref x124]), (x118, oC 3 [.ref x119, .int 0]), (x119, aI Y 6 (fun _ => 0)), (x126, oC 10 [.ref x1, .ref x117]), (m0, oC 13 [.ref m1, .ref m2, .int 0, .ref m3, .ref m4, .int 0, .int 0, .int 0, .int (-1), .int 0, .int 0, .int 0, .long 0, .ref m5, .ref m6, .int 0, .int 0]), (m1, aI Y 3640 (upd (upd (upd (upd (upd (upd (clB 0 (fun _ => 0)) 13 1) 10 0) 3629 1) 3630 p1) 12 1) 8 0)), (o0, aJ Y 1 (fun _ => 0))] rfl ?_
      exact (q_abs (b_nlt k14 (n := 0) (by decide +kernel)) (b_lt k1 (n := (-1)) (by decide +kernel)) (by decide +kernel)).elim
    ·
      refine V_ws [(x0, oC 12 [.ref x1, .ref x30, .ref x59, .ref x88, .ref x117, .ref x126, .ref x127, .ref x129, .ref x132, .long 0]), (x1, oC 2 [.ref x2, .ref x4, .ref x6, .ref x8, .ref x10, .ref x12, .ref x14, .ref x16, .ref x18, .ref x20, .ref x27, .int 0]), (x2, oC 3 [.ref x3, .int 1]), (x3, aI Y 6 (upd (fun _ => 0) 0 (-1))), (x12, oC 3 [.ref x13, .int 0]), (x27, oC 9 [.ref x28, .int 0, .long 0, .int (-1), .int 0, .int 0, .int 0, .int 0, .int 0]), (x117, oC 11 [.ref x1, .ref x118, .ref x120, .ref x122, .ref x124]), (x118, oC 3 [.ref x119, .int 0]), (x119, aI Y 6 (fun _ => 0)), (x126, oC 10 [.ref x1, .ref x117]), (m0, oC 13 [.ref m1, .ref m2, .int 1, .ref m3, .ref m4, .int 0, .int 0, .int 0, .int (-1), .int 0, .int 0, .int 0, .long 0, .ref m5, .ref m6, .int 0, .int 0]), (m1, aI Y 3640 (clB 0 (fun _ => 0))), (o0, aJ Y 1 (fun _ => 0))] rfl ?_
      refine V_istore 2885 B (lv2 := [(6, .int 0), (5, .int 1), (4, .int 0), (3, .ref o0), (2, .ref m0), (1, .ref x0), (0, .ref b)]) dL_law_2885 (by decide) rfl ?_
      refine V_aload_n 2887 B dL_law_2887 4 rfl ?_
      refine V_cvi 2888 B (st := []) (As := []) (fun sz => mX12_thrown_2 l D Y (m0) (m1) (m2) (m3) (m4) (m5) (m6) sz) glV_RL_182 ⟨rfl, rfl⟩ ⟨(Nat.le_of_ble_eq_true rfl), (Nat.le_of_ble_eq_true rfl)⟩ ⟨(Nat.le_of_ble_eq_true rfl), (Nat.le_of_ble_eq_true rfl)⟩ [10] rfl 13 0 rfl rfl rfl rfl (Nat.le_of_ble_eq_true rfl) rfl (fun _ _ _ => rfl) dL_law_2888 (fun r19 u19 w19 => ?_)
      obtain rfl := w19
      refine V_ws [(x0, oC 12 [.ref x1, .ref x30, .ref x59, .ref x88, .ref x117, .ref x126, .ref x127, .ref x129, .ref x132, .long 0]), (x1, oC 2 [.ref x2, .ref x4, .ref x6, .ref x8, .ref x10, .ref x12, .ref x14, .ref x16, .ref x18, .ref x20, .ref x27, .int 0]), (x2, oC 3 [.ref x3, .int 1]), (x3, aI Y 6 (upd (fun _ => 0) 0 (-1))), (x12, oC 3 [.ref x13, .int 0]), (x27, oC 9 [.ref x28, .int 0, .long 0, .int (-1), .int 0, .int 0, .int 0, .int 0, .int 0]), (x117, oC 11 [.ref x1, .ref x118, .ref x120, .ref x122, .ref x124]), (x118, oC 3 [.ref x119, .int 0]), (x119, aI Y 6 (fun _ => 0)), (x126, oC 10 [.ref x1, .ref x117]), (m0, oC 13 [.ref m1, .ref m2, .int 1, .ref m3, .ref m4, .int 0, .int 0, .int 0, .int (-1), .int 0, .int 0, .int 0, .long 0, .ref m5, .ref m6, .int 0, .int 0]), (m1, aI Y 3640 (clB 0 (fun _ => 0))), (o0, aJ Y 1 (fun _ => 0))] rfl ?_
      refine V_iload 2891 B dL_law_2891 1 rfl ?_
      refine V_icmp_eq_t 2893 B 2898 dL_law_2893 (by decide) (by decide +kernel) ?_
      refine V_iload 2898 B dL_law_2898 1 rfl ?_
      refine V_if_ne_t 2900 B 2915 dL_law_2900 (by decide) (by decide +kernel) ?_
      refine V_goto 2915 B 3332 dL_law_2915 (by decide) ?_
      refine V_iinc 3332 B (v := 6) (lv2 := [(4, .int 6), (6, .int 0), (5, .int 1), (3, .ref o0), (2, .ref m0), (1, .ref x0), (0, .ref b)]) dL_law_3332 2 rfl (by decide +kernel) (by decide) rfl ?_
      refine V_goto 3335 B 23 dL_law_3335 (by decide) ?_
      refine V_iload 23 B dL_law_23 0 rfl ?_
      refine V_aload_n 25 B dL_law_25 6 rfl ?_
      refine V_slen 26 B hX hbl hbA (v := 6) (by decide +kernel) dL_law_26 ?_
      refine V_bipush 27 B (v := 6) dL_law_27 (by decide +kernel) ?_
      refine V_isub 29 B (v := 0) dL_law_29 (by decide +kernel) ?_
      refine V_icmp_gt_t 30 B 3338 dL_law_30 (by decide) (by decide +kernel) ?_
      exact law_end B (Nat.le_of_ble_eq_true rfl) (Nat.le_of_ble_eq_true rfl) dL_law_3338 dL_law_3339
    ·
      refine V_ws [(x0, oC 12 [.ref x1, .ref x30, .ref x59, .ref x88, .ref x117, .ref x126, .ref x127, .ref x129, .ref x132, .long 0]), (x1, oC 2 [.ref x2, .ref x4, .ref x6, .ref x8, .ref x10, .ref x12, .ref x14, .ref x16, .ref x18, .ref x20, .ref x27, .int 0]), (x2, oC 3 [.ref x3, .int 1]), (x3, aI Y 6 (upd (fun _ => 0) 0 (-1))), (x12, oC 3 [.ref x13, .int 0]), (x27, oC 9 [.ref x28, .int 0, .long 0, .int (-1), .int 0, .int 0, .int 0, .int 0, .int 0]), (x117, oC 11 [.ref x1, .ref x118, .ref x120, .ref x122, .ref x124]), (x118, oC 3 [.ref x119, .int 0]), (x119, aI Y 6 (fun _ => 0)), (x126, oC 10 [.ref x1, .ref x117]), (m0, oC 13 [.ref m1, .ref m2, .int 1, .ref m3, .ref m4, .int 0, .int 0, .int 0, .int (-1), .int 0, .int 0, .int 0, .long 0, .ref m5, .ref m6, .int 0, .int 0]), (m1, aI Y 3640 (clB 0 (fun _ => 0))), (o0, aJ Y 1 (fun _ => 0))] rfl ?_
      exact (q_abs (b_gt k18 (n := 512) (by decide +kernel)) (b_lt k1 (n := (-1)) (by decide +kernel)) (by decide +kernel)).elim
  ·
    refine V_ws [(x0, oC 12 [.ref x1, .ref x30, .ref x59, .ref x88, .ref x117, .ref x126, .ref x127, .ref x129, .ref x132, .long 0]), (x1, oC 2 [.ref x2, .ref x4, .ref x6, .ref x8, .ref x10, .ref x12, .ref x14, .ref x16, .ref x18, .ref x20, .ref x27, .int 0]), (x2, oC 3 [.ref x3, .int 1]), (x3, aI Y 6 (upd (fun _ => 0) 0 (-1))), (x12, oC 3 [.ref x13, .int 0]), (x27, oC 9 [.ref x28, .int 0, .long 0, .int (-1), .int 0, .int 0, .int 0, .int 0, .int 0]), (x117, oC 11 [.ref x1, .ref x118, .ref x120, .ref x122, .ref x124]), (x118, oC 3 [.ref x119, .int 0]), (x119, aI Y 6 (fun _ => 0)), (x126, oC 10 [.ref x1, .ref x117]), (m0, oC 13 [.ref m1, .ref m2, .int 0, .ref m3, .ref m4, .int 0, .int 0, .int 0, .int (-1), .int 0, .int 0, .int 0, .long 0, .ref m5, .ref m6, .int 0, .int 0]), (m1, aI Y 3640 (clB 0 (fun _ => 0))), (o0, aJ Y 1 (fun _ => 0))] rfl ?_
    refine V_istore 2873 B (lv2 := [(5, .int 1), (4, .int 0), (3, .ref o0), (2, .ref m0), (1, .ref x0), (0, .ref b)]) dL_law_2873 (by decide) rfl ?_
    refine V_aload_n 2875 B dL_law_2875 3 rfl ?_
    refine V_aload_n 2876 B dL_law_2876 5 rfl ?_
    refine V_iload 2877 B dL_law_2877 1 rfl ?_
    refine V_iconst 2879 B (v := 1) dL_law_2879 (by decide +kernel) ?_
    refine V_iadd 2880 B (v := 1) dL_law_2880 (by decide +kernel) ?_
    refine V_sld 2881 B hX hbl hbA (v := p1) (vpin _ _ (by decide +kernel)) dL_law_2881 e1 ?_
    refine V_cvi 2882 B (st := []) (As := [.int p1]) (fun sz => mX12_type_1 l D Y (m0) (m1) (m2) (m3) (m4) (m5) (m6) (p1) sz) glV_RL_321 ⟨rfl, rfl⟩ ⟨(Nat.le_of_ble_eq_true rfl), (Nat.le_of_ble_eq_true rfl)⟩ ⟨(Nat.le_of_ble_eq_true rfl), (Nat.le_of_ble_eq_true rfl)⟩ [10, 0] rfl 13 0 rfl rfl rfl rfl (Nat.le_of_ble_eq_true rfl) rfl (fun _ u _ => by
        first | rfl | (split <;> rfl) | (dsimp only; split <;> rfl)) dL_law_2882 (fun r20 u20 w20 => ?_)
    rcases w20 with ⟨rfl, k21, k22, k23, rfl⟩ | ⟨rfl, k24, k25, k26, rfl⟩ | ⟨rfl, k27, rfl⟩ | ⟨rfl, k28, rfl⟩
    ·
      refine V_ws [(x0, oC 12 [.ref x1, .ref x30, .ref x59, .ref x88, .ref x117, .ref x126, .ref x127, .ref x129, .ref x132, .long 0]), (x1, oC 2 [.ref x2, .ref x4, .ref x6, .ref x8, .ref x10, .ref x12, .ref x14, .ref x16, .ref x18, .ref x20, .ref x27, .int 0]), (x2, oC 3 [.ref x3, .int 1]), (x3, aI Y 6 (upd (fun _ => 0) 0 (-1))), (x12, oC 3 [.ref x13, .int 0]), (x27, oC 9 [.ref x28, .int 0, .long 0, .int (-1), .int 0, .int 0, .int 0, .int 0, .int 0]), (x117, oC 11 [.ref x1, .ref x118, .ref x120, .ref x122, .ref x124]), (x118, oC 3 [.ref x119, .int 0]), (x119, aI Y 6 (fun _ => 0)), (x126, oC 10 [.ref x1, .ref x117]), (m0, oC 13 [.ref m1, .ref m2, .int 1, .ref m3, .ref m4, .int 0, .int 0, .int 0, .int (-1), .int 0, .int 0, .int 0, .long 0, .ref m5, .ref m6, .int 0, .int 0]), (m1, aI Y 3640 (clB 0 (fun _ => 0))), (o0, aJ Y 1 (fun _ => 0))] rfl ?_
      exact (q_abs (b_ge k3 (n := 512) (by decide +kernel)) (b_ngt k22 (n := 511) (by decide +kernel)) (by decide +kernel)).elim
    ·
      refine V_ws [(x0, oC 12 [.ref x1, .ref x30, .ref x59, .ref x88, .ref x117, .ref x126, .ref x127, .ref x129, .ref x132, .long 0]), (x1, oC 2 [.ref x2, .ref x4, .ref x6, .ref x8, .ref x10, .ref x12, .ref x14, .ref x16, .ref x18, .ref x20, .ref x27, .int 0]), (x2, oC 3 [.ref x3, .int 1]), (x3, aI Y 6 (upd (fun _ => 0) 0 (-1))), (x12, oC 3 [.ref x13, .int 0]), (x27, oC 9 [.ref x28, .int 0, .long 0, .int (-1), .int 0, .int 0, .int 0, .int 0, .int 0]), (x117, oC 11 [.ref x1, .ref x118, .ref x120, .ref x122, .ref x124]), (x118, oC 3 [.ref x119, .int 0]), (x119, aI Y 6 (fun _ => 0)), (x126, oC 10 [.ref x1, .ref x117]), (m0, oC 13 [.ref m1, .ref m2, .int 0, .ref m3, .ref m4, .int 0, .int 0, .int 0, .int (-1), .int 0, .int 0, .int 0, .long 0, .ref m5, .ref m6, .int 0, .int 0]), (m1, aI Y 3640 (upd (upd (upd (upd (upd (upd (clB 0 (fun _ => 0)) 13 1) 10 0) 3629 1) 3630 p1) 12 1) 8 0)), (o0, aJ Y 1 (fun _ => 0))] rfl ?_
      exact (q_abs (b_ge k3 (n := 512) (by decide +kernel)) (b_ngt k25 (n := 511) (by decide +kernel)) (by decide +kernel)).elim
    ·
      refine V_ws [(x0, oC 12 [.ref x1, .ref x30, .ref x59, .ref x88, .ref x117, .ref x126, .ref x127, .ref x129, .ref x132, .long 0]), (x1, oC 2 [.ref x2, .ref x4, .ref x6, .ref x8, .ref x10, .ref x12, .ref x14, .ref x16, .ref x18, .ref x20, .ref x27, .int 0]), (x2, oC 3 [.ref x3, .int 1]), (x3, aI Y 6 (upd (fun _ => 0) 0 (-1))), (x12, oC 3 [.ref x13, .int 0]), (x27, oC 9 [.ref x28, .int 0, .long 0, .int (-1), .int 0, .int 0, .int 0, .int 0, .int 0]), (x117, oC 11 [.ref x1, .ref x118, .ref x120, .ref x122, .ref x124]), (x118, oC 3 [.ref x119, .int 0]), (x119, aI Y 6 (fun _ => 0)), (x126, oC 10 [.ref x1, .ref x117]), (m0, oC 13 [.ref m1, .ref m2, .int 1, .ref m3, .ref m4, .int 0, .int 0, .int 0, .int (-1), .int 0, .int 0, .int 0, .long 0, .ref m5, .ref m6, .int 0, .int 0]), (m1, aI Y 3640 (clB 0 (fun _ => 0))), (o0, aJ Y 1 (fun _ => 0))] rfl ?_
      exact (q_abs (b_ge k3 (n := 512) (by decide +kernel)) (b_lt k27 (n := (-1)) (by decide +kernel)) (by decide +kernel)).elim
    ·
      refine V_ws [(x0, oC 12 [.ref x1, .ref x30, .ref x59, .ref x88, .ref x117, .ref x126, .ref x127, .ref x129, .ref x132, .long 0]), (x1, oC 2 [.ref x2, .ref x4, .ref x6, .ref x8, .ref x10, .ref x12, .ref x14, .ref x16, .ref x18, .ref x20, .ref x27, .int 0]), (x2, oC 3 [.ref x3, .int 1]), (x3, aI Y 6 (upd (fun _ => 0) 0 (-1))), (x12, oC 3 [.ref x13, .int 0]), (x27, oC 9 [.ref x28, .int 0, .long 0, .int (-1), .int 0, .int 0, .int 0, .int 0, .int 0]), (x117, oC 11 [.ref x1, .ref x118, .ref x120, .ref x122, .ref x124]), (x118, oC 3 [.ref x119, .int 0]), (x119, aI Y 6 (fun _ => 0)), (x126, oC 10 [.ref x1, .ref x117]), (m0, oC 13 [.ref m1, .ref m2, .int 1, .ref m3, .ref m4, .int 0, .int 0, .int 0, .int (-1), .int 0, .int 0, .int 0, .long 0, .ref m5, .ref m6, .int 0, .int 0]), (m1, aI Y 3640 (clB 0 (fun _ => 0))), (o0, aJ Y 1 (fun _ => 0))] rfl ?_
      refine V_istore 2885 B (lv2 := [(6, .int 0), (5, .int 1), (4, .int 0), (3, .ref o0), (2, .ref m0), (1, .ref x0), (0, .ref b)]) dL_law_2885 (by decide) rfl ?_
      refine V_aload_n 2887 B dL_law_2887 4 rfl ?_
      refine V_cvi 2888 B (st := []) (As := []) (fun sz => mX12_thrown_2 l D Y (m0) (m1) (m2) (m3) (m4) (m5) (m6) sz) glV_RL_182 ⟨rfl, rfl⟩ ⟨(Nat.le_of_ble_eq_true rfl), (Nat.le_of_ble_eq_true rfl)⟩ ⟨(Nat.le_of_ble_eq_true rfl), (Nat.le_of_ble_eq_true rfl)⟩ [10] rfl 13 0 rfl rfl rfl rfl (Nat.le_of_ble_eq_true rfl) rfl (fun _ _ _ => rfl) dL_law_2888 (fun r29 u29 w29 => ?_)
      obtain rfl := w29
      refine V_ws [(x0, oC 12 [.ref x1, .ref x30, .ref x59, .ref x88, .ref x117, .ref x126, .ref x127, .ref x129, .ref x132, .long 0]), (x1, oC 2 [.ref x2, .ref x4, .ref x6, .ref x8, .ref x10, .ref x12, .ref x14, .ref x16, .ref x18, .ref x20, .ref x27, .int 0]), (x2, oC 3 [.ref x3, .int 1]), (x3, aI Y 6 (upd (fun _ => 0) 0 (-1))), (x12, oC 3 [.ref x13, .int 0]), (x27, oC 9 [.ref x28, .int 0, .long 0, .int (-1), .int 0, .int 0, .int 0, .int 0, .int 0]), (x117, oC 11 [.ref x1, .ref x118, .ref x120, .ref x122, .ref x124]), (x118, oC 3 [.ref x119, .int 0]), (x119, aI Y 6 (fun _ => 0)), (x126, oC 10 [.ref x1, .ref x117]), (m0, oC 13 [.ref m1, .ref m2, .int 1, .ref m3, .ref m4, .int 0, .int 0, .int 0, .int (-1), .int 0, .int 0, .int 0, .long 0, .ref m5, .ref m6, .int 0, .int 0]), (m1, aI Y 3640 (clB 0 (fun _ => 0))), (o0, aJ Y 1 (fun _ => 0))] rfl ?_
      refine V_iload 2891 B dL_law_2891 1 rfl ?_
      refine V_icmp_eq_t 2893 B 2898 dL_law_2893 (by decide) (by decide +kernel) ?_
      refine V_iload 2898 B dL_law_2898 1 rfl ?_
      refine V_if_ne_t 2900 B 2915 dL_law_2900 (by decide) (by decide +kernel) ?_
      refine V_goto 2915 B 3332 dL_law_2915 (by decide) ?_
      refine V_iinc 3332 B (v := 6) (lv2 := [(4, .int 6), (6, .int 0), (5, .int 1), (3, .ref o0), (2, .ref m0), (1, .ref x0), (0, .ref b)]) dL_law_3332 2 rfl (by decide +kernel) (by decide) rfl ?_
      refine V_goto 3335 B 23 dL_law_3335 (by decide) ?_
      refine V_iload 23 B dL_law_23 0 rfl ?_
      refine V_aload_n 25 B dL_law_25 6 rfl ?_
      refine V_slen 26 B hX hbl hbA (v := 6) (by decide +kernel) dL_law_26 ?_
      refine V_bipush 27 B (v := 6) dL_law_27 (by decide +kernel) ?_
      refine V_isub 29 B (v := 0) dL_law_29 (by decide +kernel) ?_
      refine V_icmp_gt_t 30 B 3338 dL_law_30 (by decide) (by decide +kernel) ?_
      exact law_end B (Nat.le_of_ble_eq_true rfl) (Nat.le_of_ble_eq_true rfl) dL_law_3338 dL_law_3339
  ·
    refine V_ws [(x0, oC 12 [.ref x1, .ref x30, .ref x59, .ref x88, .ref x117, .ref x126, .ref x127, .ref x129, .ref x132, .long 0]), (x1, oC 2 [.ref x2, .ref x4, .ref x6, .ref x8, .ref x10, .ref x12, .ref x14, .ref x16, .ref x18, .ref x20, .ref x27, .int 0]), (x2, oC 3 [.ref x3, .int 1]), (x3, aI Y 6 (upd (fun _ => 0) 0 (-1))), (x12, oC 3 [.ref x13, .int 0]), (x27, oC 9 [.ref x28, .int 0, .long 0, .int (-1), .int 0, .int 0, .int 0, .int 0, .int 0]), (x117, oC 11 [.ref x1, .ref x118, .ref x120, .ref x122, .ref x124]), (x118, oC 3 [.ref x119, .int 0]), (x119, aI Y 6 (fun _ => 0)), (x126, oC 10 [.ref x1, .ref x117]), (m0, oC 13 [.ref m1, .ref m2, .int 0, .ref m3, .ref m4, .int 0, .int 0, .int 0, .int (-1), .int 0, .int 0, .int 0, .long 0, .ref m5, .ref m6, .int 0, .int 0]), (m1, aI Y 3640 (clB 0 (fun _ => 0))), (o0, aJ Y 1 (fun _ => 0))] rfl ?_
    refine V_istore 2873 B (lv2 := [(5, .int 1), (4, .int 0), (3, .ref o0), (2, .ref m0), (1, .ref x0), (0, .ref b)]) dL_law_2873 (by decide) rfl ?_
    refine V_aload_n 2875 B dL_law_2875 3 rfl ?_
    refine V_aload_n 2876 B dL_law_2876 5 rfl ?_
    refine V_iload 2877 B dL_law_2877 1 rfl ?_
    refine V_iconst 2879 B (v := 1) dL_law_2879 (by decide +kernel) ?_
    refine V_iadd 2880 B (v := 1) dL_law_2880 (by decide +kernel) ?_
    refine V_sld 2881 B hX hbl hbA (v := p1) (vpin _ _ (by decide +kernel)) dL_law_2881 e1 ?_
    refine V_cvi 2882 B (st := []) (As := [.int p1]) (fun sz => mX12_type_1 l D Y (m0) (m1) (m2) (m3) (m4) (m5) (m6) (p1) sz) glV_RL_321 ⟨rfl, rfl⟩ ⟨(Nat.le_of_ble_eq_true rfl), (Nat.le_of_ble_eq_true rfl)⟩ ⟨(Nat.le_of_ble_eq_true rfl), (Nat.le_of_ble_eq_true rfl)⟩ [10, 0] rfl 13 0 rfl rfl rfl rfl (Nat.le_of_ble_eq_true rfl) rfl (fun _ u _ => by
        first | rfl | (split <;> rfl) | (dsimp only; split <;> rfl)) dL_law_2882 (fun r30 u30 w30 => ?_)
    rcases w30 with ⟨rfl, k31, k32, k33, rfl⟩ | ⟨rfl, k34, k35, k36, rfl⟩ | ⟨rfl, k37, rfl⟩ | ⟨rfl, k38, rfl⟩
    ·
      refine V_ws [(x0, oC 12 [.ref x1, .ref x30, .ref x59, .ref x88, .ref x117, .ref x126, .ref x127, .ref x129, .ref x132, .long 0]), (x1, oC 2 [.ref x2, .ref x4, .ref x6, .ref x8, .ref x10, .ref x12, .ref x14, .ref x16, .ref x18, .ref x20, .ref x27, .int 0]), (x2, oC 3 [.ref x3, .int 1]), (x3, aI Y 6 (upd (fun _ => 0) 0 (-1))), (x12, oC 3 [.ref x13, .int 0]), (x27, oC 9 [.ref x28, .int 0, .long 0, .int (-1), .int 0, .int 0, .int 0, .int 0, .int 0]), (x117, oC 11 [.ref x1, .ref x118, .ref x120, .ref x122, .ref x124]), (x118, oC 3 [.ref x119, .int 0]), (x119, aI Y 6 (fun _ => 0)), (x126, oC 10 [.ref x1, .ref x117]), (m0, oC 13 [.ref m1, .ref m2, .int 1, .ref m3, .ref m4, .int 0, .int 0, .int 0, .int (-1), .int 0, .int 0, .int 0, .long 0, .ref m5, .ref m6, .int 0, .int 0]), (m1, aI Y 3640 (clB 0 (fun _ => 0))), (o0, aJ Y 1 (fun _ => 0))] rfl ?_
      rw [mod32 (Int.le_trans (by decide) (b_nlt k4 (n := 0) (by decide +kernel))) (Int.le_trans (b_nge k5 (n := 511) (by decide +kernel)) (by decide))] at k33
      refine V_istore 2885 B (lv2 := [(6, .int 0), (5, .int 1), (4, .int 0), (3, .ref o0), (2, .ref m0), (1, .ref x0), (0, .ref b)]) dL_law_2885 (by decide) rfl ?_
      refine V_aload_n 2887 B dL_law_2887 4 rfl ?_
      refine V_cvi 2888 B (st := []) (As := []) (fun sz => mX12_thrown_2 l D Y (m0) (m1) (m2) (m3) (m4) (m5) (m6) sz) glV_RL_182 ⟨rfl, rfl⟩ ⟨(Nat.le_of_ble_eq_true rfl), (Nat.le_of_ble_eq_true rfl)⟩ ⟨(Nat.le_of_ble_eq_true rfl), (Nat.le_of_ble_eq_true rfl)⟩ [10] rfl 13 0 rfl rfl rfl rfl (Nat.le_of_ble_eq_true rfl) rfl (fun _ _ _ => rfl) dL_law_2888 (fun r39 u39 w39 => ?_)
      obtain rfl := w39
      refine V_ws [(x0, oC 12 [.ref x1, .ref x30, .ref x59, .ref x88, .ref x117, .ref x126, .ref x127, .ref x129, .ref x132, .long 0]), (x1, oC 2 [.ref x2, .ref x4, .ref x6, .ref x8, .ref x10, .ref x12, .ref x14, .ref x16, .ref x18, .ref x20, .ref x27, .int 0]), (x2, oC 3 [.ref x3, .int 1]), (x3, aI Y 6 (upd (fun _ => 0) 0 (-1))), (x12, oC 3 [.ref x13, .int 0]), (x27, oC 9 [.ref x28, .int 0, .long 0, .int (-1), .int 0, .int 0, .int 0, .int 0, .int 0]), (x117, oC 11 [.ref x1, .ref x118, .ref x120, .ref x122, .ref x124]), (x118, oC 3 [.ref x119, .int 0]), (x119, aI Y 6 (fun _ => 0)), (x126, oC 10 [.ref x1, .ref x117]), (m0, oC 13 [.ref m1, .ref m2, .int 1, .ref m3, .ref m4, .int 0, .int 0, .int 0, .int (-1), .int 0, .int 0, .int 0, .long 0, .ref m5, .ref m6, .int 0, .int 0]), (m1, aI Y 3640 (clB 0 (fun _ => 0))), (o0, aJ Y 1 (fun _ => 0))] rfl ?_
      refine V_iload 2891 B dL_law_2891 1 rfl ?_
      refine V_icmp_eq_t 2893 B 2898 dL_law_2893 (by decide) (by decide +kernel) ?_
      refine V_iload 2898 B dL_law_2898 1 rfl ?_
      refine V_if_ne_t 2900 B 2915 dL_law_2900 (by decide) (by decide +kernel) ?_
      refine V_goto 2915 B 3332 dL_law_2915 (by decide) ?_
      refine V_iinc 3332 B (v := 6) (lv2 := [(4, .int 6), (6, .int 0), (5, .int 1), (3, .ref o0), (2, .ref m0), (1, .ref x0), (0, .ref b)]) dL_law_3332 2 rfl (by decide +kernel) (by decide) rfl ?_
      refine V_goto 3335 B 23 dL_law_3335 (by decide) ?_
      refine V_iload 23 B dL_law_23 0 rfl ?_
      refine V_aload_n 25 B dL_law_25 6 rfl ?_
      refine V_slen 26 B hX hbl hbA (v := 6) (by decide +kernel) dL_law_26 ?_
      refine V_bipush 27 B (v := 6) dL_law_27 (by decide +kernel) ?_
      refine V_isub 29 B (v := 0) dL_law_29 (by decide +kernel) ?_
      refine V_icmp_gt_t 30 B 3338 dL_law_30 (by decide) (by decide +kernel) ?_
      exact law_end B (Nat.le_of_ble_eq_true rfl) (Nat.le_of_ble_eq_true rfl) dL_law_3338 dL_law_3339
    ·
      refine V_ws [(x0, oC 12 [.ref x1, .ref x30, .ref x59, .ref x88, .ref x117, .ref x126, .ref x127, .ref x129, .ref x132, .long 0]), (x1, oC 2 [.ref x2, .ref x4, .ref x6, .ref x8, .ref x10, .ref x12, .ref x14, .ref x16, .ref x18, .ref x20, .ref x27, .int 0]), (x2, oC 3 [.ref x3, .int 1]), (x3, aI Y 6 (upd (fun _ => 0) 0 (-1))), (x12, oC 3 [.ref x13, .int 0]), (x27, oC 9 [.ref x28, .int 0, .long 0, .int (-1), .int 0, .int 0, .int 0, .int 0, .int 0]), (x117, oC 11 [.ref x1, .ref x118, .ref x120, .ref x122, .ref x124]), (x118, oC 3 [.ref x119, .int 0]), (x119, aI Y 6 (fun _ => 0)), (x126, oC 10 [.ref x1, .ref x117]), (m0, oC 13 [.ref m1, .ref m2, .int 0, .ref m3, .ref m4, .int 0, .int 0, .int 0, .int (-1), .int 0, .int 0, .int 0, .long 0, .ref m5, .ref m6, .int 0, .int 0]), (m1, aI Y 3640 (upd (upd (upd (upd (upd (upd (clB 0 (fun _ => 0)) 13 1) 10 0) 3629 1) 3630 p1) 12 1) 8 0)), (o0, aJ Y 1 (fun _ => 0))] rfl ?_
      rw [mod32 (Int.le_trans (by decide) (b_nlt k4 (n := 0) (by decide +kernel))) (Int.le_trans (b_nge k5 (n := 511) (by decide +kernel)) (by decide))] at k36
      exact (q_abs (b_ge k6 (n := 26) (by decide +kernel)) (b_nge k36 (n := 25) (by decide +kernel)) (by decide +kernel)).elim
    ·
      refine V_ws [(x0, oC 12 [.ref x1, .ref x30, .ref x59, .ref x88, .ref x117, .ref x126, .ref x127, .ref x129, .ref x132, .long 0]), (x1, oC 2 [.ref x2, .ref x4, .ref x6, .ref x8, .ref x10, .ref x12, .ref x14, .ref x16, .ref x18, .ref x20, .ref x27, .int 0]), (x2, oC 3 [.ref x3, .int 1]), (x3, aI Y 6 (upd (fun _ => 0) 0 (-1))), (x12, oC 3 [.ref x13, .int 0]), (x27, oC 9 [.ref x28, .int 0, .long 0, .int (-1), .int 0, .int 0, .int 0, .int 0, .int 0]), (x117, oC 11 [.ref x1, .ref x118, .ref x120, .ref x122, .ref x124]), (x118, oC 3 [.ref x119, .int 0]), (x119, aI Y 6 (fun _ => 0)), (x126, oC 10 [.ref x1, .ref x117]), (m0, oC 13 [.ref m1, .ref m2, .int 1, .ref m3, .ref m4, .int 0, .int 0, .int 0, .int (-1), .int 0, .int 0, .int 0, .long 0, .ref m5, .ref m6, .int 0, .int 0]), (m1, aI Y 3640 (clB 0 (fun _ => 0))), (o0, aJ Y 1 (fun _ => 0))] rfl ?_
      exact (q_abs (b_nlt k4 (n := 0) (by decide +kernel)) (b_lt k37 (n := (-1)) (by decide +kernel)) (by decide +kernel)).elim
    ·
      refine V_ws [(x0, oC 12 [.ref x1, .ref x30, .ref x59, .ref x88, .ref x117, .ref x126, .ref x127, .ref x129, .ref x132, .long 0]), (x1, oC 2 [.ref x2, .ref x4, .ref x6, .ref x8, .ref x10, .ref x12, .ref x14, .ref x16, .ref x18, .ref x20, .ref x27, .int 0]), (x2, oC 3 [.ref x3, .int 1]), (x3, aI Y 6 (upd (fun _ => 0) 0 (-1))), (x12, oC 3 [.ref x13, .int 0]), (x27, oC 9 [.ref x28, .int 0, .long 0, .int (-1), .int 0, .int 0, .int 0, .int 0, .int 0]), (x117, oC 11 [.ref x1, .ref x118, .ref x120, .ref x122, .ref x124]), (x118, oC 3 [.ref x119, .int 0]), (x119, aI Y 6 (fun _ => 0)), (x126, oC 10 [.ref x1, .ref x117]), (m0, oC 13 [.ref m1, .ref m2, .int 1, .ref m3, .ref m4, .int 0, .int 0, .int 0, .int (-1), .int 0, .int 0, .int 0, .long 0, .ref m5, .ref m6, .int 0, .int 0]), (m1, aI Y 3640 (clB 0 (fun _ => 0))), (o0, aJ Y 1 (fun _ => 0))] rfl ?_
      exact (q_abs (b_gt k38 (n := 512) (by decide +kernel)) (b_nge k5 (n := 511) (by decide +kernel)) (by decide +kernel)).elim
  ·
    refine V_ws [(x0, oC 12 [.ref x1, .ref x30, .ref x59, .ref x88, .ref x117, .ref x126, .ref x127, .ref x129, .ref x132, .long 0]), (x1, oC 2 [.ref x2, .ref x4, .ref x6, .ref x8, .ref x10, .ref x12, .ref x14, .ref x16, .ref x18, .ref x20, .ref x27, .int 0]), (x2, oC 3 [.ref x3, .int 1]), (x3, aI Y 6 (upd (fun _ => 0) 0 (-1))), (x12, oC 3 [.ref x13, .int 0]), (x27, oC 9 [.ref x28, .int 0, .long 0, .int (-1), .int 1, .int 1, .int 0, .int 0, .int 0]), (x117, oC 11 [.ref x1, .ref x118, .ref x120, .ref x122, .ref x124]), (x118, oC 3 [.ref x119, .int 6]), (x119, aI Y 6 (upd (upd (upd (upd (upd (upd (upd (fun _ => 0) 0 (-1)) 1 (-1)) 2 (-1)) 3 (-1)) 4 (-1)) 5 (-1)) 0 0)), (x126, oC 10 [.ref x1, .ref x117]), (m0, oC 13 [.ref m1, .ref m2, .int 0, .ref m3, .ref m4, .int 0, .int 0, .int 0, .int (-1), .int 0, .int 0, .int 0, .long 0, .ref m5, .ref m6, .int 0, .int 0]), (m1, aI Y 3640 (clB 0 (fun _ => 0))), (o0, aJ Y 1 (vp_updL (fun _ => 0) 0 (-1)))] rfl ?_
    refine V_istore 2873 B (lv2 := [(5, .int 0), (4, .int 0), (3, .ref o0), (2, .ref m0), (1, .ref x0), (0, .ref b)]) dL_law_2873 (by decide) rfl ?_
    refine V_aload_n 2875 B dL_law_2875 3 rfl ?_
    refine V_aload_n 2876 B dL_law_2876 5 rfl ?_
    refine V_iload 2877 B dL_law_2877 1 rfl ?_
    refine V_iconst 2879 B (v := 1) dL_law_2879 (by decide +kernel) ?_
    refine V_iadd 2880 B (v := 1) dL_law_2880 (by decide +kernel) ?_
    refine V_sld 2881 B hX hbl hbA (v := p1) (vpin _ _ (by decide +kernel)) dL_law_2881 e1 ?_
    refine V_cvi 2882 B (st := []) (As := [.int p1]) (fun sz => mX12_type_1 l D Y (m0) (m1) (m2) (m3) (m4) (m5) (m6) (p1) sz) glV_RL_321 ⟨rfl, rfl⟩ ⟨(Nat.le_of_ble_eq_true rfl), (Nat.le_of_ble_eq_true rfl)⟩ ⟨(Nat.le_of_ble_eq_true rfl), (Nat.le_of_ble_eq_true rfl)⟩ [10, 0] rfl 13 0 rfl rfl rfl rfl (Nat.le_of_ble_eq_true rfl) rfl (fun _ u _ => by
        first | rfl | (split <;> rfl) | (dsimp only; split <;> rfl)) dL_law_2882 (fun r40 u40 w40 => ?_)
    rcases w40 with ⟨rfl, k41, k42, k43, rfl⟩ | ⟨rfl, k44, k45, k46, rfl⟩ | ⟨rfl, k47, rfl⟩ | ⟨rfl, k48, rfl⟩
    ·
      refine V_ws [(x0, oC 12 [.ref x1, .ref x30, .ref x59, .ref x88, .ref x117, .ref x126, .ref x127, .ref x129, .ref x132, .long 0]), (x1, oC 2 [.ref x2, .ref x4, .ref x6, .ref x8, .ref x10, .ref x12, .ref x14, .ref x16, .ref x18, .ref x20, .ref x27, .int 0]), (x2, oC 3 [.ref x3, .int 1]), (x3, aI Y 6 (upd (fun _ => 0) 0 (-1))), (x12, oC 3 [.ref x13, .int 0]), (x27, oC 9 [.ref x28, .int 0, .long 0, .int (-1), .int 1, .int 1, .int 0, .int 0, .int 0]), (x117, oC 11 [.ref x1, .ref x118, .ref x120, .ref x122, .ref x124]), (x118, oC 3 [.ref x119, .int 6]), (x119, aI Y 6 (upd (upd (upd (upd (upd (upd (upd (fun _ => 0) 0 (-1)) 1 (-1)) 2 (-1)) 3 (-1)) 4 (-1)) 5 (-1)) 0 0)), (x126, oC 10 [.ref x1, .ref x117]), (m0, oC 13 [.ref m1, .ref m2, .int 1, .ref m3, .ref m4, .int 0, .int 0, .int 0, .int (-1), .int 0, .int 0, .int 0, .long 0, .ref m5, .ref m6, .int 0, .int 0]), (m1, aI Y 3640 (clB 0 (fun _ => 0))), (o0, aJ Y 1 (vp_updL (fun _ => 0) 0 (-1)))] rfl ?_
      rw [mod32 (Int.le_trans (by decide) (b_nlt k7 (n := 0) (by decide +kernel))) (Int.le_trans (b_nge k8 (n := 511) (by decide +kernel)) (by decide))] at k43
      exact (q_abs (b_ge k43 (n := 26) (by decide +kernel)) (b_nge k9 (n := 25) (by decide +kernel)) (by decide +kernel)).elim
    ·
      refine V_ws [(x0, oC 12 [.ref x1, .ref x30, .ref x59, .ref x88, .ref x117, .ref x126, .ref x127, .ref x129, .ref x132, .long 0]), (x1, oC 2 [.ref x2, .ref x4, .ref x6, .ref x8, .ref x10, .ref x12, .ref x14, .ref x16, .ref x18, .ref x20, .ref x27, .int 0]), (x2, oC 3 [.ref x3, .int 1]), (x3, aI Y 6 (upd (fun _ => 0) 0 (-1))), (x12, oC 3 [.ref x13, .int 0]), (x27, oC 9 [.ref x28, .int 0, .long 0, .int (-1), .int 1, .int 1, .int 0, .int 0, .int 0]), (x117, oC 11 [.ref x1, .ref x118, .ref x120, .ref x122, .ref x124]), (x118, oC 3 [.ref x119, .int 6]), (x119, aI Y 6 (upd (upd (upd (upd (upd (upd (upd (fun _ => 0) 0 (-1)) 1 (-1)) 2 (-1)) 3 (-1)) 4 (-1)) 5 (-1)) 0 0)), (x126, oC 10 [.ref x1, .ref x117]), (m0, oC 13 [.ref m1, .ref m2, .int 0, .ref m3, .ref m4, .int 0, .int 0, .int 0, .int (-1), .int 0, .int 0, .int 0, .long 0, .ref m5, .ref m6, .int 0, .int 0]), (m1, aI Y 3640 (upd (upd (upd (upd (upd (upd (clB 0 (fun _ => 0)) 13 1) 10 0) 3629 1) 3630 p1) 12 1) 8 0)), (o0, aJ Y 1 (vp_updL (fun _ => 0) 0 (-1)))] rfl ?_
      rw [mod32 (Int.le_trans (by decide) (b_nlt k7 (n := 0) (by decide +kernel))) (Int.le_trans (b_nge k8 (n := 511) (by decide +kernel)) (by decide))] at k46
      refine V_istore 2885 B (lv2 := [(6, .int (-1)), (5, .int 0), (4, .int 0), (3, .ref o0), (2, .ref m0), (1, .ref x0), (0, .ref b)]) dL_law_2885 (by decide) rfl ?_
      refine V_aload_n 2887 B dL_law_2887 4 rfl ?_
      refine V_cvi 2888 B (st := []) (As := []) (fun sz => mX12_thrown_1 l D Y (m0) (m1) (m2) (m3) (m4) (m5) (m6) sz) glV_RL_182 ⟨rfl, rfl⟩ ⟨(Nat.le_of_ble_eq_true rfl), (Nat.le_of_ble_eq_true rfl)⟩ ⟨(Nat.le_of_ble_eq_true rfl), (Nat.le_of_ble_eq_true rfl)⟩ [10] rfl 13 0 rfl rfl rfl rfl (Nat.le_of_ble_eq_true rfl) rfl (fun _ _ _ => rfl) dL_law_2888 (fun r49 u49 w49 => ?_)
      obtain rfl := w49
      refine V_ws [(x0, oC 12 [.ref x1, .ref x30, .ref x59, .ref x88, .ref x117, .ref x126, .ref x127, .ref x129, .ref x132, .long 0]), (x1, oC 2 [.ref x2, .ref x4, .ref x6, .ref x8, .ref x10, .ref x12, .ref x14, .ref x16, .ref x18, .ref x20, .ref x27, .int 0]), (x2, oC 3 [.ref x3, .int 1]), (x3, aI Y 6 (upd (fun _ => 0) 0 (-1))), (x12, oC 3 [.ref x13, .int 0]), (x27, oC 9 [.ref x28, .int 0, .long 0, .int (-1), .int 1, .int 1, .int 0, .int 0, .int 0]), (x117, oC 11 [.ref x1, .ref x118, .ref x120, .ref x122, .ref x124]), (x118, oC 3 [.ref x119, .int 6]), (x119, aI Y 6 (upd (upd (upd (upd (upd (upd (upd (fun _ => 0) 0 (-1)) 1 (-1)) 2 (-1)) 3 (-1)) 4 (-1)) 5 (-1)) 0 0)), (x126, oC 10 [.ref x1, .ref x117]), (m0, oC 13 [.ref m1, .ref m2, .int 0, .ref m3, .ref m4, .int 0, .int 0, .int 0, .int (-1), .int 0, .int 0, .int 0, .long 0, .ref m5, .ref m6, .int 0, .int 0]), (m1, aI Y 3640 (upd (upd (upd (upd (upd (upd (clB 0 (fun _ => 0)) 13 1) 10 0) 3629 1) 3630 p1) 12 1) 8 0)), (o0, aJ Y 1 (vp_updL (fun _ => 0) 0 (-1)))] rfl ?_
      refine V_iload 2891 B dL_law_2891 1 rfl ?_
      refine V_icmp_eq_t 2893 B 2898 dL_law_2893 (by decide) (by decide +kernel) ?_
      refine V_iload 2898 B dL_law_2898 1 rfl ?_
      refine V_if_ne_f 2900 B 2915 dL_law_2900 (by decide) (by decide +kernel) ?_
      refine V_aload_n 2903 B dL_law_2903 3 rfl ?_
      refine V_iconst 2904 B (v := 0) dL_law_2904 (by decide +kernel) ?_
      refine V_lald 2905 B (v := (-1)) 12 rfl (vpin _ _ (by decide +kernel)) dL_law_2905 rfl ?_
      refine V_iload 2906 B dL_law_2906 0 rfl ?_
      refine V_i2l 2908 B (v := (-1)) dL_law_2908 (by decide +kernel) ?_
      refine V_lcmp 2909 B (v := 0) dL_law_2909 (by decide +kernel) ?_
      refine V_if_eq_t 2910 B 2915 dL_law_2910 (by decide) (by decide +kernel) ?_
      refine V_goto 2915 B 3332 dL_law_2915 (by decide) ?_
      refine V_iinc 3332 B (v := 6) (lv2 := [(4, .int 6), (6, .int (-1)), (5, .int 0), (3, .ref o0), (2, .ref m0), (1, .ref x0), (0, .ref b)]) dL_law_3332 2 rfl (by decide +kernel) (by decide) rfl ?_
      refine V_goto 3335 B 23 dL_law_3335 (by decide) ?_
      refine V_iload 23 B dL_law_23 0 rfl ?_
      refine V_aload_n 25 B dL_law_25 6 rfl ?_
      refine V_slen 26 B hX hbl hbA (v := 6) (by decide +kernel) dL_law_26 ?_
      refine V_bipush 27 B (v := 6) dL_law_27 (by decide +kernel) ?_
      refine V_isub 29 B (v := 0) dL_law_29 (by decide +kernel) ?_
      refine V_icmp_gt_t 30 B 3338 dL_law_30 (by decide) (by decide +kernel) ?_
      exact law_end B (Nat.le_of_ble_eq_true rfl) (Nat.le_of_ble_eq_true rfl) dL_law_3338 dL_law_3339
    ·
      refine V_ws [(x0, oC 12 [.ref x1, .ref x30, .ref x59, .ref x88, .ref x117, .ref x126, .ref x127, .ref x129, .ref x132, .long 0]), (x1, oC 2 [.ref x2, .ref x4, .ref x6, .ref x8, .ref x10, .ref x12, .ref x14, .ref x16, .ref x18, .ref x20, .ref x27, .int 0]), (x2, oC 3 [.ref x3, .int 1]), (x3, aI Y 6 (upd (fun _ => 0) 0 (-1))), (x12, oC 3 [.ref x13, .int 0]), (x27, oC 9 [.ref x28, .int 0, .long 0, .int (-1), .int 1, .int 1, .int 0, .int 0, .int 0]), (x117, oC 11 [.ref x1, .ref x118, .ref x120, .ref x122, .ref x124]), (x118, oC 3 [.ref x119, .int 6]), (x119, aI Y 6 (upd (upd (upd (upd (upd (upd (upd (fun _ => 0) 0 (-1)) 1 (-1)) 2 (-1)) 3 (-1)) 4 (-1)) 5 (-1)) 0 0)), (x126, oC 10 [.ref x1, .ref x117]), (m0, oC 13 [.ref m1, .ref m2, .int 1, .ref m3, .ref m4, .int 0, .int 0, .int 0, .int (-1), .int 0, .int 0, .int 0, .long 0, .ref m5, .ref m6, .int 0, .int 0]), (m1, aI Y 3640 (clB 0 (fun _ => 0))), (o0, aJ Y 1 (vp_updL (fun _ => 0) 0 (-1)))] rfl ?_
      exact (q_abs (b_nlt k7 (n := 0) (by decide +kernel)) (b_lt k47 (n := (-1)) (by decide +kernel)) (by decide +kernel)).elim
    ·
      refine V_ws [(x0, oC 12 [.ref x1, .ref x30, .ref x59, .ref x88, .ref x117, .ref x126, .ref x127, .ref x129, .ref x132, .long 0]), (x1, oC 2 [.ref x2, .ref x4, .ref x6, .ref x8, .ref x10, .ref x12, .ref x14, .ref x16, .ref x18, .ref x20, .ref x27, .int 0]), (x2, oC 3 [.ref x3, .int 1]), (x3, aI Y 6 (upd (fun _ => 0) 0 (-1))), (x12, oC 3 [.ref x13, .int 0]), (x27, oC 9 [.ref x28, .int 0, .long 0, .int (-1), .int 1, .int 1, .int 0, .int 0, .int 0]), (x117, oC 11 [.ref x1, .ref x118, .ref x120, .ref x122, .ref x124]), (x118, oC 3 [.ref x119, .int 6]), (x119, aI Y 6 (upd (upd (upd (upd (upd (upd (upd (fun _ => 0) 0 (-1)) 1 (-1)) 2 (-1)) 3 (-1)) 4 (-1)) 5 (-1)) 0 0)), (x126, oC 10 [.ref x1, .ref x117]), (m0, oC 13 [.ref m1, .ref m2, .int 1, .ref m3, .ref m4, .int 0, .int 0, .int 0, .int (-1), .int 0, .int 0, .int 0, .long 0, .ref m5, .ref m6, .int 0, .int 0]), (m1, aI Y 3640 (clB 0 (fun _ => 0))), (o0, aJ Y 1 (vp_updL (fun _ => 0) 0 (-1)))] rfl ?_
      exact (q_abs (b_gt k48 (n := 512) (by decide +kernel)) (b_nge k8 (n := 511) (by decide +kernel)) (by decide +kernel)).elim
theorem dL_law_2918 : decode cL_law 2918 = .ok (.aload_n 1, 1) := by decide +kernel
theorem dL_law_2919 : decode cL_law 2919 = .ok (.invokevirtual 322, 3) := by decide +kernel
theorem glV_RL_322 : GLV RL 322 yX11_typeDraft RX11 cX11_typeDraft 1 (some .int) 0 := ⟨⟨(mT4 35 rfl rfl), (mT4 36 rfl rfl), (mT4 37 rfl rfl), (mT1 1 rfl rfl), (mT4 38 rfl rfl)⟩, by decide +kernel⟩
theorem dL_law_2922 : decode cL_law 2922 = .ok (.aload_n 2, 1) := by decide +kernel
theorem dL_law_2923 : decode cL_law 2923 = .ok (.invokevirtual 325, 3) := by decide +kernel
theorem glV_RL_325 : GLV RL 325 yX12_typeDraft RX12 cX12_typeDraft 3 (some .int) 0 := ⟨⟨(mT9 117 rfl rfl), (mT9 118 rfl rfl), (mT9 119 rfl rfl), (mT1 13 rfl rfl), (mT9 120 rfl rfl)⟩, by decide +kernel⟩
theorem dL_law_2926 : decode cL_law 2926 = .ok (.if_icmp .eq 406, 3) := by decide +kernel
set_option maxRecDepth 100000 in
set_option maxHeartbeats 4000000 in
theorem law_c50 {p : Program} {l : Launch} {e : Env} {s : State} {m : MethodId} {below : List Frame} {meth : Method} {c : Code} {b : Nat} {xs : Nat → Int32} {D : va_G} {Y : Nat → ClassId} (B : VB p s m #[Value.ref b] meth c D Y (fun q => s.heap.size ≤ q) cL_law 8 RL ret) (EB : EX (fun q => s.heap.size ≤ q) s s.heap) (hl9 : l.stackTraces = false) (hX : va_X b 6 xs s s.heap) (hbl : b < s.heap.size) (hbA : ¬ (fun q => s.heap.size ≤ q) b) (x0 x1 x30 x59 x88 x117 x126 x127 x129 x132 m0 m1 m2 m3 m4 m5 m6 o0 : Nat) : V p l e room_1 s m #[Value.ref b] below meth c D (fun q => s.heap.size ≤ q) 8 149 10574 (lw_Z below #[Value.ref b] s) 2918 [(4, .int 0), (3, .ref o0), (2, .ref m0), (1, .ref x0), (0, .ref b)] [] [(x0, oC 12 [.ref x1, .ref x30, .ref x59, .ref x88, .ref x117, .ref x126, .ref x127, .ref x129, .ref x132, .long 0]), (x126, oC 10 [.ref x1, .ref x117]), (m0, oC 13 [.ref m1, .ref m2, .int 0, .ref m3, .ref m4, .int 0, .int 0, .int 0, .int (-1), .int 0, .int 0, .int 0, .long 0, .ref m5, .ref m6, .int 0, .int 0]), (m1, aI Y 3640 (clB 0 (fun _ => 0)))] := by
  refine V_aload_n 2918 B dL_law_2918 3 rfl ?_
  refine V_cvi 2919 B (st := []) (As := []) (fun sz => mX11_typeDraft_1 l D Y (x0) (x1) (x30) (x59) (x88) (x117) (x126) (x127) (x129) (x132) sz) glV_RL_322 ⟨rfl, rfl⟩ ⟨(Nat.le_of_ble_eq_true rfl), (Nat.le_of_ble_eq_true rfl)⟩ ⟨(Nat.le_of_ble_eq_true rfl), (Nat.le_of_ble_eq_true rfl)⟩ [0, 0] rfl 12 0 rfl rfl rfl rfl (Nat.le_of_ble_eq_true rfl) rfl (fun _ _ _ => rfl) dL_law_2919 (fun r0 u0 w0 => ?_)
  obtain rfl := w0
  refine V_ws [(x0, oC 12 [.ref x1, .ref x30, .ref x59, .ref x88, .ref x117, .ref x126, .ref x127, .ref x129, .ref x132, .long 0]), (x126, oC 10 [.ref x1, .ref x117]), (m0, oC 13 [.ref m1, .ref m2, .int 0, .ref m3, .ref m4, .int 0, .int 0, .int 0, .int (-1), .int 0, .int 0, .int 0, .long 0, .ref m5, .ref m6, .int 0, .int 0]), (m1, aI Y 3640 (clB 0 (fun _ => 0)))] rfl ?_
  refine V_aload_n 2922 B dL_law_2922 2 rfl ?_
  refine V_cvi 2923 B (st := [.int 0]) (As := []) (fun sz => mX12_typeDraft_1 l D Y (m0) (m1) (m2) (m3) (m4) (m5) (m6) sz) glV_RL_325 ⟨rfl, rfl⟩ ⟨(Nat.le_of_ble_eq_true rfl), (Nat.le_of_ble_eq_true rfl)⟩ ⟨(Nat.le_of_ble_eq_true rfl), (Nat.le_of_ble_eq_true rfl)⟩ [2, 0] rfl 13 0 rfl rfl rfl rfl (Nat.le_of_ble_eq_true rfl) rfl (fun _ _ _ => rfl) dL_law_2923 (fun r1 u1 w1 => ?_)
  obtain rfl := w1
  refine V_ws [(x0, oC 12 [.ref x1, .ref x30, .ref x59, .ref x88, .ref x117, .ref x126, .ref x127, .ref x129, .ref x132, .long 0]), (x126, oC 10 [.ref x1, .ref x117]), (m0, oC 13 [.ref m1, .ref m2, .int 0, .ref m3, .ref m4, .int 0, .int 0, .int 0, .int (-1), .int 0, .int 0, .int 0, .long 0, .ref m5, .ref m6, .int 0, .int 0]), (m1, aI Y 3640 (clB 0 (fun _ => 0)))] rfl ?_
  refine V_icmp_eq_t 2926 B 3332 dL_law_2926 (by decide) (by decide +kernel) ?_
  refine V_iinc 3332 B (v := 6) (lv2 := [(4, .int 6), (3, .ref o0), (2, .ref m0), (1, .ref x0), (0, .ref b)]) dL_law_3332 0 rfl (by decide +kernel) (by decide) rfl ?_
  refine V_goto 3335 B 23 dL_law_3335 (by decide) ?_
  refine V_iload 23 B dL_law_23 0 rfl ?_
  refine V_aload_n 25 B dL_law_25 4 rfl ?_
  refine V_slen 26 B hX hbl hbA (v := 6) (by decide +kernel) dL_law_26 ?_
  refine V_bipush 27 B (v := 6) dL_law_27 (by decide +kernel) ?_
  refine V_isub 29 B (v := 0) dL_law_29 (by decide +kernel) ?_
  refine V_icmp_gt_t 30 B 3338 dL_law_30 (by decide) (by decide +kernel) ?_
  exact law_end B (Nat.le_of_ble_eq_true rfl) (Nat.le_of_ble_eq_true rfl) dL_law_3338 dL_law_3339
theorem dL_law_2931 : decode cL_law 2931 = .ok (.aload_n 1, 1) := by decide +kernel
theorem dL_law_2932 : decode cL_law 2932 = .ok (.invokevirtual 326, 3) := by decide +kernel
theorem glV_RL_326 : GLV RL 326 yX11_play RX11 cX11_play 2 (some .int) 0 := ⟨⟨(mT4 98 rfl rfl), (mT4 99 rfl rfl), (mT4 100 rfl rfl), (mT1 1 rfl rfl), (mT4 101 rfl rfl)⟩, by decide +kernel⟩
theorem dL_law_2935 : decode cL_law 2935 = .ok (.aload_n 2, 1) := by decide +kernel
theorem dL_law_2936 : decode cL_law 2936 = .ok (.invokevirtual 329, 3) := by decide +kernel
theorem glV_RL_329 : GLV RL 329 yX12_play RX12 cX12_play 3 (some .int) 0 := ⟨⟨(mT10 58 rfl rfl), (mT10 59 rfl rfl), (mT10 60 rfl rfl), (mT1 13 rfl rfl), (mT10 61 rfl rfl)⟩, by decide +kernel⟩
theorem dL_law_2939 : decode cL_law 2939 = .ok (.if_icmp .eq 393, 3) := by decide +kernel
set_option maxRecDepth 100000 in
set_option maxHeartbeats 4000000 in
theorem law_c51 {p : Program} {l : Launch} {e : Env} {s : State} {m : MethodId} {below : List Frame} {meth : Method} {c : Code} {b : Nat} {xs : Nat → Int32} {D : va_G} {Y : Nat → ClassId} (B : VB p s m #[Value.ref b] meth c D Y (fun q => s.heap.size ≤ q) cL_law 8 RL ret) (EB : EX (fun q => s.heap.size ≤ q) s s.heap) (hl9 : l.stackTraces = false) (hX : va_X b 6 xs s s.heap) (hbl : b < s.heap.size) (hbA : ¬ (fun q => s.heap.size ≤ q) b) (x0 x1 x30 x59 x88 x117 x126 x127 x129 x132 x128 x133 x135 x137 x139 x134 x136 x138 x140 m0 m1 m2 m3 m4 m5 m6 o0 : Nat) : V p l e room_1 s m #[Value.ref b] below meth c D (fun q => s.heap.size ≤ q) 8 149 10574 (lw_Z below #[Value.ref b] s) 2931 [(4, .int 0), (3, .ref o0), (2, .ref m0), (1, .ref x0), (0, .ref b)] [] [(x0, oC 12 [.ref x1, .ref x30, .ref x59, .ref x88, .ref x117, .ref x126, .ref x127, .ref x129, .ref x132, .long 0]), (x127, oC 8 [.ref x128, .int 0, .int 0, .int 0, .int 0, .int 0, .long 0, .int 0, .int (-1)]), (x132, oC 6 [.ref x127, .ref x1, .ref x126, .ref x133, .ref x135, .ref x137, .ref x139]), (x133, oC 3 [.ref x134, .int 0]), (x135, oC 3 [.ref x136, .int 0]), (x137, oC 3 [.ref x138, .int 0]), (x139, oC 7 [.ref x140, .int 0]), (m0, oC 13 [.ref m1, .ref m2, .int 0, .ref m3, .ref m4, .int 0, .int 0, .int 0, .int (-1), .int 0, .int 0, .int 0, .long 0, .ref m5, .ref m6, .int 0, .int 0])] := by
  refine V_aload_n 2931 B dL_law_2931 3 rfl ?_
  refine V_cvi 2932 B (st := []) (As := []) (fun sz => mX11_play_1 l D Y (x0) (x1) (x30) (x59) (x88) (x117) (x126) (x127) (x129) (x132) (x128) (x133) (x135) (x137) (x139) (x134) (x136) (x138) (x140) sz) glV_RL_326 ⟨rfl, rfl⟩ ⟨(Nat.le_of_ble_eq_true rfl), (Nat.le_of_ble_eq_true rfl)⟩ ⟨(Nat.le_of_ble_eq_true rfl), (Nat.le_of_ble_eq_true rfl)⟩ [0, 0, 0, 0, 0, 0, 0] rfl 12 0 rfl rfl rfl rfl (Nat.le_of_ble_eq_true rfl) rfl (fun _ _ _ => rfl) dL_law_2932 (fun r0 u0 w0 => ?_)
  obtain rfl := w0
  refine V_ws [(x0, oC 12 [.ref x1, .ref x30, .ref x59, .ref x88, .ref x117, .ref x126, .ref x127, .ref x129, .ref x132, .long 0]), (x127, oC 8 [.ref x128, .int 0, .int 0, .int 0, .int 0, .int 0, .long 0, .int 0, .int (-1)]), (x132, oC 6 [.ref x127, .ref x1, .ref x126, .ref x133, .ref x135, .ref x137, .ref x139]), (x133, oC 3 [.ref x134, .int 0]), (x135, oC 3 [.ref x136, .int 0]), (x137, oC 3 [.ref x138, .int 0]), (x139, oC 7 [.ref x140, .int 0]), (m0, oC 13 [.ref m1, .ref m2, .int 0, .ref m3, .ref m4, .int 0, .int 0, .int 0, .int (-1), .int 0, .int 0, .int 0, .long 0, .ref m5, .ref m6, .int 0, .int 0])] rfl ?_
  refine V_aload_n 2935 B dL_law_2935 2 rfl ?_
  refine V_cvi 2936 B (st := [.int 0]) (As := []) (fun sz => mX12_play_1 l D Y (m0) (m1) (m2) (m3) (m4) (m5) (m6) sz) glV_RL_329 ⟨rfl, rfl⟩ ⟨(Nat.le_of_ble_eq_true rfl), (Nat.le_of_ble_eq_true rfl)⟩ ⟨(Nat.le_of_ble_eq_true rfl), (Nat.le_of_ble_eq_true rfl)⟩ [7] rfl 13 0 rfl rfl rfl rfl (Nat.le_of_ble_eq_true rfl) rfl (fun _ _ _ => rfl) dL_law_2936 (fun r1 u1 w1 => ?_)
  obtain rfl := w1
  refine V_ws [(x0, oC 12 [.ref x1, .ref x30, .ref x59, .ref x88, .ref x117, .ref x126, .ref x127, .ref x129, .ref x132, .long 0]), (x127, oC 8 [.ref x128, .int 0, .int 0, .int 0, .int 0, .int 0, .long 0, .int 0, .int (-1)]), (x132, oC 6 [.ref x127, .ref x1, .ref x126, .ref x133, .ref x135, .ref x137, .ref x139]), (x133, oC 3 [.ref x134, .int 0]), (x135, oC 3 [.ref x136, .int 0]), (x137, oC 3 [.ref x138, .int 0]), (x139, oC 7 [.ref x140, .int 0]), (m0, oC 13 [.ref m1, .ref m2, .int 0, .ref m3, .ref m4, .int 0, .int 0, .int 0, .int (-1), .int 0, .int 0, .int 0, .long 0, .ref m5, .ref m6, .int 0, .int 0])] rfl ?_
  refine V_icmp_eq_t 2939 B 3332 dL_law_2939 (by decide) (by decide +kernel) ?_
  refine V_iinc 3332 B (v := 6) (lv2 := [(4, .int 6), (3, .ref o0), (2, .ref m0), (1, .ref x0), (0, .ref b)]) dL_law_3332 0 rfl (by decide +kernel) (by decide) rfl ?_
  refine V_goto 3335 B 23 dL_law_3335 (by decide) ?_
  refine V_iload 23 B dL_law_23 0 rfl ?_
  refine V_aload_n 25 B dL_law_25 4 rfl ?_
  refine V_slen 26 B hX hbl hbA (v := 6) (by decide +kernel) dL_law_26 ?_
  refine V_bipush 27 B (v := 6) dL_law_27 (by decide +kernel) ?_
  refine V_isub 29 B (v := 0) dL_law_29 (by decide +kernel) ?_
  refine V_icmp_gt_t 30 B 3338 dL_law_30 (by decide) (by decide +kernel) ?_
  exact law_end B (Nat.le_of_ble_eq_true rfl) (Nat.le_of_ble_eq_true rfl) dL_law_3338 dL_law_3339
theorem dL_tick_0 : decode cL_tick 0 = .ok (.aload_n 2, 1) := by decide +kernel
theorem dL_tick_1 : decode cL_tick 1 = .ok (.iconst 0, 1) := by decide +kernel
theorem dL_tick_2 : decode cL_tick 2 = .ok (.aload_n 0, 1) := by decide +kernel
theorem dL_tick_3 : decode cL_tick 3 = .ok (.iload_n 1, 1) := by decide +kernel
theorem dL_tick_4 : decode cL_tick 4 = .ok (.invokevirtual 134, 3) := by decide +kernel
theorem glV_RL_134 : GLV RL 134 yX11_tick RX11 cX11_tick 2 (some .int) 1 := ⟨⟨(mT7 82 rfl rfl), (mT7 83 rfl rfl), (mT7 84 rfl rfl), (mT1 1 rfl rfl), (mT7 85 rfl rfl)⟩, by decide +kernel⟩
theorem dL_tick_12 : decode cL_tick 12 = .ok (.astore_n 3, 1) := by decide +kernel
theorem dL_tick_13 : decode cL_tick 13 = .ok (.iconst 1, 1) := by decide +kernel
theorem dL_tick_14 : decode cL_tick 14 = .ok (.ireturn, 1) := by decide +kernel
theorem dL_tick_7 : decode cL_tick 7 = .ok (.i2l, 1) := by decide +kernel
theorem dL_tick_8 : decode cL_tick 8 = .ok (.lastore, 1) := by decide +kernel
theorem dL_tick_9 : decode cL_tick 9 = .ok (.goto 6, 3) := by decide +kernel
theorem dL_tick_15 : decode cL_tick 15 = .ok (.iconst 0, 1) := by decide +kernel
theorem dL_tick_16 : decode cL_tick 16 = .ok (.ireturn, 1) := by decide +kernel
set_option maxRecDepth 100000 in
set_option maxHeartbeats 4000000 in
theorem mL_tick_1 (l : Launch) (hl9 : l.stackTraces = false) (D : va_G) (Y : Nat → ClassId) (h0 : Nat) (h3 : Nat) (h1 : Nat) (g0 : Nat) (g1 : Nat) (g2 : Nat) (g3 : Nat) (g4 : Nat) (g5 : Nat) (g6 : Nat) (g7 : Nat) (g8 : Nat) (g9 : Nat) (g10 : Nat) (g11 : Nat) (g12 : Nat) (g13 : Nat) (g14 : Nat) (g15 : Nat) (g16 : Nat) (g17 : Nat) (h2 : Nat) (g18 : Nat) (p0 : Int32) (sz : Nat) : Met l yL_tick (Cond.codeWith yL_tick cL_tick 4 (some .int) [(0, 9, 12, 13)] :: lw_good) (mkR 7 1 6 103) (PreX D Y [.ref h0, .int p0, .ref h3] [(h0, oC 12 [.ref h1, .ref g0, .ref g1, .ref g2, .ref g3, .ref g4, .ref g5, .ref g6, .ref g7, .long 0]), (h1, oC 2 [.ref g8, .ref g9, .ref g10, .ref g11, .ref g12, .ref g13, .ref g14, .ref g15, .ref g16, .ref g17, .ref h2, .int 0]), (h2, oC 9 [.ref g18, .int 0, .long 0, .int (-1), .int 0, .int 0, .int 0, .int 0, .int 0]), (h3, aJ Y 1 (fun _ => 0))] sz) (QI D (fun (r : Int32) (u : Nat) => (u = 0 ∧ p0 < 1 ∧ 1 = r) ∨ (u = 1 ∧ ¬ p0 < 1 ∧ ¬ p0 ≤ 1000 ∧ 1 = r) ∨ (u = 2 ∧ ¬ p0 < 1 ∧ p0 ≤ 1000 ∧ p0 ≤ 1000000 ∧ 0 = r)) (fun (u : Nat) => match u with | 0 => [(h0, oC 12 [.ref h1, .ref g0, .ref g1, .ref g2, .ref g3, .ref g4, .ref g5, .ref g6, .ref g7, .long 0]), (h1, oC 2 [.ref g8, .ref g9, .ref g10, .ref g11, .ref g12, .ref g13, .ref g14, .ref g15, .ref g16, .ref g17, .ref h2, .int 0]), (h2, oC 9 [.ref g18, .int 0, .long 0, .int (-1), .int 0, .int 0, .int 0, .int 0, .int 0]), (h3, aJ Y 1 (fun _ => 0))] | 1 => [(h0, oC 12 [.ref h1, .ref g0, .ref g1, .ref g2, .ref g3, .ref g4, .ref g5, .ref g6, .ref g7, .long 0]), (h1, oC 2 [.ref g8, .ref g9, .ref g10, .ref g11, .ref g12, .ref g13, .ref g14, .ref g15, .ref g16, .ref g17, .ref h2, .int 0]), (h2, oC 9 [.ref g18, .int 0, .long 0, .int (-1), .int 0, .int 0, .int 0, .int 0, .int 0]), (h3, aJ Y 1 (fun _ => 0))] | _ => [(h0, oC 12 [.ref h1, .ref g0, .ref g1, .ref g2, .ref g3, .ref g4, .ref g5, .ref g6, .ref g7, .long 0]), (h1, oC 2 [.ref g8, .ref g9, .ref g10, .ref g11, .ref g12, .ref g13, .ref g14, .ref g15, .ref g16, .ref g17, .ref h2, .int 0]), (h2, oC 9 [.ref g18, .int 0, .long 0, .int (-1), .int 0, .int 0, .int p0, .int 0, .int 0]), (h3, aJ Y 1 (vp_updL (fun _ => 0) 0 p0.toInt64))]) (va_A [(h0, oC 12 [.ref h1, .ref g0, .ref g1, .ref g2, .ref g3, .ref g4, .ref g5, .ref g6, .ref g7, .long 0]), (h1, oC 2 [.ref g8, .ref g9, .ref g10, .ref g11, .ref g12, .ref g13, .ref g14, .ref g15, .ref g16, .ref g17, .ref h2, .int 0]), (h2, oC 9 [.ref g18, .int 0, .long 0, .int (-1), .int 0, .int 0, .int 0, .int 0, .int 0]), (h3, aJ Y 1 (fun _ => 0))] sz)) 1 6 (va_A [(h0, oC 12 [.ref h1, .ref g0, .ref g1, .ref g2, .ref g3, .ref g4, .ref g5, .ref g6, .ref g7, .long 0]), (h1, oC 2 [.ref g8, .ref g9, .ref g10, .ref g11, .ref g12, .ref g13, .ref g14, .ref g15, .ref g16, .ref g17, .ref h2, .int 0]), (h2, oC 9 [.ref g18, .int 0, .long 0, .int (-1), .int 0, .int 0, .int 0, .int 0, .int 0]), (h3, aJ Y 1 (fun _ => 0))] sz) :=
  metH_of (by decide +kernel) (Nat.le_of_ble_eq_true rfl) (fun p e s m args below meth c B EB htab hsz => by
    have B : VB p s m args meth c D Y (va_A [(h0, oC 12 [.ref h1, .ref g0, .ref g1, .ref g2, .ref g3, .ref g4, .ref g5, .ref g6, .ref g7, .long 0]), (h1, oC 2 [.ref g8, .ref g9, .ref g10, .ref g11, .ref g12, .ref g13, .ref g14, .ref g15, .ref g16, .ref g17, .ref h2, .int 0]), (h2, oC 9 [.ref g18, .int 0, .long 0, .int (-1), .int 0, .int 0, .int 0, .int 0, .int 0]), (h3, aJ Y 1 (fun _ => 0))] sz) cL_tick 4 RL (some .int) := B
    refine V_aload_n 0 B dL_tick_0 2 rfl ?_
    refine V_iconst 1 B (v := 0) dL_tick_1 (by decide +kernel) ?_
    refine V_aload_n 2 B dL_tick_2 0 rfl ?_
    refine V_iload_n 3 B dL_tick_3 1 rfl ?_
    refine V_xvi 4 B EB (st := [.int 0, .ref h3]) (As := [.int p0]) (fun sz => mX11_tick_1 l hl9 D Y (h0) (h1) (g0) (g1) (g2) (g3) (g4) (g5) (g6) (g7) (g8) (g9) (g10) (g11) (g12) (g13) (g14) (g15) (g16) (g17) (h2) (g18) (p0) sz) glV_RL_134 ⟨rfl, rfl⟩ ⟨(Nat.le_of_ble_eq_true rfl), (Nat.le_of_ble_eq_true rfl)⟩ ⟨(Nat.le_of_ble_eq_true rfl), (Nat.le_of_ble_eq_true rfl)⟩ [0, 0, 0] rfl 12 0 rfl rfl rfl rfl (Nat.le_of_ble_eq_true rfl) rfl (fun _ _ _ => rfl) (fun _ _ _ => rfl) dL_tick_4 (fun E u0 w0 => ?_) (fun r0 u0 w0 => ?_)
    ·
      rcases w0 with ⟨rfl, k1⟩ | ⟨rfl, k2, k3⟩
      ·
        refine VX_catch 4 B htab [] (0, 9, 12, 13) [] rfl "java/lang/IllegalArgumentException" (fun z hz => nomatch hz) rfl (by decide) (mT5 20 rfl rfl) (EB.2.2.2.1 _ (List.mem_of_getElem? (i := 0) rfl)) 12 rfl (fun q9 => ?_)
        refine V_ws [(h0, oC 12 [.ref h1, .ref g0, .ref g1, .ref g2, .ref g3, .ref g4, .ref g5, .ref g6, .ref g7, .long 0]), (h1, oC 2 [.ref g8, .ref g9, .ref g10, .ref g11, .ref g12, .ref g13, .ref g14, .ref g15, .ref g16, .ref g17, .ref h2, .int 0]), (h2, oC 9 [.ref g18, .int 0, .long 0, .int (-1), .int 0, .int 0, .int 0, .int 0, .int 0]), (h3, aJ Y 1 (fun _ => 0))] rfl ?_
        refine V_astore_n 12 B (lv2 := [(3, .ref q9), (0, .ref h0), (1, .int p0), (2, .ref h3)]) dL_tick_12 (by decide) rfl ?_
        refine V_iconst 13 B (v := 1) dL_tick_13 (by decide +kernel) ?_
        exact V_iret 14 B dL_tick_14 0 (Or.inl ⟨rfl, k1, rfl⟩) rfl
      ·
        refine VX_catch 4 B htab [] (0, 9, 12, 13) [] rfl "java/lang/IllegalArgumentException" (fun z hz => nomatch hz) rfl (by decide) (mT5 20 rfl rfl) (EB.2.2.2.1 _ (List.mem_of_getElem? (i := 0) rfl)) 12 rfl (fun q9 => ?_)
        refine V_ws [(h0, oC 12 [.ref h1, .ref g0, .ref g1, .ref g2, .ref g3, .ref g4, .ref g5, .ref g6, .ref g7, .long 0]), (h1, oC 2 [.ref g8, .ref g9, .ref g10, .ref g11, .ref g12, .ref g13, .ref g14, .ref g15, .ref g16, .ref g17, .ref h2, .int 0]), (h2, oC 9 [.ref g18, .int 0, .long 0, .int (-1), .int 0, .int 0, .int 0, .int 0, .int 0]), (h3, aJ Y 1 (fun _ => 0))] rfl ?_
        refine V_astore_n 12 B (lv2 := [(3, .ref q9), (0, .ref h0), (1, .int p0), (2, .ref h3)]) dL_tick_12 (by decide) rfl ?_
        refine V_iconst 13 B (v := 1) dL_tick_13 (by decide +kernel) ?_
        exact V_iret 14 B dL_tick_14 1 (Or.inr (Or.inl ⟨rfl, k2, k3, rfl⟩)) rfl
    ·
      obtain ⟨k4, k5, k6, rfl⟩ := w0
      refine V_ws [(h0, oC 12 [.ref h1, .ref g0, .ref g1, .ref g2, .ref g3, .ref g4, .ref g5, .ref g6, .ref g7, .long 0]), (h1, oC 2 [.ref g8, .ref g9, .ref g10, .ref g11, .ref g12, .ref g13, .ref g14, .ref g15, .ref g16, .ref g17, .ref h2, .int 0]), (h2, oC 9 [.ref g18, .int 0, .long 0, .int (-1), .int 0, .int 0, .int p0, .int 0, .int 0]), (h3, aJ Y 1 (fun _ => 0))] rfl ?_
      refine V_i2l 7 B dL_tick_7 rfl ?_
      refine V_last 8 B 3 rfl (vpin _ _ (by decide +kernel)) dL_tick_8 [(h0, oC 12 [.ref h1, .ref g0, .ref g1, .ref g2, .ref g3, .ref g4, .ref g5, .ref g6, .ref g7, .long 0]), (h1, oC 2 [.ref g8, .ref g9, .ref g10, .ref g11, .ref g12, .ref g13, .ref g14, .ref g15, .ref g16, .ref g17, .ref h2, .int 0]), (h2, oC 9 [.ref g18, .int 0, .long 0, .int (-1), .int 0, .int 0, .int p0, .int 0, .int 0]), (h3, aJ Y 1 (vp_updL (fun _ => 0) 0 p0.toInt64))] rfl ?_
      refine V_goto 9 B 15 dL_tick_9 (by decide) ?_
      refine V_iconst 15 B (v := 0) dL_tick_15 (by decide +kernel) ?_
      exact V_iret 16 B dL_tick_16 2 (Or.inr (Or.inr ⟨rfl, k4, k5, k6, rfl⟩)) rfl)
theorem dL_law_2944 : decode cL_law 2944 = .ok (.aload_n 1, 1) := by decide +kernel
theorem dL_law_2945 : decode cL_law 2945 = .ok (.aload_n 0, 1) := by decide +kernel
theorem dL_law_2946 : decode cL_law 2946 = .ok (.iload 4, 2) := by decide +kernel
theorem dL_law_2948 : decode cL_law 2948 = .ok (.iconst 1, 1) := by decide +kernel
theorem dL_law_2949 : decode cL_law 2949 = .ok (.iadd, 1) := by decide +kernel
theorem dL_law_2950 : decode cL_law 2950 = .ok (.iaload, 1) := by decide +kernel
theorem dL_law_2951 : decode cL_law 2951 = .ok (.aload_n 3, 1) := by decide +kernel
theorem dL_law_2952 : decode cL_law 2952 = .ok (.invokestatic 330, 3) := by decide +kernel
theorem glH_RL_330 : GLH RL 330 yL_tick cL_tick 4 (some .int) [(0, 9, 12, 13)] 3 := ⟨⟨(mT7 79 rfl rfl), (mT7 80 rfl rfl), (mT1 0 rfl rfl), (mT7 81 rfl rfl)⟩, by decide +kernel⟩
theorem dL_law_2955 : decode cL_law 2955 = .ok (.istore 5, 2) := by decide +kernel
theorem dL_law_2957 : decode cL_law 2957 = .ok (.aload_n 2, 1) := by decide +kernel
theorem dL_law_2958 : decode cL_law 2958 = .ok (.aload_n 0, 1) := by decide +kernel
theorem dL_law_2959 : decode cL_law 2959 = .ok (.iload 4, 2) := by decide +kernel
theorem dL_law_2961 : decode cL_law 2961 = .ok (.iconst 1, 1) := by decide +kernel
theorem dL_law_2962 : decode cL_law 2962 = .ok (.iadd, 1) := by decide +kernel
theorem dL_law_2963 : decode cL_law 2963 = .ok (.iaload, 1) := by decide +kernel
theorem dL_law_2964 : decode cL_law 2964 = .ok (.invokevirtual 332, 3) := by decide +kernel
theorem glV_RL_332 : GLV RL 332 yX12_tick RX12 cX12_tick 2 (some .int) 1 := ⟨⟨(mT9 121 rfl rfl), (mT9 122 rfl rfl), (mT9 123 rfl rfl), (mT1 13 rfl rfl), (mT9 124 rfl rfl)⟩, by decide +kernel⟩
theorem dL_law_2967 : decode cL_law 2967 = .ok (.istore 6, 2) := by decide +kernel
theorem dL_law_2969 : decode cL_law 2969 = .ok (.aload_n 2, 1) := by decide +kernel
theorem dL_law_2970 : decode cL_law 2970 = .ok (.invokevirtual 182, 3) := by decide +kernel
theorem dL_law_2973 : decode cL_law 2973 = .ok (.iload 5, 2) := by decide +kernel
theorem dL_law_2975 : decode cL_law 2975 = .ok (.if_icmp .eq 5, 3) := by decide +kernel
theorem dL_law_2980 : decode cL_law 2980 = .ok (.iload 5, 2) := by decide +kernel
theorem dL_law_2982 : decode cL_law 2982 = .ok (.ifCond .ne 15, 3) := by decide +kernel
theorem dL_law_2997 : decode cL_law 2997 = .ok (.goto 335, 3) := by decide +kernel
theorem dL_law_2985 : decode cL_law 2985 = .ok (.aload_n 3, 1) := by decide +kernel
theorem dL_law_2986 : decode cL_law 2986 = .ok (.iconst 0, 1) := by decide +kernel
theorem dL_law_2987 : decode cL_law 2987 = .ok (.laload, 1) := by decide +kernel
theorem dL_law_2988 : decode cL_law 2988 = .ok (.iload 6, 2) := by decide +kernel
theorem dL_law_2990 : decode cL_law 2990 = .ok (.i2l, 1) := by decide +kernel
theorem dL_law_2991 : decode cL_law 2991 = .ok (.lcmp, 1) := by decide +kernel
theorem dL_law_2992 : decode cL_law 2992 = .ok (.ifCond .eq 5, 3) := by decide +kernel
set_option maxRecDepth 100000 in
set_option maxHeartbeats 4000000 in
theorem law_c52 {p : Program} {l : Launch} {e : Env} {s : State} {m : MethodId} {below : List Frame} {meth : Method} {c : Code} {b : Nat} {xs : Nat → Int32} {D : va_G} {Y : Nat → ClassId} (B : VB p s m #[Value.ref b] meth c D Y (fun q => s.heap.size ≤ q) cL_law 8 RL ret) (EB : EX (fun q => s.heap.size ≤ q) s s.heap) (hl9 : l.stackTraces = false) (hX : va_X b 6 xs s s.heap) (hbl : b < s.heap.size) (hbA : ¬ (fun q => s.heap.size ≤ q) b) (x0 x1 x30 x59 x88 x117 x126 x127 x129 x132 x2 x4 x6 x8 x10 x12 x14 x16 x18 x20 x27 x28 m0 m1 m2 m3 m4 m5 m6 o0 : Nat) (p1 : Int32) (e1 : xs 1 = p1) : V p l e room_1 s m #[Value.ref b] below meth c D (fun q => s.heap.size ≤ q) 8 149 10574 (lw_Z below #[Value.ref b] s) 2944 [(4, .int 0), (3, .ref o0), (2, .ref m0), (1, .ref x0), (0, .ref b)] [] [(x0, oC 12 [.ref x1, .ref x30, .ref x59, .ref x88, .ref x117, .ref x126, .ref x127, .ref x129, .ref x132, .long 0]), (x1, oC 2 [.ref x2, .ref x4, .ref x6, .ref x8, .ref x10, .ref x12, .ref x14, .ref x16, .ref x18, .ref x20, .ref x27, .int 0]), (x27, oC 9 [.ref x28, .int 0, .long 0, .int (-1), .int 0, .int 0, .int 0, .int 0, .int 0]), (m0, oC 13 [.ref m1, .ref m2, .int 0, .ref m3, .ref m4, .int 0, .int 0, .int 0, .int (-1), .int 0, .int 0, .int 0, .long 0, .ref m5, .ref m6, .int 0, .int 0]), (m1, aI Y 3640 (clB 0 (fun _ => 0))), (o0, aJ Y 1 (fun _ => 0))] := by
  refine V_aload_n 2944 B dL_law_2944 3 rfl ?_
  refine V_aload_n 2945 B dL_law_2945 4 rfl ?_
  refine V_iload 2946 B dL_law_2946 0 rfl ?_
  refine V_iconst 2948 B (v := 1) dL_law_2948 (by decide +kernel) ?_
  refine V_iadd 2949 B (v := 1) dL_law_2949 (by decide +kernel) ?_
  refine V_sld 2950 B hX hbl hbA (v := p1) (vpin _ _ (by decide +kernel)) dL_law_2950 e1 ?_
  refine V_aload_n 2951 B dL_law_2951 1 rfl ?_
  refine V_hsi 2952 B EB (st := []) (As := [.ref x0, .int p1, .ref o0]) (fun sz => mL_tick_1 l hl9 D Y (x0) (o0) (x1) (x30) (x59) (x88) (x117) (x126) (x127) (x129) (x132) (x2) (x4) (x6) (x8) (x10) (x12) (x14) (x16) (x18) (x20) (x27) (x28) (p1) sz) glH_RL_330 ⟨rfl, rfl⟩ ⟨(Nat.le_of_ble_eq_true rfl), (Nat.le_of_ble_eq_true rfl)⟩ ⟨(Nat.le_of_ble_eq_true rfl), (Nat.le_of_ble_eq_true rfl)⟩ [0, 0, 0, 2] rfl rfl (Nat.le_of_ble_eq_true rfl) rfl (fun _ u _ => by
        first | rfl | (split <;> rfl) | (dsimp only; split <;> rfl)) dL_law_2952 (fun r0 u0 w0 => ?_)
  rcases w0 with ⟨rfl, k1, rfl⟩ | ⟨rfl, k2, k3, rfl⟩ | ⟨rfl, k4, k5, k6, rfl⟩
  ·
    refine V_ws [(x0, oC 12 [.ref x1, .ref x30, .ref x59, .ref x88, .ref x117, .ref x126, .ref x127, .ref x129, .ref x132, .long 0]), (x1, oC 2 [.ref x2, .ref x4, .ref x6, .ref x8, .ref x10, .ref x12, .ref x14, .ref x16, .ref x18, .ref x20, .ref x27, .int 0]), (x27, oC 9 [.ref x28, .int 0, .long 0, .int (-1), .int 0, .int 0, .int 0, .int 0, .int 0]), (m0, oC 13 [.ref m1, .ref m2, .int 0, .ref m3, .ref m4, .int 0, .int 0, .int 0, .int (-1), .int 0, .int 0, .int 0, .long 0, .ref m5, .ref m6, .int 0, .int 0]), (m1, aI Y 3640 (clB 0 (fun _ => 0))), (o0, aJ Y 1 (fun _ => 0))] rfl ?_
    refine V_istore 2955 B (lv2 := [(5, .int 1), (4, .int 0), (3, .ref o0), (2, .ref m0), (1, .ref x0), (0, .ref b)]) dL_law_2955 (by decide) rfl ?_
    refine V_aload_n 2957 B dL_law_2957 3 rfl ?_
    refine V_aload_n 2958 B dL_law_2958 5 rfl ?_
    refine V_iload 2959 B dL_law_2959 1 rfl ?_
    refine V_iconst 2961 B (v := 1) dL_law_2961 (by decide +kernel) ?_
    refine V_iadd 2962 B (v := 1) dL_law_2962 (by decide +kernel) ?_
    refine V_sld 2963 B hX hbl hbA (v := p1) (vpin _ _ (by decide +kernel)) dL_law_2963 e1 ?_
    refine V_cvi 2964 B (st := []) (As := [.int p1]) (fun sz => mX12_tick_1 l D Y (m0) (m1) (m2) (m3) (m4) (m5) (m6) (p1) sz) glV_RL_332 ⟨rfl, rfl⟩ ⟨(Nat.le_of_ble_eq_true rfl), (Nat.le_of_ble_eq_true rfl)⟩ ⟨(Nat.le_of_ble_eq_true rfl), (Nat.le_of_ble_eq_true rfl)⟩ [3, 0] rfl 13 0 rfl rfl rfl rfl (Nat.le_of_ble_eq_true rfl) rfl (fun _ u _ => by
        first | rfl | (split <;> rfl) | (dsimp only; split <;> rfl)) dL_law_2964 (fun r7 u7 w7 => ?_)
    rcases w7 with ⟨rfl, k8, k9, rfl⟩ | ⟨rfl, k10, rfl⟩ | ⟨rfl, k11, rfl⟩
    ·
      refine V_ws [(x0, oC 12 [.ref x1, .ref x30, .ref x59, .ref x88, .ref x117, .ref x126, .ref x127, .ref x129, .ref x132, .long 0]), (x1, oC 2 [.ref x2, .ref x4, .ref x6, .ref x8, .ref x10, .ref x12, .ref x14, .ref x16, .ref x18, .ref x20, .ref x27, .int 0]), (x27, oC 9 [.ref x28, .int 0, .long 0, .int (-1), .int 0, .int 0, .int 0, .int 0, .int 0]), (m0, oC 13 [.ref m1, .ref m2, .int 0, .ref m3, .ref m4, .int 0, .int 0, .int 0, .int (-1), .int 0, .int 0, .int 0, .long 0, .ref m5, .ref m6, .int 0, .int 0]), (m1, aI Y 3640 (upd (clB 0 (fun _ => 0)) 9 p1)), (o0, aJ Y 1 (fun _ => 0))] rfl ?_
      exact (q_abs (b_nlt k8 (n := 1) (by decide +kernel)) (b_lt k1 (n := 0) (by decide +kernel)) (by decide +kernel)).elim
    ·
      refine V_ws [(x0, oC 12 [.ref x1, .ref x30, .ref x59, .ref x88, .ref x117, .ref x126, .ref x127, .ref x129, .ref x132, .long 0]), (x1, oC 2 [.ref x2, .ref x4, .ref x6, .ref x8, .ref x10, .ref x12, .ref x14, .ref x16, .ref x18, .ref x20, .ref x27, .int 0]), (x27, oC 9 [.ref x28, .int 0, .long 0, .int (-1), .int 0, .int 0, .int 0, .int 0, .int 0]), (m0, oC 13 [.ref m1, .ref m2, .int 1, .ref m3, .ref m4, .int 0, .int 0, .int 0, .int (-1), .int 0, .int 0, .int 0, .long 0, .ref m5, .ref m6, .int 0, .int 0]), (m1, aI Y 3640 (clB 0 (fun _ => 0))), (o0, aJ Y 1 (fun _ => 0))] rfl ?_
      refine V_istore 2967 B (lv2 := [(6, .int 0), (5, .int 1), (4, .int 0), (3, .ref o0), (2, .ref m0), (1, .ref x0), (0, .ref b)]) dL_law_2967 (by decide) rfl ?_
      refine V_aload_n 2969 B dL_law_2969 4 rfl ?_
      refine V_cvi 2970 B (st := []) (As := []) (fun sz => mX12_thrown_2 l D Y (m0) (m1) (m2) (m3) (m4) (m5) (m6) sz) glV_RL_182 ⟨rfl, rfl⟩ ⟨(Nat.le_of_ble_eq_true rfl), (Nat.le_of_ble_eq_true rfl)⟩ ⟨(Nat.le_of_ble_eq_true rfl), (Nat.le_of_ble_eq_true rfl)⟩ [3] rfl 13 0 rfl rfl rfl rfl (Nat.le_of_ble_eq_true rfl) rfl (fun _ _ _ => rfl) dL_law_2970 (fun r12 u12 w12 => ?_)
      obtain rfl := w12
      refine V_ws [(x0, oC 12 [.ref x1, .ref x30, .ref x59, .ref x88, .ref x117, .ref x126, .ref x127, .ref x129, .ref x132, .long 0]), (x1, oC 2 [.ref x2, .ref x4, .ref x6, .ref x8, .ref x10, .ref x12, .ref x14, .ref x16, .ref x18, .ref x20, .ref x27, .int 0]), (x27, oC 9 [.ref x28, .int 0, .long 0, .int (-1), .int 0, .int 0, .int 0, .int 0, .int 0]), (m0, oC 13 [.ref m1, .ref m2, .int 1, .ref m3, .ref m4, .int 0, .int 0, .int 0, .int (-1), .int 0, .int 0, .int 0, .long 0, .ref m5, .ref m6, .int 0, .int 0]), (m1, aI Y 3640 (clB 0 (fun _ => 0))), (o0, aJ Y 1 (fun _ => 0))] rfl ?_
      refine V_iload 2973 B dL_law_2973 1 rfl ?_
      refine V_icmp_eq_t 2975 B 2980 dL_law_2975 (by decide) (by decide +kernel) ?_
      refine V_iload 2980 B dL_law_2980 1 rfl ?_
      refine V_if_ne_t 2982 B 2997 dL_law_2982 (by decide) (by decide +kernel) ?_
      refine V_goto 2997 B 3332 dL_law_2997 (by decide) ?_
      refine V_iinc 3332 B (v := 6) (lv2 := [(4, .int 6), (6, .int 0), (5, .int 1), (3, .ref o0), (2, .ref m0), (1, .ref x0), (0, .ref b)]) dL_law_3332 2 rfl (by decide +kernel) (by decide) rfl ?_
      refine V_goto 3335 B 23 dL_law_3335 (by decide) ?_
      refine V_iload 23 B dL_law_23 0 rfl ?_
      refine V_aload_n 25 B dL_law_25 6 rfl ?_
      refine V_slen 26 B hX hbl hbA (v := 6) (by decide +kernel) dL_law_26 ?_
      refine V_bipush 27 B (v := 6) dL_law_27 (by decide +kernel) ?_
      refine V_isub 29 B (v := 0) dL_law_29 (by decide +kernel) ?_
      refine V_icmp_gt_t 30 B 3338 dL_law_30 (by decide) (by decide +kernel) ?_
      exact law_end B (Nat.le_of_ble_eq_true rfl) (Nat.le_of_ble_eq_true rfl) dL_law_3338 dL_law_3339
    ·
      refine V_ws [(x0, oC 12 [.ref x1, .ref x30, .ref x59, .ref x88, .ref x117, .ref x126, .ref x127, .ref x129, .ref x132, .long 0]), (x1, oC 2 [.ref x2, .ref x4, .ref x6, .ref x8, .ref x10, .ref x12, .ref x14, .ref x16, .ref x18, .ref x20, .ref x27, .int 0]), (x27, oC 9 [.ref x28, .int 0, .long 0, .int (-1), .int 0, .int 0, .int 0, .int 0, .int 0]), (m0, oC 13 [.ref m1, .ref m2, .int 1, .ref m3, .ref m4, .int 0, .int 0, .int 0, .int (-1), .int 0, .int 0, .int 0, .long 0, .ref m5, .ref m6, .int 0, .int 0]), (m1, aI Y 3640 (clB 0 (fun _ => 0))), (o0, aJ Y 1 (fun _ => 0))] rfl ?_
      exact (q_abs (b_gt k11 (n := 1001) (by decide +kernel)) (b_lt k1 (n := 0) (by decide +kernel)) (by decide +kernel)).elim
  ·
    refine V_ws [(x0, oC 12 [.ref x1, .ref x30, .ref x59, .ref x88, .ref x117, .ref x126, .ref x127, .ref x129, .ref x132, .long 0]), (x1, oC 2 [.ref x2, .ref x4, .ref x6, .ref x8, .ref x10, .ref x12, .ref x14, .ref x16, .ref x18, .ref x20, .ref x27, .int 0]), (x27, oC 9 [.ref x28, .int 0, .long 0, .int (-1), .int 0, .int 0, .int 0, .int 0, .int 0]), (m0, oC 13 [.ref m1, .ref m2, .int 0, .ref m3, .ref m4, .int 0, .int 0, .int 0, .int (-1), .int 0, .int 0, .int 0, .long 0, .ref m5, .ref m6, .int 0, .int 0]), (m1, aI Y 3640 (clB 0 (fun _ => 0))), (o0, aJ Y 1 (fun _ => 0))] rfl ?_
    refine V_istore 2955 B (lv2 := [(5, .int 1), (4, .int 0), (3, .ref o0), (2, .ref m0), (1, .ref x0), (0, .ref b)]) dL_law_2955 (by decide) rfl ?_
    refine V_aload_n 2957 B dL_law_2957 3 rfl ?_
    refine V_aload_n 2958 B dL_law_2958 5 rfl ?_
    refine V_iload 2959 B dL_law_2959 1 rfl ?_
    refine V_iconst 2961 B (v := 1) dL_law_2961 (by decide +kernel) ?_
    refine V_iadd 2962 B (v := 1) dL_law_2962 (by decide +kernel) ?_
    refine V_sld 2963 B hX hbl hbA (v := p1) (vpin _ _ (by decide +kernel)) dL_law_2963 e1 ?_
    refine V_cvi 2964 B (st := []) (As := [.int p1]) (fun sz => mX12_tick_1 l D Y (m0) (m1) (m2) (m3) (m4) (m5) (m6) (p1) sz) glV_RL_332 ⟨rfl, rfl⟩ ⟨(Nat.le_of_ble_eq_true rfl), (Nat.le_of_ble_eq_true rfl)⟩ ⟨(Nat.le_of_ble_eq_true rfl), (Nat.le_of_ble_eq_true rfl)⟩ [3, 0] rfl 13 0 rfl rfl rfl rfl (Nat.le_of_ble_eq_true rfl) rfl (fun _ u _ => by
        first | rfl | (split <;> rfl) | (dsimp only; split <;> rfl)) dL_law_2964 (fun r13 u13 w13 => ?_)
    rcases w13 with ⟨rfl, k14, k15, rfl⟩ | ⟨rfl, k16, rfl⟩ | ⟨rfl, k17, rfl⟩
    ·
      refine V_ws [(x0, oC 12 [.ref x1, .ref x30, .ref x59, .ref x88, .ref x117, .ref x126, .ref x127, .ref x129, .ref x132, .long 0]), (x1, oC 2 [.ref x2, .ref x4, .ref x6, .ref x8, .ref x10, .ref x12, .ref x14, .ref x16, .ref x18, .ref x20, .ref x27, .int 0]), (x27, oC 9 [.ref x28, .int 0, .long 0, .int (-1), .int 0, .int 0, .int 0, .int 0, .int 0]), (m0, oC 13 [.ref m1, .ref m2, .int 0, .ref m3, .ref m4, .int 0, .int 0, .int 0, .int (-1), .int 0, .int 0, .int 0, .long 0, .ref m5, .ref m6, .int 0, .int 0]), (m1, aI Y 3640 (upd (clB 0 (fun _ => 0)) 9 p1)), (o0, aJ Y 1 (fun _ => 0))] rfl ?_
      exact (q_abs (b_nle k3 (n := 1001) (by decide +kernel)) (b_ngt k15 (n := 1000) (by decide +kernel)) (by decide +kernel)).elim
    ·
      refine V_ws [(x0, oC 12 [.ref x1, .ref x30, .ref x59, .ref x88, .ref x117, .ref x126, .ref x127, .ref x129, .ref x132, .long 0]), (x1, oC 2 [.ref x2, .ref x4, .ref x6, .ref x8, .ref x10, .ref x12, .ref x14, .ref x16, .ref x18, .ref x20, .ref x27, .int 0]), (x27, oC 9 [.ref x28, .int 0, .long 0, .int (-1), .int 0, .int 0, .int 0, .int 0, .int 0]), (m0, oC 13 [.ref m1, .ref m2, .int 1, .ref m3, .ref m4, .int 0, .int 0, .int 0, .int (-1), .int 0, .int 0, .int 0, .long 0, .ref m5, .ref m6, .int 0, .int 0]), (m1, aI Y 3640 (clB 0 (fun _ => 0))), (o0, aJ Y 1 (fun _ => 0))] rfl ?_
      exact (q_abs (b_nle k3 (n := 1001) (by decide +kernel)) (b_lt k16 (n := 0) (by decide +kernel)) (by decide +kernel)).elim
    ·
      refine V_ws [(x0, oC 12 [.ref x1, .ref x30, .ref x59, .ref x88, .ref x117, .ref x126, .ref x127, .ref x129, .ref x132, .long 0]), (x1, oC 2 [.ref x2, .ref x4, .ref x6, .ref x8, .ref x10, .ref x12, .ref x14, .ref x16, .ref x18, .ref x20, .ref x27, .int 0]), (x27, oC 9 [.ref x28, .int 0, .long 0, .int (-1), .int 0, .int 0, .int 0, .int 0, .int 0]), (m0, oC 13 [.ref m1, .ref m2, .int 1, .ref m3, .ref m4, .int 0, .int 0, .int 0, .int (-1), .int 0, .int 0, .int 0, .long 0, .ref m5, .ref m6, .int 0, .int 0]), (m1, aI Y 3640 (clB 0 (fun _ => 0))), (o0, aJ Y 1 (fun _ => 0))] rfl ?_
      refine V_istore 2967 B (lv2 := [(6, .int 0), (5, .int 1), (4, .int 0), (3, .ref o0), (2, .ref m0), (1, .ref x0), (0, .ref b)]) dL_law_2967 (by decide) rfl ?_
      refine V_aload_n 2969 B dL_law_2969 4 rfl ?_
      refine V_cvi 2970 B (st := []) (As := []) (fun sz => mX12_thrown_2 l D Y (m0) (m1) (m2) (m3) (m4) (m5) (m6) sz) glV_RL_182 ⟨rfl, rfl⟩ ⟨(Nat.le_of_ble_eq_true rfl), (Nat.le_of_ble_eq_true rfl)⟩ ⟨(Nat.le_of_ble_eq_true rfl), (Nat.le_of_ble_eq_true rfl)⟩ [3] rfl 13 0 rfl rfl rfl rfl (Nat.le_of_ble_eq_true rfl) rfl (fun _ _ _ => rfl) dL_law_2970 (fun r18 u18 w18 => ?_)
      obtain rfl := w18
      refine V_ws [(x0, oC 12 [.ref x1, .ref x30, .ref x59, .ref x88, .ref x117, .ref x126, .ref x127, .ref x129, .ref x132, .long 0]), (x1, oC 2 [.ref x2, .ref x4, .ref x6, .ref x8, .ref x10, .ref x12, .ref x14, .ref x16, .ref x18, .ref x20, .ref x27, .int 0]), (x27, oC 9 [.ref x28, .int 0, .long 0, .int (-1), .int 0, .int 0, .int 0, .int 0, .int 0]), (m0, oC 13 [.ref m1, .ref m2, .int 1, .ref m3, .ref m4, .int 0, .int 0, .int 0, .int (-1), .int 0, .int 0, .int 0, .long 0, .ref m5, .ref m6, .int 0, .int 0]), (m1, aI Y 3640 (clB 0 (fun _ => 0))), (o0, aJ Y 1 (fun _ => 0))] rfl ?_
      refine V_iload 2973 B dL_law_2973 1 rfl ?_
      refine V_icmp_eq_t 2975 B 2980 dL_law_2975 (by decide) (by decide +kernel) ?_
      refine V_iload 2980 B dL_law_2980 1 rfl ?_
      refine V_if_ne_t 2982 B 2997 dL_law_2982 (by decide) (by decide +kernel) ?_
      refine V_goto 2997 B 3332 dL_law_2997 (by decide) ?_
      refine V_iinc 3332 B (v := 6) (lv2 := [(4, .int 6), (6, .int 0), (5, .int 1), (3, .ref o0), (2, .ref m0), (1, .ref x0), (0, .ref b)]) dL_law_3332 2 rfl (by decide +kernel) (by decide) rfl ?_
      refine V_goto 3335 B 23 dL_law_3335 (by decide) ?_
      refine V_iload 23 B dL_law_23 0 rfl ?_
      refine V_aload_n 25 B dL_law_25 6 rfl ?_
      refine V_slen 26 B hX hbl hbA (v := 6) (by decide +kernel) dL_law_26 ?_
      refine V_bipush 27 B (v := 6) dL_law_27 (by decide +kernel) ?_
      refine V_isub 29 B (v := 0) dL_law_29 (by decide +kernel) ?_
      refine V_icmp_gt_t 30 B 3338 dL_law_30 (by decide) (by decide +kernel) ?_
      exact law_end B (Nat.le_of_ble_eq_true rfl) (Nat.le_of_ble_eq_true rfl) dL_law_3338 dL_law_3339
  ·
    refine V_ws [(x0, oC 12 [.ref x1, .ref x30, .ref x59, .ref x88, .ref x117, .ref x126, .ref x127, .ref x129, .ref x132, .long 0]), (x1, oC 2 [.ref x2, .ref x4, .ref x6, .ref x8, .ref x10, .ref x12, .ref x14, .ref x16, .ref x18, .ref x20, .ref x27, .int 0]), (x27, oC 9 [.ref x28, .int 0, .long 0, .int (-1), .int 0, .int 0, .int p1, .int 0, .int 0]), (m0, oC 13 [.ref m1, .ref m2, .int 0, .ref m3, .ref m4, .int 0, .int 0, .int 0, .int (-1), .int 0, .int 0, .int 0, .long 0, .ref m5, .ref m6, .int 0, .int 0]), (m1, aI Y 3640 (clB 0 (fun _ => 0))), (o0, aJ Y 1 (vp_updL (fun _ => 0) 0 p1.toInt64))] rfl ?_
    refine V_istore 2955 B (lv2 := [(5, .int 0), (4, .int 0), (3, .ref o0), (2, .ref m0), (1, .ref x0), (0, .ref b)]) dL_law_2955 (by decide) rfl ?_
    refine V_aload_n 2957 B dL_law_2957 3 rfl ?_
    refine V_aload_n 2958 B dL_law_2958 5 rfl ?_
    refine V_iload 2959 B dL_law_2959 1 rfl ?_
    refine V_iconst 2961 B (v := 1) dL_law_2961 (by decide +kernel) ?_
    refine V_iadd 2962 B (v := 1) dL_law_2962 (by decide +kernel) ?_
    refine V_sld 2963 B hX hbl hbA (v := p1) (vpin _ _ (by decide +kernel)) dL_law_2963 e1 ?_
    refine V_cvi 2964 B (st := []) (As := [.int p1]) (fun sz => mX12_tick_1 l D Y (m0) (m1) (m2) (m3) (m4) (m5) (m6) (p1) sz) glV_RL_332 ⟨rfl, rfl⟩ ⟨(Nat.le_of_ble_eq_true rfl), (Nat.le_of_ble_eq_true rfl)⟩ ⟨(Nat.le_of_ble_eq_true rfl), (Nat.le_of_ble_eq_true rfl)⟩ [3, 0] rfl 13 0 rfl rfl rfl rfl (Nat.le_of_ble_eq_true rfl) rfl (fun _ u _ => by
        first | rfl | (split <;> rfl) | (dsimp only; split <;> rfl)) dL_law_2964 (fun r19 u19 w19 => ?_)
    rcases w19 with ⟨rfl, k20, k21, rfl⟩ | ⟨rfl, k22, rfl⟩ | ⟨rfl, k23, rfl⟩
    ·
      refine V_ws [(x0, oC 12 [.ref x1, .ref x30, .ref x59, .ref x88, .ref x117, .ref x126, .ref x127, .ref x129, .ref x132, .long 0]), (x1, oC 2 [.ref x2, .ref x4, .ref x6, .ref x8, .ref x10, .ref x12, .ref x14, .ref x16, .ref x18, .ref x20, .ref x27, .int 0]), (x27, oC 9 [.ref x28, .int 0, .long 0, .int (-1), .int 0, .int 0, .int p1, .int 0, .int 0]), (m0, oC 13 [.ref m1, .ref m2, .int 0, .ref m3, .ref m4, .int 0, .int 0, .int 0, .int (-1), .int 0, .int 0, .int 0, .long 0, .ref m5, .ref m6, .int 0, .int 0]), (m1, aI Y 3640 (upd (clB 0 (fun _ => 0)) 9 p1)), (o0, aJ Y 1 (vp_updL (fun _ => 0) 0 p1.toInt64))] rfl ?_
      refine V_istore 2967 B (lv2 := [(6, .int p1), (5, .int 0), (4, .int 0), (3, .ref o0), (2, .ref m0), (1, .ref x0), (0, .ref b)]) dL_law_2967 (by decide) rfl ?_
      refine V_aload_n 2969 B dL_law_2969 4 rfl ?_
      refine V_cvi 2970 B (st := []) (As := []) (fun sz => mX12_thrown_1 l D Y (m0) (m1) (m2) (m3) (m4) (m5) (m6) sz) glV_RL_182 ⟨rfl, rfl⟩ ⟨(Nat.le_of_ble_eq_true rfl), (Nat.le_of_ble_eq_true rfl)⟩ ⟨(Nat.le_of_ble_eq_true rfl), (Nat.le_of_ble_eq_true rfl)⟩ [3] rfl 13 0 rfl rfl rfl rfl (Nat.le_of_ble_eq_true rfl) rfl (fun _ _ _ => rfl) dL_law_2970 (fun r24 u24 w24 => ?_)
      obtain rfl := w24
      refine V_ws [(x0, oC 12 [.ref x1, .ref x30, .ref x59, .ref x88, .ref x117, .ref x126, .ref x127, .ref x129, .ref x132, .long 0]), (x1, oC 2 [.ref x2, .ref x4, .ref x6, .ref x8, .ref x10, .ref x12, .ref x14, .ref x16, .ref x18, .ref x20, .ref x27, .int 0]), (x27, oC 9 [.ref x28, .int 0, .long 0, .int (-1), .int 0, .int 0, .int p1, .int 0, .int 0]), (m0, oC 13 [.ref m1, .ref m2, .int 0, .ref m3, .ref m4, .int 0, .int 0, .int 0, .int (-1), .int 0, .int 0, .int 0, .long 0, .ref m5, .ref m6, .int 0, .int 0]), (m1, aI Y 3640 (upd (clB 0 (fun _ => 0)) 9 p1)), (o0, aJ Y 1 (vp_updL (fun _ => 0) 0 p1.toInt64))] rfl ?_
      refine V_iload 2973 B dL_law_2973 1 rfl ?_
      refine V_icmp_eq_t 2975 B 2980 dL_law_2975 (by decide) (by decide +kernel) ?_
      refine V_iload 2980 B dL_law_2980 1 rfl ?_
      refine V_if_ne_f 2982 B 2997 dL_law_2982 (by decide) (by decide +kernel) ?_
      refine V_aload_n 2985 B dL_law_2985 3 rfl ?_
      refine V_iconst 2986 B (v := 0) dL_law_2986 (by decide +kernel) ?_
      refine V_lald 2987 B (v := p1.toInt64) 5 rfl (vpin _ _ (by decide +kernel)) dL_law_2987 rfl ?_
      refine V_iload 2988 B dL_law_2988 0 rfl ?_
      refine V_i2l 2990 B dL_law_2990 rfl ?_
      refine V_lcmp 2991 B (v := 0) dL_law_2991 (lc_refl _) ?_
      refine V_if_eq_t 2992 B 2997 dL_law_2992 (by decide) (by decide +kernel) ?_
      refine V_goto 2997 B 3332 dL_law_2997 (by decide) ?_
      refine V_iinc 3332 B (v := 6) (lv2 := [(4, .int 6), (6, .int p1), (5, .int 0), (3, .ref o0), (2, .ref m0), (1, .ref x0), (0, .ref b)]) dL_law_3332 2 rfl (by decide +kernel) (by decide) rfl ?_
      refine V_goto 3335 B 23 dL_law_3335 (by decide) ?_
      refine V_iload 23 B dL_law_23 0 rfl ?_
      refine V_aload_n 25 B dL_law_25 6 rfl ?_
      refine V_slen 26 B hX hbl hbA (v := 6) (by decide +kernel) dL_law_26 ?_
      refine V_bipush 27 B (v := 6) dL_law_27 (by decide +kernel) ?_
      refine V_isub 29 B (v := 0) dL_law_29 (by decide +kernel) ?_
      refine V_icmp_gt_t 30 B 3338 dL_law_30 (by decide) (by decide +kernel) ?_
      exact law_end B (Nat.le_of_ble_eq_true rfl) (Nat.le_of_ble_eq_true rfl) dL_law_3338 dL_law_3339
    ·
      refine V_ws [(x0, oC 12 [.ref x1, .ref x30, .ref x59, .ref x88, .ref x117, .ref x126, .ref x127, .ref x129, .ref x132, .long 0]), (x1, oC 2 [.ref x2, .ref x4, .ref x6, .ref x8, .ref x10, .ref x12, .ref x14, .ref x16, .ref x18, .ref x20, .ref x27, .int 0]), (x27, oC 9 [.ref x28, .int 0, .long 0, .int (-1), .int 0, .int 0, .int p1, .int 0, .int 0]), (m0, oC 13 [.ref m1, .ref m2, .int 1, .ref m3, .ref m4, .int 0, .int 0, .int 0, .int (-1), .int 0, .int 0, .int 0, .long 0, .ref m5, .ref m6, .int 0, .int 0]), (m1, aI Y 3640 (clB 0 (fun _ => 0))), (o0, aJ Y 1 (vp_updL (fun _ => 0) 0 p1.toInt64))] rfl ?_
      exact (q_abs (b_nlt k4 (n := 1) (by decide +kernel)) (b_lt k22 (n := 0) (by decide +kernel)) (by decide +kernel)).elim
    ·
      refine V_ws [(x0, oC 12 [.ref x1, .ref x30, .ref x59, .ref x88, .ref x117, .ref x126, .ref x127, .ref x129, .ref x132, .long 0]), (x1, oC 2 [.ref x2, .ref x4, .ref x6, .ref x8, .ref x10, .ref x12, .ref x14, .ref x16, .ref x18, .ref x20, .ref x27, .int 0]), (x27, oC 9 [.ref x28, .int 0, .long 0, .int (-1), .int 0, .int 0, .int p1, .int 0, .int 0]), (m0, oC 13 [.ref m1, .ref m2, .int 1, .ref m3, .ref m4, .int 0, .int 0, .int 0, .int (-1), .int 0, .int 0, .int 0, .long 0, .ref m5, .ref m6, .int 0, .int 0]), (m1, aI Y 3640 (clB 0 (fun _ => 0))), (o0, aJ Y 1 (vp_updL (fun _ => 0) 0 p1.toInt64))] rfl ?_
      exact (q_abs (b_gt k23 (n := 1001) (by decide +kernel)) (b_le k5 (n := 1000) (by decide +kernel)) (by decide +kernel)).elim
set_option maxRecDepth 100000 in
set_option maxHeartbeats 4000000 in
theorem mX12_typing_2 (l : Launch) (D : va_G) (Y : Nat → ClassId) (h0 : Nat) (h1 : Nat) (g0 : Nat) (g1 : Nat) (g2 : Nat) (g3 : Nat) (g4 : Nat) (sz : Nat) : Met l yX12_typing (WSm yX12_typing cX12_typing 2 (some .int)) (mkR 0 0 0 0) (PreC D Y [.ref h0, .int 0] [(h0, oC 13 [.ref h1, .ref g0, .int 0, .ref g1, .ref g2, .int 0, .int 0, .int 0, .int (-1), .int 0, .int 0, .int 0, .long 0, .ref g3, .ref g4, .int 0, .int 0]), (h1, aI Y 3640 (clB 0 (fun _ => 0)))] sz) (QI D (fun (r : Int32) (u : Unit) => 0 = r) (fun (_ : Unit) => [(h0, oC 13 [.ref h1, .ref g0, .int 0, .ref g1, .ref g2, .int 0, .int 0, .int 0, .int (-1), .int 0, .int 0, .int 0, .long 0, .ref g3, .ref g4, .int 0, .int 0]), (h1, aI Y 3640 (clB 0 (fun _ => 0)))]) (va_A [(h0, oC 13 [.ref h1, .ref g0, .int 0, .ref g1, .ref g2, .int 0, .int 0, .int 0, .int (-1), .int 0, .int 0, .int 0, .long 0, .ref g3, .ref g4, .int 0, .int 0]), (h1, aI Y 3640 (clB 0 (fun _ => 0)))] sz)) 0 0 (va_A [(h0, oC 13 [.ref h1, .ref g0, .int 0, .ref g1, .ref g2, .int 0, .int 0, .int 0, .int (-1), .int 0, .int 0, .int 0, .long 0, .ref g3, .ref g4, .int 0, .int 0]), (h1, aI Y 3640 (clB 0 (fun _ => 0)))] sz) :=
  met_of (by decide +kernel) (Nat.le_of_ble_eq_true rfl) (fun p e s m args below meth c B hin hsz => by
    have B : VB p s m args meth c D Y (va_A [(h0, oC 13 [.ref h1, .ref g0, .int 0, .ref g1, .ref g2, .int 0, .int 0, .int 0, .int (-1), .int 0, .int 0, .int 0, .long 0, .ref g3, .ref g4, .int 0, .int 0]), (h1, aI Y 3640 (clB 0 (fun _ => 0)))] sz) cX12_typing 2 RX12 (some .int) := B
    refine V_aload_n 0 B dX12_typing_0 0 rfl ?_
    refine V_iconst 1 B (v := 0) dX12_typing_1 (by decide +kernel) ?_
    refine V_put 2 B gp_RX12_38 0 rfl (Nat.le_of_ble_eq_true rfl) rfl rfl dX12_typing_2 [(h0, oC 13 [.ref h1, .ref g0, .int 0, .ref g1, .ref g2, .int 0, .int 0, .int 0, .int (-1), .int 0, .int 0, .int 0, .long 0, .ref g3, .ref g4, .int 0, .int 0]), (h1, aI Y 3640 (clB 0 (fun _ => 0)))] rfl ?_
    refine V_iload_n 5 B dX12_typing_5 1 rfl ?_
    refine V_tableIn 6 B 40 dX12_typing_6 (by decide +kernel) (by decide +kernel) (off := 34) (by decide +kernel) (by decide) ?_
    refine V_aload_n 40 B dX12_typing_40 0 rfl ?_
    refine V_get 41 B gf_RX12_9 0 rfl rfl dX12_typing_41 ?_
    refine V_bipush 44 B (v := 6) dX12_typing_44 (by decide +kernel) ?_
    refine V_iald 46 B (v := 0) 1 rfl (vpin _ _ (by decide +kernel)) dX12_typing_46 rfl ?_
    exact V_iret 47 B dX12_typing_47 () rfl rfl)
