theorem dL_law_2222 : decode cL_law 2222 = .ok (.aload_n 1, 1) := by decide +kernel
theorem dL_law_2223 : decode cL_law 2223 = .ok (.invokevirtual 281, 3) := by decide +kernel
theorem glV_RL_281 : GLV RL 281 yX11_draftCost RX11 cX11_draftCost 1 (some .int) 0 := ⟨⟨(mT3 232 rfl rfl), (mT3 233 rfl rfl), (mT3 234 rfl rfl), (mT1 1 rfl rfl), (mT3 235 rfl rfl)⟩, by decide +kernel⟩
theorem dL_law_2226 : decode cL_law 2226 = .ok (.aload_n 2, 1) := by decide +kernel
theorem dL_law_2227 : decode cL_law 2227 = .ok (.invokevirtual 284, 3) := by decide +kernel
theorem glV_RL_284 : GLV RL 284 yX12_draftCost RX12 cX12_draftCost 1 (some .int) 0 := ⟨⟨(mT7 233 rfl rfl), (mT7 234 rfl rfl), (mT7 235 rfl rfl), (mT1 13 rfl rfl), (mT7 236 rfl rfl)⟩, by decide +kernel⟩
theorem dL_law_2230 : decode cL_law 2230 = .ok (.if_icmp .eq 1102, 3) := by decide +kernel
set_option maxRecDepth 100000 in
set_option maxHeartbeats 4000000 in
theorem law_c37 {p : Program} {l : Launch} {e : Env} {s : State} {m : MethodId} {below : List Frame} {meth : Method} {c : Code} {b : Nat} {xs : Nat → Int32} {D : va_G} {Y : Nat → ClassId} (B : VB p s m #[Value.ref b] meth c D Y (fun q => s.heap.size ≤ q) cL_law 8 RL ret) (EB : EX (fun q => s.heap.size ≤ q) s s.heap) (hl9 : l.stackTraces = false) (hX : va_X b 6 xs s s.heap) (hbl : b < s.heap.size) (hbA : ¬ (fun q => s.heap.size ≤ q) b) (x0 x1 x30 x59 x88 x117 x126 x127 x129 x132 m0 m1 m2 m3 m4 m5 m6 o0 : Nat) : V p l e room_1 s m #[Value.ref b] below meth c D (fun q => s.heap.size ≤ q) 8 149 10574 (lw_Z below #[Value.ref b] s) 2222 [(4, .int 0), (3, .ref o0), (2, .ref m0), (1, .ref x0), (0, .ref b)] [] [(x0, oC 12 [.ref x1, .ref x30, .ref x59, .ref x88, .ref x117, .ref x126, .ref x127, .ref x129, .ref x132, .long 0]), (m0, oC 13 [.ref m1, .ref m2, .int 0, .ref m3, .ref m4, .int 0, .int 0, .int 0, .int (-1), .int 0, .int 0, .int 0, .long 0, .ref m5, .ref m6, .int 0, .int 0]), (m1, aI Y 3640 (clB 0 (fun _ => 0)))] := by
  refine V_aload_n 2222 B dL_law_2222 3 rfl ?_
  refine V_cvi 2223 B (st := []) (As := []) (fun sz => mX11_draftCost_1 l D Y (x0) (x1) (x30) (x59) (x88) (x117) (x126) (x127) (x129) (x132) sz) glV_RL_281 ⟨rfl, rfl⟩ ⟨(Nat.le_of_ble_eq_true rfl), (Nat.le_of_ble_eq_true rfl)⟩ ⟨(Nat.le_of_ble_eq_true rfl), (Nat.le_of_ble_eq_true rfl)⟩ [0] rfl 12 0 rfl rfl rfl rfl (Nat.le_of_ble_eq_true rfl) rfl (fun _ _ _ => rfl) dL_law_2223 (fun r0 u0 w0 => ?_)
  obtain rfl := w0
  refine V_ws [(x0, oC 12 [.ref x1, .ref x30, .ref x59, .ref x88, .ref x117, .ref x126, .ref x127, .ref x129, .ref x132, .long 0]), (m0, oC 13 [.ref m1, .ref m2, .int 0, .ref m3, .ref m4, .int 0, .int 0, .int 0, .int (-1), .int 0, .int 0, .int 0, .long 0, .ref m5, .ref m6, .int 0, .int 0]), (m1, aI Y 3640 (clB 0 (fun _ => 0)))] rfl ?_
  refine V_aload_n 2226 B dL_law_2226 2 rfl ?_
  refine V_cvi 2227 B (st := [.int 0]) (As := []) (fun sz => mX12_draftCost_1 l D Y (m0) (m1) (m2) (m3) (m4) (m5) (m6) sz) glV_RL_284 ⟨rfl, rfl⟩ ⟨(Nat.le_of_ble_eq_true rfl), (Nat.le_of_ble_eq_true rfl)⟩ ⟨(Nat.le_of_ble_eq_true rfl), (Nat.le_of_ble_eq_true rfl)⟩ [1, 0] rfl 13 0 rfl rfl rfl rfl (Nat.le_of_ble_eq_true rfl) rfl (fun _ _ _ => rfl) dL_law_2227 (fun r1 u1 w1 => ?_)
  obtain rfl := w1
  refine V_ws [(x0, oC 12 [.ref x1, .ref x30, .ref x59, .ref x88, .ref x117, .ref x126, .ref x127, .ref x129, .ref x132, .long 0]), (m0, oC 13 [.ref m1, .ref m2, .int 0, .ref m3, .ref m4, .int 0, .int 0, .int 0, .int (-1), .int 0, .int 0, .int 0, .long 0, .ref m5, .ref m6, .int 0, .int 0]), (m1, aI Y 3640 (clB 0 (fun _ => 0)))] rfl ?_
  refine V_icmp_eq_t 2230 B 3332 dL_law_2230 (by decide) (by decide +kernel) ?_
  refine V_iinc 3332 B (v := 6) (lv2 := [(4, .int 6), (3, .ref o0), (2, .ref m0), (1, .ref x0), (0, .ref b)]) dL_law_3332 0 rfl (by decide +kernel) (by decide) rfl ?_
  refine V_goto 3335 B 23 dL_law_3335 (by decide) ?_
  refine V_iload 23 B dL_law_23 0 rfl ?_
  refine V_aload_n 25 B dL_law_25 4 rfl ?_
  refine V_slen 26 B hX hbl hbA (v := 6) (by decide +kernel) dL_law_26 ?_
  refine V_bipush 27 B (v := 6) dL_law_27 (by decide +kernel) ?_
  refine V_isub 29 B (v := 0) dL_law_29 (by decide +kernel) ?_
  refine V_icmp_gt_t 30 B 3338 dL_law_30 (by decide) (by decide +kernel) ?_
  exact law_end B (Nat.le_of_ble_eq_true rfl) (Nat.le_of_ble_eq_true rfl) dL_law_3338 dL_law_3339
theorem dL_effort_0 : decode cL_effort 0 = .ok (.aload_n 2, 1) := by decide +kernel
theorem dL_effort_1 : decode cL_effort 1 = .ok (.iconst 0, 1) := by decide +kernel
theorem dL_effort_2 : decode cL_effort 2 = .ok (.aload_n 0, 1) := by decide +kernel
theorem dL_effort_3 : decode cL_effort 3 = .ok (.iload_n 1, 1) := by decide +kernel
theorem dL_effort_4 : decode cL_effort 4 = .ok (.invokevirtual 97, 3) := by decide +kernel
theorem glV_RL_97 : GLV RL 97 yX11_effort RX11 cX11_effort 6 (some .long) 1 := ⟨⟨(mT6 200 rfl rfl), (mT6 201 rfl rfl), (mT6 202 rfl rfl), (mT1 1 rfl rfl), (mT6 203 rfl rfl)⟩, by decide +kernel⟩
theorem dL_effort_11 : decode cL_effort 11 = .ok (.astore_n 3, 1) := by decide +kernel
theorem dL_effort_12 : decode cL_effort 12 = .ok (.iconst 1, 1) := by decide +kernel
theorem dL_effort_13 : decode cL_effort 13 = .ok (.ireturn, 1) := by decide +kernel
theorem dL_effort_7 : decode cL_effort 7 = .ok (.lastore, 1) := by decide +kernel
theorem dL_effort_8 : decode cL_effort 8 = .ok (.goto 6, 3) := by decide +kernel
theorem dL_effort_14 : decode cL_effort 14 = .ok (.iconst 0, 1) := by decide +kernel
theorem dL_effort_15 : decode cL_effort 15 = .ok (.ireturn, 1) := by decide +kernel
set_option maxRecDepth 100000 in
set_option maxHeartbeats 4000000 in
theorem mL_effort_1 (l : Launch) (hl9 : l.stackTraces = false) (D : va_G) (Y : Nat → ClassId) (h0 : Nat) (h10 : Nat) (h1 : Nat) (g0 : Nat) (g1 : Nat) (g2 : Nat) (h6 : Nat) (g3 : Nat) (g4 : Nat) (g5 : Nat) (g6 : Nat) (h2 : Nat) (h4 : Nat) (g7 : Nat) (g8 : Nat) (g9 : Nat) (h5 : Nat) (g10 : Nat) (g11 : Nat) (g12 : Nat) (g13 : Nat) (g14 : Nat) (h3 : Nat) (g15 : Nat) (g16 : Nat) (h7 : Nat) (h9 : Nat) (g17 : Nat) (g18 : Nat) (h8 : Nat) (g19 : Nat) (p0 : Int32) (sz : Nat) : Met l yL_effort (Cond.codeWith yL_effort cL_effort 4 (some .int) [(0, 8, 11, 18)] :: lw_good) (mkR 8 1 6 128) (PreX D Y [.ref h0, .int p0, .ref h10] [(h0, oC 12 [.ref h1, .ref g0, .ref g1, .ref g2, .ref h6, .ref g3, .ref g4, .ref g5, .ref g6, .long 0]), (h1, oC 2 [.ref h2, .ref h4, .ref g7, .ref g8, .ref g9, .ref h5, .ref g10, .ref g11, .ref g12, .ref g13, .ref g14, .int 0]), (h2, oC 3 [.ref h3, .int 1]), (h3, aI Y 6 (upd (fun _ => 0) 0 (-1))), (h4, oC 3 [.ref g15, .int 0]), (h5, oC 3 [.ref g16, .int 0]), (h6, oC 11 [.ref h1, .ref h7, .ref h9, .ref g17, .ref g18]), (h7, oC 3 [.ref h8, .int 0]), (h8, aI Y 6 (fun _ => 0)), (h9, oC 3 [.ref g19, .int 0]), (h10, aJ Y 1 (fun _ => 0))] sz) (QI D (fun (r : Int32) (u : Nat) => (u = 0 ∧ p0 < 0 ∧ 1 = r) ∨ (u = 1 ∧ ¬ p0 < 0 ∧ 1 ≤ p0 ∧ 1 = r) ∨ (u = 2 ∧ p0 = 0 ∧ 0 = r)) (fun (u : Nat) => match u with | 0 => [(h0, oC 12 [.ref h1, .ref g0, .ref g1, .ref g2, .ref h6, .ref g3, .ref g4, .ref g5, .ref g6, .long 0]), (h1, oC 2 [.ref h2, .ref h4, .ref g7, .ref g8, .ref g9, .ref h5, .ref g10, .ref g11, .ref g12, .ref g13, .ref g14, .int 0]), (h2, oC 3 [.ref h3, .int 1]), (h3, aI Y 6 (upd (fun _ => 0) 0 (-1))), (h4, oC 3 [.ref g15, .int 0]), (h5, oC 3 [.ref g16, .int 0]), (h6, oC 11 [.ref h1, .ref h7, .ref h9, .ref g17, .ref g18]), (h7, oC 3 [.ref h8, .int 0]), (h8, aI Y 6 (fun _ => 0)), (h9, oC 3 [.ref g19, .int 0]), (h10, aJ Y 1 (fun _ => 0))] | 1 => [(h0, oC 12 [.ref h1, .ref g0, .ref g1, .ref g2, .ref h6, .ref g3, .ref g4, .ref g5, .ref g6, .long 0]), (h1, oC 2 [.ref h2, .ref h4, .ref g7, .ref g8, .ref g9, .ref h5, .ref g10, .ref g11, .ref g12, .ref g13, .ref g14, .int 0]), (h2, oC 3 [.ref h3, .int 1]), (h3, aI Y 6 (upd (fun _ => 0) 0 (-1))), (h4, oC 3 [.ref g15, .int 0]), (h5, oC 3 [.ref g16, .int 0]), (h6, oC 11 [.ref h1, .ref h7, .ref h9, .ref g17, .ref g18]), (h7, oC 3 [.ref h8, .int 0]), (h8, aI Y 6 (fun _ => 0)), (h9, oC 3 [.ref g19, .int 0]), (h10, aJ Y 1 (fun _ => 0))] | _ => [(h0, oC 12 [.ref h1, .ref g0, .ref g1, .ref g2, .ref h6, .ref g3, .ref g4, .ref g5, .ref g6, .long 0]), (h1, oC 2 [.ref h2, .ref h4, .ref g7, .ref g8, .ref g9, .ref h5, .ref g10, .ref g11, .ref g12, .ref g13, .ref g14, .int 0]), (h2, oC 3 [.ref h3, .int 1]), (h3, aI Y 6 (upd (fun _ => 0) 0 (-1))), (h4, oC 3 [.ref g15, .int 0]), (h5, oC 3 [.ref g16, .int 0]), (h6, oC 11 [.ref h1, .ref h7, .ref h9, .ref g17, .ref g18]), (h7, oC 3 [.ref h8, .int 6]), (h8, aI Y 6 (upd (upd (upd (upd (upd (upd (upd (fun _ => 0) 0 (-1)) 1 (-1)) 2 (-1)) 3 (-1)) 4 (-1)) 5 (-1)) 0 0)), (h9, oC 3 [.ref g19, .int 0]), (h10, aJ Y 1 (vp_updL (fun _ => 0) 0 0))]) (va_A [(h0, oC 12 [.ref h1, .ref g0, .ref g1, .ref g2, .ref h6, .ref g3, .ref g4, .ref g5, .ref g6, .long 0]), (h1, oC 2 [.ref h2, .ref h4, .ref g7, .ref g8, .ref g9, .ref h5, .ref g10, .ref g11, .ref g12, .ref g13, .ref g14, .int 0]), (h2, oC 3 [.ref h3, .int 1]), (h3, aI Y 6 (upd (fun _ => 0) 0 (-1))), (h4, oC 3 [.ref g15, .int 0]), (h5, oC 3 [.ref g16, .int 0]), (h6, oC 11 [.ref h1, .ref h7, .ref h9, .ref g17, .ref g18]), (h7, oC 3 [.ref h8, .int 0]), (h8, aI Y 6 (fun _ => 0)), (h9, oC 3 [.ref g19, .int 0]), (h10, aJ Y 1 (fun _ => 0))] sz)) 1 6 (va_A [(h0, oC 12 [.ref h1, .ref g0, .ref g1, .ref g2, .ref h6, .ref g3, .ref g4, .ref g5, .ref g6, .long 0]), (h1, oC 2 [.ref h2, .ref h4, .ref g7, .ref g8, .ref g9, .ref h5, .ref g10, .ref g11, .ref g12, .ref g13, .ref g14, .int 0]), (h2, oC 3 [.ref h3, .int 1]), (h3, aI Y 6 (upd (fun _ => 0) 0 (-1))), (h4, oC 3 [.ref g15, .int 0]), (h5, oC 3 [.ref g16, .int 0]), (h6, oC 11 [.ref h1, .ref h7, .ref h9, .ref g17, .ref g18]), (h7, oC 3 [.ref h8, .int 0]), (h8, aI Y 6 (fun _ => 0)), (h9, oC 3 [.ref g19, .int 0]), (h10, aJ Y 1 (fun _ => 0))] sz) :=
  metH_of (by decide +kernel) (Nat.le_of_ble_eq_true rfl) (fun p e s m args below meth c B EB htab hsz => by
    have B : VB p s m args meth c D Y (va_A [(h0, oC 12 [.ref h1, .ref g0, .ref g1, .ref g2, .ref h6, .ref g3, .ref g4, .ref g5, .ref g6, .long 0]), (h1, oC 2 [.ref h2, .ref h4, .ref g7, .ref g8, .ref g9, .ref h5, .ref g10, .ref g11, .ref g12, .ref g13, .ref g14, .int 0]), (h2, oC 3 [.ref h3, .int 1]), (h3, aI Y 6 (upd (fun _ => 0) 0 (-1))), (h4, oC 3 [.ref g15, .int 0]), (h5, oC 3 [.ref g16, .int 0]), (h6, oC 11 [.ref h1, .ref h7, .ref h9, .ref g17, .ref g18]), (h7, oC 3 [.ref h8, .int 0]), (h8, aI Y 6 (fun _ => 0)), (h9, oC 3 [.ref g19, .int 0]), (h10, aJ Y 1 (fun _ => 0))] sz) cL_effort 4 RL (some .int) := B
    refine V_aload_n 0 B dL_effort_0 2 rfl ?_
    refine V_iconst 1 B (v := 0) dL_effort_1 (by decide +kernel) ?_
    refine V_aload_n 2 B dL_effort_2 0 rfl ?_
    refine V_iload_n 3 B dL_effort_3 1 rfl ?_
    refine V_xvl 4 B EB (st := [.int 0, .ref h10]) (As := [.int p0]) (fun sz => mX11_effort_1 l hl9 D Y (h0) (h1) (g0) (g1) (g2) (h6) (g3) (g4) (g5) (g6) (h2) (h4) (g7) (g8) (g9) (h5) (g10) (g11) (g12) (g13) (g14) (h3) (g15) (g16) (h7) (h9) (g17) (g18) (h8) (g19) (p0) sz) glV_RL_97 ⟨rfl, rfl⟩ ⟨(Nat.le_of_ble_eq_true rfl), (Nat.le_of_ble_eq_true rfl)⟩ ⟨(Nat.le_of_ble_eq_true rfl), (Nat.le_of_ble_eq_true rfl)⟩ [0, 0, 0, 0, 0, 0, 0, 0, 0, 0] rfl 12 0 rfl rfl rfl rfl (Nat.le_of_ble_eq_true rfl) rfl (fun _ _ _ => rfl) (fun _ _ _ => rfl) dL_effort_4 (fun E u0 w0 => ?_) (fun r0 u0 w0 => ?_)
    ·
      rcases w0 with ⟨rfl, k1⟩ | ⟨rfl, k2, k3⟩
      ·
        refine VX_catch 4 B htab [] (0, 8, 11, 18) [] rfl "java/lang/IndexOutOfBoundsException" (fun z hz => nomatch hz) rfl (by decide) (mT5 103 rfl rfl) (EB.2.2.2.1 _ (List.mem_of_getElem? (i := 1) rfl)) 11 rfl (fun q9 => ?_)
        refine V_ws [(h0, oC 12 [.ref h1, .ref g0, .ref g1, .ref g2, .ref h6, .ref g3, .ref g4, .ref g5, .ref g6, .long 0]), (h1, oC 2 [.ref h2, .ref h4, .ref g7, .ref g8, .ref g9, .ref h5, .ref g10, .ref g11, .ref g12, .ref g13, .ref g14, .int 0]), (h2, oC 3 [.ref h3, .int 1]), (h3, aI Y 6 (upd (fun _ => 0) 0 (-1))), (h4, oC 3 [.ref g15, .int 0]), (h5, oC 3 [.ref g16, .int 0]), (h6, oC 11 [.ref h1, .ref h7, .ref h9, .ref g17, .ref g18]), (h7, oC 3 [.ref h8, .int 0]), (h8, aI Y 6 (fun _ => 0)), (h9, oC 3 [.ref g19, .int 0]), (h10, aJ Y 1 (fun _ => 0))] rfl ?_
        refine V_astore_n 11 B (lv2 := [(3, .ref q9), (0, .ref h0), (1, .int p0), (2, .ref h10)]) dL_effort_11 (by decide) rfl ?_
        refine V_iconst 12 B (v := 1) dL_effort_12 (by decide +kernel) ?_
        exact V_iret 13 B dL_effort_13 0 (Or.inl ⟨rfl, k1, rfl⟩) rfl
      ·
        refine VX_catch 4 B htab [] (0, 8, 11, 18) [] rfl "java/lang/IndexOutOfBoundsException" (fun z hz => nomatch hz) rfl (by decide) (mT5 103 rfl rfl) (EB.2.2.2.1 _ (List.mem_of_getElem? (i := 1) rfl)) 11 rfl (fun q9 => ?_)
        refine V_ws [(h0, oC 12 [.ref h1, .ref g0, .ref g1, .ref g2, .ref h6, .ref g3, .ref g4, .ref g5, .ref g6, .long 0]), (h1, oC 2 [.ref h2, .ref h4, .ref g7, .ref g8, .ref g9, .ref h5, .ref g10, .ref g11, .ref g12, .ref g13, .ref g14, .int 0]), (h2, oC 3 [.ref h3, .int 1]), (h3, aI Y 6 (upd (fun _ => 0) 0 (-1))), (h4, oC 3 [.ref g15, .int 0]), (h5, oC 3 [.ref g16, .int 0]), (h6, oC 11 [.ref h1, .ref h7, .ref h9, .ref g17, .ref g18]), (h7, oC 3 [.ref h8, .int 0]), (h8, aI Y 6 (fun _ => 0)), (h9, oC 3 [.ref g19, .int 0]), (h10, aJ Y 1 (fun _ => 0))] rfl ?_
        refine V_astore_n 11 B (lv2 := [(3, .ref q9), (0, .ref h0), (1, .int p0), (2, .ref h10)]) dL_effort_11 (by decide) rfl ?_
        refine V_iconst 12 B (v := 1) dL_effort_12 (by decide +kernel) ?_
        exact V_iret 13 B dL_effort_13 1 (Or.inr (Or.inl ⟨rfl, k2, k3, rfl⟩)) rfl
    ·
      obtain ⟨k4, rfl⟩ := w0
      refine V_ws [(h0, oC 12 [.ref h1, .ref g0, .ref g1, .ref g2, .ref h6, .ref g3, .ref g4, .ref g5, .ref g6, .long 0]), (h1, oC 2 [.ref h2, .ref h4, .ref g7, .ref g8, .ref g9, .ref h5, .ref g10, .ref g11, .ref g12, .ref g13, .ref g14, .int 0]), (h2, oC 3 [.ref h3, .int 1]), (h3, aI Y 6 (upd (fun _ => 0) 0 (-1))), (h4, oC 3 [.ref g15, .int 0]), (h5, oC 3 [.ref g16, .int 0]), (h6, oC 11 [.ref h1, .ref h7, .ref h9, .ref g17, .ref g18]), (h7, oC 3 [.ref h8, .int 6]), (h8, aI Y 6 (upd (upd (upd (upd (upd (upd (upd (fun _ => 0) 0 (-1)) 1 (-1)) 2 (-1)) 3 (-1)) 4 (-1)) 5 (-1)) 0 0)), (h9, oC 3 [.ref g19, .int 0]), (h10, aJ Y 1 (fun _ => 0))] rfl ?_
      obtain rfl : p0 = 0 := k4
      refine V_last 7 B 10 rfl (vpin _ _ (by decide +kernel)) dL_effort_7 [(h0, oC 12 [.ref h1, .ref g0, .ref g1, .ref g2, .ref h6, .ref g3, .ref g4, .ref g5, .ref g6, .long 0]), (h1, oC 2 [.ref h2, .ref h4, .ref g7, .ref g8, .ref g9, .ref h5, .ref g10, .ref g11, .ref g12, .ref g13, .ref g14, .int 0]), (h2, oC 3 [.ref h3, .int 1]), (h3, aI Y 6 (upd (fun _ => 0) 0 (-1))), (h4, oC 3 [.ref g15, .int 0]), (h5, oC 3 [.ref g16, .int 0]), (h6, oC 11 [.ref h1, .ref h7, .ref h9, .ref g17, .ref g18]), (h7, oC 3 [.ref h8, .int 6]), (h8, aI Y 6 (upd (upd (upd (upd (upd (upd (upd (fun _ => 0) 0 (-1)) 1 (-1)) 2 (-1)) 3 (-1)) 4 (-1)) 5 (-1)) 0 0)), (h9, oC 3 [.ref g19, .int 0]), (h10, aJ Y 1 (vp_updL (fun _ => 0) 0 0))] rfl ?_
      refine V_goto 8 B 14 dL_effort_8 (by decide) ?_
      refine V_iconst 14 B (v := 0) dL_effort_14 (by decide +kernel) ?_
      exact V_iret 15 B dL_effort_15 2 (Or.inr (Or.inr ⟨rfl, rfl, rfl⟩)) rfl)
set_option maxRecDepth 100000 in
set_option maxHeartbeats 4000000 in
theorem mX12_effort_2 (l : Launch) (D : va_G) (Y : Nat → ClassId) (h0 : Nat) (h1 : Nat) (g0 : Nat) (g1 : Nat) (g2 : Nat) (g3 : Nat) (g4 : Nat) (sz : Nat) : Met l yX12_effort (WSm yX12_effort cX12_effort 6 (some .long)) (mkR 2 0 0 46) (PreC D Y [.ref h0, .int 0] [(h0, oC 13 [.ref h1, .ref g0, .int 0, .ref g1, .ref g2, .int 0, .int 0, .int 0, .int (-1), .int 0, .int 0, .int 0, .long 0, .ref g3, .ref g4, .int 0, .int 0]), (h1, aI Y 3640 (clB 0 (fun _ => 0)))] sz) (QJ D (fun (r : Int64) (u : Unit) => 0 = r) (fun (_ : Unit) => [(h0, oC 13 [.ref h1, .ref g0, .int 0, .ref g1, .ref g2, .int 0, .int 0, .int 0, .int (-1), .int 0, .int 0, .int 0, .long 0, .ref g3, .ref g4, .int 0, .int 0]), (h1, aI Y 3640 (clB 0 (fun _ => 0)))]) (va_A [(h0, oC 13 [.ref h1, .ref g0, .int 0, .ref g1, .ref g2, .int 0, .int 0, .int 0, .int (-1), .int 0, .int 0, .int 0, .long 0, .ref g3, .ref g4, .int 0, .int 0]), (h1, aI Y 3640 (clB 0 (fun _ => 0)))] sz)) 0 0 (va_A [(h0, oC 13 [.ref h1, .ref g0, .int 0, .ref g1, .ref g2, .int 0, .int 0, .int 0, .int (-1), .int 0, .int 0, .int 0, .long 0, .ref g3, .ref g4, .int 0, .int 0]), (h1, aI Y 3640 (clB 0 (fun _ => 0)))] sz) :=
  met_of (by decide +kernel) (Nat.le_of_ble_eq_true rfl) (fun p e s m args below meth c B hin hsz => by
    have B : VB p s m args meth c D Y (va_A [(h0, oC 13 [.ref h1, .ref g0, .int 0, .ref g1, .ref g2, .int 0, .int 0, .int 0, .int (-1), .int 0, .int 0, .int 0, .long 0, .ref g3, .ref g4, .int 0, .int 0]), (h1, aI Y 3640 (clB 0 (fun _ => 0)))] sz) cX12_effort 6 RX12 (some .long) := B
    refine V_aload_n 0 B dX12_effort_0 0 rfl ?_
    refine V_iconst 1 B (v := 0) dX12_effort_1 (by decide +kernel) ?_
    refine V_put 2 B gp_RX12_38 0 rfl (Nat.le_of_ble_eq_true rfl) rfl rfl dX12_effort_2 [(h0, oC 13 [.ref h1, .ref g0, .int 0, .ref g1, .ref g2, .int 0, .int 0, .int 0, .int (-1), .int 0, .int 0, .int 0, .long 0, .ref g3, .ref g4, .int 0, .int 0]), (h1, aI Y 3640 (clB 0 (fun _ => 0)))] rfl ?_
    refine V_aload_n 5 B dX12_effort_5 0 rfl ?_
    refine V_aload_n 6 B dX12_effort_6 0 rfl ?_
    refine V_iload_n 7 B dX12_effort_7 1 rfl ?_
    refine V_cvi 8 B (st := [.ref h0]) (As := [.int 0]) (fun sz => mX12_isMode_2 l D Y (h0) (h1) (g0) (g1) (g2) (g3) (g4) sz) glV_RX12_91 ⟨rfl, rfl⟩ ⟨(Nat.le_of_ble_eq_true rfl), (Nat.le_of_ble_eq_true rfl)⟩ ⟨(Nat.le_of_ble_eq_true rfl), (Nat.le_of_ble_eq_true rfl)⟩ [0, 0] rfl 13 0 rfl rfl rfl rfl (Nat.le_of_ble_eq_true rfl) rfl (fun _ _ _ => rfl) dX12_effort_8 (fun r0 u0 w0 => ?_)
    obtain rfl := w0
    refine V_ws [(h0, oC 13 [.ref h1, .ref g0, .int 0, .ref g1, .ref g2, .int 0, .int 0, .int 0, .int (-1), .int 0, .int 0, .int 0, .long 0, .ref g3, .ref g4, .int 0, .int 0]), (h1, aI Y 3640 (clB 0 (fun _ => 0)))] rfl ?_
    refine V_if_ne_t 11 B 18 dX12_effort_11 (by decide) (by decide +kernel) ?_
    refine V_iconst 18 B (v := 0) dX12_effort_18 (by decide +kernel) ?_
    refine V_iconst 19 B (v := 1) dX12_effort_19 (by decide +kernel) ?_
    refine V_cvi 20 B (st := []) (As := [.int 0, .int 1]) (fun sz => mX12_throwsIf_2 l D Y (h0) (h1) (g0) (g1) (g2) (g3) (g4) sz) glV_RX12_69 ⟨rfl, rfl⟩ ⟨(Nat.le_of_ble_eq_true rfl), (Nat.le_of_ble_eq_true rfl)⟩ ⟨(Nat.le_of_ble_eq_true rfl), (Nat.le_of_ble_eq_true rfl)⟩ [0] rfl 13 0 rfl rfl rfl rfl (Nat.le_of_ble_eq_true rfl) rfl (fun _ _ _ => rfl) dX12_effort_20 (fun r1 u1 w1 => ?_)
    obtain rfl := w1
    refine V_ws [(h0, oC 13 [.ref h1, .ref g0, .int 0, .ref g1, .ref g2, .int 0, .int 0, .int 0, .int (-1), .int 0, .int 0, .int 0, .long 0, .ref g3, .ref g4, .int 0, .int 0]), (h1, aI Y 3640 (clB 0 (fun _ => 0)))] rfl ?_
    refine V_if_eq_t 23 B 28 dX12_effort_23 (by decide) (by decide +kernel) ?_
    refine V_lconst 28 B (v := 0) dX12_effort_28 (by decide +kernel) ?_
    refine V_lstore_n 29 B (lv2 := [(2, .long 0), (0, .ref h0), (1, .int 0)]) dX12_effort_29 (by decide) rfl ?_
    refine V_iconst 30 B (v := 0) dX12_effort_30 (by decide +kernel) ?_
    refine V_istore 31 B (lv2 := [(4, .int 0), (2, .long 0), (0, .ref h0), (1, .int 0)]) dX12_effort_31 (by decide) rfl ?_
    refine V_iload 33 B dX12_effort_33 0 rfl ?_
    refine V_aload_n 35 B dX12_effort_35 2 rfl ?_
    refine V_get 36 B gf_RX12_9 0 rfl rfl dX12_effort_36 ?_
    refine V_iconst 39 B (v := 1) dX12_effort_39 (by decide +kernel) ?_
    refine V_iald 40 B (v := 0) 1 rfl (vpin _ _ (by decide +kernel)) dX12_effort_40 rfl ?_
    refine V_icmp_ge_t 41 B 87 dX12_effort_41 (by decide) (by decide +kernel) ?_
    refine V_lload_n 87 B dX12_effort_87 1 rfl ?_
    exact V_lret 88 B dX12_effort_88 () rfl rfl)
theorem dL_law_2235 : decode cL_law 2235 = .ok (.aload_n 1, 1) := by decide +kernel
theorem dL_law_2236 : decode cL_law 2236 = .ok (.aload_n 0, 1) := by decide +kernel
theorem dL_law_2237 : decode cL_law 2237 = .ok (.iload 4, 2) := by decide +kernel
theorem dL_law_2239 : decode cL_law 2239 = .ok (.iconst 1, 1) := by decide +kernel
theorem dL_law_2240 : decode cL_law 2240 = .ok (.iadd, 1) := by decide +kernel
theorem dL_law_2241 : decode cL_law 2241 = .ok (.iaload, 1) := by decide +kernel
theorem dL_law_2242 : decode cL_law 2242 = .ok (.aload_n 3, 1) := by decide +kernel
theorem dL_law_2243 : decode cL_law 2243 = .ok (.invokestatic 285, 3) := by decide +kernel
theorem glH_RL_285 : GLH RL 285 yL_effort cL_effort 4 (some .int) [(0, 8, 11, 18)] 3 := ⟨⟨(mT6 197 rfl rfl), (mT6 198 rfl rfl), (mT1 0 rfl rfl), (mT6 199 rfl rfl)⟩, by decide +kernel⟩
theorem dL_law_2246 : decode cL_law 2246 = .ok (.istore 5, 2) := by decide +kernel
theorem dL_law_2248 : decode cL_law 2248 = .ok (.aload_n 2, 1) := by decide +kernel
theorem dL_law_2249 : decode cL_law 2249 = .ok (.aload_n 0, 1) := by decide +kernel
theorem dL_law_2250 : decode cL_law 2250 = .ok (.iload 4, 2) := by decide +kernel
theorem dL_law_2252 : decode cL_law 2252 = .ok (.iconst 1, 1) := by decide +kernel
theorem dL_law_2253 : decode cL_law 2253 = .ok (.iadd, 1) := by decide +kernel
theorem dL_law_2254 : decode cL_law 2254 = .ok (.iaload, 1) := by decide +kernel
theorem dL_law_2255 : decode cL_law 2255 = .ok (.invokevirtual 287, 3) := by decide +kernel
theorem glV_RL_287 : GLV RL 287 yX12_effort RX12 cX12_effort 6 (some .long) 1 := ⟨⟨(mT8 236 rfl rfl), (mT8 237 rfl rfl), (mT8 238 rfl rfl), (mT1 13 rfl rfl), (mT8 239 rfl rfl)⟩, by decide +kernel⟩
theorem dL_law_2258 : decode cL_law 2258 = .ok (.lstore 6, 2) := by decide +kernel
theorem dL_law_2260 : decode cL_law 2260 = .ok (.aload_n 2, 1) := by decide +kernel
theorem dL_law_2261 : decode cL_law 2261 = .ok (.invokevirtual 182, 3) := by decide +kernel
theorem dL_law_2264 : decode cL_law 2264 = .ok (.iload 5, 2) := by decide +kernel
theorem dL_law_2266 : decode cL_law 2266 = .ok (.if_icmp .eq 5, 3) := by decide +kernel
theorem dL_law_2271 : decode cL_law 2271 = .ok (.iload 5, 2) := by decide +kernel
theorem dL_law_2273 : decode cL_law 2273 = .ok (.ifCond .ne 14, 3) := by decide +kernel
theorem dL_law_2287 : decode cL_law 2287 = .ok (.goto 1045, 3) := by decide +kernel
theorem dL_law_2276 : decode cL_law 2276 = .ok (.aload_n 3, 1) := by decide +kernel
theorem dL_law_2277 : decode cL_law 2277 = .ok (.iconst 0, 1) := by decide +kernel
theorem dL_law_2278 : decode cL_law 2278 = .ok (.laload, 1) := by decide +kernel
theorem dL_law_2279 : decode cL_law 2279 = .ok (.lload 6, 2) := by decide +kernel
theorem dL_law_2281 : decode cL_law 2281 = .ok (.lcmp, 1) := by decide +kernel
theorem dL_law_2282 : decode cL_law 2282 = .ok (.ifCond .eq 5, 3) := by decide +kernel
set_option maxRecDepth 100000 in
set_option maxHeartbeats 4000000 in
theorem law_c38 {p : Program} {l : Launch} {e : Env} {s : State} {m : MethodId} {below : List Frame} {meth : Method} {c : Code} {b : Nat} {xs : Nat → Int32} {D : va_G} {Y : Nat → ClassId} (B : VB p s m #[Value.ref b] meth c D Y (fun q => s.heap.size ≤ q) cL_law 8 RL ret) (EB : EX (fun q => s.heap.size ≤ q) s s.heap) (hl9 : l.stackTraces = false) (hX : va_X b 6 xs s s.heap) (hbl : b < s.heap.size) (hbA : ¬ (fun q => s.heap.size ≤ q) b) (x0 x1 x30 x59 x88 x117 x126 x127 x129 x132 x2 x4 x6 x8 x10 x12 x14 x16 x18 x20 x27 x3 x5 x13 x118 x120 x122 x124 x119 x121 m0 m1 m2 m3 m4 m5 m6 o0 : Nat) (p1 : Int32) (e1 : xs 1 = p1) : V p l e room_1 s m #[Value.ref b] below meth c D (fun q => s.heap.size ≤ q) 8 149 10574 (lw_Z below #[Value.ref b] s) 2235 [(4, .int 0), (3, .ref o0), (2, .ref m0), (1, .ref x0), (0, .ref b)] [] [(x0, oC 12 [.ref x1, .ref x30, .ref x59, .ref x88, .ref x117, .ref x126, .ref x127, .ref x129, .ref x132, .long 0]), (x1, oC 2 [.ref x2, .ref x4, .ref x6, .ref x8, .ref x10, .ref x12, .ref x14, .ref x16, .ref x18, .ref x20, .ref x27, .int 0]), (x2, oC 3 [.ref x3, .int 1]), (x3, aI Y 6 (upd (fun _ => 0) 0 (-1))), (x4, oC 3 [.ref x5, .int 0]), (x12, oC 3 [.ref x13, .int 0]), (x117, oC 11 [.ref x1, .ref x118, .ref x120, .ref x122, .ref x124]), (x118, oC 3 [.ref x119, .int 0]), (x119, aI Y 6 (fun _ => 0)), (x120, oC 3 [.ref x121, .int 0]), (m0, oC 13 [.ref m1, .ref m2, .int 0, .ref m3, .ref m4, .int 0, .int 0, .int 0, .int (-1), .int 0, .int 0, .int 0, .long 0, .ref m5, .ref m6, .int 0, .int 0]), (m1, aI Y 3640 (clB 0 (fun _ => 0))), (o0, aJ Y 1 (fun _ => 0))] := by
  refine V_aload_n 2235 B dL_law_2235 3 rfl ?_
  refine V_aload_n 2236 B dL_law_2236 4 rfl ?_
  refine V_iload 2237 B dL_law_2237 0 rfl ?_
  refine V_iconst 2239 B (v := 1) dL_law_2239 (by decide +kernel) ?_
  refine V_iadd 2240 B (v := 1) dL_law_2240 (by decide +kernel) ?_
  refine V_sld 2241 B hX hbl hbA (v := p1) (vpin _ _ (by decide +kernel)) dL_law_2241 e1 ?_
  refine V_aload_n 2242 B dL_law_2242 1 rfl ?_
  refine V_hsi 2243 B EB (st := []) (As := [.ref x0, .int p1, .ref o0]) (fun sz => mL_effort_1 l hl9 D Y (x0) (o0) (x1) (x30) (x59) (x88) (x117) (x126) (x127) (x129) (x132) (x2) (x4) (x6) (x8) (x10) (x12) (x14) (x16) (x18) (x20) (x27) (x3) (x5) (x13) (x118) (x120) (x122) (x124) (x119) (x121) (p1) sz) glH_RL_285 ⟨rfl, rfl⟩ ⟨(Nat.le_of_ble_eq_true rfl), (Nat.le_of_ble_eq_true rfl)⟩ ⟨(Nat.le_of_ble_eq_true rfl), (Nat.le_of_ble_eq_true rfl)⟩ [0, 0, 0, 0, 0, 0, 0, 0, 0, 0, 2] rfl rfl (Nat.le_of_ble_eq_true rfl) rfl (fun _ u _ => by
        first | rfl | (split <;> rfl) | (dsimp only; split <;> rfl)) dL_law_2243 (fun r0 u0 w0 => ?_)
  rcases w0 with ⟨rfl, k1, rfl⟩ | ⟨rfl, k2, k3, rfl⟩ | ⟨rfl, k4, rfl⟩
  ·
    refine V_ws [(x0, oC 12 [.ref x1, .ref x30, .ref x59, .ref x88, .ref x117, .ref x126, .ref x127, .ref x129, .ref x132, .long 0]), (x1, oC 2 [.ref x2, .ref x4, .ref x6, .ref x8, .ref x10, .ref x12, .ref x14, .ref x16, .ref x18, .ref x20, .ref x27, .int 0]), (x2, oC 3 [.ref x3, .int 1]), (x3, aI Y 6 (upd (fun _ => 0) 0 (-1))), (x4, oC 3 [.ref x5, .int 0]), (x12, oC 3 [.ref x13, .int 0]), (x117, oC 11 [.ref x1, .ref x118, .ref x120, .ref x122, .ref x124]), (x118, oC 3 [.ref x119, .int 0]), (x119, aI Y 6 (fun _ => 0)), (x120, oC 3 [.ref x121, .int 0]), (m0, oC 13 [.ref m1, .ref m2, .int 0, .ref m3, .ref m4, .int 0, .int 0, .int 0, .int (-1), .int 0, .int 0, .int 0, .long 0, .ref m5, .ref m6, .int 0, .int 0]), (m1, aI Y 3640 (clB 0 (fun _ => 0))), (o0, aJ Y 1 (fun _ => 0))] rfl ?_
    refine V_istore 2246 B (lv2 := [(5, .int 1), (4, .int 0), (3, .ref o0), (2, .ref m0), (1, .ref x0), (0, .ref b)]) dL_law_2246 (by decide) rfl ?_
    refine V_aload_n 2248 B dL_law_2248 3 rfl ?_
    refine V_aload_n 2249 B dL_law_2249 5 rfl ?_
    refine V_iload 2250 B dL_law_2250 1 rfl ?_
    refine V_iconst 2252 B (v := 1) dL_law_2252 (by decide +kernel) ?_
    refine V_iadd 2253 B (v := 1) dL_law_2253 (by decide +kernel) ?_
    refine V_sld 2254 B hX hbl hbA (v := p1) (vpin _ _ (by decide +kernel)) dL_law_2254 e1 ?_
    refine V_cvl 2255 B (st := []) (As := [.int p1]) (fun sz => mX12_effort_1 l D Y (m0) (m1) (m2) (m3) (m4) (m5) (m6) (p1) sz) glV_RL_287 ⟨rfl, rfl⟩ ⟨(Nat.le_of_ble_eq_true rfl), (Nat.le_of_ble_eq_true rfl)⟩ ⟨(Nat.le_of_ble_eq_true rfl), (Nat.le_of_ble_eq_true rfl)⟩ [10, 0] rfl 13 0 rfl rfl rfl rfl (Nat.le_of_ble_eq_true rfl) rfl (fun _ u _ => by
        first | rfl | (split <;> rfl) | (dsimp only; split <;> rfl)) dL_law_2255 (fun r5 u5 w5 => ?_)
    rcases w5 with ⟨rfl, k6, rfl⟩ | ⟨rfl, k7, rfl⟩ | ⟨rfl, k8, rfl⟩
    ·
      refine V_ws [(x0, oC 12 [.ref x1, .ref x30, .ref x59, .ref x88, .ref x117, .ref x126, .ref x127, .ref x129, .ref x132, .long 0]), (x1, oC 2 [.ref x2, .ref x4, .ref x6, .ref x8, .ref x10, .ref x12, .ref x14, .ref x16, .ref x18, .ref x20, .ref x27, .int 0]), (x2, oC 3 [.ref x3, .int 1]), (x3, aI Y 6 (upd (fun _ => 0) 0 (-1))), (x4, oC 3 [.ref x5, .int 0]), (x12, oC 3 [.ref x13, .int 0]), (x117, oC 11 [.ref x1, .ref x118, .ref x120, .ref x122, .ref x124]), (x118, oC 3 [.ref x119, .int 0]), (x119, aI Y 6 (fun _ => 0)), (x120, oC 3 [.ref x121, .int 0]), (m0, oC 13 [.ref m1, .ref m2, .int 0, .ref m3, .ref m4, .int 0, .int 0, .int 0, .int (-1), .int 0, .int 0, .int 0, .long 0, .ref m5, .ref m6, .int 0, .int 0]), (m1, aI Y 3640 (clB 0 (fun _ => 0))), (o0, aJ Y 1 (fun _ => 0))] rfl ?_
      exact absurd k6 (q_neh (b_lt k1 (n := (-1)) (by decide +kernel)) (by decide +kernel))
    ·
      refine V_ws [(x0, oC 12 [.ref x1, .ref x30, .ref x59, .ref x88, .ref x117, .ref x126, .ref x127, .ref x129, .ref x132, .long 0]), (x1, oC 2 [.ref x2, .ref x4, .ref x6, .ref x8, .ref x10, .ref x12, .ref x14, .ref x16, .ref x18, .ref x20, .ref x27, .int 0]), (x2, oC 3 [.ref x3, .int 1]), (x3, aI Y 6 (upd (fun _ => 0) 0 (-1))), (x4, oC 3 [.ref x5, .int 0]), (x12, oC 3 [.ref x13, .int 0]), (x117, oC 11 [.ref x1, .ref x118, .ref x120, .ref x122, .ref x124]), (x118, oC 3 [.ref x119, .int 0]), (x119, aI Y 6 (fun _ => 0)), (x120, oC 3 [.ref x121, .int 0]), (m0, oC 13 [.ref m1, .ref m2, .int 1, .ref m3, .ref m4, .int 0, .int 0, .int 0, .int (-1), .int 0, .int 0, .int 0, .long 0, .ref m5, .ref m6, .int 0, .int 0]), (m1, aI Y 3640 (clB 0 (fun _ => 0))), (o0, aJ Y 1 (fun _ => 0))] rfl ?_
      refine V_lstore 2258 B (lv2 := [(6, .long 0), (5, .int 1), (4, .int 0), (3, .ref o0), (2, .ref m0), (1, .ref x0), (0, .ref b)]) dL_law_2258 (by decide) rfl ?_
      refine V_aload_n 2260 B dL_law_2260 4 rfl ?_
      refine V_cvi 2261 B (st := []) (As := []) (fun sz => mX12_thrown_2 l D Y (m0) (m1) (m2) (m3) (m4) (m5) (m6) sz) glV_RL_182 ⟨rfl, rfl⟩ ⟨(Nat.le_of_ble_eq_true rfl), (Nat.le_of_ble_eq_true rfl)⟩ ⟨(Nat.le_of_ble_eq_true rfl), (Nat.le_of_ble_eq_true rfl)⟩ [10] rfl 13 0 rfl rfl rfl rfl (Nat.le_of_ble_eq_true rfl) rfl (fun _ _ _ => rfl) dL_law_2261 (fun r9 u9 w9 => ?_)
      obtain rfl := w9
      refine V_ws [(x0, oC 12 [.ref x1, .ref x30, .ref x59, .ref x88, .ref x117, .ref x126, .ref x127, .ref x129, .ref x132, .long 0]), (x1, oC 2 [.ref x2, .ref x4, .ref x6, .ref x8, .ref x10, .ref x12, .ref x14, .ref x16, .ref x18, .ref x20, .ref x27, .int 0]), (x2, oC 3 [.ref x3, .int 1]), (x3, aI Y 6 (upd (fun _ => 0) 0 (-1))), (x4, oC 3 [.ref x5, .int 0]), (x12, oC 3 [.ref x13, .int 0]), (x117, oC 11 [.ref x1, .ref x118, .ref x120, .ref x122, .ref x124]), (x118, oC 3 [.ref x119, .int 0]), (x119, aI Y 6 (fun _ => 0)), (x120, oC 3 [.ref x121, .int 0]), (m0, oC 13 [.ref m1, .ref m2, .int 1, .ref m3, .ref m4, .int 0, .int 0, .int 0, .int (-1), .int 0, .int 0, .int 0, .long 0, .ref m5, .ref m6, .int 0, .int 0]), (m1, aI Y 3640 (clB 0 (fun _ => 0))), (o0, aJ Y 1 (fun _ => 0))] rfl ?_
      refine V_iload 2264 B dL_law_2264 1 rfl ?_
      refine V_icmp_eq_t 2266 B 2271 dL_law_2266 (by decide) (by decide +kernel) ?_
      refine V_iload 2271 B dL_law_2271 1 rfl ?_
      refine V_if_ne_t 2273 B 2287 dL_law_2273 (by decide) (by decide +kernel) ?_
      refine V_goto 2287 B 3332 dL_law_2287 (by decide) ?_
      refine V_iinc 3332 B (v := 6) (lv2 := [(4, .int 6), (6, .long 0), (5, .int 1), (3, .ref o0), (2, .ref m0), (1, .ref x0), (0, .ref b)]) dL_law_3332 2 rfl (by decide +kernel) (by decide) rfl ?_
      refine V_goto 3335 B 23 dL_law_3335 (by decide) ?_
      refine V_iload 23 B dL_law_23 0 rfl ?_
      refine V_aload_n 25 B dL_law_25 6 rfl ?_
      refine V_slen 26 B hX hbl hbA (v := 6) (by decide +kernel) dL_law_26 ?_
      refine V_bipush 27 B (v := 6) dL_law_27 (by decide +kernel) ?_
      refine V_isub 29 B (v := 0) dL_law_29 (by decide +kernel) ?_
      refine V_icmp_gt_t 30 B 3338 dL_law_30 (by decide) (by decide +kernel) ?_
      exact law_end B (Nat.le_of_ble_eq_true rfl) (Nat.le_of_ble_eq_true rfl) dL_law_3338 dL_law_3339
    ·
      refine V_ws [(x0, oC 12 [.ref x1, .ref x30, .ref x59, .ref x88, .ref x117, .ref x126, .ref x127, .ref x129, .ref x132, .long 0]), (x1, oC 2 [.ref x2, .ref x4, .ref x6, .ref x8, .ref x10, .ref x12, .ref x14, .ref x16, .ref x18, .ref x20, .ref x27, .int 0]), (x2, oC 3 [.ref x3, .int 1]), (x3, aI Y 6 (upd (fun _ => 0) 0 (-1))), (x4, oC 3 [.ref x5, .int 0]), (x12, oC 3 [.ref x13, .int 0]), (x117, oC 11 [.ref x1, .ref x118, .ref x120, .ref x122, .ref x124]), (x118, oC 3 [.ref x119, .int 0]), (x119, aI Y 6 (fun _ => 0)), (x120, oC 3 [.ref x121, .int 0]), (m0, oC 13 [.ref m1, .ref m2, .int 1, .ref m3, .ref m4, .int 0, .int 0, .int 0, .int (-1), .int 0, .int 0, .int 0, .long 0, .ref m5, .ref m6, .int 0, .int 0]), (m1, aI Y 3640 (clB 0 (fun _ => 0))), (o0, aJ Y 1 (fun _ => 0))] rfl ?_
      exact (q_abs (b_gt k8 (n := 1) (by decide +kernel)) (b_lt k1 (n := (-1)) (by decide +kernel)) (by decide +kernel)).elim
  ·
    refine V_ws [(x0, oC 12 [.ref x1, .ref x30, .ref x59, .ref x88, .ref x117, .ref x126, .ref x127, .ref x129, .ref x132, .long 0]), (x1, oC 2 [.ref x2, .ref x4, .ref x6, .ref x8, .ref x10, .ref x12, .ref x14, .ref x16, .ref x18, .ref x20, .ref x27, .int 0]), (x2, oC 3 [.ref x3, .int 1]), (x3, aI Y 6 (upd (fun _ => 0) 0 (-1))), (x4, oC 3 [.ref x5, .int 0]), (x12, oC 3 [.ref x13, .int 0]), (x117, oC 11 [.ref x1, .ref x118, .ref x120, .ref x122, .ref x124]), (x118, oC 3 [.ref x119, .int 0]), (x119, aI Y 6 (fun _ => 0)), (x120, oC 3 [.ref x121, .int 0]), (m0, oC 13 [.ref m1, .ref m2, .int 0, .ref m3, .ref m4, .int 0, .int 0, .int 0, .int (-1), .int 0, .int 0, .int 0, .long 0, .ref m5, .ref m6, .int 0, .int 0]), (m1, aI Y 3640 (clB 0 (fun _ => 0))), (o0, aJ Y 1 (fun _ => 0))] rfl ?_
    refine V_istore 2246 B (lv2 := [(5, .int 1), (4, .int 0), (3, .ref o0), (2, .ref m0), (1, .ref x0), (0, .ref b)]) dL_law_2246 (by decide) rfl ?_
    refine V_aload_n 2248 B dL_law_2248 3 rfl ?_
    refine V_aload_n 2249 B dL_law_2249 5 rfl ?_
    refine V_iload 2250 B dL_law_2250 1 rfl ?_
    refine V_iconst 2252 B (v := 1) dL_law_2252 (by decide +kernel) ?_
    refine V_iadd 2253 B (v := 1) dL_law_2253 (by decide +kernel) ?_
    refine V_sld 2254 B hX hbl hbA (v := p1) (vpin _ _ (by decide +kernel)) dL_law_2254 e1 ?_
    refine V_cvl 2255 B (st := []) (As := [.int p1]) (fun sz => mX12_effort_1 l D Y (m0) (m1) (m2) (m3) (m4) (m5) (m6) (p1) sz) glV_RL_287 ⟨rfl, rfl⟩ ⟨(Nat.le_of_ble_eq_true rfl), (Nat.le_of_ble_eq_true rfl)⟩ ⟨(Nat.le_of_ble_eq_true rfl), (Nat.le_of_ble_eq_true rfl)⟩ [10, 0] rfl 13 0 rfl rfl rfl rfl (Nat.le_of_ble_eq_true rfl) rfl (fun _ u _ => by
        first | rfl | (split <;> rfl) | (dsimp only; split <;> rfl)) dL_law_2255 (fun r10 u10 w10 => ?_)
    rcases w10 with ⟨rfl, k11, rfl⟩ | ⟨rfl, k12, rfl⟩ | ⟨rfl, k13, rfl⟩
    ·
      refine V_ws [(x0, oC 12 [.ref x1, .ref x30, .ref x59, .ref x88, .ref x117, .ref x126, .ref x127, .ref x129, .ref x132, .long 0]), (x1, oC 2 [.ref x2, .ref x4, .ref x6, .ref x8, .ref x10, .ref x12, .ref x14, .ref x16, .ref x18, .ref x20, .ref x27, .int 0]), (x2, oC 3 [.ref x3, .int 1]), (x3, aI Y 6 (upd (fun _ => 0) 0 (-1))), (x4, oC 3 [.ref x5, .int 0]), (x12, oC 3 [.ref x13, .int 0]), (x117, oC 11 [.ref x1, .ref x118, .ref x120, .ref x122, .ref x124]), (x118, oC 3 [.ref x119, .int 0]), (x119, aI Y 6 (fun _ => 0)), (x120, oC 3 [.ref x121, .int 0]), (m0, oC 13 [.ref m1, .ref m2, .int 0, .ref m3, .ref m4, .int 0, .int 0, .int 0, .int (-1), .int 0, .int 0, .int 0, .long 0, .ref m5, .ref m6, .int 0, .int 0]), (m1, aI Y 3640 (clB 0 (fun _ => 0))), (o0, aJ Y 1 (fun _ => 0))] rfl ?_
      exact absurd k11 (q_nel (b_ge k3 (n := 1) (by decide +kernel)) (by decide +kernel))
    ·
      refine V_ws [(x0, oC 12 [.ref x1, .ref x30, .ref x59, .ref x88, .ref x117, .ref x126, .ref x127, .ref x129, .ref x132, .long 0]), (x1, oC 2 [.ref x2, .ref x4, .ref x6, .ref x8, .ref x10, .ref x12, .ref x14, .ref x16, .ref x18, .ref x20, .ref x27, .int 0]), (x2, oC 3 [.ref x3, .int 1]), (x3, aI Y 6 (upd (fun _ => 0) 0 (-1))), (x4, oC 3 [.ref x5, .int 0]), (x12, oC 3 [.ref x13, .int 0]), (x117, oC 11 [.ref x1, .ref x118, .ref x120, .ref x122, .ref x124]), (x118, oC 3 [.ref x119, .int 0]), (x119, aI Y 6 (fun _ => 0)), (x120, oC 3 [.ref x121, .int 0]), (m0, oC 13 [.ref m1, .ref m2, .int 1, .ref m3, .ref m4, .int 0, .int 0, .int 0, .int (-1), .int 0, .int 0, .int 0, .long 0, .ref m5, .ref m6, .int 0, .int 0]), (m1, aI Y 3640 (clB 0 (fun _ => 0))), (o0, aJ Y 1 (fun _ => 0))] rfl ?_
      exact (q_abs (b_ge k3 (n := 1) (by decide +kernel)) (b_lt k12 (n := (-1)) (by decide +kernel)) (by decide +kernel)).elim
    ·
      refine V_ws [(x0, oC 12 [.ref x1, .ref x30, .ref x59, .ref x88, .ref x117, .ref x126, .ref x127, .ref x129, .ref x132, .long 0]), (x1, oC 2 [.ref x2, .ref x4, .ref x6, .ref x8, .ref x10, .ref x12, .ref x14, .ref x16, .ref x18, .ref x20, .ref x27, .int 0]), (x2, oC 3 [.ref x3, .int 1]), (x3, aI Y 6 (upd (fun _ => 0) 0 (-1))), (x4, oC 3 [.ref x5, .int 0]), (x12, oC 3 [.ref x13, .int 0]), (x117, oC 11 [.ref x1, .ref x118, .ref x120, .ref x122, .ref x124]), (x118, oC 3 [.ref x119, .int 0]), (x119, aI Y 6 (fun _ => 0)), (x120, oC 3 [.ref x121, .int 0]), (m0, oC 13 [.ref m1, .ref m2, .int 1, .ref m3, .ref m4, .int 0, .int 0, .int 0, .int (-1), .int 0, .int 0, .int 0, .long 0, .ref m5, .ref m6, .int 0, .int 0]), (m1, aI Y 3640 (clB 0 (fun _ => 0))), (o0, aJ Y 1 (fun _ => 0))] rfl ?_
      refine V_lstore 2258 B (lv2 := [(6, .long 0), (5, .int 1), (4, .int 0), (3, .ref o0), (2, .ref m0), (1, .ref x0), (0, .ref b)]) dL_law_2258 (by decide) rfl ?_
      refine V_aload_n 2260 B dL_law_2260 4 rfl ?_
      refine V_cvi 2261 B (st := []) (As := []) (fun sz => mX12_thrown_2 l D Y (m0) (m1) (m2) (m3) (m4) (m5) (m6) sz) glV_RL_182 ⟨rfl, rfl⟩ ⟨(Nat.le_of_ble_eq_true rfl), (Nat.le_of_ble_eq_true rfl)⟩ ⟨(Nat.le_of_ble_eq_true rfl), (Nat.le_of_ble_eq_true rfl)⟩ [10] rfl 13 0 rfl rfl rfl rfl (Nat.le_of_ble_eq_true rfl) rfl (fun _ _ _ => rfl) dL_law_2261 (fun r14 u14 w14 => ?_)
      obtain rfl := w14
      refine V_ws [(x0, oC 12 [.ref x1, .ref x30, .ref x59, .ref x88, .ref x117, .ref x126, .ref x127, .ref x129, .ref x132, .long 0]), (x1, oC 2 [.ref x2, .ref x4, .ref x6, .ref x8, .ref x10, .ref x12, .ref x14, .ref x16, .ref x18, .ref x20, .ref x27, .int 0]), (x2, oC 3 [.ref x3, .int 1]), (x3, aI Y 6 (upd (fun _ => 0) 0 (-1))), (x4, oC 3 [.ref x5, .int 0]), (x12, oC 3 [.ref x13, .int 0]), (x117, oC 11 [.ref x1, .ref x118, .ref x120, .ref x122, .ref x124]), (x118, oC 3 [.ref x119, .int 0]), (x119, aI Y 6 (fun _ => 0)), (x120, oC 3 [.ref x121, .int 0]), (m0, oC 13 [.ref m1, .ref m2, .int 1, .ref m3, .ref m4, .int 0, .int 0, .int 0, .int (-1), .int 0, .int 0, .int 0, .long 0, .ref m5, .ref m6, .int 0, .int 0]), (m1, aI Y 3640 (clB 0 (fun _ => 0))), (o0, aJ Y 1 (fun _ => 0))] rfl ?_
      refine V_iload 2264 B dL_law_2264 1 rfl ?_
      refine V_icmp_eq_t 2266 B 2271 dL_law_2266 (by decide) (by decide +kernel) ?_
      refine V_iload 2271 B dL_law_2271 1 rfl ?_
      refine V_if_ne_t 2273 B 2287 dL_law_2273 (by decide) (by decide +kernel) ?_
      refine V_goto 2287 B 3332 dL_law_2287 (by decide) ?_
      refine V_iinc 3332 B (v := 6) (lv2 := [(4, .int 6), (6, .long 0), (5, .int 1), (3, .ref o0), (2, .ref m0), (1, .ref x0), (0, .ref b)]) dL_law_3332 2 rfl (by decide +kernel) (by decide) rfl ?_
      refine V_goto 3335 B 23 dL_law_3335 (by decide) ?_
      refine V_iload 23 B dL_law_23 0 rfl ?_
      refine V_aload_n 25 B dL_law_25 6 rfl ?_
      refine V_slen 26 B hX hbl hbA (v := 6) (by decide +kernel) dL_law_26 ?_
      refine V_bipush 27 B (v := 6) dL_law_27 (by decide +kernel) ?_
      refine V_isub 29 B (v := 0) dL_law_29 (by decide +kernel) ?_
      refine V_icmp_gt_t 30 B 3338 dL_law_30 (by decide) (by decide +kernel) ?_
      exact law_end B (Nat.le_of_ble_eq_true rfl) (Nat.le_of_ble_eq_true rfl) dL_law_3338 dL_law_3339
  ·
    refine V_ws [(x0, oC 12 [.ref x1, .ref x30, .ref x59, .ref x88, .ref x117, .ref x126, .ref x127, .ref x129, .ref x132, .long 0]), (x1, oC 2 [.ref x2, .ref x4, .ref x6, .ref x8, .ref x10, .ref x12, .ref x14, .ref x16, .ref x18, .ref x20, .ref x27, .int 0]), (x2, oC 3 [.ref x3, .int 1]), (x3, aI Y 6 (upd (fun _ => 0) 0 (-1))), (x4, oC 3 [.ref x5, .int 0]), (x12, oC 3 [.ref x13, .int 0]), (x117, oC 11 [.ref x1, .ref x118, .ref x120, .ref x122, .ref x124]), (x118, oC 3 [.ref x119, .int 6]), (x119, aI Y 6 (upd (upd (upd (upd (upd (upd (upd (fun _ => 0) 0 (-1)) 1 (-1)) 2 (-1)) 3 (-1)) 4 (-1)) 5 (-1)) 0 0)), (x120, oC 3 [.ref x121, .int 0]), (m0, oC 13 [.ref m1, .ref m2, .int 0, .ref m3, .ref m4, .int 0, .int 0, .int 0, .int (-1), .int 0, .int 0, .int 0, .long 0, .ref m5, .ref m6, .int 0, .int 0]), (m1, aI Y 3640 (clB 0 (fun _ => 0))), (o0, aJ Y 1 (vp_updL (fun _ => 0) 0 0))] rfl ?_
    obtain rfl : p1 = 0 := k4
    refine V_istore 2246 B (lv2 := [(5, .int 0), (4, .int 0), (3, .ref o0), (2, .ref m0), (1, .ref x0), (0, .ref b)]) dL_law_2246 (by decide) rfl ?_
    refine V_aload_n 2248 B dL_law_2248 3 rfl ?_
    refine V_aload_n 2249 B dL_law_2249 5 rfl ?_
    refine V_iload 2250 B dL_law_2250 1 rfl ?_
    refine V_iconst 2252 B (v := 1) dL_law_2252 (by decide +kernel) ?_
    refine V_iadd 2253 B (v := 1) dL_law_2253 (by decide +kernel) ?_
    refine V_sld 2254 B hX hbl hbA (v := 0) (vpin _ _ (by decide +kernel)) dL_law_2254 e1 ?_
    refine V_cvl 2255 B (st := []) (As := [.int 0]) (fun sz => mX12_effort_2 l D Y (m0) (m1) (m2) (m3) (m4) (m5) (m6) sz) glV_RL_287 ⟨rfl, rfl⟩ ⟨(Nat.le_of_ble_eq_true rfl), (Nat.le_of_ble_eq_true rfl)⟩ ⟨(Nat.le_of_ble_eq_true rfl), (Nat.le_of_ble_eq_true rfl)⟩ [10, 0] rfl 13 0 rfl rfl rfl rfl (Nat.le_of_ble_eq_true rfl) rfl (fun _ _ _ => rfl) dL_law_2255 (fun r15 u15 w15 => ?_)
    obtain rfl := w15
    refine V_ws [(x0, oC 12 [.ref x1, .ref x30, .ref x59, .ref x88, .ref x117, .ref x126, .ref x127, .ref x129, .ref x132, .long 0]), (x1, oC 2 [.ref x2, .ref x4, .ref x6, .ref x8, .ref x10, .ref x12, .ref x14, .ref x16, .ref x18, .ref x20, .ref x27, .int 0]), (x2, oC 3 [.ref x3, .int 1]), (x3, aI Y 6 (upd (fun _ => 0) 0 (-1))), (x4, oC 3 [.ref x5, .int 0]), (x12, oC 3 [.ref x13, .int 0]), (x117, oC 11 [.ref x1, .ref x118, .ref x120, .ref x122, .ref x124]), (x118, oC 3 [.ref x119, .int 6]), (x119, aI Y 6 (upd (upd (upd (upd (upd (upd (upd (fun _ => 0) 0 (-1)) 1 (-1)) 2 (-1)) 3 (-1)) 4 (-1)) 5 (-1)) 0 0)), (x120, oC 3 [.ref x121, .int 0]), (m0, oC 13 [.ref m1, .ref m2, .int 0, .ref m3, .ref m4, .int 0, .int 0, .int 0, .int (-1), .int 0, .int 0, .int 0, .long 0, .ref m5, .ref m6, .int 0, .int 0]), (m1, aI Y 3640 (clB 0 (fun _ => 0))), (o0, aJ Y 1 (vp_updL (fun _ => 0) 0 0))] rfl ?_
    refine V_lstore 2258 B (lv2 := [(6, .long 0), (5, .int 0), (4, .int 0), (3, .ref o0), (2, .ref m0), (1, .ref x0), (0, .ref b)]) dL_law_2258 (by decide) rfl ?_
    refine V_aload_n 2260 B dL_law_2260 4 rfl ?_
    refine V_cvi 2261 B (st := []) (As := []) (fun sz => mX12_thrown_1 l D Y (m0) (m1) (m2) (m3) (m4) (m5) (m6) sz) glV_RL_182 ⟨rfl, rfl⟩ ⟨(Nat.le_of_ble_eq_true rfl), (Nat.le_of_ble_eq_true rfl)⟩ ⟨(Nat.le_of_ble_eq_true rfl), (Nat.le_of_ble_eq_true rfl)⟩ [10] rfl 13 0 rfl rfl rfl rfl (Nat.le_of_ble_eq_true rfl) rfl (fun _ _ _ => rfl) dL_law_2261 (fun r16 u16 w16 => ?_)
    obtain rfl := w16
    refine V_ws [(x0, oC 12 [.ref x1, .ref x30, .ref x59, .ref x88, .ref x117, .ref x126, .ref x127, .ref x129, .ref x132, .long 0]), (x1, oC 2 [.ref x2, .ref x4, .ref x6, .ref x8, .ref x10, .ref x12, .ref x14, .ref x16, .ref x18, .ref x20, .ref x27, .int 0]), (x2, oC 3 [.ref x3, .int 1]), (x3, aI Y 6 (upd (fun _ => 0) 0 (-1))), (x4, oC 3 [.ref x5, .int 0]), (x12, oC 3 [.ref x13, .int 0]), (x117, oC 11 [.ref x1, .ref x118, .ref x120, .ref x122, .ref x124]), (x118, oC 3 [.ref x119, .int 6]), (x119, aI Y 6 (upd (upd (upd (upd (upd (upd (upd (fun _ => 0) 0 (-1)) 1 (-1)) 2 (-1)) 3 (-1)) 4 (-1)) 5 (-1)) 0 0)), (x120, oC 3 [.ref x121, .int 0]), (m0, oC 13 [.ref m1, .ref m2, .int 0, .ref m3, .ref m4, .int 0, .int 0, .int 0, .int (-1), .int 0, .int 0, .int 0, .long 0, .ref m5, .ref m6, .int 0, .int 0]), (m1, aI Y 3640 (clB 0 (fun _ => 0))), (o0, aJ Y 1 (vp_updL (fun _ => 0) 0 0))] rfl ?_
    refine V_iload 2264 B dL_law_2264 1 rfl ?_
    refine V_icmp_eq_t 2266 B 2271 dL_law_2266 (by decide) (by decide +kernel) ?_
    refine V_iload 2271 B dL_law_2271 1 rfl ?_
    refine V_if_ne_f 2273 B 2287 dL_law_2273 (by decide) (by decide +kernel) ?_
    refine V_aload_n 2276 B dL_law_2276 3 rfl ?_
    refine V_iconst 2277 B (v := 0) dL_law_2277 (by decide +kernel) ?_
    refine V_lald 2278 B (v := 0) 12 rfl (vpin _ _ (by decide +kernel)) dL_law_2278 rfl ?_
    refine V_lload 2279 B dL_law_2279 0 rfl ?_
    refine V_lcmp 2281 B (v := 0) dL_law_2281 (by decide +kernel) ?_
    refine V_if_eq_t 2282 B 2287 dL_law_2282 (by decide) (by decide +kernel) ?_
    refine V_goto 2287 B 3332 dL_law_2287 (by decide) ?_
    refine V_iinc 3332 B (v := 6) (lv2 := [(4, .int 6), (6, .long 0), (5, .int 0), (3, .ref o0), (2, .ref m0), (1, .ref x0), (0, .ref b)]) dL_law_3332 2 rfl (by decide +kernel) (by decide) rfl ?_
    refine V_goto 3335 B 23 dL_law_3335 (by decide) ?_
    refine V_iload 23 B dL_law_23 0 rfl ?_
    refine V_aload_n 25 B dL_law_25 6 rfl ?_
    refine V_slen 26 B hX hbl hbA (v := 6) (by decide +kernel) dL_law_26 ?_
    refine V_bipush 27 B (v := 6) dL_law_27 (by decide +kernel) ?_
    refine V_isub 29 B (v := 0) dL_law_29 (by decide +kernel) ?_
    refine V_icmp_gt_t 30 B 3338 dL_law_30 (by decide) (by decide +kernel) ?_
    exact law_end B (Nat.le_of_ble_eq_true rfl) (Nat.le_of_ble_eq_true rfl) dL_law_3338 dL_law_3339
theorem dL_meanCostBits_0 : decode cL_meanCostBits 0 = .ok (.aload_n 2, 1) := by decide +kernel
theorem dL_meanCostBits_1 : decode cL_meanCostBits 1 = .ok (.iconst 0, 1) := by decide +kernel
theorem dL_meanCostBits_2 : decode cL_meanCostBits 2 = .ok (.aload_n 0, 1) := by decide +kernel
theorem dL_meanCostBits_3 : decode cL_meanCostBits 3 = .ok (.iload_n 1, 1) := by decide +kernel
theorem dL_meanCostBits_4 : decode cL_meanCostBits 4 = .ok (.invokevirtual 101, 3) := by decide +kernel
theorem glV_RL_101 : GLV RL 101 yX11_meanCostBits RX11 cX11_meanCostBits 5 (some .int) 1 := ⟨⟨(mT6 221 rfl rfl), (mT6 222 rfl rfl), (mT6 223 rfl rfl), (mT1 1 rfl rfl), (mT6 224 rfl rfl)⟩, by decide +kernel⟩
theorem dL_meanCostBits_12 : decode cL_meanCostBits 12 = .ok (.astore_n 3, 1) := by decide +kernel
theorem dL_meanCostBits_13 : decode cL_meanCostBits 13 = .ok (.iconst 1, 1) := by decide +kernel
theorem dL_meanCostBits_14 : decode cL_meanCostBits 14 = .ok (.ireturn, 1) := by decide +kernel
theorem dL_meanCostBits_15 : decode cL_meanCostBits 15 = .ok (.astore_n 3, 1) := by decide +kernel
theorem dL_meanCostBits_16 : decode cL_meanCostBits 16 = .ok (.iconst 2, 1) := by decide +kernel
theorem dL_meanCostBits_17 : decode cL_meanCostBits 17 = .ok (.ireturn, 1) := by decide +kernel
set_option maxRecDepth 100000 in
set_option maxHeartbeats 4000000 in
theorem mL_meanCostBits_1 (l : Launch) (hl9 : l.stackTraces = false) (D : va_G) (Y : Nat → ClassId) (h0 : Nat) (g0 : Nat) (h1 : Nat) (g1 : Nat) (g2 : Nat) (g3 : Nat) (h5 : Nat) (g4 : Nat) (g5 : Nat) (g6 : Nat) (g7 : Nat) (h2 : Nat) (g8 : Nat) (g9 : Nat) (g10 : Nat) (g11 : Nat) (h4 : Nat) (g12 : Nat) (g13 : Nat) (g14 : Nat) (g15 : Nat) (g16 : Nat) (h3 : Nat) (g17 : Nat) (h6 : Nat) (h8 : Nat) (g18 : Nat) (g19 : Nat) (h7 : Nat) (g20 : Nat) (p0 : Int32) (sz : Nat) : Met l yL_meanCostBits (Cond.codeWith yL_meanCostBits cL_meanCostBits 4 (some .int) [(0, 9, 12, 18), (0, 9, 15, 104)] :: lw_good) (mkR 8 2 12 127) (PreX D Y [.ref h0, .int p0, .ref g0] [(h0, oC 12 [.ref h1, .ref g1, .ref g2, .ref g3, .ref h5, .ref g4, .ref g5, .ref g6, .ref g7, .long 0]), (h1, oC 2 [.ref h2, .ref g8, .ref g9, .ref g10, .ref g11, .ref h4, .ref g12, .ref g13, .ref g14, .ref g15, .ref g16, .int 0]), (h2, oC 3 [.ref h3, .int 1]), (h3, aI Y 6 (upd (fun _ => 0) 0 (-1))), (h4, oC 3 [.ref g17, .int 0]), (h5, oC 11 [.ref h1, .ref h6, .ref h8, .ref g18, .ref g19]), (h6, oC 3 [.ref h7, .int 0]), (h7, aI Y 6 (fun _ => 0)), (h8, oC 3 [.ref g20, .int 0])] sz) (QI D (fun (r : Int32) (u : Nat) => (u = 0 ∧ p0 < 0 ∧ 1 = r) ∨ (u = 1 ∧ ¬ p0 < 0 ∧ 1 ≤ p0 ∧ 1 = r) ∨ (u = 2 ∧ p0 = 0 ∧ 2 = r)) (fun (u : Nat) => match u with | 0 => [(h0, oC 12 [.ref h1, .ref g1, .ref g2, .ref g3, .ref h5, .ref g4, .ref g5, .ref g6, .ref g7, .long 0]), (h1, oC 2 [.ref h2, .ref g8, .ref g9, .ref g10, .ref g11, .ref h4, .ref g12, .ref g13, .ref g14, .ref g15, .ref g16, .int 0]), (h2, oC 3 [.ref h3, .int 1]), (h3, aI Y 6 (upd (fun _ => 0) 0 (-1))), (h4, oC 3 [.ref g17, .int 0]), (h5, oC 11 [.ref h1, .ref h6, .ref h8, .ref g18, .ref g19]), (h6, oC 3 [.ref h7, .int 0]), (h7, aI Y 6 (fun _ => 0)), (h8, oC 3 [.ref g20, .int 0])] | 1 => [(h0, oC 12 [.ref h1, .ref g1, .ref g2, .ref g3, .ref h5, .ref g4, .ref g5, .ref g6, .ref g7, .long 0]), (h1, oC 2 [.ref h2, .ref g8, .ref g9, .ref g10, .ref g11, .ref h4, .ref g12, .ref g13, .ref g14, .ref g15, .ref g16, .int 0]), (h2, oC 3 [.ref h3, .int 1]), (h3, aI Y 6 (upd (fun _ => 0) 0 (-1))), (h4, oC 3 [.ref g17, .int 0]), (h5, oC 11 [.ref h1, .ref h6, .ref h8, .ref g18, .ref g19]), (h6, oC 3 [.ref h7, .int 0]), (h7, aI Y 6 (fun _ => 0)), (h8, oC 3 [.ref g20, .int 0])] | _ => [(h0, oC 12 [.ref h1, .ref g1, .ref g2, .ref g3, .ref h5, .ref g4, .ref g5, .ref g6, .ref g7, .long 0]), (h1, oC 2 [.ref h2, .ref g8, .ref g9, .ref g10, .ref g11, .ref h4, .ref g12, .ref g13, .ref g14, .ref g15, .ref g16, .int 0]), (h2, oC 3 [.ref h3, .int 1]), (h3, aI Y 6 (upd (fun _ => 0) 0 (-1))), (h4, oC 3 [.ref g17, .int 0]), (h5, oC 11 [.ref h1, .ref h6, .ref h8, .ref g18, .ref g19]), (h6, oC 3 [.ref h7, .int 6]), (h7, aI Y 6 (upd (upd (upd (upd (upd (upd (upd (fun _ => 0) 0 (-1)) 1 (-1)) 2 (-1)) 3 (-1)) 4 (-1)) 5 (-1)) 0 0)), (h8, oC 3 [.ref g20, .int 0])]) (va_A [(h0, oC 12 [.ref h1, .ref g1, .ref g2, .ref g3, .ref h5, .ref g4, .ref g5, .ref g6, .ref g7, .long 0]), (h1, oC 2 [.ref h2, .ref g8, .ref g9, .ref g10, .ref g11, .ref h4, .ref g12, .ref g13, .ref g14, .ref g15, .ref g16, .int 0]), (h2, oC 3 [.ref h3, .int 1]), (h3, aI Y 6 (upd (fun _ => 0) 0 (-1))), (h4, oC 3 [.ref g17, .int 0]), (h5, oC 11 [.ref h1, .ref h6, .ref h8, .ref g18, .ref g19]), (h6, oC 3 [.ref h7, .int 0]), (h7, aI Y 6 (fun _ => 0)), (h8, oC 3 [.ref g20, .int 0])] sz)) 2 12 (va_A [(h0, oC 12 [.ref h1, .ref g1, .ref g2, .ref g3, .ref h5, .ref g4, .ref g5, .ref g6, .ref g7, .long 0]), (h1, oC 2 [.ref h2, .ref g8, .ref g9, .ref g10, .ref g11, .ref h4, .ref g12, .ref g13, .ref g14, .ref g15, .ref g16, .int 0]), (h2, oC 3 [.ref h3, .int 1]), (h3, aI Y 6 (upd (fun _ => 0) 0 (-1))), (h4, oC 3 [.ref g17, .int 0]), (h5, oC 11 [.ref h1, .ref h6, .ref h8, .ref g18, .ref g19]), (h6, oC 3 [.ref h7, .int 0]), (h7, aI Y 6 (fun _ => 0)), (h8, oC 3 [.ref g20, .int 0])] sz) :=
  metH_of (by decide +kernel) (Nat.le_of_ble_eq_true rfl) (fun p e s m args below meth c B EB htab hsz => by
    have B : VB p s m args meth c D Y (va_A [(h0, oC 12 [.ref h1, .ref g1, .ref g2, .ref g3, .ref h5, .ref g4, .ref g5, .ref g6, .ref g7, .long 0]), (h1, oC 2 [.ref h2, .ref g8, .ref g9, .ref g10, .ref g11, .ref h4, .ref g12, .ref g13, .ref g14, .ref g15, .ref g16, .int 0]), (h2, oC 3 [.ref h3, .int 1]), (h3, aI Y 6 (upd (fun _ => 0) 0 (-1))), (h4, oC 3 [.ref g17, .int 0]), (h5, oC 11 [.ref h1, .ref h6, .ref h8, .ref g18, .ref g19]), (h6, oC 3 [.ref h7, .int 0]), (h7, aI Y 6 (fun _ => 0)), (h8, oC 3 [.ref g20, .int 0])] sz) cL_meanCostBits 4 RL (some .int) := B
    refine V_aload_n 0 B dL_meanCostBits_0 2 rfl ?_
    refine V_iconst 1 B (v := 0) dL_meanCostBits_1 (by decide +kernel) ?_
    refine V_aload_n 2 B dL_meanCostBits_2 0 rfl ?_
    refine V_iload_n 3 B dL_meanCostBits_3 1 rfl ?_
    refine V_xvi 4 B EB (st := [.int 0, .ref g0]) (As := [.int p0]) (fun sz => mX11_meanCostBits_1 l hl9 D Y (h0) (h1) (g1) (g2) (g3) (h5) (g4) (g5) (g6) (g7) (h2) (g8) (g9) (g10) (g11) (h4) (g12) (g13) (g14) (g15) (g16) (h3) (g17) (h6) (h8) (g18) (g19) (h7) (g20) (p0) sz) glV_RL_101 ⟨rfl, rfl⟩ ⟨(Nat.le_of_ble_eq_true rfl), (Nat.le_of_ble_eq_true rfl)⟩ ⟨(Nat.le_of_ble_eq_true rfl), (Nat.le_of_ble_eq_true rfl)⟩ [0, 0, 0, 0, 0, 0, 0, 0, 0] rfl 12 0 rfl rfl rfl rfl (Nat.le_of_ble_eq_true rfl) rfl (fun _ _ _ => rfl) (fun _ u _ => by
        first | rfl | (split <;> rfl) | (dsimp only; split <;> rfl)) dL_meanCostBits_4 (fun E u0 w0 => ?_) (fun r0 u0 w0 => ?_)
    ·
      rcases w0 with ⟨rfl, rfl, k1⟩ | ⟨rfl, rfl, k2, k3⟩ | ⟨rfl, rfl, k4⟩
      ·
        refine VX_catch 4 B htab [] (0, 9, 12, 18) [(0, 9, 15, 104)] rfl "java/lang/IndexOutOfBoundsException" (fun z hz => nomatch hz) rfl (by decide) (mT5 103 rfl rfl) (EB.2.2.2.1 _ (List.mem_of_getElem? (i := 1) rfl)) 12 rfl (fun q9 => ?_)
        refine V_ws [(h0, oC 12 [.ref h1, .ref g1, .ref g2, .ref g3, .ref h5, .ref g4, .ref g5, .ref g6, .ref g7, .long 0]), (h1, oC 2 [.ref h2, .ref g8, .ref g9, .ref g10, .ref g11, .ref h4, .ref g12, .ref g13, .ref g14, .ref g15, .ref g16, .int 0]), (h2, oC 3 [.ref h3, .int 1]), (h3, aI Y 6 (upd (fun _ => 0) 0 (-1))), (h4, oC 3 [.ref g17, .int 0]), (h5, oC 11 [.ref h1, .ref h6, .ref h8, .ref g18, .ref g19]), (h6, oC 3 [.ref h7, .int 0]), (h7, aI Y 6 (fun _ => 0)), (h8, oC 3 [.ref g20, .int 0])] rfl ?_
        refine V_astore_n 12 B (lv2 := [(3, .ref q9), (0, .ref h0), (1, .int p0), (2, .ref g0)]) dL_meanCostBits_12 (by decide) rfl ?_
        refine V_iconst 13 B (v := 1) dL_meanCostBits_13 (by decide +kernel) ?_
        exact V_iret 14 B dL_meanCostBits_14 0 (Or.inl ⟨rfl, k1, rfl⟩) rfl
      ·
        refine VX_catch 4 B htab [] (0, 9, 12, 18) [(0, 9, 15, 104)] rfl "java/lang/IndexOutOfBoundsException" (fun z hz => nomatch hz) rfl (by decide) (mT5 103 rfl rfl) (EB.2.2.2.1 _ (List.mem_of_getElem? (i := 1) rfl)) 12 rfl (fun q9 => ?_)
        refine V_ws [(h0, oC 12 [.ref h1, .ref g1, .ref g2, .ref g3, .ref h5, .ref g4, .ref g5, .ref g6, .ref g7, .long 0]), (h1, oC 2 [.ref h2, .ref g8, .ref g9, .ref g10, .ref g11, .ref h4, .ref g12, .ref g13, .ref g14, .ref g15, .ref g16, .int 0]), (h2, oC 3 [.ref h3, .int 1]), (h3, aI Y 6 (upd (fun _ => 0) 0 (-1))), (h4, oC 3 [.ref g17, .int 0]), (h5, oC 11 [.ref h1, .ref h6, .ref h8, .ref g18, .ref g19]), (h6, oC 3 [.ref h7, .int 0]), (h7, aI Y 6 (fun _ => 0)), (h8, oC 3 [.ref g20, .int 0])] rfl ?_
        refine V_astore_n 12 B (lv2 := [(3, .ref q9), (0, .ref h0), (1, .int p0), (2, .ref g0)]) dL_meanCostBits_12 (by decide) rfl ?_
        refine V_iconst 13 B (v := 1) dL_meanCostBits_13 (by decide +kernel) ?_
        exact V_iret 14 B dL_meanCostBits_14 1 (Or.inr (Or.inl ⟨rfl, k2, k3, rfl⟩)) rfl
      ·
        obtain rfl : p0 = 0 := k4
        refine VX_catch 4 B htab [(0, 9, 12, 18)] (0, 9, 15, 104) [] rfl "java/lang/ArithmeticException" (fun z hz => by
        obtain rfl := List.mem_singleton.mp hz
        exact Or.inr ⟨by decide, _, B.1.2.2.2.2 _ (mT5 103 rfl rfl), EB.2.2.2.2.1 _ (List.mem_of_getElem? (i := 2) rfl)⟩) rfl (by decide) (mT6 207 rfl rfl) (EB.2.2.2.1 _ (List.mem_of_getElem? (i := 2) rfl)) 15 rfl (fun q9 => ?_)
        refine V_ws [(h0, oC 12 [.ref h1, .ref g1, .ref g2, .ref g3, .ref h5, .ref g4, .ref g5, .ref g6, .ref g7, .long 0]), (h1, oC 2 [.ref h2, .ref g8, .ref g9, .ref g10, .ref g11, .ref h4, .ref g12, .ref g13, .ref g14, .ref g15, .ref g16, .int 0]), (h2, oC 3 [.ref h3, .int 1]), (h3, aI Y 6 (upd (fun _ => 0) 0 (-1))), (h4, oC 3 [.ref g17, .int 0]), (h5, oC 11 [.ref h1, .ref h6, .ref h8, .ref g18, .ref g19]), (h6, oC 3 [.ref h7, .int 6]), (h7, aI Y 6 (upd (upd (upd (upd (upd (upd (upd (fun _ => 0) 0 (-1)) 1 (-1)) 2 (-1)) 3 (-1)) 4 (-1)) 5 (-1)) 0 0)), (h8, oC 3 [.ref g20, .int 0])] rfl ?_
        refine V_astore_n 15 B (lv2 := [(3, .ref q9), (0, .ref h0), (1, .int 0), (2, .ref g0)]) dL_meanCostBits_15 (by decide) rfl ?_
        refine V_iconst 16 B (v := 2) dL_meanCostBits_16 (by decide +kernel) ?_
        exact V_iret 17 B dL_meanCostBits_17 2 (Or.inr (Or.inr ⟨rfl, rfl, rfl⟩)) rfl
    ·
      exact w0.elim)
set_option maxRecDepth 100000 in
set_option maxHeartbeats 4000000 in
theorem mX12_meanCostBits_2 (l : Launch) (D : va_G) (Y : Nat → ClassId) (h0 : Nat) (h1 : Nat) (g0 : Nat) (g1 : Nat) (g2 : Nat) (g3 : Nat) (g4 : Nat) (sz : Nat) : Met l yX12_meanCostBits (WSm yX12_meanCostBits cX12_meanCostBits 4 (some .int)) (mkR 2 0 0 46) (PreC D Y [.ref h0, .int 0] [(h0, oC 13 [.ref h1, .ref g0, .int 0, .ref g1, .ref g2, .int 0, .int 0, .int 0, .int (-1), .int 0, .int 0, .int 0, .long 0, .ref g3, .ref g4, .int 0, .int 0]), (h1, aI Y 3640 (clB 0 (fun _ => 0)))] sz) (QI D (fun (r : Int32) (u : Unit) => 0 = r) (fun (_ : Unit) => [(h0, oC 13 [.ref h1, .ref g0, .int 2, .ref g1, .ref g2, .int 0, .int 0, .int 0, .int (-1), .int 0, .int 0, .int 0, .long 0, .ref g3, .ref g4, .int 0, .int 0]), (h1, aI Y 3640 (clB 0 (fun _ => 0)))]) (va_A [(h0, oC 13 [.ref h1, .ref g0, .int 0, .ref g1, .ref g2, .int 0, .int 0, .int 0, .int (-1), .int 0, .int 0, .int 0, .long 0, .ref g3, .ref g4, .int 0, .int 0]), (h1, aI Y 3640 (clB 0 (fun _ => 0)))] sz)) 0 0 (va_A [(h0, oC 13 [.ref h1, .ref g0, .int 0, .ref g1, .ref g2, .int 0, .int 0, .int 0, .int (-1), .int 0, .int 0, .int 0, .long 0, .ref g3, .ref g4, .int 0, .int 0]), (h1, aI Y 3640 (clB 0 (fun _ => 0)))] sz) :=
  met_of (by decide +kernel) (Nat.le_of_ble_eq_true rfl) (fun p e s m args below meth c B hin hsz => by
    have B : VB p s m args meth c D Y (va_A [(h0, oC 13 [.ref h1, .ref g0, .int 0, .ref g1, .ref g2, .int 0, .int 0, .int 0, .int (-1), .int 0, .int 0, .int 0, .long 0, .ref g3, .ref g4, .int 0, .int 0]), (h1, aI Y 3640 (clB 0 (fun _ => 0)))] sz) cX12_meanCostBits 4 RX12 (some .int) := B
    refine V_aload_n 0 B dX12_meanCostBits_0 0 rfl ?_
    refine V_iconst 1 B (v := 0) dX12_meanCostBits_1 (by decide +kernel) ?_
    refine V_put 2 B gp_RX12_38 0 rfl (Nat.le_of_ble_eq_true rfl) rfl rfl dX12_meanCostBits_2 [(h0, oC 13 [.ref h1, .ref g0, .int 0, .ref g1, .ref g2, .int 0, .int 0, .int 0, .int (-1), .int 0, .int 0, .int 0, .long 0, .ref g3, .ref g4, .int 0, .int 0]), (h1, aI Y 3640 (clB 0 (fun _ => 0)))] rfl ?_
    refine V_aload_n 5 B dX12_meanCostBits_5 0 rfl ?_
    refine V_aload_n 6 B dX12_meanCostBits_6 0 rfl ?_
    refine V_iload_n 7 B dX12_meanCostBits_7 1 rfl ?_
    refine V_cvi 8 B (st := [.ref h0]) (As := [.int 0]) (fun sz => mX12_isMode_2 l D Y (h0) (h1) (g0) (g1) (g2) (g3) (g4) sz) glV_RX12_91 ⟨rfl, rfl⟩ ⟨(Nat.le_of_ble_eq_true rfl), (Nat.le_of_ble_eq_true rfl)⟩ ⟨(Nat.le_of_ble_eq_true rfl), (Nat.le_of_ble_eq_true rfl)⟩ [0, 0] rfl 13 0 rfl rfl rfl rfl (Nat.le_of_ble_eq_true rfl) rfl (fun _ _ _ => rfl) dX12_meanCostBits_8 (fun r0 u0 w0 => ?_)
    obtain rfl := w0
    refine V_ws [(h0, oC 13 [.ref h1, .ref g0, .int 0, .ref g1, .ref g2, .int 0, .int 0, .int 0, .int (-1), .int 0, .int 0, .int 0, .long 0, .ref g3, .ref g4, .int 0, .int 0]), (h1, aI Y 3640 (clB 0 (fun _ => 0)))] rfl ?_
    refine V_if_ne_t 11 B 18 dX12_meanCostBits_11 (by decide) (by decide +kernel) ?_
    refine V_iconst 18 B (v := 0) dX12_meanCostBits_18 (by decide +kernel) ?_
    refine V_iconst 19 B (v := 1) dX12_meanCostBits_19 (by decide +kernel) ?_
    refine V_cvi 20 B (st := []) (As := [.int 0, .int 1]) (fun sz => mX12_throwsIf_2 l D Y (h0) (h1) (g0) (g1) (g2) (g3) (g4) sz) glV_RX12_69 ⟨rfl, rfl⟩ ⟨(Nat.le_of_ble_eq_true rfl), (Nat.le_of_ble_eq_true rfl)⟩ ⟨(Nat.le_of_ble_eq_true rfl), (Nat.le_of_ble_eq_true rfl)⟩ [0] rfl 13 0 rfl rfl rfl rfl (Nat.le_of_ble_eq_true rfl) rfl (fun _ _ _ => rfl) dX12_meanCostBits_20 (fun r1 u1 w1 => ?_)
    obtain rfl := w1
    refine V_ws [(h0, oC 13 [.ref h1, .ref g0, .int 0, .ref g1, .ref g2, .int 0, .int 0, .int 0, .int (-1), .int 0, .int 0, .int 0, .long 0, .ref g3, .ref g4, .int 0, .int 0]), (h1, aI Y 3640 (clB 0 (fun _ => 0)))] rfl ?_
    refine V_if_ne_f 23 B 47 dX12_meanCostBits_23 (by decide) (by decide +kernel) ?_
    refine V_aload_n 26 B dX12_meanCostBits_26 0 rfl ?_
    refine V_aload_n 27 B dX12_meanCostBits_27 0 rfl ?_
    refine V_iload_n 28 B dX12_meanCostBits_28 1 rfl ?_
    refine V_cvi 29 B (st := [.ref h0]) (As := [.int 0]) (fun sz => mX12_visibleCount_1 l D Y (h0) (h1) (g0) (g1) (g2) (g3) (g4) sz) glV_RX12_163 ⟨rfl, rfl⟩ ⟨(Nat.le_of_ble_eq_true rfl), (Nat.le_of_ble_eq_true rfl)⟩ ⟨(Nat.le_of_ble_eq_true rfl), (Nat.le_of_ble_eq_true rfl)⟩ [0, 0] rfl 13 0 rfl rfl rfl rfl (Nat.le_of_ble_eq_true rfl) rfl (fun _ _ _ => rfl) dX12_meanCostBits_29 (fun r2 u2 w2 => ?_)
    obtain rfl := w2
    refine V_ws [(h0, oC 13 [.ref h1, .ref g0, .int 0, .ref g1, .ref g2, .int 0, .int 0, .int 0, .int (-1), .int 0, .int 0, .int 0, .long 0, .ref g3, .ref g4, .int 0, .int 0]), (h1, aI Y 3640 (clB 0 (fun _ => 0)))] rfl ?_
    refine V_if_ne_f 32 B 39 dX12_meanCostBits_32 (by decide) (by decide +kernel) ?_
    refine V_iconst 35 B (v := 1) dX12_meanCostBits_35 (by decide +kernel) ?_
    refine V_goto 36 B 40 dX12_meanCostBits_36 (by decide) ?_
    refine V_iconst 40 B (v := 2) dX12_meanCostBits_40 (by decide +kernel) ?_
    refine V_cvi 41 B (st := []) (As := [.int 1, .int 2]) (fun sz => mX12_throwsIf_4 l D Y (h0) (h1) (g0) (g1) (g2) (g3) (g4) sz) glV_RX12_69 ⟨rfl, rfl⟩ ⟨(Nat.le_of_ble_eq_true rfl), (Nat.le_of_ble_eq_true rfl)⟩ ⟨(Nat.le_of_ble_eq_true rfl), (Nat.le_of_ble_eq_true rfl)⟩ [0] rfl 13 0 rfl rfl rfl rfl (Nat.le_of_ble_eq_true rfl) rfl (fun _ _ _ => rfl) dX12_meanCostBits_41 (fun r3 u3 w3 => ?_)
    obtain rfl := w3
    refine V_ws [(h0, oC 13 [.ref h1, .ref g0, .int 2, .ref g1, .ref g2, .int 0, .int 0, .int 0, .int (-1), .int 0, .int 0, .int 0, .long 0, .ref g3, .ref g4, .int 0, .int 0]), (h1, aI Y 3640 (clB 0 (fun _ => 0)))] rfl ?_
    refine V_if_eq_f 44 B 49 dX12_meanCostBits_44 (by decide) (by decide +kernel) ?_
    refine V_iconst 47 B (v := 0) dX12_meanCostBits_47 (by decide +kernel) ?_
    exact V_iret 48 B dX12_meanCostBits_48 () rfl rfl)
theorem dL_law_2290 : decode cL_law 2290 = .ok (.aload_n 1, 1) := by decide +kernel
theorem dL_law_2291 : decode cL_law 2291 = .ok (.aload_n 0, 1) := by decide +kernel
theorem dL_law_2292 : decode cL_law 2292 = .ok (.iload 4, 2) := by decide +kernel
theorem dL_law_2294 : decode cL_law 2294 = .ok (.iconst 1, 1) := by decide +kernel
theorem dL_law_2295 : decode cL_law 2295 = .ok (.iadd, 1) := by decide +kernel
theorem dL_law_2296 : decode cL_law 2296 = .ok (.iaload, 1) := by decide +kernel
theorem dL_law_2297 : decode cL_law 2297 = .ok (.aload_n 3, 1) := by decide +kernel
theorem dL_law_2298 : decode cL_law 2298 = .ok (.invokestatic 288, 3) := by decide +kernel
theorem glH_RL_288 : GLH RL 288 yL_meanCostBits cL_meanCostBits 4 (some .int) [(0, 9, 12, 18), (0, 9, 15, 104)] 3 := ⟨⟨(mT6 204 rfl rfl), (mT6 205 rfl rfl), (mT1 0 rfl rfl), (mT6 206 rfl rfl)⟩, by decide +kernel⟩
theorem dL_law_2301 : decode cL_law 2301 = .ok (.istore 5, 2) := by decide +kernel
theorem dL_law_2303 : decode cL_law 2303 = .ok (.aload_n 2, 1) := by decide +kernel
theorem dL_law_2304 : decode cL_law 2304 = .ok (.aload_n 0, 1) := by decide +kernel
theorem dL_law_2305 : decode cL_law 2305 = .ok (.iload 4, 2) := by decide +kernel
theorem dL_law_2307 : decode cL_law 2307 = .ok (.iconst 1, 1) := by decide +kernel
theorem dL_law_2308 : decode cL_law 2308 = .ok (.iadd, 1) := by decide +kernel
theorem dL_law_2309 : decode cL_law 2309 = .ok (.iaload, 1) := by decide +kernel
theorem dL_law_2310 : decode cL_law 2310 = .ok (.invokevirtual 290, 3) := by decide +kernel
theorem glV_RL_290 : GLV RL 290 yX12_meanCostBits RX12 cX12_meanCostBits 4 (some .int) 1 := ⟨⟨(mT9 0 rfl rfl), (mT9 1 rfl rfl), (mT9 2 rfl rfl), (mT1 13 rfl rfl), (mT9 3 rfl rfl)⟩, by decide +kernel⟩
theorem dL_law_2313 : decode cL_law 2313 = .ok (.istore 6, 2) := by decide +kernel
theorem dL_law_2315 : decode cL_law 2315 = .ok (.aload_n 2, 1) := by decide +kernel
theorem dL_law_2316 : decode cL_law 2316 = .ok (.invokevirtual 182, 3) := by decide +kernel
theorem dL_law_2319 : decode cL_law 2319 = .ok (.iload 5, 2) := by decide +kernel
theorem dL_law_2321 : decode cL_law 2321 = .ok (.if_icmp .eq 5, 3) := by decide +kernel
theorem dL_law_2326 : decode cL_law 2326 = .ok (.iload 5, 2) := by decide +kernel
theorem dL_law_2328 : decode cL_law 2328 = .ok (.ifCond .ne 15, 3) := by decide +kernel
theorem dL_law_2343 : decode cL_law 2343 = .ok (.goto 989, 3) := by decide +kernel
set_option maxRecDepth 100000 in
set_option maxHeartbeats 4000000 in
theorem law_c39 {p : Program} {l : Launch} {e : Env} {s : State} {m : MethodId} {below : List Frame} {meth : Method} {c : Code} {b : Nat} {xs : Nat → Int32} {D : va_G} {Y : Nat → ClassId} (B : VB p s m #[Value.ref b] meth c D Y (fun q => s.heap.size ≤ q) cL_law 8 RL ret) (EB : EX (fun q => s.heap.size ≤ q) s s.heap) (hl9 : l.stackTraces = false) (hX : va_X b 6 xs s s.heap) (hbl : b < s.heap.size) (hbA : ¬ (fun q => s.heap.size ≤ q) b) (x0 x1 x30 x59 x88 x117 x126 x127 x129 x132 x2 x4 x6 x8 x10 x12 x14 x16 x18 x20 x27 x3 x13 x118 x120 x122 x124 x119 x121 m0 m1 m2 m3 m4 m5 m6 o0 : Nat) (p1 : Int32) (e1 : xs 1 = p1) : V p l e room_1 s m #[Value.ref b] below meth c D (fun q => s.heap.size ≤ q) 8 149 10574 (lw_Z below #[Value.ref b] s) 2290 [(4, .int 0), (3, .ref o0), (2, .ref m0), (1, .ref x0), (0, .ref b)] [] [(x0, oC 12 [.ref x1, .ref x30, .ref x59, .ref x88, .ref x117, .ref x126, .ref x127, .ref x129, .ref x132, .long 0]), (x1, oC 2 [.ref x2, .ref x4, .ref x6, .ref x8, .ref x10, .ref x12, .ref x14, .ref x16, .ref x18, .ref x20, .ref x27, .int 0]), (x2, oC 3 [.ref x3, .int 1]), (x3, aI Y 6 (upd (fun _ => 0) 0 (-1))), (x12, oC 3 [.ref x13, .int 0]), (x117, oC 11 [.ref x1, .ref x118, .ref x120, .ref x122, .ref x124]), (x118, oC 3 [.ref x119, .int 0]), (x119, aI Y 6 (fun _ => 0)), (x120, oC 3 [.ref x121, .int 0]), (m0, oC 13 [.ref m1, .ref m2, .int 0, .ref m3, .ref m4, .int 0, .int 0, .int 0, .int (-1), .int 0, .int 0, .int 0, .long 0, .ref m5, .ref m6, .int 0, .int 0]), (m1, aI Y 3640 (clB 0 (fun _ => 0)))] := by
  refine V_aload_n 2290 B dL_law_2290 3 rfl ?_
  refine V_aload_n 2291 B dL_law_2291 4 rfl ?_
  refine V_iload 2292 B dL_law_2292 0 rfl ?_
  refine V_iconst 2294 B (v := 1) dL_law_2294 (by decide +kernel) ?_
  refine V_iadd 2295 B (v := 1) dL_law_2295 (by decide +kernel) ?_
  refine V_sld 2296 B hX hbl hbA (v := p1) (vpin _ _ (by decide +kernel)) dL_law_2296 e1 ?_
  refine V_aload_n 2297 B dL_law_2297 1 rfl ?_
  refine V_hsi 2298 B EB (st := []) (As := [.ref x0, .int p1, .ref o0]) (fun sz => mL_meanCostBits_1 l hl9 D Y (x0) (o0) (x1) (x30) (x59) (x88) (x117) (x126) (x127) (x129) (x132) (x2) (x4) (x6) (x8) (x10) (x12) (x14) (x16) (x18) (x20) (x27) (x3) (x13) (x118) (x120) (x122) (x124) (x119) (x121) (p1) sz) glH_RL_288 ⟨rfl, rfl⟩ ⟨(Nat.le_of_ble_eq_true rfl), (Nat.le_of_ble_eq_true rfl)⟩ ⟨(Nat.le_of_ble_eq_true rfl), (Nat.le_of_ble_eq_true rfl)⟩ [0, 0, 0, 0, 0, 0, 0, 0, 0] rfl rfl (Nat.le_of_ble_eq_true rfl) rfl (fun _ u _ => by
        first | rfl | (split <;> rfl) | (dsimp only; split <;> rfl)) dL_law_2298 (fun r0 u0 w0 => ?_)
  rcases w0 with ⟨rfl, k1, rfl⟩ | ⟨rfl, k2, k3, rfl⟩ | ⟨rfl, k4, rfl⟩
  ·
    refine V_ws [(x0, oC 12 [.ref x1, .ref x30, .ref x59, .ref x88, .ref x117, .ref x126, .ref x127, .ref x129, .ref x132, .long 0]), (x1, oC 2 [.ref x2, .ref x4, .ref x6, .ref x8, .ref x10, .ref x12, .ref x14, .ref x16, .ref x18, .ref x20, .ref x27, .int 0]), (x2, oC 3 [.ref x3, .int 1]), (x3, aI Y 6 (upd (fun _ => 0) 0 (-1))), (x12, oC 3 [.ref x13, .int 0]), (x117, oC 11 [.ref x1, .ref x118, .ref x120, .ref x122, .ref x124]), (x118, oC 3 [.ref x119, .int 0]), (x119, aI Y 6 (fun _ => 0)), (x120, oC 3 [.ref x121, .int 0]), (m0, oC 13 [.ref m1, .ref m2, .int 0, .ref m3, .ref m4, .int 0, .int 0, .int 0, .int (-1), .int 0, .int 0, .int 0, .long 0, .ref m5, .ref m6, .int 0, .int 0]), (m1, aI Y 3640 (clB 0 (fun _ => 0)))] rfl ?_
    refine V_istore 2301 B (lv2 := [(5, .int 1), (4, .int 0), (3, .ref o0), (2, .ref m0), (1, .ref x0), (0, .ref b)]) dL_law_2301 (by decide) rfl ?_
    refine V_aload_n 2303 B dL_law_2303 3 rfl ?_
    refine V_aload_n 2304 B dL_law_2304 5 rfl ?_
    refine V_iload 2305 B dL_law_2305 1 rfl ?_
    refine V_iconst 2307 B (v := 1) dL_law_2307 (by decide +kernel) ?_
    refine V_iadd 2308 B (v := 1) dL_law_2308 (by decide +kernel) ?_
    refine V_sld 2309 B hX hbl hbA (v := p1) (vpin _ _ (by decide +kernel)) dL_law_2309 e1 ?_
    refine V_cvi 2310 B (st := []) (As := [.int p1]) (fun sz => mX12_meanCostBits_1 l D Y (m0) (m1) (m2) (m3) (m4) (m5) (m6) (p1) sz) glV_RL_290 ⟨rfl, rfl⟩ ⟨(Nat.le_of_ble_eq_true rfl), (Nat.le_of_ble_eq_true rfl)⟩ ⟨(Nat.le_of_ble_eq_true rfl), (Nat.le_of_ble_eq_true rfl)⟩ [9, 0] rfl 13 0 rfl rfl rfl rfl (Nat.le_of_ble_eq_true rfl) rfl (fun _ u _ => by
        first | rfl | (split <;> rfl) | (dsimp only; split <;> rfl)) dL_law_2310 (fun r5 u5 w5 => ?_)
    rcases w5 with ⟨rfl, k6, rfl⟩ | ⟨rfl, k7, rfl⟩ | ⟨rfl, k8, rfl⟩
    ·
      refine V_ws [(x0, oC 12 [.ref x1, .ref x30, .ref x59, .ref x88, .ref x117, .ref x126, .ref x127, .ref x129, .ref x132, .long 0]), (x1, oC 2 [.ref x2, .ref x4, .ref x6, .ref x8, .ref x10, .ref x12, .ref x14, .ref x16, .ref x18, .ref x20, .ref x27, .int 0]), (x2, oC 3 [.ref x3, .int 1]), (x3, aI Y 6 (upd (fun _ => 0) 0 (-1))), (x12, oC 3 [.ref x13, .int 0]), (x117, oC 11 [.ref x1, .ref x118, .ref x120, .ref x122, .ref x124]), (x118, oC 3 [.ref x119, .int 0]), (x119, aI Y 6 (fun _ => 0)), (x120, oC 3 [.ref x121, .int 0]), (m0, oC 13 [.ref m1, .ref m2, .int 2, .ref m3, .ref m4, .int 0, .int 0, .int 0, .int (-1), .int 0, .int 0, .int 0, .long 0, .ref m5, .ref m6, .int 0, .int 0]), (m1, aI Y 3640 (clB 0 (fun _ => 0)))] rfl ?_
      exact absurd k6 (q_neh (b_lt k1 (n := (-1)) (by decide +kernel)) (by decide +kernel))
    ·
      refine V_ws [(x0, oC 12 [.ref x1, .ref x30, .ref x59, .ref x88, .ref x117, .ref x126, .ref x127, .ref x129, .ref x132, .long 0]), (x1, oC 2 [.ref x2, .ref x4, .ref x6, .ref x8, .ref x10, .ref x12, .ref x14, .ref x16, .ref x18, .ref x20, .ref x27, .int 0]), (x2, oC 3 [.ref x3, .int 1]), (x3, aI Y 6 (upd (fun _ => 0) 0 (-1))), (x12, oC 3 [.ref x13, .int 0]), (x117, oC 11 [.ref x1, .ref x118, .ref x120, .ref x122, .ref x124]), (x118, oC 3 [.ref x119, .int 0]), (x119, aI Y 6 (fun _ => 0)), (x120, oC 3 [.ref x121, .int 0]), (m0, oC 13 [.ref m1, .ref m2, .int 1, .ref m3, .ref m4, .int 0, .int 0, .int 0, .int (-1), .int 0, .int 0, .int 0, .long 0, .ref m5, .ref m6, .int 0, .int 0]), (m1, aI Y 3640 (clB 0 (fun _ => 0)))] rfl ?_
      refine V_istore 2313 B (lv2 := [(6, .int 0), (5, .int 1), (4, .int 0), (3, .ref o0), (2, .ref m0), (1, .ref x0), (0, .ref b)]) dL_law_2313 (by decide) rfl ?_
      refine V_aload_n 2315 B dL_law_2315 4 rfl ?_
      refine V_cvi 2316 B (st := []) (As := []) (fun sz => mX12_thrown_2 l D Y (m0) (m1) (m2) (m3) (m4) (m5) (m6) sz) glV_RL_182 ⟨rfl, rfl⟩ ⟨(Nat.le_of_ble_eq_true rfl), (Nat.le_of_ble_eq_true rfl)⟩ ⟨(Nat.le_of_ble_eq_true rfl), (Nat.le_of_ble_eq_true rfl)⟩ [9] rfl 13 0 rfl rfl rfl rfl (Nat.le_of_ble_eq_true rfl) rfl (fun _ _ _ => rfl) dL_law_2316 (fun r9 u9 w9 => ?_)
      obtain rfl := w9
      refine V_ws [(x0, oC 12 [.ref x1, .ref x30, .ref x59, .ref x88, .ref x117, .ref x126, .ref x127, .ref x129, .ref x132, .long 0]), (x1, oC 2 [.ref x2, .ref x4, .ref x6, .ref x8, .ref x10, .ref x12, .ref x14, .ref x16, .ref x18, .ref x20, .ref x27, .int 0]), (x2, oC 3 [.ref x3, .int 1]), (x3, aI Y 6 (upd (fun _ => 0) 0 (-1))), (x12, oC 3 [.ref x13, .int 0]), (x117, oC 11 [.ref x1, .ref x118, .ref x120, .ref x122, .ref x124]), (x118, oC 3 [.ref x119, .int 0]), (x119, aI Y 6 (fun _ => 0)), (x120, oC 3 [.ref x121, .int 0]), (m0, oC 13 [.ref m1, .ref m2, .int 1, .ref m3, .ref m4, .int 0, .int 0, .int 0, .int (-1), .int 0, .int 0, .int 0, .long 0, .ref m5, .ref m6, .int 0, .int 0]), (m1, aI Y 3640 (clB 0 (fun _ => 0)))] rfl ?_
      refine V_iload 2319 B dL_law_2319 1 rfl ?_
      refine V_icmp_eq_t 2321 B 2326 dL_law_2321 (by decide) (by decide +kernel) ?_
      refine V_iload 2326 B dL_law_2326 1 rfl ?_
      refine V_if_ne_t 2328 B 2343 dL_law_2328 (by decide) (by decide +kernel) ?_
      refine V_goto 2343 B 3332 dL_law_2343 (by decide) ?_
      refine V_iinc 3332 B (v := 6) (lv2 := [(4, .int 6), (6, .int 0), (5, .int 1), (3, .ref o0), (2, .ref m0), (1, .ref x0), (0, .ref b)]) dL_law_3332 2 rfl (by decide +kernel) (by decide) rfl ?_
      refine V_goto 3335 B 23 dL_law_3335 (by decide) ?_
      refine V_iload 23 B dL_law_23 0 rfl ?_
      refine V_aload_n 25 B dL_law_25 6 rfl ?_
      refine V_slen 26 B hX hbl hbA (v := 6) (by decide +kernel) dL_law_26 ?_
      refine V_bipush 27 B (v := 6) dL_law_27 (by decide +kernel) ?_
      refine V_isub 29 B (v := 0) dL_law_29 (by decide +kernel) ?_
      refine V_icmp_gt_t 30 B 3338 dL_law_30 (by decide) (by decide +kernel) ?_
      exact law_end B (Nat.le_of_ble_eq_true rfl) (Nat.le_of_ble_eq_true rfl) dL_law_3338 dL_law_3339
    ·
      refine V_ws [(x0, oC 12 [.ref x1, .ref x30, .ref x59, .ref x88, .ref x117, .ref x126, .ref x127, .ref x129, .ref x132, .long 0]), (x1, oC 2 [.ref x2, .ref x4, .ref x6, .ref x8, .ref x10, .ref x12, .ref x14, .ref x16, .ref x18, .ref x20, .ref x27, .int 0]), (x2, oC 3 [.ref x3, .int 1]), (x3, aI Y 6 (upd (fun _ => 0) 0 (-1))), (x12, oC 3 [.ref x13, .int 0]), (x117, oC 11 [.ref x1, .ref x118, .ref x120, .ref x122, .ref x124]), (x118, oC 3 [.ref x119, .int 0]), (x119, aI Y 6 (fun _ => 0)), (x120, oC 3 [.ref x121, .int 0]), (m0, oC 13 [.ref m1, .ref m2, .int 1, .ref m3, .ref m4, .int 0, .int 0, .int 0, .int (-1), .int 0, .int 0, .int 0, .long 0, .ref m5, .ref m6, .int 0, .int 0]), (m1, aI Y 3640 (clB 0 (fun _ => 0)))] rfl ?_
      exact (q_abs (b_gt k8 (n := 1) (by decide +kernel)) (b_lt k1 (n := (-1)) (by decide +kernel)) (by decide +kernel)).elim
  ·
    refine V_ws [(x0, oC 12 [.ref x1, .ref x30, .ref x59, .ref x88, .ref x117, .ref x126, .ref x127, .ref x129, .ref x132, .long 0]), (x1, oC 2 [.ref x2, .ref x4, .ref x6, .ref x8, .ref x10, .ref x12, .ref x14, .ref x16, .ref x18, .ref x20, .ref x27, .int 0]), (x2, oC 3 [.ref x3, .int 1]), (x3, aI Y 6 (upd (fun _ => 0) 0 (-1))), (x12, oC 3 [.ref x13, .int 0]), (x117, oC 11 [.ref x1, .ref x118, .ref x120, .ref x122, .ref x124]), (x118, oC 3 [.ref x119, .int 0]), (x119, aI Y 6 (fun _ => 0)), (x120, oC 3 [.ref x121, .int 0]), (m0, oC 13 [.ref m1, .ref m2, .int 0, .ref m3, .ref m4, .int 0, .int 0, .int 0, .int (-1), .int 0, .int 0, .int 0, .long 0, .ref m5, .ref m6, .int 0, .int 0]), (m1, aI Y 3640 (clB 0 (fun _ => 0)))] rfl ?_
    refine V_istore 2301 B (lv2 := [(5, .int 1), (4, .int 0), (3, .ref o0), (2, .ref m0), (1, .ref x0), (0, .ref b)]) dL_law_2301 (by decide) rfl ?_
    refine V_aload_n 2303 B dL_law_2303 3 rfl ?_
    refine V_aload_n 2304 B dL_law_2304 5 rfl ?_
    refine V_iload 2305 B dL_law_2305 1 rfl ?_
    refine V_iconst 2307 B (v := 1) dL_law_2307 (by decide +kernel) ?_
    refine V_iadd 2308 B (v := 1) dL_law_2308 (by decide +kernel) ?_
    refine V_sld 2309 B hX hbl hbA (v := p1) (vpin _ _ (by decide +kernel)) dL_law_2309 e1 ?_
    refine V_cvi 2310 B (st := []) (As := [.int p1]) (fun sz => mX12_meanCostBits_1 l D Y (m0) (m1) (m2) (m3) (m4) (m5) (m6) (p1) sz) glV_RL_290 ⟨rfl, rfl⟩ ⟨(Nat.le_of_ble_eq_true rfl), (Nat.le_of_ble_eq_true rfl)⟩ ⟨(Nat.le_of_ble_eq_true rfl), (Nat.le_of_ble_eq_true rfl)⟩ [9, 0] rfl 13 0 rfl rfl rfl rfl (Nat.le_of_ble_eq_true rfl) rfl (fun _ u _ => by
        first | rfl | (split <;> rfl) | (dsimp only; split <;> rfl)) dL_law_2310 (fun r10 u10 w10 => ?_)
    rcases w10 with ⟨rfl, k11, rfl⟩ | ⟨rfl, k12, rfl⟩ | ⟨rfl, k13, rfl⟩
    ·
      refine V_ws [(x0, oC 12 [.ref x1, .ref x30, .ref x59, .ref x88, .ref x117, .ref x126, .ref x127, .ref x129, .ref x132, .long 0]), (x1, oC 2 [.ref x2, .ref x4, .ref x6, .ref x8, .ref x10, .ref x12, .ref x14, .ref x16, .ref x18, .ref x20, .ref x27, .int 0]), (x2, oC 3 [.ref x3, .int 1]), (x3, aI Y 6 (upd (fun _ => 0) 0 (-1))), (x12, oC 3 [.ref x13, .int 0]), (x117, oC 11 [.ref x1, .ref x118, .ref x120, .ref x122, .ref x124]), (x118, oC 3 [.ref x119, .int 0]), (x119, aI Y 6 (fun _ => 0)), (x120, oC 3 [.ref x121, .int 0]), (m0, oC 13 [.ref m1, .ref m2, .int 2, .ref m3, .ref m4, .int 0, .int 0, .int 0, .int (-1), .int 0, .int 0, .int 0, .long 0, .ref m5, .ref m6, .int 0, .int 0]), (m1, aI Y 3640 (clB 0 (fun _ => 0)))] rfl ?_
      exact absurd k11 (q_nel (b_ge k3 (n := 1) (by decide +kernel)) (by decide +kernel))
    ·
      refine V_ws [(x0, oC 12 [.ref x1, .ref x30, .ref x59, .ref x88, .ref x117, .ref x126, .ref x127, .ref x129, .ref x132, .long 0]), (x1, oC 2 [.ref x2, .ref x4, .ref x6, .ref x8, .ref x10, .ref x12, .ref x14, .ref x16, .ref x18, .ref x20, .ref x27, .int 0]), (x2, oC 3 [.ref x3, .int 1]), (x3, aI Y 6 (upd (fun _ => 0) 0 (-1))), (x12, oC 3 [.ref x13, .int 0]), (x117, oC 11 [.ref x1, .ref x118, .ref x120, .ref x122, .ref x124]), (x118, oC 3 [.ref x119, .int 0]), (x119, aI Y 6 (fun _ => 0)), (x120, oC 3 [.ref x121, .int 0]), (m0, oC 13 [.ref m1, .ref m2, .int 1, .ref m3, .ref m4, .int 0, .int 0, .int 0, .int (-1), .int 0, .int 0, .int 0, .long 0, .ref m5, .ref m6, .int 0, .int 0]), (m1, aI Y 3640 (clB 0 (fun _ => 0)))] rfl ?_
      exact (q_abs (b_ge k3 (n := 1) (by decide +kernel)) (b_lt k12 (n := (-1)) (by decide +kernel)) (by decide +kernel)).elim
    ·
      refine V_ws [(x0, oC 12 [.ref x1, .ref x30, .ref x59, .ref x88, .ref x117, .ref x126, .ref x127, .ref x129, .ref x132, .long 0]), (x1, oC 2 [.ref x2, .ref x4, .ref x6, .ref x8, .ref x10, .ref x12, .ref x14, .ref x16, .ref x18, .ref x20, .ref x27, .int 0]), (x2, oC 3 [.ref x3, .int 1]), (x3, aI Y 6 (upd (fun _ => 0) 0 (-1))), (x12, oC 3 [.ref x13, .int 0]), (x117, oC 11 [.ref x1, .ref x118, .ref x120, .ref x122, .ref x124]), (x118, oC 3 [.ref x119, .int 0]), (x119, aI Y 6 (fun _ => 0)), (x120, oC 3 [.ref x121, .int 0]), (m0, oC 13 [.ref m1, .ref m2, .int 1, .ref m3, .ref m4, .int 0, .int 0, .int 0, .int (-1), .int 0, .int 0, .int 0, .long 0, .ref m5, .ref m6, .int 0, .int 0]), (m1, aI Y 3640 (clB 0 (fun _ => 0)))] rfl ?_
      refine V_istore 2313 B (lv2 := [(6, .int 0), (5, .int 1), (4, .int 0), (3, .ref o0), (2, .ref m0), (1, .ref x0), (0, .ref b)]) dL_law_2313 (by decide) rfl ?_
      refine V_aload_n 2315 B dL_law_2315 4 rfl ?_
      refine V_cvi 2316 B (st := []) (As := []) (fun sz => mX12_thrown_2 l D Y (m0) (m1) (m2) (m3) (m4) (m5) (m6) sz) glV_RL_182 ⟨rfl, rfl⟩ ⟨(Nat.le_of_ble_eq_true rfl), (Nat.le_of_ble_eq_true rfl)⟩ ⟨(Nat.le_of_ble_eq_true rfl), (Nat.le_of_ble_eq_true rfl)⟩ [9] rfl 13 0 rfl rfl rfl rfl (Nat.le_of_ble_eq_true rfl) rfl (fun _ _ _ => rfl) dL_law_2316 (fun r14 u14 w14 => ?_)
      obtain rfl := w14
      refine V_ws [(x0, oC 12 [.ref x1, .ref x30, .ref x59, .ref x88, .ref x117, .ref x126, .ref x127, .ref x129, .ref x132, .long 0]), (x1, oC 2 [.ref x2, .ref x4, .ref x6, .ref x8, .ref x10, .ref x12, .ref x14, .ref x16, .ref x18, .ref x20, .ref x27, .int 0]), (x2, oC 3 [.ref x3, .int 1]), (x3, aI Y 6 (upd (fun _ => 0) 0 (-1))), (x12, oC 3 [.ref x13, .int 0]), (x117, oC 11 [.ref x1, .ref x118, .ref x120, .ref x122, .ref x124]), (x118, oC 3 [.ref x119, .int 0]), (x119, aI Y 6 (fun _ => 0)), (x120, oC 3 [.ref x121, .int 0]), (m0, oC 13 [.ref m1, .ref m2, .int 1, .ref m3, .ref m4, .int 0, .int 0, .int 0, .int (-1), .int 0, .int 0, .int 0, .long 0, .ref m5, .ref m6, .int 0, .int 0]), (m1, aI Y 3640 (clB 0 (fun _ => 0)))] rfl ?_
      refine V_iload 2319 B dL_law_2319 1 rfl ?_
      refine V_icmp_eq_t 2321 B 2326 dL_law_2321 (by decide) (by decide +kernel) ?_
      refine V_iload 2326 B dL_law_2326 1 rfl ?_
      refine V_if_ne_t 2328 B 2343 dL_law_2328 (by decide) (by decide +kernel) ?_
      refine V_goto 2343 B 3332 dL_law_2343 (by decide) ?_
      refine V_iinc 3332 B (v := 6) (lv2 := [(4, .int 6), (6, .int 0), (5, .int 1), (3, .ref o0), (2, .ref m0), (1, .ref x0), (0, .ref b)]) dL_law_3332 2 rfl (by decide +kernel) (by decide) rfl ?_
      refine V_goto 3335 B 23 dL_law_3335 (by decide) ?_
      refine V_iload 23 B dL_law_23 0 rfl ?_
      refine V_aload_n 25 B dL_law_25 6 rfl ?_
      refine V_slen 26 B hX hbl hbA (v := 6) (by decide +kernel) dL_law_26 ?_
      refine V_bipush 27 B (v := 6) dL_law_27 (by decide +kernel) ?_
      refine V_isub 29 B (v := 0) dL_law_29 (by decide +kernel) ?_
      refine V_icmp_gt_t 30 B 3338 dL_law_30 (by decide) (by decide +kernel) ?_
      exact law_end B (Nat.le_of_ble_eq_true rfl) (Nat.le_of_ble_eq_true rfl) dL_law_3338 dL_law_3339
  ·
    refine V_ws [(x0, oC 12 [.ref x1, .ref x30, .ref x59, .ref x88, .ref x117, .ref x126, .ref x127, .ref x129, .ref x132, .long 0]), (x1, oC 2 [.ref x2, .ref x4, .ref x6, .ref x8, .ref x10, .ref x12, .ref x14, .ref x16, .ref x18, .ref x20, .ref x27, .int 0]), (x2, oC 3 [.ref x3, .int 1]), (x3, aI Y 6 (upd (fun _ => 0) 0 (-1))), (x12, oC 3 [.ref x13, .int 0]), (x117, oC 11 [.ref x1, .ref x118, .ref x120, .ref x122, .ref x124]), (x118, oC 3 [.ref x119, .int 6]), (x119, aI Y 6 (upd (upd (upd (upd (upd (upd (upd (fun _ => 0) 0 (-1)) 1 (-1)) 2 (-1)) 3 (-1)) 4 (-1)) 5 (-1)) 0 0)), (x120, oC 3 [.ref x121, .int 0]), (m0, oC 13 [.ref m1, .ref m2, .int 0, .ref m3, .ref m4, .int 0, .int 0, .int 0, .int (-1), .int 0, .int 0, .int 0, .long 0, .ref m5, .ref m6, .int 0, .int 0]), (m1, aI Y 3640 (clB 0 (fun _ => 0)))] rfl ?_
    obtain rfl : p1 = 0 := k4
    refine V_istore 2301 B (lv2 := [(5, .int 2), (4, .int 0), (3, .ref o0), (2, .ref m0), (1, .ref x0), (0, .ref b)]) dL_law_2301 (by decide) rfl ?_
    refine V_aload_n 2303 B dL_law_2303 3 rfl ?_
    refine V_aload_n 2304 B dL_law_2304 5 rfl ?_
    refine V_iload 2305 B dL_law_2305 1 rfl ?_
    refine V_iconst 2307 B (v := 1) dL_law_2307 (by decide +kernel) ?_
    refine V_iadd 2308 B (v := 1) dL_law_2308 (by decide +kernel) ?_
    refine V_sld 2309 B hX hbl hbA (v := 0) (vpin _ _ (by decide +kernel)) dL_law_2309 e1 ?_
    refine V_cvi 2310 B (st := []) (As := [.int 0]) (fun sz => mX12_meanCostBits_2 l D Y (m0) (m1) (m2) (m3) (m4) (m5) (m6) sz) glV_RL_290 ⟨rfl, rfl⟩ ⟨(Nat.le_of_ble_eq_true rfl), (Nat.le_of_ble_eq_true rfl)⟩ ⟨(Nat.le_of_ble_eq_true rfl), (Nat.le_of_ble_eq_true rfl)⟩ [9, 0] rfl 13 0 rfl rfl rfl rfl (Nat.le_of_ble_eq_true rfl) rfl (fun _ _ _ => rfl) dL_law_2310 (fun r15 u15 w15 => ?_)
    obtain rfl := w15
    refine V_ws [(x0, oC 12 [.ref x1, .ref x30, .ref x59, .ref x88, .ref x117, .ref x126, .ref x127, .ref x129, .ref x132, .long 0]), (x1, oC 2 [.ref x2, .ref x4, .ref x6, .ref x8, .ref x10, .ref x12, .ref x14, .ref x16, .ref x18, .ref x20, .ref x27, .int 0]), (x2, oC 3 [.ref x3, .int 1]), (x3, aI Y 6 (upd (fun _ => 0) 0 (-1))), (x12, oC 3 [.ref x13, .int 0]), (x117, oC 11 [.ref x1, .ref x118, .ref x120, .ref x122, .ref x124]), (x118, oC 3 [.ref x119, .int 6]), (x119, aI Y 6 (upd (upd (upd (upd (upd (upd (upd (fun _ => 0) 0 (-1)) 1 (-1)) 2 (-1)) 3 (-1)) 4 (-1)) 5 (-1)) 0 0)), (x120, oC 3 [.ref x121, .int 0]), (m0, oC 13 [.ref m1, .ref m2, .int 2, .ref m3, .ref m4, .int 0, .int 0, .int 0, .int (-1), .int 0, .int 0, .int 0, .long 0, .ref m5, .ref m6, .int 0, .int 0]), (m1, aI Y 3640 (clB 0 (fun _ => 0)))] rfl ?_
    refine V_istore 2313 B (lv2 := [(6, .int 0), (5, .int 2), (4, .int 0), (3, .ref o0), (2, .ref m0), (1, .ref x0), (0, .ref b)]) dL_law_2313 (by decide) rfl ?_
    refine V_aload_n 2315 B dL_law_2315 4 rfl ?_
    refine V_cvi 2316 B (st := []) (As := []) (fun sz => mX12_thrown_3 l D Y (m0) (m1) (m2) (m3) (m4) (m5) (m6) sz) glV_RL_182 ⟨rfl, rfl⟩ ⟨(Nat.le_of_ble_eq_true rfl), (Nat.le_of_ble_eq_true rfl)⟩ ⟨(Nat.le_of_ble_eq_true rfl), (Nat.le_of_ble_eq_true rfl)⟩ [9] rfl 13 0 rfl rfl rfl rfl (Nat.le_of_ble_eq_true rfl) rfl (fun _ _ _ => rfl) dL_law_2316 (fun r16 u16 w16 => ?_)
    obtain rfl := w16
    refine V_ws [(x0, oC 12 [.ref x1, .ref x30, .ref x59, .ref x88, .ref x117, .ref x126, .ref x127, .ref x129, .ref x132, .long 0]), (x1, oC 2 [.ref x2, .ref x4, .ref x6, .ref x8, .ref x10, .ref x12, .ref x14, .ref x16, .ref x18, .ref x20, .ref x27, .int 0]), (x2, oC 3 [.ref x3, .int 1]), (x3, aI Y 6 (upd (fun _ => 0) 0 (-1))), (x12, oC 3 [.ref x13, .int 0]), (x117, oC 11 [.ref x1, .ref x118, .ref x120, .ref x122, .ref x124]), (x118, oC 3 [.ref x119, .int 6]), (x119, aI Y 6 (upd (upd (upd (upd (upd (upd (upd (fun _ => 0) 0 (-1)) 1 (-1)) 2 (-1)) 3 (-1)) 4 (-1)) 5 (-1)) 0 0)), (x120, oC 3 [.ref x121, .int 0]), (m0, oC 13 [.ref m1, .ref m2, .int 2, .ref m3, .ref m4, .int 0, .int 0, .int 0, .int (-1), .int 0, .int 0, .int 0, .long 0, .ref m5, .ref m6, .int 0, .int 0]), (m1, aI Y 3640 (clB 0 (fun _ => 0)))] rfl ?_
    refine V_iload 2319 B dL_law_2319 1 rfl ?_
    refine V_icmp_eq_t 2321 B 2326 dL_law_2321 (by decide) (by decide +kernel) ?_
    refine V_iload 2326 B dL_law_2326 1 rfl ?_
    refine V_if_ne_t 2328 B 2343 dL_law_2328 (by decide) (by decide +kernel) ?_
    refine V_goto 2343 B 3332 dL_law_2343 (by decide) ?_
    refine V_iinc 3332 B (v := 6) (lv2 := [(4, .int 6), (6, .int 0), (5, .int 2), (3, .ref o0), (2, .ref m0), (1, .ref x0), (0, .ref b)]) dL_law_3332 2 rfl (by decide +kernel) (by decide) rfl ?_
    refine V_goto 3335 B 23 dL_law_3335 (by decide) ?_
    refine V_iload 23 B dL_law_23 0 rfl ?_
    refine V_aload_n 25 B dL_law_25 6 rfl ?_
    refine V_slen 26 B hX hbl hbA (v := 6) (by decide +kernel) dL_law_26 ?_
    refine V_bipush 27 B (v := 6) dL_law_27 (by decide +kernel) ?_
    refine V_isub 29 B (v := 0) dL_law_29 (by decide +kernel) ?_
    refine V_icmp_gt_t 30 B 3338 dL_law_30 (by decide) (by decide +kernel) ?_
    exact law_end B (Nat.le_of_ble_eq_true rfl) (Nat.le_of_ble_eq_true rfl) dL_law_3338 dL_law_3339
theorem dL_packed_0 : decode cL_packed 0 = .ok (.aload_n 3, 1) := by decide +kernel
theorem dL_packed_1 : decode cL_packed 1 = .ok (.iconst 0, 1) := by decide +kernel
theorem dL_packed_2 : decode cL_packed 2 = .ok (.aload_n 0, 1) := by decide +kernel
theorem dL_packed_3 : decode cL_packed 3 = .ok (.iload_n 1, 1) := by decide +kernel
theorem dL_packed_4 : decode cL_packed 4 = .ok (.iload_n 2, 1) := by decide +kernel
theorem dL_packed_5 : decode cL_packed 5 = .ok (.invokevirtual 106, 3) := by decide +kernel
theorem glV_RL_106 : GLV RL 106 yX11_packed RX11 cX11_packed 5 (some .int) 2 := ⟨⟨(mT6 235 rfl rfl), (mT6 236 rfl rfl), (mT6 237 rfl rfl), (mT1 1 rfl rfl), (mT6 238 rfl rfl)⟩, by decide +kernel⟩
theorem dL_packed_13 : decode cL_packed 13 = .ok (.astore 4, 2) := by decide +kernel
theorem dL_packed_15 : decode cL_packed 15 = .ok (.iconst 1, 1) := by decide +kernel
theorem dL_packed_16 : decode cL_packed 16 = .ok (.ireturn, 1) := by decide +kernel
set_option maxRecDepth 100000 in
set_option maxHeartbeats 4000000 in
theorem mL_packed_1 (l : Launch) (hl9 : l.stackTraces = false) (D : va_G) (Y : Nat → ClassId) (h0 : Nat) (g0 : Nat) (h1 : Nat) (g1 : Nat) (g2 : Nat) (g3 : Nat) (g4 : Nat) (g5 : Nat) (g6 : Nat) (g7 : Nat) (g8 : Nat) (g9 : Nat) (g10 : Nat) (g11 : Nat) (g12 : Nat) (g13 : Nat) (h2 : Nat) (g14 : Nat) (g15 : Nat) (g16 : Nat) (g17 : Nat) (g18 : Nat) (g19 : Nat) (p0 : Int32) (p1 : Int32) (sz : Nat) : Met l yL_packed (Cond.codeWith yL_packed cL_packed 5 (some .int) [(0, 10, 13, 18), (0, 10, 17, 13)] :: lw_good) (mkR 8 1 6 127) (PreX D Y [.ref h0, .int p0, .int p1, .ref g0] [(h0, oC 12 [.ref h1, .ref g1, .ref g2, .ref g3, .ref g4, .ref g5, .ref g6, .ref g7, .ref g8, .long 0]), (h1, oC 2 [.ref g9, .ref g10, .ref g11, .ref g12, .ref g13, .ref h2, .ref g14, .ref g15, .ref g16, .ref g17, .ref g18, .int 0]), (h2, oC 3 [.ref g19, .int 0])] sz) (QI D (fun (r : Int32) (u : Unit) => (p0 < 0 ∧ 1 = r) ∨ (¬ p0 < 0 ∧ 1 = r)) (fun (_ : Unit) => [(h0, oC 12 [.ref h1, .ref g1, .ref g2, .ref g3, .ref g4, .ref g5, .ref g6, .ref g7, .ref g8, .long 0]), (h1, oC 2 [.ref g9, .ref g10, .ref g11, .ref g12, .ref g13, .ref h2, .ref g14, .ref g15, .ref g16, .ref g17, .ref g18, .int 0]), (h2, oC 3 [.ref g19, .int 0])]) (va_A [(h0, oC 12 [.ref h1, .ref g1, .ref g2, .ref g3, .ref g4, .ref g5, .ref g6, .ref g7, .ref g8, .long 0]), (h1, oC 2 [.ref g9, .ref g10, .ref g11, .ref g12, .ref g13, .ref h2, .ref g14, .ref g15, .ref g16, .ref g17, .ref g18, .int 0]), (h2, oC 3 [.ref g19, .int 0])] sz)) 1 6 (va_A [(h0, oC 12 [.ref h1, .ref g1, .ref g2, .ref g3, .ref g4, .ref g5, .ref g6, .ref g7, .ref g8, .long 0]), (h1, oC 2 [.ref g9, .ref g10, .ref g11, .ref g12, .ref g13, .ref h2, .ref g14, .ref g15, .ref g16, .ref g17, .ref g18, .int 0]), (h2, oC 3 [.ref g19, .int 0])] sz) :=
  metH_of (by decide +kernel) (Nat.le_of_ble_eq_true rfl) (fun p e s m args below meth c B EB htab hsz => by
    have B : VB p s m args meth c D Y (va_A [(h0, oC 12 [.ref h1, .ref g1, .ref g2, .ref g3, .ref g4, .ref g5, .ref g6, .ref g7, .ref g8, .long 0]), (h1, oC 2 [.ref g9, .ref g10, .ref g11, .ref g12, .ref g13, .ref h2, .ref g14, .ref g15, .ref g16, .ref g17, .ref g18, .int 0]), (h2, oC 3 [.ref g19, .int 0])] sz) cL_packed 5 RL (some .int) := B
    refine V_aload_n 0 B dL_packed_0 3 rfl ?_
    refine V_iconst 1 B (v := 0) dL_packed_1 (by decide +kernel) ?_
    refine V_aload_n 2 B dL_packed_2 0 rfl ?_
    refine V_iload_n 3 B dL_packed_3 1 rfl ?_
    refine V_iload_n 4 B dL_packed_4 2 rfl ?_
    refine V_xvi 5 B EB (st := [.int 0, .ref g0]) (As := [.int p0, .int p1]) (fun sz => mX11_packed_1 l hl9 D Y (h0) (h1) (g1) (g2) (g3) (g4) (g5) (g6) (g7) (g8) (g9) (g10) (g11) (g12) (g13) (h2) (g14) (g15) (g16) (g17) (g18) (g19) (p0) (p1) sz) glV_RL_106 ⟨rfl, rfl⟩ ⟨(Nat.le_of_ble_eq_true rfl), (Nat.le_of_ble_eq_true rfl)⟩ ⟨(Nat.le_of_ble_eq_true rfl), (Nat.le_of_ble_eq_true rfl)⟩ [0, 0, 0] rfl 12 0 rfl rfl rfl rfl (Nat.le_of_ble_eq_true rfl) rfl (fun _ _ _ => rfl) (fun _ _ _ => rfl) dL_packed_5 (fun E u0 w0 => ?_) (fun r0 u0 w0 => ?_)
    ·
      rcases w0 with ⟨rfl, k1⟩ | ⟨rfl, k2⟩
      ·
        refine VX_catch 5 B htab [] (0, 10, 13, 18) [(0, 10, 17, 13)] rfl "java/lang/IndexOutOfBoundsException" (fun z hz => nomatch hz) rfl (by decide) (mT5 103 rfl rfl) (EB.2.2.2.1 _ (List.mem_of_getElem? (i := 1) rfl)) 13 rfl (fun q9 => ?_)
        refine V_ws [(h0, oC 12 [.ref h1, .ref g1, .ref g2, .ref g3, .ref g4, .ref g5, .ref g6, .ref g7, .ref g8, .long 0]), (h1, oC 2 [.ref g9, .ref g10, .ref g11, .ref g12, .ref g13, .ref h2, .ref g14, .ref g15, .ref g16, .ref g17, .ref g18, .int 0]), (h2, oC 3 [.ref g19, .int 0])] rfl ?_
        refine V_astore 13 B (lv2 := [(4, .ref q9), (0, .ref h0), (1, .int p0), (2, .int p1), (3, .ref g0)]) dL_packed_13 (by decide) rfl ?_
        refine V_iconst 15 B (v := 1) dL_packed_15 (by decide +kernel) ?_
        exact V_iret 16 B dL_packed_16 () (Or.inl ⟨k1, rfl⟩) rfl
      ·
        refine VX_catch 5 B htab [] (0, 10, 13, 18) [(0, 10, 17, 13)] rfl "java/lang/IndexOutOfBoundsException" (fun z hz => nomatch hz) rfl (by decide) (mT5 103 rfl rfl) (EB.2.2.2.1 _ (List.mem_of_getElem? (i := 1) rfl)) 13 rfl (fun q9 => ?_)
        refine V_ws [(h0, oC 12 [.ref h1, .ref g1, .ref g2, .ref g3, .ref g4, .ref g5, .ref g6, .ref g7, .ref g8, .long 0]), (h1, oC 2 [.ref g9, .ref g10, .ref g11, .ref g12, .ref g13, .ref h2, .ref g14, .ref g15, .ref g16, .ref g17, .ref g18, .int 0]), (h2, oC 3 [.ref g19, .int 0])] rfl ?_
        refine V_astore 13 B (lv2 := [(4, .ref q9), (0, .ref h0), (1, .int p0), (2, .int p1), (3, .ref g0)]) dL_packed_13 (by decide) rfl ?_
        refine V_iconst 15 B (v := 1) dL_packed_15 (by decide +kernel) ?_
        exact V_iret 16 B dL_packed_16 () (Or.inr ⟨k2, rfl⟩) rfl
    ·
      exact w0.elim)
theorem dL_law_2346 : decode cL_law 2346 = .ok (.aload_n 1, 1) := by decide +kernel
theorem dL_law_2347 : decode cL_law 2347 = .ok (.aload_n 0, 1) := by decide +kernel
theorem dL_law_2348 : decode cL_law 2348 = .ok (.iload 4, 2) := by decide +kernel
theorem dL_law_2350 : decode cL_law 2350 = .ok (.iconst 1, 1) := by decide +kernel
theorem dL_law_2351 : decode cL_law 2351 = .ok (.iadd, 1) := by decide +kernel
theorem dL_law_2352 : decode cL_law 2352 = .ok (.iaload, 1) := by decide +kernel
theorem dL_law_2353 : decode cL_law 2353 = .ok (.aload_n 0, 1) := by decide +kernel
theorem dL_law_2354 : decode cL_law 2354 = .ok (.iload 4, 2) := by decide +kernel
theorem dL_law_2356 : decode cL_law 2356 = .ok (.iconst 2, 1) := by decide +kernel
theorem dL_law_2357 : decode cL_law 2357 = .ok (.iadd, 1) := by decide +kernel
theorem dL_law_2358 : decode cL_law 2358 = .ok (.iaload, 1) := by decide +kernel
theorem dL_law_2359 : decode cL_law 2359 = .ok (.aload_n 3, 1) := by decide +kernel
theorem dL_law_2360 : decode cL_law 2360 = .ok (.invokestatic 291, 3) := by decide +kernel
theorem glH_RL_291 : GLH RL 291 yL_packed cL_packed 5 (some .int) [(0, 10, 13, 18), (0, 10, 17, 13)] 4 := ⟨⟨(mT6 232 rfl rfl), (mT6 233 rfl rfl), (mT1 0 rfl rfl), (mT6 234 rfl rfl)⟩, by decide +kernel⟩
theorem dL_law_2363 : decode cL_law 2363 = .ok (.istore 5, 2) := by decide +kernel
theorem dL_law_2365 : decode cL_law 2365 = .ok (.aload_n 2, 1) := by decide +kernel
theorem dL_law_2366 : decode cL_law 2366 = .ok (.aload_n 0, 1) := by decide +kernel
theorem dL_law_2367 : decode cL_law 2367 = .ok (.iload 4, 2) := by decide +kernel
theorem dL_law_2369 : decode cL_law 2369 = .ok (.iconst 1, 1) := by decide +kernel
theorem dL_law_2370 : decode cL_law 2370 = .ok (.iadd, 1) := by decide +kernel
theorem dL_law_2371 : decode cL_law 2371 = .ok (.iaload, 1) := by decide +kernel
theorem dL_law_2372 : decode cL_law 2372 = .ok (.aload_n 0, 1) := by decide +kernel
theorem dL_law_2373 : decode cL_law 2373 = .ok (.iload 4, 2) := by decide +kernel
theorem dL_law_2375 : decode cL_law 2375 = .ok (.iconst 2, 1) := by decide +kernel
theorem dL_law_2376 : decode cL_law 2376 = .ok (.iadd, 1) := by decide +kernel
theorem dL_law_2377 : decode cL_law 2377 = .ok (.iaload, 1) := by decide +kernel
theorem dL_law_2378 : decode cL_law 2378 = .ok (.invokevirtual 293, 3) := by decide +kernel
theorem glV_RL_293 : GLV RL 293 yX12_packed RX12 cX12_packed 6 (some .int) 2 := ⟨⟨(mT9 34 rfl rfl), (mT9 35 rfl rfl), (mT9 36 rfl rfl), (mT1 13 rfl rfl), (mT9 37 rfl rfl)⟩, by decide +kernel⟩
theorem dL_law_2381 : decode cL_law 2381 = .ok (.istore 6, 2) := by decide +kernel
theorem dL_law_2383 : decode cL_law 2383 = .ok (.aload_n 2, 1) := by decide +kernel
theorem dL_law_2384 : decode cL_law 2384 = .ok (.invokevirtual 182, 3) := by decide +kernel
theorem dL_law_2387 : decode cL_law 2387 = .ok (.iload 5, 2) := by decide +kernel
theorem dL_law_2389 : decode cL_law 2389 = .ok (.if_icmp .eq 5, 3) := by decide +kernel
theorem dL_law_2394 : decode cL_law 2394 = .ok (.iload 5, 2) := by decide +kernel
theorem dL_law_2396 : decode cL_law 2396 = .ok (.ifCond .ne 15, 3) := by decide +kernel
theorem dL_law_2411 : decode cL_law 2411 = .ok (.goto 921, 3) := by decide +kernel
set_option maxRecDepth 100000 in
set_option maxHeartbeats 4000000 in
theorem law_c40 {p : Program} {l : Launch} {e : Env} {s : State} {m : MethodId} {below : List Frame} {meth : Method} {c : Code} {b : Nat} {xs : Nat → Int32} {D : va_G} {Y : Nat → ClassId} (B : VB p s m #[Value.ref b] meth c D Y (fun q => s.heap.size ≤ q) cL_law 8 RL ret) (EB : EX (fun q => s.heap.size ≤ q) s s.heap) (hl9 : l.stackTraces = false) (hX : va_X b 6 xs s s.heap) (hbl : b < s.heap.size) (hbA : ¬ (fun q => s.heap.size ≤ q) b) (x0 x1 x30 x59 x88 x117 x126 x127 x129 x132 x2 x4 x6 x8 x10 x12 x14 x16 x18 x20 x27 x13 m0 m1 m2 m3 m4 m5 m6 o0 : Nat) (p1 p2 : Int32) (e1 : xs 1 = p1) (e2 : xs 2 = p2) : V p l e room_1 s m #[Value.ref b] below meth c D (fun q => s.heap.size ≤ q) 8 149 10574 (lw_Z below #[Value.ref b] s) 2346 [(4, .int 0), (3, .ref o0), (2, .ref m0), (1, .ref x0), (0, .ref b)] [] [(x0, oC 12 [.ref x1, .ref x30, .ref x59, .ref x88, .ref x117, .ref x126, .ref x127, .ref x129, .ref x132, .long 0]), (x1, oC 2 [.ref x2, .ref x4, .ref x6, .ref x8, .ref x10, .ref x12, .ref x14, .ref x16, .ref x18, .ref x20, .ref x27, .int 0]), (x12, oC 3 [.ref x13, .int 0]), (m0, oC 13 [.ref m1, .ref m2, .int 0, .ref m3, .ref m4, .int 0, .int 0, .int 0, .int (-1), .int 0, .int 0, .int 0, .long 0, .ref m5, .ref m6, .int 0, .int 0]), (m1, aI Y 3640 (clB 0 (fun _ => 0)))] := by
  refine V_aload_n 2346 B dL_law_2346 3 rfl ?_
  refine V_aload_n 2347 B dL_law_2347 4 rfl ?_
  refine V_iload 2348 B dL_law_2348 0 rfl ?_
  refine V_iconst 2350 B (v := 1) dL_law_2350 (by decide +kernel) ?_
  refine V_iadd 2351 B (v := 1) dL_law_2351 (by decide +kernel) ?_
  refine V_sld 2352 B hX hbl hbA (v := p1) (vpin _ _ (by decide +kernel)) dL_law_2352 e1 ?_
  refine V_aload_n 2353 B dL_law_2353 4 rfl ?_
  refine V_iload 2354 B dL_law_2354 0 rfl ?_
  refine V_iconst 2356 B (v := 2) dL_law_2356 (by decide +kernel) ?_
  refine V_iadd 2357 B (v := 2) dL_law_2357 (by decide +kernel) ?_
  refine V_sld 2358 B hX hbl hbA (v := p2) (vpin _ _ (by decide +kernel)) dL_law_2358 e2 ?_
  refine V_aload_n 2359 B dL_law_2359 1 rfl ?_
  refine V_hsi 2360 B EB (st := []) (As := [.ref x0, .int p1, .int p2, .ref o0]) (fun sz => mL_packed_1 l hl9 D Y (x0) (o0) (x1) (x30) (x59) (x88) (x117) (x126) (x127) (x129) (x132) (x2) (x4) (x6) (x8) (x10) (x12) (x14) (x16) (x18) (x20) (x27) (x13) (p1) (p2) sz) glH_RL_291 ⟨rfl, rfl⟩ ⟨(Nat.le_of_ble_eq_true rfl), (Nat.le_of_ble_eq_true rfl)⟩ ⟨(Nat.le_of_ble_eq_true rfl), (Nat.le_of_ble_eq_true rfl)⟩ [0, 0, 0] rfl rfl (Nat.le_of_ble_eq_true rfl) rfl (fun _ _ _ => rfl) dL_law_2360 (fun r0 u0 w0 => ?_)
  rcases w0 with ⟨k1, rfl⟩ | ⟨k2, rfl⟩
  ·
    refine V_ws [(x0, oC 12 [.ref x1, .ref x30, .ref x59, .ref x88, .ref x117, .ref x126, .ref x127, .ref x129, .ref x132, .long 0]), (x1, oC 2 [.ref x2, .ref x4, .ref x6, .ref x8, .ref x10, .ref x12, .ref x14, .ref x16, .ref x18, .ref x20, .ref x27, .int 0]), (x12, oC 3 [.ref x13, .int 0]), (m0, oC 13 [.ref m1, .ref m2, .int 0, .ref m3, .ref m4, .int 0, .int 0, .int 0, .int (-1), .int 0, .int 0, .int 0, .long 0, .ref m5, .ref m6, .int 0, .int 0]), (m1, aI Y 3640 (clB 0 (fun _ => 0)))] rfl ?_
    refine V_istore 2363 B (lv2 := [(5, .int 1), (4, .int 0), (3, .ref o0), (2, .ref m0), (1, .ref x0), (0, .ref b)]) dL_law_2363 (by decide) rfl ?_
    refine V_aload_n 2365 B dL_law_2365 3 rfl ?_
    refine V_aload_n 2366 B dL_law_2366 5 rfl ?_
    refine V_iload 2367 B dL_law_2367 1 rfl ?_
    refine V_iconst 2369 B (v := 1) dL_law_2369 (by decide +kernel) ?_
    refine V_iadd 2370 B (v := 1) dL_law_2370 (by decide +kernel) ?_
    refine V_sld 2371 B hX hbl hbA (v := p1) (vpin _ _ (by decide +kernel)) dL_law_2371 e1 ?_
    refine V_aload_n 2372 B dL_law_2372 5 rfl ?_
    refine V_iload 2373 B dL_law_2373 1 rfl ?_
    refine V_iconst 2375 B (v := 2) dL_law_2375 (by decide +kernel) ?_
    refine V_iadd 2376 B (v := 2) dL_law_2376 (by decide +kernel) ?_
    refine V_sld 2377 B hX hbl hbA (v := p2) (vpin _ _ (by decide +kernel)) dL_law_2377 e2 ?_
    refine V_cvi 2378 B (st := []) (As := [.int p1, .int p2]) (fun sz => mX12_packed_1 l D Y (m0) (m1) (m2) (m3) (m4) (m5) (m6) (p1) (p2) sz) glV_RL_293 ⟨rfl, rfl⟩ ⟨(Nat.le_of_ble_eq_true rfl), (Nat.le_of_ble_eq_true rfl)⟩ ⟨(Nat.le_of_ble_eq_true rfl), (Nat.le_of_ble_eq_true rfl)⟩ [3, 0] rfl 13 0 rfl rfl rfl rfl (Nat.le_of_ble_eq_true rfl) rfl (fun _ _ _ => rfl) dL_law_2378 (fun r3 u3 w3 => ?_)
    rcases w3 with ⟨k4, rfl⟩ | ⟨k5, rfl⟩
    ·
      refine V_ws [(x0, oC 12 [.ref x1, .ref x30, .ref x59, .ref x88, .ref x117, .ref x126, .ref x127, .ref x129, .ref x132, .long 0]), (x1, oC 2 [.ref x2, .ref x4, .ref x6, .ref x8, .ref x10, .ref x12, .ref x14, .ref x16, .ref x18, .ref x20, .ref x27, .int 0]), (x12, oC 3 [.ref x13, .int 0]), (m0, oC 13 [.ref m1, .ref m2, .int 1, .ref m3, .ref m4, .int 0, .int 0, .int 0, .int (-1), .int 0, .int 0, .int 0, .long 0, .ref m5, .ref m6, .int 0, .int 0]), (m1, aI Y 3640 (clB 0 (fun _ => 0)))] rfl ?_
      refine V_istore 2381 B (lv2 := [(6, .int 0), (5, .int 1), (4, .int 0), (3, .ref o0), (2, .ref m0), (1, .ref x0), (0, .ref b)]) dL_law_2381 (by decide) rfl ?_
      refine V_aload_n 2383 B dL_law_2383 4 rfl ?_
      refine V_cvi 2384 B (st := []) (As := []) (fun sz => mX12_thrown_2 l D Y (m0) (m1) (m2) (m3) (m4) (m5) (m6) sz) glV_RL_182 ⟨rfl, rfl⟩ ⟨(Nat.le_of_ble_eq_true rfl), (Nat.le_of_ble_eq_true rfl)⟩ ⟨(Nat.le_of_ble_eq_true rfl), (Nat.le_of_ble_eq_true rfl)⟩ [3] rfl 13 0 rfl rfl rfl rfl (Nat.le_of_ble_eq_true rfl) rfl (fun _ _ _ => rfl) dL_law_2384 (fun r6 u6 w6 => ?_)
      obtain rfl := w6
      refine V_ws [(x0, oC 12 [.ref x1, .ref x30, .ref x59, .ref x88, .ref x117, .ref x126, .ref x127, .ref x129, .ref x132, .long 0]), (x1, oC 2 [.ref x2, .ref x4, .ref x6, .ref x8, .ref x10, .ref x12, .ref x14, .ref x16, .ref x18, .ref x20, .ref x27, .int 0]), (x12, oC 3 [.ref x13, .int 0]), (m0, oC 13 [.ref m1, .ref m2, .int 1, .ref m3, .ref m4, .int 0, .int 0, .int 0, .int (-1), .int 0, .int 0, .int 0, .long 0, .ref m5, .ref m6, .int 0, .int 0]), (m1, aI Y 3640 (clB 0 (fun _ => 0)))] rfl ?_
      refine V_iload 2387 B dL_law_2387 1 rfl ?_
      refine V_icmp_eq_t 2389 B 2394 dL_law_2389 (by decide) (by decide +kernel) ?_
      refine V_iload 2394 B dL_law_2394 1 rfl ?_
      refine V_if_ne_t 2396 B 2411 dL_law_2396 (by decide) (by decide +kernel) ?_
      refine V_goto 2411 B 3332 dL_law_2411 (by decide) ?_
      refine V_iinc 3332 B (v := 6) (lv2 := [(4, .int 6), (6, .int 0), (5, .int 1), (3, .ref o0), (2, .ref m0), (1, .ref x0), (0, .ref b)]) dL_law_3332 2 rfl (by decide +kernel) (by decide) rfl ?_
      refine V_goto 3335 B 23 dL_law_3335 (by decide) ?_
      refine V_iload 23 B dL_law_23 0 rfl ?_
      refine V_aload_n 25 B dL_law_25 6 rfl ?_
      refine V_slen 26 B hX hbl hbA (v := 6) (by decide +kernel) dL_law_26 ?_
      refine V_bipush 27 B (v := 6) dL_law_27 (by decide +kernel) ?_
      refine V_isub 29 B (v := 0) dL_law_29 (by decide +kernel) ?_
      refine V_icmp_gt_t 30 B 3338 dL_law_30 (by decide) (by decide +kernel) ?_
      exact law_end B (Nat.le_of_ble_eq_true rfl) (Nat.le_of_ble_eq_true rfl) dL_law_3338 dL_law_3339
    ·
      refine V_ws [(x0, oC 12 [.ref x1, .ref x30, .ref x59, .ref x88, .ref x117, .ref x126, .ref x127, .ref x129, .ref x132, .long 0]), (x1, oC 2 [.ref x2, .ref x4, .ref x6, .ref x8, .ref x10, .ref x12, .ref x14, .ref x16, .ref x18, .ref x20, .ref x27, .int 0]), (x12, oC 3 [.ref x13, .int 0]), (m0, oC 13 [.ref m1, .ref m2, .int 1, .ref m3, .ref m4, .int 0, .int 0, .int 0, .int (-1), .int 0, .int 0, .int 0, .long 0, .ref m5, .ref m6, .int 0, .int 0]), (m1, aI Y 3640 (clB 0 (fun _ => 0)))] rfl ?_
      exact (q_abs (b_gt k5 (n := 0) (by decide +kernel)) (b_lt k1 (n := (-1)) (by decide +kernel)) (by decide +kernel)).elim
  ·
    refine V_ws [(x0, oC 12 [.ref x1, .ref x30, .ref x59, .ref x88, .ref x117, .ref x126, .ref x127, .ref x129, .ref x132, .long 0]), (x1, oC 2 [.ref x2, .ref x4, .ref x6, .ref x8, .ref x10, .ref x12, .ref x14, .ref x16, .ref x18, .ref x20, .ref x27, .int 0]), (x12, oC 3 [.ref x13, .int 0]), (m0, oC 13 [.ref m1, .ref m2, .int 0, .ref m3, .ref m4, .int 0, .int 0, .int 0, .int (-1), .int 0, .int 0, .int 0, .long 0, .ref m5, .ref m6, .int 0, .int 0]), (m1, aI Y 3640 (clB 0 (fun _ => 0)))] rfl ?_
    refine V_istore 2363 B (lv2 := [(5, .int 1), (4, .int 0), (3, .ref o0), (2, .ref m0), (1, .ref x0), (0, .ref b)]) dL_law_2363 (by decide) rfl ?_
    refine V_aload_n 2365 B dL_law_2365 3 rfl ?_
    refine V_aload_n 2366 B dL_law_2366 5 rfl ?_
    refine V_iload 2367 B dL_law_2367 1 rfl ?_
    refine V_iconst 2369 B (v := 1) dL_law_2369 (by decide +kernel) ?_
    refine V_iadd 2370 B (v := 1) dL_law_2370 (by decide +kernel) ?_
    refine V_sld 2371 B hX hbl hbA (v := p1) (vpin _ _ (by decide +kernel)) dL_law_2371 e1 ?_
    refine V_aload_n 2372 B dL_law_2372 5 rfl ?_
    refine V_iload 2373 B dL_law_2373 1 rfl ?_
    refine V_iconst 2375 B (v := 2) dL_law_2375 (by decide +kernel) ?_
    refine V_iadd 2376 B (v := 2) dL_law_2376 (by decide +kernel) ?_
    refine V_sld 2377 B hX hbl hbA (v := p2) (vpin _ _ (by decide +kernel)) dL_law_2377 e2 ?_
    refine V_cvi 2378 B (st := []) (As := [.int p1, .int p2]) (fun sz => mX12_packed_1 l D Y (m0) (m1) (m2) (m3) (m4) (m5) (m6) (p1) (p2) sz) glV_RL_293 ⟨rfl, rfl⟩ ⟨(Nat.le_of_ble_eq_true rfl), (Nat.le_of_ble_eq_true rfl)⟩ ⟨(Nat.le_of_ble_eq_true rfl), (Nat.le_of_ble_eq_true rfl)⟩ [3, 0] rfl 13 0 rfl rfl rfl rfl (Nat.le_of_ble_eq_true rfl) rfl (fun _ _ _ => rfl) dL_law_2378 (fun r7 u7 w7 => ?_)
    rcases w7 with ⟨k8, rfl⟩ | ⟨k9, rfl⟩
    ·
      refine V_ws [(x0, oC 12 [.ref x1, .ref x30, .ref x59, .ref x88, .ref x117, .ref x126, .ref x127, .ref x129, .ref x132, .long 0]), (x1, oC 2 [.ref x2, .ref x4, .ref x6, .ref x8, .ref x10, .ref x12, .ref x14, .ref x16, .ref x18, .ref x20, .ref x27, .int 0]), (x12, oC 3 [.ref x13, .int 0]), (m0, oC 13 [.ref m1, .ref m2, .int 1, .ref m3, .ref m4, .int 0, .int 0, .int 0, .int (-1), .int 0, .int 0, .int 0, .long 0, .ref m5, .ref m6, .int 0, .int 0]), (m1, aI Y 3640 (clB 0 (fun _ => 0)))] rfl ?_
      exact (q_abs (b_nlt k2 (n := 0) (by decide +kernel)) (b_lt k8 (n := (-1)) (by decide +kernel)) (by decide +kernel)).elim
    ·
      refine V_ws [(x0, oC 12 [.ref x1, .ref x30, .ref x59, .ref x88, .ref x117, .ref x126, .ref x127, .ref x129, .ref x132, .long 0]), (x1, oC 2 [.ref x2, .ref x4, .ref x6, .ref x8, .ref x10, .ref x12, .ref x14, .ref x16, .ref x18, .ref x20, .ref x27, .int 0]), (x12, oC 3 [.ref x13, .int 0]), (m0, oC 13 [.ref m1, .ref m2, .int 1, .ref m3, .ref m4, .int 0, .int 0, .int 0, .int (-1), .int 0, .int 0, .int 0, .long 0, .ref m5, .ref m6, .int 0, .int 0]), (m1, aI Y 3640 (clB 0 (fun _ => 0)))] rfl ?_
      refine V_istore 2381 B (lv2 := [(6, .int 0), (5, .int 1), (4, .int 0), (3, .ref o0), (2, .ref m0), (1, .ref x0), (0, .ref b)]) dL_law_2381 (by decide) rfl ?_
      refine V_aload_n 2383 B dL_law_2383 4 rfl ?_
      refine V_cvi 2384 B (st := []) (As := []) (fun sz => mX12_thrown_2 l D Y (m0) (m1) (m2) (m3) (m4) (m5) (m6) sz) glV_RL_182 ⟨rfl, rfl⟩ ⟨(Nat.le_of_ble_eq_true rfl), (Nat.le_of_ble_eq_true rfl)⟩ ⟨(Nat.le_of_ble_eq_true rfl), (Nat.le_of_ble_eq_true rfl)⟩ [3] rfl 13 0 rfl rfl rfl rfl (Nat.le_of_ble_eq_true rfl) rfl (fun _ _ _ => rfl) dL_law_2384 (fun r10 u10 w10 => ?_)
      obtain rfl := w10
      refine V_ws [(x0, oC 12 [.ref x1, .ref x30, .ref x59, .ref x88, .ref x117, .ref x126, .ref x127, .ref x129, .ref x132, .long 0]), (x1, oC 2 [.ref x2, .ref x4, .ref x6, .ref x8, .ref x10, .ref x12, .ref x14, .ref x16, .ref x18, .ref x20, .ref x27, .int 0]), (x12, oC 3 [.ref x13, .int 0]), (m0, oC 13 [.ref m1, .ref m2, .int 1, .ref m3, .ref m4, .int 0, .int 0, .int 0, .int (-1), .int 0, .int 0, .int 0, .long 0, .ref m5, .ref m6, .int 0, .int 0]), (m1, aI Y 3640 (clB 0 (fun _ => 0)))] rfl ?_
      refine V_iload 2387 B dL_law_2387 1 rfl ?_
      refine V_icmp_eq_t 2389 B 2394 dL_law_2389 (by decide) (by decide +kernel) ?_
      refine V_iload 2394 B dL_law_2394 1 rfl ?_
      refine V_if_ne_t 2396 B 2411 dL_law_2396 (by decide) (by decide +kernel) ?_
      refine V_goto 2411 B 3332 dL_law_2411 (by decide) ?_
      refine V_iinc 3332 B (v := 6) (lv2 := [(4, .int 6), (6, .int 0), (5, .int 1), (3, .ref o0), (2, .ref m0), (1, .ref x0), (0, .ref b)]) dL_law_3332 2 rfl (by decide +kernel) (by decide) rfl ?_
      refine V_goto 3335 B 23 dL_law_3335 (by decide) ?_
      refine V_iload 23 B dL_law_23 0 rfl ?_
      refine V_aload_n 25 B dL_law_25 6 rfl ?_
      refine V_slen 26 B hX hbl hbA (v := 6) (by decide +kernel) dL_law_26 ?_
      refine V_bipush 27 B (v := 6) dL_law_27 (by decide +kernel) ?_
      refine V_isub 29 B (v := 0) dL_law_29 (by decide +kernel) ?_
      refine V_icmp_gt_t 30 B 3338 dL_law_30 (by decide) (by decide +kernel) ?_
      exact law_end B (Nat.le_of_ble_eq_true rfl) (Nat.le_of_ble_eq_true rfl) dL_law_3338 dL_law_3339
theorem dL_common_0 : decode cL_common 0 = .ok (.aload_n 3, 1) := by decide +kernel
theorem dL_common_1 : decode cL_common 1 = .ok (.iconst 0, 1) := by decide +kernel
theorem dL_common_2 : decode cL_common 2 = .ok (.aload_n 0, 1) := by decide +kernel
theorem dL_common_3 : decode cL_common 3 = .ok (.iload_n 1, 1) := by decide +kernel
theorem dL_common_4 : decode cL_common 4 = .ok (.iload_n 2, 1) := by decide +kernel
theorem dL_common_5 : decode cL_common 5 = .ok (.invokevirtual 109, 3) := by decide +kernel
theorem glV_RL_109 : GLV RL 109 yX11_common RX11 cX11_common 3 (some .int) 2 := ⟨⟨(mT7 5 rfl rfl), (mT7 6 rfl rfl), (mT7 7 rfl rfl), (mT1 1 rfl rfl), (mT7 8 rfl rfl)⟩, by decide +kernel⟩
theorem dL_common_13 : decode cL_common 13 = .ok (.astore 4, 2) := by decide +kernel
theorem dL_common_15 : decode cL_common 15 = .ok (.iconst 1, 1) := by decide +kernel
theorem dL_common_16 : decode cL_common 16 = .ok (.ireturn, 1) := by decide +kernel
set_option maxRecDepth 100000 in
set_option maxHeartbeats 4000000 in
theorem mL_common_1 (l : Launch) (hl9 : l.stackTraces = false) (D : va_G) (Y : Nat → ClassId) (h0 : Nat) (g0 : Nat) (h1 : Nat) (g1 : Nat) (g2 : Nat) (g3 : Nat) (g4 : Nat) (g5 : Nat) (g6 : Nat) (g7 : Nat) (g8 : Nat) (g9 : Nat) (g10 : Nat) (g11 : Nat) (g12 : Nat) (g13 : Nat) (h2 : Nat) (g14 : Nat) (g15 : Nat) (g16 : Nat) (g17 : Nat) (g18 : Nat) (g19 : Nat) (p0 : Int32) (p1 : Int32) (sz : Nat) : Met l yL_common (Cond.codeWith yL_common cL_common 5 (some .int) [(0, 10, 13, 18)] :: lw_good) (mkR 8 1 6 125) (PreX D Y [.ref h0, .int p0, .int p1, .ref g0] [(h0, oC 12 [.ref h1, .ref g1, .ref g2, .ref g3, .ref g4, .ref g5, .ref g6, .ref g7, .ref g8, .long 0]), (h1, oC 2 [.ref g9, .ref g10, .ref g11, .ref g12, .ref g13, .ref h2, .ref g14, .ref g15, .ref g16, .ref g17, .ref g18, .int 0]), (h2, oC 3 [.ref g19, .int 0])] sz) (QI D (fun (r : Int32) (u : Unit) => (p0 < 0 ∧ 1 = r) ∨ (¬ p0 < 0 ∧ 1 = r)) (fun (_ : Unit) => [(h0, oC 12 [.ref h1, .ref g1, .ref g2, .ref g3, .ref g4, .ref g5, .ref g6, .ref g7, .ref g8, .long 0]), (h1, oC 2 [.ref g9, .ref g10, .ref g11, .ref g12, .ref g13, .ref h2, .ref g14, .ref g15, .ref g16, .ref g17, .ref g18, .int 0]), (h2, oC 3 [.ref g19, .int 0])]) (va_A [(h0, oC 12 [.ref h1, .ref g1, .ref g2, .ref g3, .ref g4, .ref g5, .ref g6, .ref g7, .ref g8, .long 0]), (h1, oC 2 [.ref g9, .ref g10, .ref g11, .ref g12, .ref g13, .ref h2, .ref g14, .ref g15, .ref g16, .ref g17, .ref g18, .int 0]), (h2, oC 3 [.ref g19, .int 0])] sz)) 1 6 (va_A [(h0, oC 12 [.ref h1, .ref g1, .ref g2, .ref g3, .ref g4, .ref g5, .ref g6, .ref g7, .ref g8, .long 0]), (h1, oC 2 [.ref g9, .ref g10, .ref g11, .ref g12, .ref g13, .ref h2, .ref g14, .ref g15, .ref g16, .ref g17, .ref g18, .int 0]), (h2, oC 3 [.ref g19, .int 0])] sz) :=
  metH_of (by decide +kernel) (Nat.le_of_ble_eq_true rfl) (fun p e s m args below meth c B EB htab hsz => by
    have B : VB p s m args meth c D Y (va_A [(h0, oC 12 [.ref h1, .ref g1, .ref g2, .ref g3, .ref g4, .ref g5, .ref g6, .ref g7, .ref g8, .long 0]), (h1, oC 2 [.ref g9, .ref g10, .ref g11, .ref g12, .ref g13, .ref h2, .ref g14, .ref g15, .ref g16, .ref g17, .ref g18, .int 0]), (h2, oC 3 [.ref g19, .int 0])] sz) cL_common 5 RL (some .int) := B
    refine V_aload_n 0 B dL_common_0 3 rfl ?_
    refine V_iconst 1 B (v := 0) dL_common_1 (by decide +kernel) ?_
    refine V_aload_n 2 B dL_common_2 0 rfl ?_
    refine V_iload_n 3 B dL_common_3 1 rfl ?_
    refine V_iload_n 4 B dL_common_4 2 rfl ?_
    refine V_xvi 5 B EB (st := [.int 0, .ref g0]) (As := [.int p0, .int p1]) (fun sz => mX11_common_1 l hl9 D Y (h0) (h1) (g1) (g2) (g3) (g4) (g5) (g6) (g7) (g8) (g9) (g10) (g11) (g12) (g13) (h2) (g14) (g15) (g16) (g17) (g18) (g19) (p0) (p1) sz) glV_RL_109 ⟨rfl, rfl⟩ ⟨(Nat.le_of_ble_eq_true rfl), (Nat.le_of_ble_eq_true rfl)⟩ ⟨(Nat.le_of_ble_eq_true rfl), (Nat.le_of_ble_eq_true rfl)⟩ [0, 0, 0] rfl 12 0 rfl rfl rfl rfl (Nat.le_of_ble_eq_true rfl) rfl (fun _ _ _ => rfl) (fun _ _ _ => rfl) dL_common_5 (fun E u0 w0 => ?_) (fun r0 u0 w0 => ?_)
    ·
      rcases w0 with ⟨rfl, k1⟩ | ⟨rfl, k2⟩
      ·
        refine VX_catch 5 B htab [] (0, 10, 13, 18) [] rfl "java/lang/IndexOutOfBoundsException" (fun z hz => nomatch hz) rfl (by decide) (mT5 103 rfl rfl) (EB.2.2.2.1 _ (List.mem_of_getElem? (i := 1) rfl)) 13 rfl (fun q9 => ?_)
        refine V_ws [(h0, oC 12 [.ref h1, .ref g1, .ref g2, .ref g3, .ref g4, .ref g5, .ref g6, .ref g7, .ref g8, .long 0]), (h1, oC 2 [.ref g9, .ref g10, .ref g11, .ref g12, .ref g13, .ref h2, .ref g14, .ref g15, .ref g16, .ref g17, .ref g18, .int 0]), (h2, oC 3 [.ref g19, .int 0])] rfl ?_
        refine V_astore 13 B (lv2 := [(4, .ref q9), (0, .ref h0), (1, .int p0), (2, .int p1), (3, .ref g0)]) dL_common_13 (by decide) rfl ?_
        refine V_iconst 15 B (v := 1) dL_common_15 (by decide +kernel) ?_
        exact V_iret 16 B dL_common_16 () (Or.inl ⟨k1, rfl⟩) rfl
      ·
        refine VX_catch 5 B htab [] (0, 10, 13, 18) [] rfl "java/lang/IndexOutOfBoundsException" (fun z hz => nomatch hz) rfl (by decide) (mT5 103 rfl rfl) (EB.2.2.2.1 _ (List.mem_of_getElem? (i := 1) rfl)) 13 rfl (fun q9 => ?_)
        refine V_ws [(h0, oC 12 [.ref h1, .ref g1, .ref g2, .ref g3, .ref g4, .ref g5, .ref g6, .ref g7, .ref g8, .long 0]), (h1, oC 2 [.ref g9, .ref g10, .ref g11, .ref g12, .ref g13, .ref h2, .ref g14, .ref g15, .ref g16, .ref g17, .ref g18, .int 0]), (h2, oC 3 [.ref g19, .int 0])] rfl ?_
        refine V_astore 13 B (lv2 := [(4, .ref q9), (0, .ref h0), (1, .int p0), (2, .int p1), (3, .ref g0)]) dL_common_13 (by decide) rfl ?_
        refine V_iconst 15 B (v := 1) dL_common_15 (by decide +kernel) ?_
        exact V_iret 16 B dL_common_16 () (Or.inr ⟨k2, rfl⟩) rfl
    ·
      exact w0.elim)
theorem dL_law_2414 : decode cL_law 2414 = .ok (.aload_n 1, 1) := by decide +kernel
theorem dL_law_2415 : decode cL_law 2415 = .ok (.aload_n 0, 1) := by decide +kernel
theorem dL_law_2416 : decode cL_law 2416 = .ok (.iload 4, 2) := by decide +kernel
theorem dL_law_2418 : decode cL_law 2418 = .ok (.iconst 1, 1) := by decide +kernel
theorem dL_law_2419 : decode cL_law 2419 = .ok (.iadd, 1) := by decide +kernel
theorem dL_law_2420 : decode cL_law 2420 = .ok (.iaload, 1) := by decide +kernel
theorem dL_law_2421 : decode cL_law 2421 = .ok (.aload_n 0, 1) := by decide +kernel
theorem dL_law_2422 : decode cL_law 2422 = .ok (.iload 4, 2) := by decide +kernel
theorem dL_law_2424 : decode cL_law 2424 = .ok (.iconst 2, 1) := by decide +kernel
theorem dL_law_2425 : decode cL_law 2425 = .ok (.iadd, 1) := by decide +kernel
theorem dL_law_2426 : decode cL_law 2426 = .ok (.iaload, 1) := by decide +kernel
theorem dL_law_2427 : decode cL_law 2427 = .ok (.aload_n 3, 1) := by decide +kernel
theorem dL_law_2428 : decode cL_law 2428 = .ok (.invokestatic 294, 3) := by decide +kernel
theorem glH_RL_294 : GLH RL 294 yL_common cL_common 5 (some .int) [(0, 10, 13, 18)] 4 := ⟨⟨(mT7 2 rfl rfl), (mT7 3 rfl rfl), (mT1 0 rfl rfl), (mT7 4 rfl rfl)⟩, by decide +kernel⟩
theorem dL_law_2431 : decode cL_law 2431 = .ok (.istore 5, 2) := by decide +kernel
theorem dL_law_2433 : decode cL_law 2433 = .ok (.aload_n 2, 1) := by decide +kernel
theorem dL_law_2434 : decode cL_law 2434 = .ok (.aload_n 0, 1) := by decide +kernel
theorem dL_law_2435 : decode cL_law 2435 = .ok (.iload 4, 2) := by decide +kernel
theorem dL_law_2437 : decode cL_law 2437 = .ok (.iconst 1, 1) := by decide +kernel
theorem dL_law_2438 : decode cL_law 2438 = .ok (.iadd, 1) := by decide +kernel
theorem dL_law_2439 : decode cL_law 2439 = .ok (.iaload, 1) := by decide +kernel
theorem dL_law_2440 : decode cL_law 2440 = .ok (.aload_n 0, 1) := by decide +kernel
theorem dL_law_2441 : decode cL_law 2441 = .ok (.iload 4, 2) := by decide +kernel
theorem dL_law_2443 : decode cL_law 2443 = .ok (.iconst 2, 1) := by decide +kernel
theorem dL_law_2444 : decode cL_law 2444 = .ok (.iadd, 1) := by decide +kernel
theorem dL_law_2445 : decode cL_law 2445 = .ok (.iaload, 1) := by decide +kernel
theorem dL_law_2446 : decode cL_law 2446 = .ok (.invokevirtual 296, 3) := by decide +kernel
theorem glV_RL_296 : GLV RL 296 yX12_common RX12 cX12_common 3 (some .int) 2 := ⟨⟨(mT9 40 rfl rfl), (mT9 41 rfl rfl), (mT9 42 rfl rfl), (mT1 13 rfl rfl), (mT9 43 rfl rfl)⟩, by decide +kernel⟩
theorem dL_law_2449 : decode cL_law 2449 = .ok (.istore 6, 2) := by decide +kernel
theorem dL_law_2451 : decode cL_law 2451 = .ok (.aload_n 2, 1) := by decide +kernel
theorem dL_law_2452 : decode cL_law 2452 = .ok (.invokevirtual 182, 3) := by decide +kernel
theorem dL_law_2455 : decode cL_law 2455 = .ok (.iload 5, 2) := by decide +kernel
theorem dL_law_2457 : decode cL_law 2457 = .ok (.if_icmp .eq 5, 3) := by decide +kernel
theorem dL_law_2462 : decode cL_law 2462 = .ok (.iload 5, 2) := by decide +kernel
theorem dL_law_2464 : decode cL_law 2464 = .ok (.ifCond .ne 15, 3) := by decide +kernel
theorem dL_law_2479 : decode cL_law 2479 = .ok (.goto 853, 3) := by decide +kernel
set_option maxRecDepth 100000 in
set_option maxHeartbeats 4000000 in
theorem law_c41 {p : Program} {l : Launch} {e : Env} {s : State} {m : MethodId} {below : List Frame} {meth : Method} {c : Code} {b : Nat} {xs : Nat → Int32} {D : va_G} {Y : Nat → ClassId} (B : VB p s m #[Value.ref b] meth c D Y (fun q => s.heap.size ≤ q) cL_law 8 RL ret) (EB : EX (fun q => s.heap.size ≤ q) s s.heap) (hl9 : l.stackTraces = false) (hX : va_X b 6 xs s s.heap) (hbl : b < s.heap.size) (hbA : ¬ (fun q => s.heap.size ≤ q) b) (x0 x1 x30 x59 x88 x117 x126 x127 x129 x132 x2 x4 x6 x8 x10 x12 x14 x16 x18 x20 x27 x13 m0 m1 m2 m3 m4 m5 m6 o0 : Nat) (p1 p2 : Int32) (e1 : xs 1 = p1) (e2 : xs 2 = p2) : V p l e room_1 s m #[Value.ref b] below meth c D (fun q => s.heap.size ≤ q) 8 149 10574 (lw_Z below #[Value.ref b] s) 2414 [(4, .int 0), (3, .ref o0), (2, .ref m0), (1, .ref x0), (0, .ref b)] [] [(x0, oC 12 [.ref x1, .ref x30, .ref x59, .ref x88, .ref x117, .ref x126, .ref x127, .ref x129, .ref x132, .long 0]), (x1, oC 2 [.ref x2, .ref x4, .ref x6, .ref x8, .ref x10, .ref x12, .ref x14, .ref x16, .ref x18, .ref x20, .ref x27, .int 0]), (x12, oC 3 [.ref x13, .int 0]), (m0, oC 13 [.ref m1, .ref m2, .int 0, .ref m3, .ref m4, .int 0, .int 0, .int 0, .int (-1), .int 0, .int 0, .int 0, .long 0, .ref m5, .ref m6, .int 0, .int 0]), (m1, aI Y 3640 (clB 0 (fun _ => 0)))] := by
  refine V_aload_n 2414 B dL_law_2414 3 rfl ?_
  refine V_aload_n 2415 B dL_law_2415 4 rfl ?_
  refine V_iload 2416 B dL_law_2416 0 rfl ?_
  refine V_iconst 2418 B (v := 1) dL_law_2418 (by decide +kernel) ?_
  refine V_iadd 2419 B (v := 1) dL_law_2419 (by decide +kernel) ?_
  refine V_sld 2420 B hX hbl hbA (v := p1) (vpin _ _ (by decide +kernel)) dL_law_2420 e1 ?_
  refine V_aload_n 2421 B dL_law_2421 4 rfl ?_
  refine V_iload 2422 B dL_law_2422 0 rfl ?_
  refine V_iconst 2424 B (v := 2) dL_law_2424 (by decide +kernel) ?_
  refine V_iadd 2425 B (v := 2) dL_law_2425 (by decide +kernel) ?_
  refine V_sld 2426 B hX hbl hbA (v := p2) (vpin _ _ (by decide +kernel)) dL_law_2426 e2 ?_
  refine V_aload_n 2427 B dL_law_2427 1 rfl ?_
  refine V_hsi 2428 B EB (st := []) (As := [.ref x0, .int p1, .int p2, .ref o0]) (fun sz => mL_common_1 l hl9 D Y (x0) (o0) (x1) (x30) (x59) (x88) (x117) (x126) (x127) (x129) (x132) (x2) (x4) (x6) (x8) (x10) (x12) (x14) (x16) (x18) (x20) (x27) (x13) (p1) (p2) sz) glH_RL_294 ⟨rfl, rfl⟩ ⟨(Nat.le_of_ble_eq_true rfl), (Nat.le_of_ble_eq_true rfl)⟩ ⟨(Nat.le_of_ble_eq_true rfl), (Nat.le_of_ble_eq_true rfl)⟩ [0, 0, 0] rfl rfl (Nat.le_of_ble_eq_true rfl) rfl (fun _ _ _ => rfl) dL_law_2428 (fun r0 u0 w0 => ?_)
  rcases w0 with ⟨k1, rfl⟩ | ⟨k2, rfl⟩
  ·
    refine V_ws [(x0, oC 12 [.ref x1, .ref x30, .ref x59, .ref x88, .ref x117, .ref x126, .ref x127, .ref x129, .ref x132, .long 0]), (x1, oC 2 [.ref x2, .ref x4, .ref x6, .ref x8, .ref x10, .ref x12, .ref x14, .ref x16, .ref x18, .ref x20, .ref x27, .int 0]), (x12, oC 3 [.ref x13, .int 0]), (m0, oC 13 [.ref m1, .ref m2, .int 0, .ref m3, .ref m4, .int 0, .int 0, .int 0, .int (-1), .int 0, .int 0, .int 0, .long 0, .ref m5, .ref m6, .int 0, .int 0]), (m1, aI Y 3640 (clB 0 (fun _ => 0)))] rfl ?_
    refine V_istore 2431 B (lv2 := [(5, .int 1), (4, .int 0), (3, .ref o0), (2, .ref m0), (1, .ref x0), (0, .ref b)]) dL_law_2431 (by decide) rfl ?_
    refine V_aload_n 2433 B dL_law_2433 3 rfl ?_
    refine V_aload_n 2434 B dL_law_2434 5 rfl ?_
    refine V_iload 2435 B dL_law_2435 1 rfl ?_
    refine V_iconst 2437 B (v := 1) dL_law_2437 (by decide +kernel) ?_
    refine V_iadd 2438 B (v := 1) dL_law_2438 (by decide +kernel) ?_
    refine V_sld 2439 B hX hbl hbA (v := p1) (vpin _ _ (by decide +kernel)) dL_law_2439 e1 ?_
    refine V_aload_n 2440 B dL_law_2440 5 rfl ?_
    refine V_iload 2441 B dL_law_2441 1 rfl ?_
    refine V_iconst 2443 B (v := 2) dL_law_2443 (by decide +kernel) ?_
    refine V_iadd 2444 B (v := 2) dL_law_2444 (by decide +kernel) ?_
    refine V_sld 2445 B hX hbl hbA (v := p2) (vpin _ _ (by decide +kernel)) dL_law_2445 e2 ?_
    refine V_cvi 2446 B (st := []) (As := [.int p1, .int p2]) (fun sz => mX12_common_1 l D Y (m0) (m1) (m2) (m3) (m4) (m5) (m6) (p1) (p2) sz) glV_RL_296 ⟨rfl, rfl⟩ ⟨(Nat.le_of_ble_eq_true rfl), (Nat.le_of_ble_eq_true rfl)⟩ ⟨(Nat.le_of_ble_eq_true rfl), (Nat.le_of_ble_eq_true rfl)⟩ [3, 0] rfl 13 0 rfl rfl rfl rfl (Nat.le_of_ble_eq_true rfl) rfl (fun _ _ _ => rfl) dL_law_2446 (fun r3 u3 w3 => ?_)
    rcases w3 with ⟨k4, rfl⟩ | ⟨k5, rfl⟩
    ·
      refine V_ws [(x0, oC 12 [.ref x1, .ref x30, .ref x59, .ref x88, .ref x117, .ref x126, .ref x127, .ref x129, .ref x132, .long 0]), (x1, oC 2 [.ref x2, .ref x4, .ref x6, .ref x8, .ref x10, .ref x12, .ref x14, .ref x16, .ref x18, .ref x20, .ref x27, .int 0]), (x12, oC 3 [.ref x13, .int 0]), (m0, oC 13 [.ref m1, .ref m2, .int 1, .ref m3, .ref m4, .int 0, .int 0, .int 0, .int (-1), .int 0, .int 0, .int 0, .long 0, .ref m5, .ref m6, .int 0, .int 0]), (m1, aI Y 3640 (clB 0 (fun _ => 0)))] rfl ?_
      refine V_istore 2449 B (lv2 := [(6, .int 0), (5, .int 1), (4, .int 0), (3, .ref o0), (2, .ref m0), (1, .ref x0), (0, .ref b)]) dL_law_2449 (by decide) rfl ?_
      refine V_aload_n 2451 B dL_law_2451 4 rfl ?_
      refine V_cvi 2452 B (st := []) (As := []) (fun sz => mX12_thrown_2 l D Y (m0) (m1) (m2) (m3) (m4) (m5) (m6) sz) glV_RL_182 ⟨rfl, rfl⟩ ⟨(Nat.le_of_ble_eq_true rfl), (Nat.le_of_ble_eq_true rfl)⟩ ⟨(Nat.le_of_ble_eq_true rfl), (Nat.le_of_ble_eq_true rfl)⟩ [3] rfl 13 0 rfl rfl rfl rfl (Nat.le_of_ble_eq_true rfl) rfl (fun _ _ _ => rfl) dL_law_2452 (fun r6 u6 w6 => ?_)
      obtain rfl := w6
      refine V_ws [(x0, oC 12 [.ref x1, .ref x30, .ref x59, .ref x88, .ref x117, .ref x126, .ref x127, .ref x129, .ref x132, .long 0]), (x1, oC 2 [.ref x2, .ref x4, .ref x6, .ref x8, .ref x10, .ref x12, .ref x14, .ref x16, .ref x18, .ref x20, .ref x27, .int 0]), (x12, oC 3 [.ref x13, .int 0]), (m0, oC 13 [.ref m1, .ref m2, .int 1, .ref m3, .ref m4, .int 0, .int 0, .int 0, .int (-1), .int 0, .int 0, .int 0, .long 0, .ref m5, .ref m6, .int 0, .int 0]), (m1, aI Y 3640 (clB 0 (fun _ => 0)))] rfl ?_
      refine V_iload 2455 B dL_law_2455 1 rfl ?_
      refine V_icmp_eq_t 2457 B 2462 dL_law_2457 (by decide) (by decide +kernel) ?_
      refine V_iload 2462 B dL_law_2462 1 rfl ?_
      refine V_if_ne_t 2464 B 2479 dL_law_2464 (by decide) (by decide +kernel) ?_
      refine V_goto 2479 B 3332 dL_law_2479 (by decide) ?_
      refine V_iinc 3332 B (v := 6) (lv2 := [(4, .int 6), (6, .int 0), (5, .int 1), (3, .ref o0), (2, .ref m0), (1, .ref x0), (0, .ref b)]) dL_law_3332 2 rfl (by decide +kernel) (by decide) rfl ?_
      refine V_goto 3335 B 23 dL_law_3335 (by decide) ?_
      refine V_iload 23 B dL_law_23 0 rfl ?_
      refine V_aload_n 25 B dL_law_25 6 rfl ?_
      refine V_slen 26 B hX hbl hbA (v := 6) (by decide +kernel) dL_law_26 ?_
      refine V_bipush 27 B (v := 6) dL_law_27 (by decide +kernel) ?_
      refine V_isub 29 B (v := 0) dL_law_29 (by decide +kernel) ?_
      refine V_icmp_gt_t 30 B 3338 dL_law_30 (by decide) (by decide +kernel) ?_
      exact law_end B (Nat.le_of_ble_eq_true rfl) (Nat.le_of_ble_eq_true rfl) dL_law_3338 dL_law_3339
    ·
      refine V_ws [(x0, oC 12 [.ref x1, .ref x30, .ref x59, .ref x88, .ref x117, .ref x126, .ref x127, .ref x129, .ref x132, .long 0]), (x1, oC 2 [.ref x2, .ref x4, .ref x6, .ref x8, .ref x10, .ref x12, .ref x14, .ref x16, .ref x18, .ref x20, .ref x27, .int 0]), (x12, oC 3 [.ref x13, .int 0]), (m0, oC 13 [.ref m1, .ref m2, .int 1, .ref m3, .ref m4, .int 0, .int 0, .int 0, .int (-1), .int 0, .int 0, .int 0, .long 0, .ref m5, .ref m6, .int 0, .int 0]), (m1, aI Y 3640 (clB 0 (fun _ => 0)))] rfl ?_
      exact (q_abs (b_gt k5 (n := 0) (by decide +kernel)) (b_lt k1 (n := (-1)) (by decide +kernel)) (by decide +kernel)).elim
  ·
    refine V_ws [(x0, oC 12 [.ref x1, .ref x30, .ref x59, .ref x88, .ref x117, .ref x126, .ref x127, .ref x129, .ref x132, .long 0]), (x1, oC 2 [.ref x2, .ref x4, .ref x6, .ref x8, .ref x10, .ref x12, .ref x14, .ref x16, .ref x18, .ref x20, .ref x27, .int 0]), (x12, oC 3 [.ref x13, .int 0]), (m0, oC 13 [.ref m1, .ref m2, .int 0, .ref m3, .ref m4, .int 0, .int 0, .int 0, .int (-1), .int 0, .int 0, .int 0, .long 0, .ref m5, .ref m6, .int 0, .int 0]), (m1, aI Y 3640 (clB 0 (fun _ => 0)))] rfl ?_
    refine V_istore 2431 B (lv2 := [(5, .int 1), (4, .int 0), (3, .ref o0), (2, .ref m0), (1, .ref x0), (0, .ref b)]) dL_law_2431 (by decide) rfl ?_
    refine V_aload_n 2433 B dL_law_2433 3 rfl ?_
    refine V_aload_n 2434 B dL_law_2434 5 rfl ?_
    refine V_iload 2435 B dL_law_2435 1 rfl ?_
    refine V_iconst 2437 B (v := 1) dL_law_2437 (by decide +kernel) ?_
    refine V_iadd 2438 B (v := 1) dL_law_2438 (by decide +kernel) ?_
    refine V_sld 2439 B hX hbl hbA (v := p1) (vpin _ _ (by decide +kernel)) dL_law_2439 e1 ?_
    refine V_aload_n 2440 B dL_law_2440 5 rfl ?_
    refine V_iload 2441 B dL_law_2441 1 rfl ?_
    refine V_iconst 2443 B (v := 2) dL_law_2443 (by decide +kernel) ?_
    refine V_iadd 2444 B (v := 2) dL_law_2444 (by decide +kernel) ?_
    refine V_sld 2445 B hX hbl hbA (v := p2) (vpin _ _ (by decide +kernel)) dL_law_2445 e2 ?_
    refine V_cvi 2446 B (st := []) (As := [.int p1, .int p2]) (fun sz => mX12_common_1 l D Y (m0) (m1) (m2) (m3) (m4) (m5) (m6) (p1) (p2) sz) glV_RL_296 ⟨rfl, rfl⟩ ⟨(Nat.le_of_ble_eq_true rfl), (Nat.le_of_ble_eq_true rfl)⟩ ⟨(Nat.le_of_ble_eq_true rfl), (Nat.le_of_ble_eq_true rfl)⟩ [3, 0] rfl 13 0 rfl rfl rfl rfl (Nat.le_of_ble_eq_true rfl) rfl (fun _ _ _ => rfl) dL_law_2446 (fun r7 u7 w7 => ?_)
    rcases w7 with ⟨k8, rfl⟩ | ⟨k9, rfl⟩
    ·
      refine V_ws [(x0, oC 12 [.ref x1, .ref x30, .ref x59, .ref x88, .ref x117, .ref x126, .ref x127, .ref x129, .ref x132, .long 0]), (x1, oC 2 [.ref x2, .ref x4, .ref x6, .ref x8, .ref x10, .ref x12, .ref x14, .ref x16, .ref x18, .ref x20, .ref x27, .int 0]), (x12, oC 3 [.ref x13, .int 0]), (m0, oC 13 [.ref m1, .ref m2, .int 1, .ref m3, .ref m4, .int 0, .int 0, .int 0, .int (-1), .int 0, .int 0, .int 0, .long 0, .ref m5, .ref m6, .int 0, .int 0]), (m1, aI Y 3640 (clB 0 (fun _ => 0)))] rfl ?_
      exact (q_abs (b_nlt k2 (n := 0) (by decide +kernel)) (b_lt k8 (n := (-1)) (by decide +kernel)) (by decide +kernel)).elim
    ·
      refine V_ws [(x0, oC 12 [.ref x1, .ref x30, .ref x59, .ref x88, .ref x117, .ref x126, .ref x127, .ref x129, .ref x132, .long 0]), (x1, oC 2 [.ref x2, .ref x4, .ref x6, .ref x8, .ref x10, .ref x12, .ref x14, .ref x16, .ref x18, .ref x20, .ref x27, .int 0]), (x12, oC 3 [.ref x13, .int 0]), (m0, oC 13 [.ref m1, .ref m2, .int 1, .ref m3, .ref m4, .int 0, .int 0, .int 0, .int (-1), .int 0, .int 0, .int 0, .long 0, .ref m5, .ref m6, .int 0, .int 0]), (m1, aI Y 3640 (clB 0 (fun _ => 0)))] rfl ?_
      refine V_istore 2449 B (lv2 := [(6, .int 0), (5, .int 1), (4, .int 0), (3, .ref o0), (2, .ref m0), (1, .ref x0), (0, .ref b)]) dL_law_2449 (by decide) rfl ?_
      refine V_aload_n 2451 B dL_law_2451 4 rfl ?_
      refine V_cvi 2452 B (st := []) (As := []) (fun sz => mX12_thrown_2 l D Y (m0) (m1) (m2) (m3) (m4) (m5) (m6) sz) glV_RL_182 ⟨rfl, rfl⟩ ⟨(Nat.le_of_ble_eq_true rfl), (Nat.le_of_ble_eq_true rfl)⟩ ⟨(Nat.le_of_ble_eq_true rfl), (Nat.le_of_ble_eq_true rfl)⟩ [3] rfl 13 0 rfl rfl rfl rfl (Nat.le_of_ble_eq_true rfl) rfl (fun _ _ _ => rfl) dL_law_2452 (fun r10 u10 w10 => ?_)
      obtain rfl := w10
      refine V_ws [(x0, oC 12 [.ref x1, .ref x30, .ref x59, .ref x88, .ref x117, .ref x126, .ref x127, .ref x129, .ref x132, .long 0]), (x1, oC 2 [.ref x2, .ref x4, .ref x6, .ref x8, .ref x10, .ref x12, .ref x14, .ref x16, .ref x18, .ref x20, .ref x27, .int 0]), (x12, oC 3 [.ref x13, .int 0]), (m0, oC 13 [.ref m1, .ref m2, .int 1, .ref m3, .ref m4, .int 0, .int 0, .int 0, .int (-1), .int 0, .int 0, .int 0, .long 0, .ref m5, .ref m6, .int 0, .int 0]), (m1, aI Y 3640 (clB 0 (fun _ => 0)))] rfl ?_
      refine V_iload 2455 B dL_law_2455 1 rfl ?_
      refine V_icmp_eq_t 2457 B 2462 dL_law_2457 (by decide) (by decide +kernel) ?_
      refine V_iload 2462 B dL_law_2462 1 rfl ?_
      refine V_if_ne_t 2464 B 2479 dL_law_2464 (by decide) (by decide +kernel) ?_
      refine V_goto 2479 B 3332 dL_law_2479 (by decide) ?_
      refine V_iinc 3332 B (v := 6) (lv2 := [(4, .int 6), (6, .int 0), (5, .int 1), (3, .ref o0), (2, .ref m0), (1, .ref x0), (0, .ref b)]) dL_law_3332 2 rfl (by decide +kernel) (by decide) rfl ?_
      refine V_goto 3335 B 23 dL_law_3335 (by decide) ?_
      refine V_iload 23 B dL_law_23 0 rfl ?_
      refine V_aload_n 25 B dL_law_25 6 rfl ?_
      refine V_slen 26 B hX hbl hbA (v := 6) (by decide +kernel) dL_law_26 ?_
      refine V_bipush 27 B (v := 6) dL_law_27 (by decide +kernel) ?_
      refine V_isub 29 B (v := 0) dL_law_29 (by decide +kernel) ?_
      refine V_icmp_gt_t 30 B 3338 dL_law_30 (by decide) (by decide +kernel) ?_
      exact law_end B (Nat.le_of_ble_eq_true rfl) (Nat.le_of_ble_eq_true rfl) dL_law_3338 dL_law_3339
theorem dL_law_2482 : decode cL_law 2482 = .ok (.aload_n 1, 1) := by decide +kernel
theorem dL_law_2483 : decode cL_law 2483 = .ok (.invokevirtual 297, 3) := by decide +kernel
theorem glV_RL_297 : GLV RL 297 yX11_leadingSwitches RX11 cX11_leadingSwitches 3 (some .int) 0 := ⟨⟨(mT4 17 rfl rfl), (mT4 18 rfl rfl), (mT4 19 rfl rfl), (mT1 1 rfl rfl), (mT4 20 rfl rfl)⟩, by decide +kernel⟩
theorem dL_law_2486 : decode cL_law 2486 = .ok (.aload_n 2, 1) := by decide +kernel
theorem dL_law_2487 : decode cL_law 2487 = .ok (.invokevirtual 300, 3) := by decide +kernel
theorem glV_RL_300 : GLV RL 300 yX12_leadingSwitches RX12 cX12_leadingSwitches 2 (some .int) 0 := ⟨⟨(mT9 44 rfl rfl), (mT9 45 rfl rfl), (mT9 46 rfl rfl), (mT1 13 rfl rfl), (mT9 47 rfl rfl)⟩, by decide +kernel⟩
theorem dL_law_2490 : decode cL_law 2490 = .ok (.if_icmp .eq 842, 3) := by decide +kernel
set_option maxRecDepth 100000 in
set_option maxHeartbeats 4000000 in
theorem law_c42 {p : Program} {l : Launch} {e : Env} {s : State} {m : MethodId} {below : List Frame} {meth : Method} {c : Code} {b : Nat} {xs : Nat → Int32} {D : va_G} {Y : Nat → ClassId} (B : VB p s m #[Value.ref b] meth c D Y (fun q => s.heap.size ≤ q) cL_law 8 RL ret) (EB : EX (fun q => s.heap.size ≤ q) s s.heap) (hl9 : l.stackTraces = false) (hX : va_X b 6 xs s s.heap) (hbl : b < s.heap.size) (hbA : ¬ (fun q => s.heap.size ≤ q) b) (x0 x1 x30 x59 x88 x117 x126 x127 x129 x132 x2 x4 x6 x8 x10 x12 x14 x16 x18 x20 x27 x15 m0 m1 m2 m3 m4 m5 m6 o0 : Nat) : V p l e room_1 s m #[Value.ref b] below meth c D (fun q => s.heap.size ≤ q) 8 149 10574 (lw_Z below #[Value.ref b] s) 2482 [(4, .int 0), (3, .ref o0), (2, .ref m0), (1, .ref x0), (0, .ref b)] [] [(x0, oC 12 [.ref x1, .ref x30, .ref x59, .ref x88, .ref x117, .ref x126, .ref x127, .ref x129, .ref x132, .long 0]), (x1, oC 2 [.ref x2, .ref x4, .ref x6, .ref x8, .ref x10, .ref x12, .ref x14, .ref x16, .ref x18, .ref x20, .ref x27, .int 0]), (x14, oC 3 [.ref x15, .int 0]), (m0, oC 13 [.ref m1, .ref m2, .int 0, .ref m3, .ref m4, .int 0, .int 0, .int 0, .int (-1), .int 0, .int 0, .int 0, .long 0, .ref m5, .ref m6, .int 0, .int 0]), (m1, aI Y 3640 (clB 0 (fun _ => 0)))] := by
  refine V_aload_n 2482 B dL_law_2482 3 rfl ?_
  refine V_cvi 2483 B (st := []) (As := []) (fun sz => mX11_leadingSwitches_1 l D Y (x0) (x1) (x30) (x59) (x88) (x117) (x126) (x127) (x129) (x132) (x2) (x4) (x6) (x8) (x10) (x12) (x14) (x16) (x18) (x20) (x27) (x15) sz) glV_RL_297 ⟨rfl, rfl⟩ ⟨(Nat.le_of_ble_eq_true rfl), (Nat.le_of_ble_eq_true rfl)⟩ ⟨(Nat.le_of_ble_eq_true rfl), (Nat.le_of_ble_eq_true rfl)⟩ [0, 0, 0] rfl 12 0 rfl rfl rfl rfl (Nat.le_of_ble_eq_true rfl) rfl (fun _ _ _ => rfl) dL_law_2483 (fun r0 u0 w0 => ?_)
  obtain rfl := w0
  refine V_ws [(x0, oC 12 [.ref x1, .ref x30, .ref x59, .ref x88, .ref x117, .ref x126, .ref x127, .ref x129, .ref x132, .long 0]), (x1, oC 2 [.ref x2, .ref x4, .ref x6, .ref x8, .ref x10, .ref x12, .ref x14, .ref x16, .ref x18, .ref x20, .ref x27, .int 0]), (x14, oC 3 [.ref x15, .int 0]), (m0, oC 13 [.ref m1, .ref m2, .int 0, .ref m3, .ref m4, .int 0, .int 0, .int 0, .int (-1), .int 0, .int 0, .int 0, .long 0, .ref m5, .ref m6, .int 0, .int 0]), (m1, aI Y 3640 (clB 0 (fun _ => 0)))] rfl ?_
  refine V_aload_n 2486 B dL_law_2486 2 rfl ?_
  refine V_cvi 2487 B (st := [.int 0]) (As := []) (fun sz => mX12_leadingSwitches_1 l D Y (m0) (m1) (m2) (m3) (m4) (m5) (m6) sz) glV_RL_300 ⟨rfl, rfl⟩ ⟨(Nat.le_of_ble_eq_true rfl), (Nat.le_of_ble_eq_true rfl)⟩ ⟨(Nat.le_of_ble_eq_true rfl), (Nat.le_of_ble_eq_true rfl)⟩ [3, 0] rfl 13 0 rfl rfl rfl rfl (Nat.le_of_ble_eq_true rfl) rfl (fun _ _ _ => rfl) dL_law_2487 (fun r1 u1 w1 => ?_)
  obtain rfl := w1
  refine V_ws [(x0, oC 12 [.ref x1, .ref x30, .ref x59, .ref x88, .ref x117, .ref x126, .ref x127, .ref x129, .ref x132, .long 0]), (x1, oC 2 [.ref x2, .ref x4, .ref x6, .ref x8, .ref x10, .ref x12, .ref x14, .ref x16, .ref x18, .ref x20, .ref x27, .int 0]), (x14, oC 3 [.ref x15, .int 0]), (m0, oC 13 [.ref m1, .ref m2, .int 0, .ref m3, .ref m4, .int 0, .int 0, .int 0, .int (-1), .int 0, .int 0, .int 0, .long 0, .ref m5, .ref m6, .int 0, .int 0]), (m1, aI Y 3640 (clB 0 (fun _ => 0)))] rfl ?_
  refine V_icmp_eq_t 2490 B 3332 dL_law_2490 (by decide) (by decide +kernel) ?_
  refine V_iinc 3332 B (v := 6) (lv2 := [(4, .int 6), (3, .ref o0), (2, .ref m0), (1, .ref x0), (0, .ref b)]) dL_law_3332 0 rfl (by decide +kernel) (by decide) rfl ?_
  refine V_goto 3335 B 23 dL_law_3335 (by decide) ?_
  refine V_iload 23 B dL_law_23 0 rfl ?_
  refine V_aload_n 25 B dL_law_25 4 rfl ?_
  refine V_slen 26 B hX hbl hbA (v := 6) (by decide +kernel) dL_law_26 ?_
  refine V_bipush 27 B (v := 6) dL_law_27 (by decide +kernel) ?_
  refine V_isub 29 B (v := 0) dL_law_29 (by decide +kernel) ?_
  refine V_icmp_gt_t 30 B 3338 dL_law_30 (by decide) (by decide +kernel) ?_
  exact law_end B (Nat.le_of_ble_eq_true rfl) (Nat.le_of_ble_eq_true rfl) dL_law_3338 dL_law_3339
