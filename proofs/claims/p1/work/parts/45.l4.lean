theorem dL_binding_0 : decode cL_binding 0 = .ok (.aload_n 3, 1) := by decide +kernel
theorem dL_binding_1 : decode cL_binding 1 = .ok (.iconst 0, 1) := by decide +kernel
theorem dL_binding_2 : decode cL_binding 2 = .ok (.aload_n 0, 1) := by decide +kernel
theorem dL_binding_3 : decode cL_binding 3 = .ok (.iload_n 1, 1) := by decide +kernel
theorem dL_binding_4 : decode cL_binding 4 = .ok (.iload_n 2, 1) := by decide +kernel
theorem dL_binding_5 : decode cL_binding 5 = .ok (.invokevirtual 48, 3) := by decide +kernel
theorem glV_RL_48 : GLV RL 48 yX11_binding RX11 cX11_binding 3 (some .int) 2 := ⟨⟨(mT6 4 rfl rfl), (mT6 5 rfl rfl), (mT6 6 rfl rfl), (mT1 1 rfl rfl), (mT6 7 rfl rfl)⟩, by decide +kernel⟩
theorem dL_binding_13 : decode cL_binding 13 = .ok (.astore 4, 2) := by decide +kernel
theorem dL_binding_15 : decode cL_binding 15 = .ok (.iconst 1, 1) := by decide +kernel
theorem dL_binding_16 : decode cL_binding 16 = .ok (.ireturn, 1) := by decide +kernel
set_option maxRecDepth 100000 in
set_option maxHeartbeats 4000000 in
theorem mL_binding_1 (l : Launch) (hl9 : l.stackTraces = false) (D : va_G) (Y : Nat → ClassId) (h0 : Nat) (g0 : Nat) (h1 : Nat) (g1 : Nat) (g2 : Nat) (g3 : Nat) (g4 : Nat) (g5 : Nat) (g6 : Nat) (g7 : Nat) (g8 : Nat) (g9 : Nat) (g10 : Nat) (g11 : Nat) (g12 : Nat) (g13 : Nat) (h2 : Nat) (g14 : Nat) (g15 : Nat) (g16 : Nat) (g17 : Nat) (g18 : Nat) (g19 : Nat) (p0 : Int32) (p1 : Int32) (sz : Nat) : Met l yL_binding (Cond.codeWith yL_binding cL_binding 5 (some .int) [(0, 10, 13, 18)] :: lw_good) (mkR 8 1 6 125) (PreX D Y [.ref h0, .int p0, .int p1, .ref g0] [(h0, oC 12 [.ref h1, .ref g1, .ref g2, .ref g3, .ref g4, .ref g5, .ref g6, .ref g7, .ref g8, .long 0]), (h1, oC 2 [.ref g9, .ref g10, .ref g11, .ref g12, .ref g13, .ref h2, .ref g14, .ref g15, .ref g16, .ref g17, .ref g18, .int 0]), (h2, oC 3 [.ref g19, .int 0])] sz) (QI D (fun (r : Int32) (u : Unit) => (p0 < 0 ∧ 1 = r) ∨ (¬ p0 < 0 ∧ 1 = r)) (fun (_ : Unit) => [(h0, oC 12 [.ref h1, .ref g1, .ref g2, .ref g3, .ref g4, .ref g5, .ref g6, .ref g7, .ref g8, .long 0]), (h1, oC 2 [.ref g9, .ref g10, .ref g11, .ref g12, .ref g13, .ref h2, .ref g14, .ref g15, .ref g16, .ref g17, .ref g18, .int 0]), (h2, oC 3 [.ref g19, .int 0])]) (va_A [(h0, oC 12 [.ref h1, .ref g1, .ref g2, .ref g3, .ref g4, .ref g5, .ref g6, .ref g7, .ref g8, .long 0]), (h1, oC 2 [.ref g9, .ref g10, .ref g11, .ref g12, .ref g13, .ref h2, .ref g14, .ref g15, .ref g16, .ref g17, .ref g18, .int 0]), (h2, oC 3 [.ref g19, .int 0])] sz)) 1 6 (va_A [(h0, oC 12 [.ref h1, .ref g1, .ref g2, .ref g3, .ref g4, .ref g5, .ref g6, .ref g7, .ref g8, .long 0]), (h1, oC 2 [.ref g9, .ref g10, .ref g11, .ref g12, .ref g13, .ref h2, .ref g14, .ref g15, .ref g16, .ref g17, .ref g18, .int 0]), (h2, oC 3 [.ref g19, .int 0])] sz) :=
  metH_of (by decide +kernel) (Nat.le_of_ble_eq_true rfl) (fun p e s m args below meth c B EB htab hsz => by
    have B : VB p s m args meth c D Y (va_A [(h0, oC 12 [.ref h1, .ref g1, .ref g2, .ref g3, .ref g4, .ref g5, .ref g6, .ref g7, .ref g8, .long 0]), (h1, oC 2 [.ref g9, .ref g10, .ref g11, .ref g12, .ref g13, .ref h2, .ref g14, .ref g15, .ref g16, .ref g17, .ref g18, .int 0]), (h2, oC 3 [.ref g19, .int 0])] sz) cL_binding 5 RL (some .int) := B
    refine V_aload_n 0 B dL_binding_0 3 rfl ?_
    refine V_iconst 1 B (v := 0) dL_binding_1 (by decide +kernel) ?_
    refine V_aload_n 2 B dL_binding_2 0 rfl ?_
    refine V_iload_n 3 B dL_binding_3 1 rfl ?_
    refine V_iload_n 4 B dL_binding_4 2 rfl ?_
    refine V_xvi 5 B EB (st := [.int 0, .ref g0]) (As := [.int p0, .int p1]) (fun sz => mX11_binding_1 l hl9 D Y (h0) (h1) (g1) (g2) (g3) (g4) (g5) (g6) (g7) (g8) (g9) (g10) (g11) (g12) (g13) (h2) (g14) (g15) (g16) (g17) (g18) (g19) (p0) (p1) sz) glV_RL_48 ⟨rfl, rfl⟩ ⟨(Nat.le_of_ble_eq_true rfl), (Nat.le_of_ble_eq_true rfl)⟩ ⟨(Nat.le_of_ble_eq_true rfl), (Nat.le_of_ble_eq_true rfl)⟩ [0, 0, 0] rfl 12 0 rfl rfl rfl rfl (Nat.le_of_ble_eq_true rfl) rfl (fun _ _ _ => rfl) (fun _ _ _ => rfl) dL_binding_5 (fun E u0 w0 => ?_) (fun r0 u0 w0 => ?_)
    ·
      rcases w0 with ⟨rfl, k1⟩ | ⟨rfl, k2⟩
      ·
        refine VX_catch 5 B htab [] (0, 10, 13, 18) [] rfl "java/lang/IndexOutOfBoundsException" (fun z hz => nomatch hz) rfl (by decide) (mT5 103 rfl rfl) (EB.2.2.2.1 _ (List.mem_of_getElem? (i := 1) rfl)) 13 rfl (fun q9 => ?_)
        refine V_ws [(h0, oC 12 [.ref h1, .ref g1, .ref g2, .ref g3, .ref g4, .ref g5, .ref g6, .ref g7, .ref g8, .long 0]), (h1, oC 2 [.ref g9, .ref g10, .ref g11, .ref g12, .ref g13, .ref h2, .ref g14, .ref g15, .ref g16, .ref g17, .ref g18, .int 0]), (h2, oC 3 [.ref g19, .int 0])] rfl ?_
        refine V_astore 13 B (lv2 := [(4, .ref q9), (0, .ref h0), (1, .int p0), (2, .int p1), (3, .ref g0)]) dL_binding_13 (by decide) rfl ?_
        refine V_iconst 15 B (v := 1) dL_binding_15 (by decide +kernel) ?_
        exact V_iret 16 B dL_binding_16 () (Or.inl ⟨k1, rfl⟩) rfl
      ·
        refine VX_catch 5 B htab [] (0, 10, 13, 18) [] rfl "java/lang/IndexOutOfBoundsException" (fun z hz => nomatch hz) rfl (by decide) (mT5 103 rfl rfl) (EB.2.2.2.1 _ (List.mem_of_getElem? (i := 1) rfl)) 13 rfl (fun q9 => ?_)
        refine V_ws [(h0, oC 12 [.ref h1, .ref g1, .ref g2, .ref g3, .ref g4, .ref g5, .ref g6, .ref g7, .ref g8, .long 0]), (h1, oC 2 [.ref g9, .ref g10, .ref g11, .ref g12, .ref g13, .ref h2, .ref g14, .ref g15, .ref g16, .ref g17, .ref g18, .int 0]), (h2, oC 3 [.ref g19, .int 0])] rfl ?_
        refine V_astore 13 B (lv2 := [(4, .ref q9), (0, .ref h0), (1, .int p0), (2, .int p1), (3, .ref g0)]) dL_binding_13 (by decide) rfl ?_
        refine V_iconst 15 B (v := 1) dL_binding_15 (by decide +kernel) ?_
        exact V_iret 16 B dL_binding_16 () (Or.inr ⟨k2, rfl⟩) rfl
    ·
      exact w0.elim)
theorem dL_law_1201 : decode cL_law 1201 = .ok (.aload_n 1, 1) := by decide +kernel
theorem dL_law_1202 : decode cL_law 1202 = .ok (.aload_n 0, 1) := by decide +kernel
theorem dL_law_1203 : decode cL_law 1203 = .ok (.iload 4, 2) := by decide +kernel
theorem dL_law_1205 : decode cL_law 1205 = .ok (.iconst 1, 1) := by decide +kernel
theorem dL_law_1206 : decode cL_law 1206 = .ok (.iadd, 1) := by decide +kernel
theorem dL_law_1207 : decode cL_law 1207 = .ok (.iaload, 1) := by decide +kernel
theorem dL_law_1208 : decode cL_law 1208 = .ok (.aload_n 0, 1) := by decide +kernel
theorem dL_law_1209 : decode cL_law 1209 = .ok (.iload 4, 2) := by decide +kernel
theorem dL_law_1211 : decode cL_law 1211 = .ok (.iconst 2, 1) := by decide +kernel
theorem dL_law_1212 : decode cL_law 1212 = .ok (.iadd, 1) := by decide +kernel
theorem dL_law_1213 : decode cL_law 1213 = .ok (.iaload, 1) := by decide +kernel
theorem dL_law_1214 : decode cL_law 1214 = .ok (.aload_n 3, 1) := by decide +kernel
theorem dL_law_1215 : decode cL_law 1215 = .ok (.invokestatic 228, 3) := by decide +kernel
theorem glH_RL_228 : GLH RL 228 yL_binding cL_binding 5 (some .int) [(0, 10, 13, 18)] 4 := ⟨⟨(mT6 1 rfl rfl), (mT6 2 rfl rfl), (mT1 0 rfl rfl), (mT6 3 rfl rfl)⟩, by decide +kernel⟩
theorem dL_law_1218 : decode cL_law 1218 = .ok (.istore 5, 2) := by decide +kernel
theorem dL_law_1220 : decode cL_law 1220 = .ok (.aload_n 2, 1) := by decide +kernel
theorem dL_law_1221 : decode cL_law 1221 = .ok (.aload_n 0, 1) := by decide +kernel
theorem dL_law_1222 : decode cL_law 1222 = .ok (.iload 4, 2) := by decide +kernel
theorem dL_law_1224 : decode cL_law 1224 = .ok (.iconst 1, 1) := by decide +kernel
theorem dL_law_1225 : decode cL_law 1225 = .ok (.iadd, 1) := by decide +kernel
theorem dL_law_1226 : decode cL_law 1226 = .ok (.iaload, 1) := by decide +kernel
theorem dL_law_1227 : decode cL_law 1227 = .ok (.aload_n 0, 1) := by decide +kernel
theorem dL_law_1228 : decode cL_law 1228 = .ok (.iload 4, 2) := by decide +kernel
theorem dL_law_1230 : decode cL_law 1230 = .ok (.iconst 2, 1) := by decide +kernel
theorem dL_law_1231 : decode cL_law 1231 = .ok (.iadd, 1) := by decide +kernel
theorem dL_law_1232 : decode cL_law 1232 = .ok (.iaload, 1) := by decide +kernel
theorem dL_law_1233 : decode cL_law 1233 = .ok (.invokevirtual 230, 3) := by decide +kernel
theorem glV_RL_230 : GLV RL 230 yX12_binding RX12 cX12_binding 3 (some .int) 2 := ⟨⟨(mT8 144 rfl rfl), (mT8 145 rfl rfl), (mT8 146 rfl rfl), (mT1 13 rfl rfl), (mT8 147 rfl rfl)⟩, by decide +kernel⟩
theorem dL_law_1236 : decode cL_law 1236 = .ok (.istore 6, 2) := by decide +kernel
theorem dL_law_1238 : decode cL_law 1238 = .ok (.aload_n 2, 1) := by decide +kernel
theorem dL_law_1239 : decode cL_law 1239 = .ok (.invokevirtual 182, 3) := by decide +kernel
theorem dL_law_1242 : decode cL_law 1242 = .ok (.iload 5, 2) := by decide +kernel
theorem dL_law_1244 : decode cL_law 1244 = .ok (.if_icmp .eq 5, 3) := by decide +kernel
theorem dL_law_1249 : decode cL_law 1249 = .ok (.iload 5, 2) := by decide +kernel
theorem dL_law_1251 : decode cL_law 1251 = .ok (.ifCond .ne 15, 3) := by decide +kernel
theorem dL_law_1266 : decode cL_law 1266 = .ok (.goto 2066, 3) := by decide +kernel
set_option maxRecDepth 100000 in
set_option maxHeartbeats 4000000 in
theorem law_c20 {p : Program} {l : Launch} {e : Env} {s : State} {m : MethodId} {below : List Frame} {meth : Method} {c : Code} {b : Nat} {xs : Nat → Int32} {D : va_G} {Y : Nat → ClassId} (B : VB p s m #[Value.ref b] meth c D Y (fun q => s.heap.size ≤ q) cL_law 8 RL ret) (EB : EX (fun q => s.heap.size ≤ q) s s.heap) (hl9 : l.stackTraces = false) (hX : va_X b 6 xs s s.heap) (hbl : b < s.heap.size) (hbA : ¬ (fun q => s.heap.size ≤ q) b) (x0 x1 x30 x59 x88 x117 x126 x127 x129 x132 x2 x4 x6 x8 x10 x12 x14 x16 x18 x20 x27 x13 m0 m1 m2 m3 m4 m5 m6 o0 : Nat) (p1 p2 : Int32) (e1 : xs 1 = p1) (e2 : xs 2 = p2) : V p l e room_1 s m #[Value.ref b] below meth c D (fun q => s.heap.size ≤ q) 8 149 10574 (lw_Z below #[Value.ref b] s) 1201 [(4, .int 0), (3, .ref o0), (2, .ref m0), (1, .ref x0), (0, .ref b)] [] [(x0, oC 12 [.ref x1, .ref x30, .ref x59, .ref x88, .ref x117, .ref x126, .ref x127, .ref x129, .ref x132, .long 0]), (x1, oC 2 [.ref x2, .ref x4, .ref x6, .ref x8, .ref x10, .ref x12, .ref x14, .ref x16, .ref x18, .ref x20, .ref x27, .int 0]), (x12, oC 3 [.ref x13, .int 0]), (m0, oC 13 [.ref m1, .ref m2, .int 0, .ref m3, .ref m4, .int 0, .int 0, .int 0, .int (-1), .int 0, .int 0, .int 0, .long 0, .ref m5, .ref m6, .int 0, .int 0]), (m1, aI Y 3640 (clB 0 (fun _ => 0)))] := by
  refine V_aload_n 1201 B dL_law_1201 3 rfl ?_
  refine V_aload_n 1202 B dL_law_1202 4 rfl ?_
  refine V_iload 1203 B dL_law_1203 0 rfl ?_
  refine V_iconst 1205 B (v := 1) dL_law_1205 (by decide +kernel) ?_
  refine V_iadd 1206 B (v := 1) dL_law_1206 (by decide +kernel) ?_
  refine V_sld 1207 B hX hbl hbA (v := p1) (vpin _ _ (by decide +kernel)) dL_law_1207 e1 ?_
  refine V_aload_n 1208 B dL_law_1208 4 rfl ?_
  refine V_iload 1209 B dL_law_1209 0 rfl ?_
  refine V_iconst 1211 B (v := 2) dL_law_1211 (by decide +kernel) ?_
  refine V_iadd 1212 B (v := 2) dL_law_1212 (by decide +kernel) ?_
  refine V_sld 1213 B hX hbl hbA (v := p2) (vpin _ _ (by decide +kernel)) dL_law_1213 e2 ?_
  refine V_aload_n 1214 B dL_law_1214 1 rfl ?_
  refine V_hsi 1215 B EB (st := []) (As := [.ref x0, .int p1, .int p2, .ref o0]) (fun sz => mL_binding_1 l hl9 D Y (x0) (o0) (x1) (x30) (x59) (x88) (x117) (x126) (x127) (x129) (x132) (x2) (x4) (x6) (x8) (x10) (x12) (x14) (x16) (x18) (x20) (x27) (x13) (p1) (p2) sz) glH_RL_228 ⟨rfl, rfl⟩ ⟨(Nat.le_of_ble_eq_true rfl), (Nat.le_of_ble_eq_true rfl)⟩ ⟨(Nat.le_of_ble_eq_true rfl), (Nat.le_of_ble_eq_true rfl)⟩ [0, 0, 0] rfl rfl (Nat.le_of_ble_eq_true rfl) rfl (fun _ _ _ => rfl) dL_law_1215 (fun r0 u0 w0 => ?_)
  rcases w0 with ⟨k1, rfl⟩ | ⟨k2, rfl⟩
  ·
    refine V_ws [(x0, oC 12 [.ref x1, .ref x30, .ref x59, .ref x88, .ref x117, .ref x126, .ref x127, .ref x129, .ref x132, .long 0]), (x1, oC 2 [.ref x2, .ref x4, .ref x6, .ref x8, .ref x10, .ref x12, .ref x14, .ref x16, .ref x18, .ref x20, .ref x27, .int 0]), (x12, oC 3 [.ref x13, .int 0]), (m0, oC 13 [.ref m1, .ref m2, .int 0, .ref m3, .ref m4, .int 0, .int 0, .int 0, .int (-1), .int 0, .int 0, .int 0, .long 0, .ref m5, .ref m6, .int 0, .int 0]), (m1, aI Y 3640 (clB 0 (fun _ => 0)))] rfl ?_
    refine V_istore 1218 B (lv2 := [(5, .int 1), (4, .int 0), (3, .ref o0), (2, .ref m0), (1, .ref x0), (0, .ref b)]) dL_law_1218 (by decide) rfl ?_
    refine V_aload_n 1220 B dL_law_1220 3 rfl ?_
    refine V_aload_n 1221 B dL_law_1221 5 rfl ?_
    refine V_iload 1222 B dL_law_1222 1 rfl ?_
    refine V_iconst 1224 B (v := 1) dL_law_1224 (by decide +kernel) ?_
    refine V_iadd 1225 B (v := 1) dL_law_1225 (by decide +kernel) ?_
    refine V_sld 1226 B hX hbl hbA (v := p1) (vpin _ _ (by decide +kernel)) dL_law_1226 e1 ?_
    refine V_aload_n 1227 B dL_law_1227 5 rfl ?_
    refine V_iload 1228 B dL_law_1228 1 rfl ?_
    refine V_iconst 1230 B (v := 2) dL_law_1230 (by decide +kernel) ?_
    refine V_iadd 1231 B (v := 2) dL_law_1231 (by decide +kernel) ?_
    refine V_sld 1232 B hX hbl hbA (v := p2) (vpin _ _ (by decide +kernel)) dL_law_1232 e2 ?_
    refine V_cvi 1233 B (st := []) (As := [.int p1, .int p2]) (fun sz => mX12_binding_1 l D Y (m0) (m1) (m2) (m3) (m4) (m5) (m6) (p1) (p2) sz) glV_RL_230 ⟨rfl, rfl⟩ ⟨(Nat.le_of_ble_eq_true rfl), (Nat.le_of_ble_eq_true rfl)⟩ ⟨(Nat.le_of_ble_eq_true rfl), (Nat.le_of_ble_eq_true rfl)⟩ [3, 0] rfl 13 0 rfl rfl rfl rfl (Nat.le_of_ble_eq_true rfl) rfl (fun _ _ _ => rfl) dL_law_1233 (fun r3 u3 w3 => ?_)
    rcases w3 with ⟨k4, rfl⟩ | ⟨k5, rfl⟩
    ·
      refine V_ws [(x0, oC 12 [.ref x1, .ref x30, .ref x59, .ref x88, .ref x117, .ref x126, .ref x127, .ref x129, .ref x132, .long 0]), (x1, oC 2 [.ref x2, .ref x4, .ref x6, .ref x8, .ref x10, .ref x12, .ref x14, .ref x16, .ref x18, .ref x20, .ref x27, .int 0]), (x12, oC 3 [.ref x13, .int 0]), (m0, oC 13 [.ref m1, .ref m2, .int 1, .ref m3, .ref m4, .int 0, .int 0, .int 0, .int (-1), .int 0, .int 0, .int 0, .long 0, .ref m5, .ref m6, .int 0, .int 0]), (m1, aI Y 3640 (clB 0 (fun _ => 0)))] rfl ?_
      refine V_istore 1236 B (lv2 := [(6, .int 0), (5, .int 1), (4, .int 0), (3, .ref o0), (2, .ref m0), (1, .ref x0), (0, .ref b)]) dL_law_1236 (by decide) rfl ?_
      refine V_aload_n 1238 B dL_law_1238 4 rfl ?_
      refine V_cvi 1239 B (st := []) (As := []) (fun sz => mX12_thrown_2 l D Y (m0) (m1) (m2) (m3) (m4) (m5) (m6) sz) glV_RL_182 ⟨rfl, rfl⟩ ⟨(Nat.le_of_ble_eq_true rfl), (Nat.le_of_ble_eq_true rfl)⟩ ⟨(Nat.le_of_ble_eq_true rfl), (Nat.le_of_ble_eq_true rfl)⟩ [3] rfl 13 0 rfl rfl rfl rfl (Nat.le_of_ble_eq_true rfl) rfl (fun _ _ _ => rfl) dL_law_1239 (fun r6 u6 w6 => ?_)
      obtain rfl := w6
      refine V_ws [(x0, oC 12 [.ref x1, .ref x30, .ref x59, .ref x88, .ref x117, .ref x126, .ref x127, .ref x129, .ref x132, .long 0]), (x1, oC 2 [.ref x2, .ref x4, .ref x6, .ref x8, .ref x10, .ref x12, .ref x14, .ref x16, .ref x18, .ref x20, .ref x27, .int 0]), (x12, oC 3 [.ref x13, .int 0]), (m0, oC 13 [.ref m1, .ref m2, .int 1, .ref m3, .ref m4, .int 0, .int 0, .int 0, .int (-1), .int 0, .int 0, .int 0, .long 0, .ref m5, .ref m6, .int 0, .int 0]), (m1, aI Y 3640 (clB 0 (fun _ => 0)))] rfl ?_
      refine V_iload 1242 B dL_law_1242 1 rfl ?_
      refine V_icmp_eq_t 1244 B 1249 dL_law_1244 (by decide) (by decide +kernel) ?_
      refine V_iload 1249 B dL_law_1249 1 rfl ?_
      refine V_if_ne_t 1251 B 1266 dL_law_1251 (by decide) (by decide +kernel) ?_
      refine V_goto 1266 B 3332 dL_law_1266 (by decide) ?_
      refine V_iinc 3332 B (v := 6) (lv2 := [(4, .int 6), (6, .int 0), (5, .int 1), (3, .ref o0), (2, .ref m0), (1, .ref x0), (0, .ref b)]) dL_law_3332 2 rfl (by decide +kernel) (by decide) rfl ?_
      refine V_goto 3335 B 23 dL_law_3335 (by decide) ?_
      refine V_iload 23 B dL_law_23 0 rfl ?_
      refine V_aload_n 25 B dL_law_25 6 rfl ?_
      refine V_slen 26 B hX hbl hbA (v := 6) (by decide +kernel) dL_law_26 ?_
      refine V_bipush 27 B (v := 6) dL_law_27 (by decide +kernel) ?_
      refine V_isub 29 B (v := 0) dL_law_29 (by decide +kernel) ?_
      refine V_icmp_gt_t 30 B 3338 dL_law_30 (by decide) (by decide +kernel) ?_
      exact law_end B (Nat.le_of_ble_eq_true rfl) (Nat.le_of_ble_eq_true rfl) dL_law_3338 dL_law_3339
    ·
      refine V_ws [(x0, oC 12 [.ref x1, .ref x30, .ref x59, .ref x88, .ref x117, .ref x126, .ref x127, .ref x129, .ref x132, .long 0]), (x1, oC 2 [.ref x2, .ref x4, .ref x6, .ref x8, .ref x10, .ref x12, .ref x14, .ref x16, .ref x18, .ref x20, .ref x27, .int 0]), (x12, oC 3 [.ref x13, .int 0]), (m0, oC 13 [.ref m1, .ref m2, .int 1, .ref m3, .ref m4, .int 0, .int 0, .int 0, .int (-1), .int 0, .int 0, .int 0, .long 0, .ref m5, .ref m6, .int 0, .int 0]), (m1, aI Y 3640 (clB 0 (fun _ => 0)))] rfl ?_
      exact (q_abs (b_gt k5 (n := 0) (by decide +kernel)) (b_lt k1 (n := (-1)) (by decide +kernel)) (by decide +kernel)).elim
  ·
    refine V_ws [(x0, oC 12 [.ref x1, .ref x30, .ref x59, .ref x88, .ref x117, .ref x126, .ref x127, .ref x129, .ref x132, .long 0]), (x1, oC 2 [.ref x2, .ref x4, .ref x6, .ref x8, .ref x10, .ref x12, .ref x14, .ref x16, .ref x18, .ref x20, .ref x27, .int 0]), (x12, oC 3 [.ref x13, .int 0]), (m0, oC 13 [.ref m1, .ref m2, .int 0, .ref m3, .ref m4, .int 0, .int 0, .int 0, .int (-1), .int 0, .int 0, .int 0, .long 0, .ref m5, .ref m6, .int 0, .int 0]), (m1, aI Y 3640 (clB 0 (fun _ => 0)))] rfl ?_
    refine V_istore 1218 B (lv2 := [(5, .int 1), (4, .int 0), (3, .ref o0), (2, .ref m0), (1, .ref x0), (0, .ref b)]) dL_law_1218 (by decide) rfl ?_
    refine V_aload_n 1220 B dL_law_1220 3 rfl ?_
    refine V_aload_n 1221 B dL_law_1221 5 rfl ?_
    refine V_iload 1222 B dL_law_1222 1 rfl ?_
    refine V_iconst 1224 B (v := 1) dL_law_1224 (by decide +kernel) ?_
    refine V_iadd 1225 B (v := 1) dL_law_1225 (by decide +kernel) ?_
    refine V_sld 1226 B hX hbl hbA (v := p1) (vpin _ _ (by decide +kernel)) dL_law_1226 e1 ?_
    refine V_aload_n 1227 B dL_law_1227 5 rfl ?_
    refine V_iload 1228 B dL_law_1228 1 rfl ?_
    refine V_iconst 1230 B (v := 2) dL_law_1230 (by decide +kernel) ?_
    refine V_iadd 1231 B (v := 2) dL_law_1231 (by decide +kernel) ?_
    refine V_sld 1232 B hX hbl hbA (v := p2) (vpin _ _ (by decide +kernel)) dL_law_1232 e2 ?_
    refine V_cvi 1233 B (st := []) (As := [.int p1, .int p2]) (fun sz => mX12_binding_1 l D Y (m0) (m1) (m2) (m3) (m4) (m5) (m6) (p1) (p2) sz) glV_RL_230 ⟨rfl, rfl⟩ ⟨(Nat.le_of_ble_eq_true rfl), (Nat.le_of_ble_eq_true rfl)⟩ ⟨(Nat.le_of_ble_eq_true rfl), (Nat.le_of_ble_eq_true rfl)⟩ [3, 0] rfl 13 0 rfl rfl rfl rfl (Nat.le_of_ble_eq_true rfl) rfl (fun _ _ _ => rfl) dL_law_1233 (fun r7 u7 w7 => ?_)
    rcases w7 with ⟨k8, rfl⟩ | ⟨k9, rfl⟩
    ·
      refine V_ws [(x0, oC 12 [.ref x1, .ref x30, .ref x59, .ref x88, .ref x117, .ref x126, .ref x127, .ref x129, .ref x132, .long 0]), (x1, oC 2 [.ref x2, .ref x4, .ref x6, .ref x8, .ref x10, .ref x12, .ref x14, .ref x16, .ref x18, .ref x20, .ref x27, .int 0]), (x12, oC 3 [.ref x13, .int 0]), (m0, oC 13 [.ref m1, .ref m2, .int 1, .ref m3, .ref m4, .int 0, .int 0, .int 0, .int (-1), .int 0, .int 0, .int 0, .long 0, .ref m5, .ref m6, .int 0, .int 0]), (m1, aI Y 3640 (clB 0 (fun _ => 0)))] rfl ?_
      exact (q_abs (b_nlt k2 (n := 0) (by decide +kernel)) (b_lt k8 (n := (-1)) (by decide +kernel)) (by decide +kernel)).elim
    ·
      refine V_ws [(x0, oC 12 [.ref x1, .ref x30, .ref x59, .ref x88, .ref x117, .ref x126, .ref x127, .ref x129, .ref x132, .long 0]), (x1, oC 2 [.ref x2, .ref x4, .ref x6, .ref x8, .ref x10, .ref x12, .ref x14, .ref x16, .ref x18, .ref x20, .ref x27, .int 0]), (x12, oC 3 [.ref x13, .int 0]), (m0, oC 13 [.ref m1, .ref m2, .int 1, .ref m3, .ref m4, .int 0, .int 0, .int 0, .int (-1), .int 0, .int 0, .int 0, .long 0, .ref m5, .ref m6, .int 0, .int 0]), (m1, aI Y 3640 (clB 0 (fun _ => 0)))] rfl ?_
      refine V_istore 1236 B (lv2 := [(6, .int 0), (5, .int 1), (4, .int 0), (3, .ref o0), (2, .ref m0), (1, .ref x0), (0, .ref b)]) dL_law_1236 (by decide) rfl ?_
      refine V_aload_n 1238 B dL_law_1238 4 rfl ?_
      refine V_cvi 1239 B (st := []) (As := []) (fun sz => mX12_thrown_2 l D Y (m0) (m1) (m2) (m3) (m4) (m5) (m6) sz) glV_RL_182 ⟨rfl, rfl⟩ ⟨(Nat.le_of_ble_eq_true rfl), (Nat.le_of_ble_eq_true rfl)⟩ ⟨(Nat.le_of_ble_eq_true rfl), (Nat.le_of_ble_eq_true rfl)⟩ [3] rfl 13 0 rfl rfl rfl rfl (Nat.le_of_ble_eq_true rfl) rfl (fun _ _ _ => rfl) dL_law_1239 (fun r10 u10 w10 => ?_)
      obtain rfl := w10
      refine V_ws [(x0, oC 12 [.ref x1, .ref x30, .ref x59, .ref x88, .ref x117, .ref x126, .ref x127, .ref x129, .ref x132, .long 0]), (x1, oC 2 [.ref x2, .ref x4, .ref x6, .ref x8, .ref x10, .ref x12, .ref x14, .ref x16, .ref x18, .ref x20, .ref x27, .int 0]), (x12, oC 3 [.ref x13, .int 0]), (m0, oC 13 [.ref m1, .ref m2, .int 1, .ref m3, .ref m4, .int 0, .int 0, .int 0, .int (-1), .int 0, .int 0, .int 0, .long 0, .ref m5, .ref m6, .int 0, .int 0]), (m1, aI Y 3640 (clB 0 (fun _ => 0)))] rfl ?_
      refine V_iload 1242 B dL_law_1242 1 rfl ?_
      refine V_icmp_eq_t 1244 B 1249 dL_law_1244 (by decide) (by decide +kernel) ?_
      refine V_iload 1249 B dL_law_1249 1 rfl ?_
      refine V_if_ne_t 1251 B 1266 dL_law_1251 (by decide) (by decide +kernel) ?_
      refine V_goto 1266 B 3332 dL_law_1266 (by decide) ?_
      refine V_iinc 3332 B (v := 6) (lv2 := [(4, .int 6), (6, .int 0), (5, .int 1), (3, .ref o0), (2, .ref m0), (1, .ref x0), (0, .ref b)]) dL_law_3332 2 rfl (by decide +kernel) (by decide) rfl ?_
      refine V_goto 3335 B 23 dL_law_3335 (by decide) ?_
      refine V_iload 23 B dL_law_23 0 rfl ?_
      refine V_aload_n 25 B dL_law_25 6 rfl ?_
      refine V_slen 26 B hX hbl hbA (v := 6) (by decide +kernel) dL_law_26 ?_
      refine V_bipush 27 B (v := 6) dL_law_27 (by decide +kernel) ?_
      refine V_isub 29 B (v := 0) dL_law_29 (by decide +kernel) ?_
      refine V_icmp_gt_t 30 B 3338 dL_law_30 (by decide) (by decide +kernel) ?_
      exact law_end B (Nat.le_of_ble_eq_true rfl) (Nat.le_of_ble_eq_true rfl) dL_law_3338 dL_law_3339
theorem dL_bindingStroke_0 : decode cL_bindingStroke 0 = .ok (.aload_n 3, 1) := by decide +kernel
theorem dL_bindingStroke_1 : decode cL_bindingStroke 1 = .ok (.iconst 0, 1) := by decide +kernel
theorem dL_bindingStroke_2 : decode cL_bindingStroke 2 = .ok (.aload_n 0, 1) := by decide +kernel
theorem dL_bindingStroke_3 : decode cL_bindingStroke 3 = .ok (.iload_n 1, 1) := by decide +kernel
theorem dL_bindingStroke_4 : decode cL_bindingStroke 4 = .ok (.iload_n 2, 1) := by decide +kernel
theorem dL_bindingStroke_5 : decode cL_bindingStroke 5 = .ok (.invokevirtual 51, 3) := by decide +kernel
theorem glV_RL_51 : GLV RL 51 yX11_bindingStroke RX11 cX11_bindingStroke 3 (some .int) 2 := ⟨⟨(mT6 11 rfl rfl), (mT6 12 rfl rfl), (mT6 13 rfl rfl), (mT1 1 rfl rfl), (mT6 14 rfl rfl)⟩, by decide +kernel⟩
theorem dL_bindingStroke_13 : decode cL_bindingStroke 13 = .ok (.astore 4, 2) := by decide +kernel
theorem dL_bindingStroke_15 : decode cL_bindingStroke 15 = .ok (.iconst 1, 1) := by decide +kernel
theorem dL_bindingStroke_16 : decode cL_bindingStroke 16 = .ok (.ireturn, 1) := by decide +kernel
set_option maxRecDepth 100000 in
set_option maxHeartbeats 4000000 in
theorem mL_bindingStroke_1 (l : Launch) (hl9 : l.stackTraces = false) (D : va_G) (Y : Nat → ClassId) (h0 : Nat) (g0 : Nat) (h1 : Nat) (g1 : Nat) (g2 : Nat) (g3 : Nat) (g4 : Nat) (g5 : Nat) (g6 : Nat) (g7 : Nat) (g8 : Nat) (g9 : Nat) (g10 : Nat) (g11 : Nat) (g12 : Nat) (g13 : Nat) (h2 : Nat) (g14 : Nat) (g15 : Nat) (g16 : Nat) (g17 : Nat) (g18 : Nat) (g19 : Nat) (p0 : Int32) (p1 : Int32) (sz : Nat) : Met l yL_bindingStroke (Cond.codeWith yL_bindingStroke cL_bindingStroke 5 (some .int) [(0, 10, 13, 18)] :: lw_good) (mkR 8 1 6 125) (PreX D Y [.ref h0, .int p0, .int p1, .ref g0] [(h0, oC 12 [.ref h1, .ref g1, .ref g2, .ref g3, .ref g4, .ref g5, .ref g6, .ref g7, .ref g8, .long 0]), (h1, oC 2 [.ref g9, .ref g10, .ref g11, .ref g12, .ref g13, .ref h2, .ref g14, .ref g15, .ref g16, .ref g17, .ref g18, .int 0]), (h2, oC 3 [.ref g19, .int 0])] sz) (QI D (fun (r : Int32) (u : Unit) => (p0 < 0 ∧ 1 = r) ∨ (¬ p0 < 0 ∧ 1 = r)) (fun (_ : Unit) => [(h0, oC 12 [.ref h1, .ref g1, .ref g2, .ref g3, .ref g4, .ref g5, .ref g6, .ref g7, .ref g8, .long 0]), (h1, oC 2 [.ref g9, .ref g10, .ref g11, .ref g12, .ref g13, .ref h2, .ref g14, .ref g15, .ref g16, .ref g17, .ref g18, .int 0]), (h2, oC 3 [.ref g19, .int 0])]) (va_A [(h0, oC 12 [.ref h1, .ref g1, .ref g2, .ref g3, .ref g4, .ref g5, .ref g6, .ref g7, .ref g8, .long 0]), (h1, oC 2 [.ref g9, .ref g10, .ref g11, .ref g12, .ref g13, .ref h2, .ref g14, .ref g15, .ref g16, .ref g17, .ref g18, .int 0]), (h2, oC 3 [.ref g19, .int 0])] sz)) 1 6 (va_A [(h0, oC 12 [.ref h1, .ref g1, .ref g2, .ref g3, .ref g4, .ref g5, .ref g6, .ref g7, .ref g8, .long 0]), (h1, oC 2 [.ref g9, .ref g10, .ref g11, .ref g12, .ref g13, .ref h2, .ref g14, .ref g15, .ref g16, .ref g17, .ref g18, .int 0]), (h2, oC 3 [.ref g19, .int 0])] sz) :=
  metH_of (by decide +kernel) (Nat.le_of_ble_eq_true rfl) (fun p e s m args below meth c B EB htab hsz => by
    have B : VB p s m args meth c D Y (va_A [(h0, oC 12 [.ref h1, .ref g1, .ref g2, .ref g3, .ref g4, .ref g5, .ref g6, .ref g7, .ref g8, .long 0]), (h1, oC 2 [.ref g9, .ref g10, .ref g11, .ref g12, .ref g13, .ref h2, .ref g14, .ref g15, .ref g16, .ref g17, .ref g18, .int 0]), (h2, oC 3 [.ref g19, .int 0])] sz) cL_bindingStroke 5 RL (some .int) := B
    refine V_aload_n 0 B dL_bindingStroke_0 3 rfl ?_
    refine V_iconst 1 B (v := 0) dL_bindingStroke_1 (by decide +kernel) ?_
    refine V_aload_n 2 B dL_bindingStroke_2 0 rfl ?_
    refine V_iload_n 3 B dL_bindingStroke_3 1 rfl ?_
    refine V_iload_n 4 B dL_bindingStroke_4 2 rfl ?_
    refine V_xvi 5 B EB (st := [.int 0, .ref g0]) (As := [.int p0, .int p1]) (fun sz => mX11_bindingStroke_1 l hl9 D Y (h0) (h1) (g1) (g2) (g3) (g4) (g5) (g6) (g7) (g8) (g9) (g10) (g11) (g12) (g13) (h2) (g14) (g15) (g16) (g17) (g18) (g19) (p0) (p1) sz) glV_RL_51 ⟨rfl, rfl⟩ ⟨(Nat.le_of_ble_eq_true rfl), (Nat.le_of_ble_eq_true rfl)⟩ ⟨(Nat.le_of_ble_eq_true rfl), (Nat.le_of_ble_eq_true rfl)⟩ [0, 0, 0] rfl 12 0 rfl rfl rfl rfl (Nat.le_of_ble_eq_true rfl) rfl (fun _ _ _ => rfl) (fun _ _ _ => rfl) dL_bindingStroke_5 (fun E u0 w0 => ?_) (fun r0 u0 w0 => ?_)
    ·
      rcases w0 with ⟨rfl, k1⟩ | ⟨rfl, k2⟩
      ·
        refine VX_catch 5 B htab [] (0, 10, 13, 18) [] rfl "java/lang/IndexOutOfBoundsException" (fun z hz => nomatch hz) rfl (by decide) (mT5 103 rfl rfl) (EB.2.2.2.1 _ (List.mem_of_getElem? (i := 1) rfl)) 13 rfl (fun q9 => ?_)
        refine V_ws [(h0, oC 12 [.ref h1, .ref g1, .ref g2, .ref g3, .ref g4, .ref g5, .ref g6, .ref g7, .ref g8, .long 0]), (h1, oC 2 [.ref g9, .ref g10, .ref g11, .ref g12, .ref g13, .ref h2, .ref g14, .ref g15, .ref g16, .ref g17, .ref g18, .int 0]), (h2, oC 3 [.ref g19, .int 0])] rfl ?_
        refine V_astore 13 B (lv2 := [(4, .ref q9), (0, .ref h0), (1, .int p0), (2, .int p1), (3, .ref g0)]) dL_bindingStroke_13 (by decide) rfl ?_
        refine V_iconst 15 B (v := 1) dL_bindingStroke_15 (by decide +kernel) ?_
        exact V_iret 16 B dL_bindingStroke_16 () (Or.inl ⟨k1, rfl⟩) rfl
      ·
        refine VX_catch 5 B htab [] (0, 10, 13, 18) [] rfl "java/lang/IndexOutOfBoundsException" (fun z hz => nomatch hz) rfl (by decide) (mT5 103 rfl rfl) (EB.2.2.2.1 _ (List.mem_of_getElem? (i := 1) rfl)) 13 rfl (fun q9 => ?_)
        refine V_ws [(h0, oC 12 [.ref h1, .ref g1, .ref g2, .ref g3, .ref g4, .ref g5, .ref g6, .ref g7, .ref g8, .long 0]), (h1, oC 2 [.ref g9, .ref g10, .ref g11, .ref g12, .ref g13, .ref h2, .ref g14, .ref g15, .ref g16, .ref g17, .ref g18, .int 0]), (h2, oC 3 [.ref g19, .int 0])] rfl ?_
        refine V_astore 13 B (lv2 := [(4, .ref q9), (0, .ref h0), (1, .int p0), (2, .int p1), (3, .ref g0)]) dL_bindingStroke_13 (by decide) rfl ?_
        refine V_iconst 15 B (v := 1) dL_bindingStroke_15 (by decide +kernel) ?_
        exact V_iret 16 B dL_bindingStroke_16 () (Or.inr ⟨k2, rfl⟩) rfl
    ·
      exact w0.elim)
theorem dL_law_1269 : decode cL_law 1269 = .ok (.aload_n 1, 1) := by decide +kernel
theorem dL_law_1270 : decode cL_law 1270 = .ok (.aload_n 0, 1) := by decide +kernel
theorem dL_law_1271 : decode cL_law 1271 = .ok (.iload 4, 2) := by decide +kernel
theorem dL_law_1273 : decode cL_law 1273 = .ok (.iconst 1, 1) := by decide +kernel
theorem dL_law_1274 : decode cL_law 1274 = .ok (.iadd, 1) := by decide +kernel
theorem dL_law_1275 : decode cL_law 1275 = .ok (.iaload, 1) := by decide +kernel
theorem dL_law_1276 : decode cL_law 1276 = .ok (.aload_n 0, 1) := by decide +kernel
theorem dL_law_1277 : decode cL_law 1277 = .ok (.iload 4, 2) := by decide +kernel
theorem dL_law_1279 : decode cL_law 1279 = .ok (.iconst 2, 1) := by decide +kernel
theorem dL_law_1280 : decode cL_law 1280 = .ok (.iadd, 1) := by decide +kernel
theorem dL_law_1281 : decode cL_law 1281 = .ok (.iaload, 1) := by decide +kernel
theorem dL_law_1282 : decode cL_law 1282 = .ok (.aload_n 3, 1) := by decide +kernel
theorem dL_law_1283 : decode cL_law 1283 = .ok (.invokestatic 231, 3) := by decide +kernel
theorem glH_RL_231 : GLH RL 231 yL_bindingStroke cL_bindingStroke 5 (some .int) [(0, 10, 13, 18)] 4 := ⟨⟨(mT6 8 rfl rfl), (mT6 9 rfl rfl), (mT1 0 rfl rfl), (mT6 10 rfl rfl)⟩, by decide +kernel⟩
theorem dL_law_1286 : decode cL_law 1286 = .ok (.istore 5, 2) := by decide +kernel
theorem dL_law_1288 : decode cL_law 1288 = .ok (.aload_n 2, 1) := by decide +kernel
theorem dL_law_1289 : decode cL_law 1289 = .ok (.aload_n 0, 1) := by decide +kernel
theorem dL_law_1290 : decode cL_law 1290 = .ok (.iload 4, 2) := by decide +kernel
theorem dL_law_1292 : decode cL_law 1292 = .ok (.iconst 1, 1) := by decide +kernel
theorem dL_law_1293 : decode cL_law 1293 = .ok (.iadd, 1) := by decide +kernel
theorem dL_law_1294 : decode cL_law 1294 = .ok (.iaload, 1) := by decide +kernel
theorem dL_law_1295 : decode cL_law 1295 = .ok (.aload_n 0, 1) := by decide +kernel
theorem dL_law_1296 : decode cL_law 1296 = .ok (.iload 4, 2) := by decide +kernel
theorem dL_law_1298 : decode cL_law 1298 = .ok (.iconst 2, 1) := by decide +kernel
theorem dL_law_1299 : decode cL_law 1299 = .ok (.iadd, 1) := by decide +kernel
theorem dL_law_1300 : decode cL_law 1300 = .ok (.iaload, 1) := by decide +kernel
theorem dL_law_1301 : decode cL_law 1301 = .ok (.invokevirtual 233, 3) := by decide +kernel
theorem glV_RL_233 : GLV RL 233 yX12_bindingStroke RX12 cX12_bindingStroke 3 (some .int) 2 := ⟨⟨(mT8 148 rfl rfl), (mT8 149 rfl rfl), (mT8 150 rfl rfl), (mT1 13 rfl rfl), (mT8 151 rfl rfl)⟩, by decide +kernel⟩
theorem dL_law_1304 : decode cL_law 1304 = .ok (.istore 6, 2) := by decide +kernel
theorem dL_law_1306 : decode cL_law 1306 = .ok (.aload_n 2, 1) := by decide +kernel
theorem dL_law_1307 : decode cL_law 1307 = .ok (.invokevirtual 182, 3) := by decide +kernel
theorem dL_law_1310 : decode cL_law 1310 = .ok (.iload 5, 2) := by decide +kernel
theorem dL_law_1312 : decode cL_law 1312 = .ok (.if_icmp .eq 5, 3) := by decide +kernel
theorem dL_law_1317 : decode cL_law 1317 = .ok (.iload 5, 2) := by decide +kernel
theorem dL_law_1319 : decode cL_law 1319 = .ok (.ifCond .ne 15, 3) := by decide +kernel
theorem dL_law_1334 : decode cL_law 1334 = .ok (.goto 1998, 3) := by decide +kernel
set_option maxRecDepth 100000 in
set_option maxHeartbeats 4000000 in
theorem law_c21 {p : Program} {l : Launch} {e : Env} {s : State} {m : MethodId} {below : List Frame} {meth : Method} {c : Code} {b : Nat} {xs : Nat → Int32} {D : va_G} {Y : Nat → ClassId} (B : VB p s m #[Value.ref b] meth c D Y (fun q => s.heap.size ≤ q) cL_law 8 RL ret) (EB : EX (fun q => s.heap.size ≤ q) s s.heap) (hl9 : l.stackTraces = false) (hX : va_X b 6 xs s s.heap) (hbl : b < s.heap.size) (hbA : ¬ (fun q => s.heap.size ≤ q) b) (x0 x1 x30 x59 x88 x117 x126 x127 x129 x132 x2 x4 x6 x8 x10 x12 x14 x16 x18 x20 x27 x13 m0 m1 m2 m3 m4 m5 m6 o0 : Nat) (p1 p2 : Int32) (e1 : xs 1 = p1) (e2 : xs 2 = p2) : V p l e room_1 s m #[Value.ref b] below meth c D (fun q => s.heap.size ≤ q) 8 149 10574 (lw_Z below #[Value.ref b] s) 1269 [(4, .int 0), (3, .ref o0), (2, .ref m0), (1, .ref x0), (0, .ref b)] [] [(x0, oC 12 [.ref x1, .ref x30, .ref x59, .ref x88, .ref x117, .ref x126, .ref x127, .ref x129, .ref x132, .long 0]), (x1, oC 2 [.ref x2, .ref x4, .ref x6, .ref x8, .ref x10, .ref x12, .ref x14, .ref x16, .ref x18, .ref x20, .ref x27, .int 0]), (x12, oC 3 [.ref x13, .int 0]), (m0, oC 13 [.ref m1, .ref m2, .int 0, .ref m3, .ref m4, .int 0, .int 0, .int 0, .int (-1), .int 0, .int 0, .int 0, .long 0, .ref m5, .ref m6, .int 0, .int 0]), (m1, aI Y 3640 (clB 0 (fun _ => 0)))] := by
  refine V_aload_n 1269 B dL_law_1269 3 rfl ?_
  refine V_aload_n 1270 B dL_law_1270 4 rfl ?_
  refine V_iload 1271 B dL_law_1271 0 rfl ?_
  refine V_iconst 1273 B (v := 1) dL_law_1273 (by decide +kernel) ?_
  refine V_iadd 1274 B (v := 1) dL_law_1274 (by decide +kernel) ?_
  refine V_sld 1275 B hX hbl hbA (v := p1) (vpin _ _ (by decide +kernel)) dL_law_1275 e1 ?_
  refine V_aload_n 1276 B dL_law_1276 4 rfl ?_
  refine V_iload 1277 B dL_law_1277 0 rfl ?_
  refine V_iconst 1279 B (v := 2) dL_law_1279 (by decide +kernel) ?_
  refine V_iadd 1280 B (v := 2) dL_law_1280 (by decide +kernel) ?_
  refine V_sld 1281 B hX hbl hbA (v := p2) (vpin _ _ (by decide +kernel)) dL_law_1281 e2 ?_
  refine V_aload_n 1282 B dL_law_1282 1 rfl ?_
  refine V_hsi 1283 B EB (st := []) (As := [.ref x0, .int p1, .int p2, .ref o0]) (fun sz => mL_bindingStroke_1 l hl9 D Y (x0) (o0) (x1) (x30) (x59) (x88) (x117) (x126) (x127) (x129) (x132) (x2) (x4) (x6) (x8) (x10) (x12) (x14) (x16) (x18) (x20) (x27) (x13) (p1) (p2) sz) glH_RL_231 ⟨rfl, rfl⟩ ⟨(Nat.le_of_ble_eq_true rfl), (Nat.le_of_ble_eq_true rfl)⟩ ⟨(Nat.le_of_ble_eq_true rfl), (Nat.le_of_ble_eq_true rfl)⟩ [0, 0, 0] rfl rfl (Nat.le_of_ble_eq_true rfl) rfl (fun _ _ _ => rfl) dL_law_1283 (fun r0 u0 w0 => ?_)
  rcases w0 with ⟨k1, rfl⟩ | ⟨k2, rfl⟩
  ·
    refine V_ws [(x0, oC 12 [.ref x1, .ref x30, .ref x59, .ref x88, .ref x117, .ref x126, .ref x127, .ref x129, .ref x132, .long 0]), (x1, oC 2 [.ref x2, .ref x4, .ref x6, .ref x8, .ref x10, .ref x12, .ref x14, .ref x16, .ref x18, .ref x20, .ref x27, .int 0]), (x12, oC 3 [.ref x13, .int 0]), (m0, oC 13 [.ref m1, .ref m2, .int 0, .ref m3, .ref m4, .int 0, .int 0, .int 0, .int (-1), .int 0, .int 0, .int 0, .long 0, .ref m5, .ref m6, .int 0, .int 0]), (m1, aI Y 3640 (clB 0 (fun _ => 0)))] rfl ?_
    refine V_istore 1286 B (lv2 := [(5, .int 1), (4, .int 0), (3, .ref o0), (2, .ref m0), (1, .ref x0), (0, .ref b)]) dL_law_1286 (by decide) rfl ?_
    refine V_aload_n 1288 B dL_law_1288 3 rfl ?_
    refine V_aload_n 1289 B dL_law_1289 5 rfl ?_
    refine V_iload 1290 B dL_law_1290 1 rfl ?_
    refine V_iconst 1292 B (v := 1) dL_law_1292 (by decide +kernel) ?_
    refine V_iadd 1293 B (v := 1) dL_law_1293 (by decide +kernel) ?_
    refine V_sld 1294 B hX hbl hbA (v := p1) (vpin _ _ (by decide +kernel)) dL_law_1294 e1 ?_
    refine V_aload_n 1295 B dL_law_1295 5 rfl ?_
    refine V_iload 1296 B dL_law_1296 1 rfl ?_
    refine V_iconst 1298 B (v := 2) dL_law_1298 (by decide +kernel) ?_
    refine V_iadd 1299 B (v := 2) dL_law_1299 (by decide +kernel) ?_
    refine V_sld 1300 B hX hbl hbA (v := p2) (vpin _ _ (by decide +kernel)) dL_law_1300 e2 ?_
    refine V_cvi 1301 B (st := []) (As := [.int p1, .int p2]) (fun sz => mX12_bindingStroke_1 l D Y (m0) (m1) (m2) (m3) (m4) (m5) (m6) (p1) (p2) sz) glV_RL_233 ⟨rfl, rfl⟩ ⟨(Nat.le_of_ble_eq_true rfl), (Nat.le_of_ble_eq_true rfl)⟩ ⟨(Nat.le_of_ble_eq_true rfl), (Nat.le_of_ble_eq_true rfl)⟩ [3, 0] rfl 13 0 rfl rfl rfl rfl (Nat.le_of_ble_eq_true rfl) rfl (fun _ _ _ => rfl) dL_law_1301 (fun r3 u3 w3 => ?_)
    rcases w3 with ⟨k4, rfl⟩ | ⟨k5, rfl⟩
    ·
      refine V_ws [(x0, oC 12 [.ref x1, .ref x30, .ref x59, .ref x88, .ref x117, .ref x126, .ref x127, .ref x129, .ref x132, .long 0]), (x1, oC 2 [.ref x2, .ref x4, .ref x6, .ref x8, .ref x10, .ref x12, .ref x14, .ref x16, .ref x18, .ref x20, .ref x27, .int 0]), (x12, oC 3 [.ref x13, .int 0]), (m0, oC 13 [.ref m1, .ref m2, .int 1, .ref m3, .ref m4, .int 0, .int 0, .int 0, .int (-1), .int 0, .int 0, .int 0, .long 0, .ref m5, .ref m6, .int 0, .int 0]), (m1, aI Y 3640 (clB 0 (fun _ => 0)))] rfl ?_
      refine V_istore 1304 B (lv2 := [(6, .int 0), (5, .int 1), (4, .int 0), (3, .ref o0), (2, .ref m0), (1, .ref x0), (0, .ref b)]) dL_law_1304 (by decide) rfl ?_
      refine V_aload_n 1306 B dL_law_1306 4 rfl ?_
      refine V_cvi 1307 B (st := []) (As := []) (fun sz => mX12_thrown_2 l D Y (m0) (m1) (m2) (m3) (m4) (m5) (m6) sz) glV_RL_182 ⟨rfl, rfl⟩ ⟨(Nat.le_of_ble_eq_true rfl), (Nat.le_of_ble_eq_true rfl)⟩ ⟨(Nat.le_of_ble_eq_true rfl), (Nat.le_of_ble_eq_true rfl)⟩ [3] rfl 13 0 rfl rfl rfl rfl (Nat.le_of_ble_eq_true rfl) rfl (fun _ _ _ => rfl) dL_law_1307 (fun r6 u6 w6 => ?_)
      obtain rfl := w6
      refine V_ws [(x0, oC 12 [.ref x1, .ref x30, .ref x59, .ref x88, .ref x117, .ref x126, .ref x127, .ref x129, .ref x132, .long 0]), (x1, oC 2 [.ref x2, .ref x4, .ref x6, .ref x8, .ref x10, .ref x12, .ref x14, .ref x16, .ref x18, .ref x20, .ref x27, .int 0]), (x12, oC 3 [.ref x13, .int 0]), (m0, oC 13 [.ref m1, .ref m2, .int 1, .ref m3, .ref m4, .int 0, .int 0, .int 0, .int (-1), .int 0, .int 0, .int 0, .long 0, .ref m5, .ref m6, .int 0, .int 0]), (m1, aI Y 3640 (clB 0 (fun _ => 0)))] rfl ?_
      refine V_iload 1310 B dL_law_1310 1 rfl ?_
      refine V_icmp_eq_t 1312 B 1317 dL_law_1312 (by decide) (by decide +kernel) ?_
      refine V_iload 1317 B dL_law_1317 1 rfl ?_
      refine V_if_ne_t 1319 B 1334 dL_law_1319 (by decide) (by decide +kernel) ?_
      refine V_goto 1334 B 3332 dL_law_1334 (by decide) ?_
      refine V_iinc 3332 B (v := 6) (lv2 := [(4, .int 6), (6, .int 0), (5, .int 1), (3, .ref o0), (2, .ref m0), (1, .ref x0), (0, .ref b)]) dL_law_3332 2 rfl (by decide +kernel) (by decide) rfl ?_
      refine V_goto 3335 B 23 dL_law_3335 (by decide) ?_
      refine V_iload 23 B dL_law_23 0 rfl ?_
      refine V_aload_n 25 B dL_law_25 6 rfl ?_
      refine V_slen 26 B hX hbl hbA (v := 6) (by decide +kernel) dL_law_26 ?_
      refine V_bipush 27 B (v := 6) dL_law_27 (by decide +kernel) ?_
      refine V_isub 29 B (v := 0) dL_law_29 (by decide +kernel) ?_
      refine V_icmp_gt_t 30 B 3338 dL_law_30 (by decide) (by decide +kernel) ?_
      exact law_end B (Nat.le_of_ble_eq_true rfl) (Nat.le_of_ble_eq_true rfl) dL_law_3338 dL_law_3339
    ·
      refine V_ws [(x0, oC 12 [.ref x1, .ref x30, .ref x59, .ref x88, .ref x117, .ref x126, .ref x127, .ref x129, .ref x132, .long 0]), (x1, oC 2 [.ref x2, .ref x4, .ref x6, .ref x8, .ref x10, .ref x12, .ref x14, .ref x16, .ref x18, .ref x20, .ref x27, .int 0]), (x12, oC 3 [.ref x13, .int 0]), (m0, oC 13 [.ref m1, .ref m2, .int 1, .ref m3, .ref m4, .int 0, .int 0, .int 0, .int (-1), .int 0, .int 0, .int 0, .long 0, .ref m5, .ref m6, .int 0, .int 0]), (m1, aI Y 3640 (clB 0 (fun _ => 0)))] rfl ?_
      exact (q_abs (b_gt k5 (n := 0) (by decide +kernel)) (b_lt k1 (n := (-1)) (by decide +kernel)) (by decide +kernel)).elim
  ·
    refine V_ws [(x0, oC 12 [.ref x1, .ref x30, .ref x59, .ref x88, .ref x117, .ref x126, .ref x127, .ref x129, .ref x132, .long 0]), (x1, oC 2 [.ref x2, .ref x4, .ref x6, .ref x8, .ref x10, .ref x12, .ref x14, .ref x16, .ref x18, .ref x20, .ref x27, .int 0]), (x12, oC 3 [.ref x13, .int 0]), (m0, oC 13 [.ref m1, .ref m2, .int 0, .ref m3, .ref m4, .int 0, .int 0, .int 0, .int (-1), .int 0, .int 0, .int 0, .long 0, .ref m5, .ref m6, .int 0, .int 0]), (m1, aI Y 3640 (clB 0 (fun _ => 0)))] rfl ?_
    refine V_istore 1286 B (lv2 := [(5, .int 1), (4, .int 0), (3, .ref o0), (2, .ref m0), (1, .ref x0), (0, .ref b)]) dL_law_1286 (by decide) rfl ?_
    refine V_aload_n 1288 B dL_law_1288 3 rfl ?_
    refine V_aload_n 1289 B dL_law_1289 5 rfl ?_
    refine V_iload 1290 B dL_law_1290 1 rfl ?_
    refine V_iconst 1292 B (v := 1) dL_law_1292 (by decide +kernel) ?_
    refine V_iadd 1293 B (v := 1) dL_law_1293 (by decide +kernel) ?_
    refine V_sld 1294 B hX hbl hbA (v := p1) (vpin _ _ (by decide +kernel)) dL_law_1294 e1 ?_
    refine V_aload_n 1295 B dL_law_1295 5 rfl ?_
    refine V_iload 1296 B dL_law_1296 1 rfl ?_
    refine V_iconst 1298 B (v := 2) dL_law_1298 (by decide +kernel) ?_
    refine V_iadd 1299 B (v := 2) dL_law_1299 (by decide +kernel) ?_
    refine V_sld 1300 B hX hbl hbA (v := p2) (vpin _ _ (by decide +kernel)) dL_law_1300 e2 ?_
    refine V_cvi 1301 B (st := []) (As := [.int p1, .int p2]) (fun sz => mX12_bindingStroke_1 l D Y (m0) (m1) (m2) (m3) (m4) (m5) (m6) (p1) (p2) sz) glV_RL_233 ⟨rfl, rfl⟩ ⟨(Nat.le_of_ble_eq_true rfl), (Nat.le_of_ble_eq_true rfl)⟩ ⟨(Nat.le_of_ble_eq_true rfl), (Nat.le_of_ble_eq_true rfl)⟩ [3, 0] rfl 13 0 rfl rfl rfl rfl (Nat.le_of_ble_eq_true rfl) rfl (fun _ _ _ => rfl) dL_law_1301 (fun r7 u7 w7 => ?_)
    rcases w7 with ⟨k8, rfl⟩ | ⟨k9, rfl⟩
    ·
      refine V_ws [(x0, oC 12 [.ref x1, .ref x30, .ref x59, .ref x88, .ref x117, .ref x126, .ref x127, .ref x129, .ref x132, .long 0]), (x1, oC 2 [.ref x2, .ref x4, .ref x6, .ref x8, .ref x10, .ref x12, .ref x14, .ref x16, .ref x18, .ref x20, .ref x27, .int 0]), (x12, oC 3 [.ref x13, .int 0]), (m0, oC 13 [.ref m1, .ref m2, .int 1, .ref m3, .ref m4, .int 0, .int 0, .int 0, .int (-1), .int 0, .int 0, .int 0, .long 0, .ref m5, .ref m6, .int 0, .int 0]), (m1, aI Y 3640 (clB 0 (fun _ => 0)))] rfl ?_
      exact (q_abs (b_nlt k2 (n := 0) (by decide +kernel)) (b_lt k8 (n := (-1)) (by decide +kernel)) (by decide +kernel)).elim
    ·
      refine V_ws [(x0, oC 12 [.ref x1, .ref x30, .ref x59, .ref x88, .ref x117, .ref x126, .ref x127, .ref x129, .ref x132, .long 0]), (x1, oC 2 [.ref x2, .ref x4, .ref x6, .ref x8, .ref x10, .ref x12, .ref x14, .ref x16, .ref x18, .ref x20, .ref x27, .int 0]), (x12, oC 3 [.ref x13, .int 0]), (m0, oC 13 [.ref m1, .ref m2, .int 1, .ref m3, .ref m4, .int 0, .int 0, .int 0, .int (-1), .int 0, .int 0, .int 0, .long 0, .ref m5, .ref m6, .int 0, .int 0]), (m1, aI Y 3640 (clB 0 (fun _ => 0)))] rfl ?_
      refine V_istore 1304 B (lv2 := [(6, .int 0), (5, .int 1), (4, .int 0), (3, .ref o0), (2, .ref m0), (1, .ref x0), (0, .ref b)]) dL_law_1304 (by decide) rfl ?_
      refine V_aload_n 1306 B dL_law_1306 4 rfl ?_
      refine V_cvi 1307 B (st := []) (As := []) (fun sz => mX12_thrown_2 l D Y (m0) (m1) (m2) (m3) (m4) (m5) (m6) sz) glV_RL_182 ⟨rfl, rfl⟩ ⟨(Nat.le_of_ble_eq_true rfl), (Nat.le_of_ble_eq_true rfl)⟩ ⟨(Nat.le_of_ble_eq_true rfl), (Nat.le_of_ble_eq_true rfl)⟩ [3] rfl 13 0 rfl rfl rfl rfl (Nat.le_of_ble_eq_true rfl) rfl (fun _ _ _ => rfl) dL_law_1307 (fun r10 u10 w10 => ?_)
      obtain rfl := w10
      refine V_ws [(x0, oC 12 [.ref x1, .ref x30, .ref x59, .ref x88, .ref x117, .ref x126, .ref x127, .ref x129, .ref x132, .long 0]), (x1, oC 2 [.ref x2, .ref x4, .ref x6, .ref x8, .ref x10, .ref x12, .ref x14, .ref x16, .ref x18, .ref x20, .ref x27, .int 0]), (x12, oC 3 [.ref x13, .int 0]), (m0, oC 13 [.ref m1, .ref m2, .int 1, .ref m3, .ref m4, .int 0, .int 0, .int 0, .int (-1), .int 0, .int 0, .int 0, .long 0, .ref m5, .ref m6, .int 0, .int 0]), (m1, aI Y 3640 (clB 0 (fun _ => 0)))] rfl ?_
      refine V_iload 1310 B dL_law_1310 1 rfl ?_
      refine V_icmp_eq_t 1312 B 1317 dL_law_1312 (by decide) (by decide +kernel) ?_
      refine V_iload 1317 B dL_law_1317 1 rfl ?_
      refine V_if_ne_t 1319 B 1334 dL_law_1319 (by decide) (by decide +kernel) ?_
      refine V_goto 1334 B 3332 dL_law_1334 (by decide) ?_
      refine V_iinc 3332 B (v := 6) (lv2 := [(4, .int 6), (6, .int 0), (5, .int 1), (3, .ref o0), (2, .ref m0), (1, .ref x0), (0, .ref b)]) dL_law_3332 2 rfl (by decide +kernel) (by decide) rfl ?_
      refine V_goto 3335 B 23 dL_law_3335 (by decide) ?_
      refine V_iload 23 B dL_law_23 0 rfl ?_
      refine V_aload_n 25 B dL_law_25 6 rfl ?_
      refine V_slen 26 B hX hbl hbA (v := 6) (by decide +kernel) dL_law_26 ?_
      refine V_bipush 27 B (v := 6) dL_law_27 (by decide +kernel) ?_
      refine V_isub 29 B (v := 0) dL_law_29 (by decide +kernel) ?_
      refine V_icmp_gt_t 30 B 3338 dL_law_30 (by decide) (by decide +kernel) ?_
      exact law_end B (Nat.le_of_ble_eq_true rfl) (Nat.le_of_ble_eq_true rfl) dL_law_3338 dL_law_3339
theorem dL_clashing_0 : decode cL_clashing 0 = .ok (.aload_n 2, 1) := by decide +kernel
theorem dL_clashing_1 : decode cL_clashing 1 = .ok (.iconst 0, 1) := by decide +kernel
theorem dL_clashing_2 : decode cL_clashing 2 = .ok (.aload_n 0, 1) := by decide +kernel
theorem dL_clashing_3 : decode cL_clashing 3 = .ok (.iload_n 1, 1) := by decide +kernel
theorem dL_clashing_4 : decode cL_clashing 4 = .ok (.invokevirtual 54, 3) := by decide +kernel
theorem glV_RL_54 : GLV RL 54 yX11_clashing RX11 cX11_clashing 2 (some .int) 1 := ⟨⟨(mT6 18 rfl rfl), (mT6 19 rfl rfl), (mT6 20 rfl rfl), (mT1 1 rfl rfl), (mT6 21 rfl rfl)⟩, by decide +kernel⟩
theorem dL_clashing_12 : decode cL_clashing 12 = .ok (.astore_n 3, 1) := by decide +kernel
theorem dL_clashing_13 : decode cL_clashing 13 = .ok (.iconst 1, 1) := by decide +kernel
theorem dL_clashing_14 : decode cL_clashing 14 = .ok (.ireturn, 1) := by decide +kernel
theorem dL_clashing_7 : decode cL_clashing 7 = .ok (.i2l, 1) := by decide +kernel
theorem dL_clashing_8 : decode cL_clashing 8 = .ok (.lastore, 1) := by decide +kernel
theorem dL_clashing_9 : decode cL_clashing 9 = .ok (.goto 6, 3) := by decide +kernel
theorem dL_clashing_15 : decode cL_clashing 15 = .ok (.iconst 0, 1) := by decide +kernel
theorem dL_clashing_16 : decode cL_clashing 16 = .ok (.ireturn, 1) := by decide +kernel
set_option maxRecDepth 100000 in
set_option maxHeartbeats 4000000 in
theorem mL_clashing_1 (l : Launch) (hl9 : l.stackTraces = false) (D : va_G) (Y : Nat → ClassId) (h0 : Nat) (h3 : Nat) (h1 : Nat) (g0 : Nat) (g1 : Nat) (g2 : Nat) (g3 : Nat) (g4 : Nat) (g5 : Nat) (g6 : Nat) (g7 : Nat) (h2 : Nat) (g8 : Nat) (g9 : Nat) (g10 : Nat) (g11 : Nat) (g12 : Nat) (g13 : Nat) (g14 : Nat) (g15 : Nat) (g16 : Nat) (g17 : Nat) (g18 : Nat) (p0 : Int32) (sz : Nat) : Met l yL_clashing (Cond.codeWith yL_clashing cL_clashing 4 (some .int) [(0, 9, 12, 18)] :: lw_good) (mkR 8 1 6 124) (PreX D Y [.ref h0, .int p0, .ref h3] [(h0, oC 12 [.ref h1, .ref g0, .ref g1, .ref g2, .ref g3, .ref g4, .ref g5, .ref g6, .ref g7, .long 0]), (h1, oC 2 [.ref h2, .ref g8, .ref g9, .ref g10, .ref g11, .ref g12, .ref g13, .ref g14, .ref g15, .ref g16, .ref g17, .int 0]), (h2, oC 3 [.ref g18, .int 1]), (h3, aJ Y 1 (fun _ => 0))] sz) (QI D (fun (r : Int32) (u : Nat) => (u = 0 ∧ p0 < 0 ∧ 1 = r) ∨ (u = 1 ∧ ¬ p0 < 0 ∧ 1 ≤ p0 ∧ 1 = r) ∨ (u = 2 ∧ p0 = 0 ∧ 0 = r)) (fun (u : Nat) => match u with | 0 => [(h0, oC 12 [.ref h1, .ref g0, .ref g1, .ref g2, .ref g3, .ref g4, .ref g5, .ref g6, .ref g7, .long 0]), (h1, oC 2 [.ref h2, .ref g8, .ref g9, .ref g10, .ref g11, .ref g12, .ref g13, .ref g14, .ref g15, .ref g16, .ref g17, .int 0]), (h2, oC 3 [.ref g18, .int 1]), (h3, aJ Y 1 (fun _ => 0))] | 1 => [(h0, oC 12 [.ref h1, .ref g0, .ref g1, .ref g2, .ref g3, .ref g4, .ref g5, .ref g6, .ref g7, .long 0]), (h1, oC 2 [.ref h2, .ref g8, .ref g9, .ref g10, .ref g11, .ref g12, .ref g13, .ref g14, .ref g15, .ref g16, .ref g17, .int 0]), (h2, oC 3 [.ref g18, .int 1]), (h3, aJ Y 1 (fun _ => 0))] | _ => [(h0, oC 12 [.ref h1, .ref g0, .ref g1, .ref g2, .ref g3, .ref g4, .ref g5, .ref g6, .ref g7, .long 0]), (h1, oC 2 [.ref h2, .ref g8, .ref g9, .ref g10, .ref g11, .ref g12, .ref g13, .ref g14, .ref g15, .ref g16, .ref g17, .int 0]), (h2, oC 3 [.ref g18, .int 1]), (h3, aJ Y 1 (vp_updL (fun _ => 0) 0 (-4)))]) (va_A [(h0, oC 12 [.ref h1, .ref g0, .ref g1, .ref g2, .ref g3, .ref g4, .ref g5, .ref g6, .ref g7, .long 0]), (h1, oC 2 [.ref h2, .ref g8, .ref g9, .ref g10, .ref g11, .ref g12, .ref g13, .ref g14, .ref g15, .ref g16, .ref g17, .int 0]), (h2, oC 3 [.ref g18, .int 1]), (h3, aJ Y 1 (fun _ => 0))] sz)) 1 6 (va_A [(h0, oC 12 [.ref h1, .ref g0, .ref g1, .ref g2, .ref g3, .ref g4, .ref g5, .ref g6, .ref g7, .long 0]), (h1, oC 2 [.ref h2, .ref g8, .ref g9, .ref g10, .ref g11, .ref g12, .ref g13, .ref g14, .ref g15, .ref g16, .ref g17, .int 0]), (h2, oC 3 [.ref g18, .int 1]), (h3, aJ Y 1 (fun _ => 0))] sz) :=
  metH_of (by decide +kernel) (Nat.le_of_ble_eq_true rfl) (fun p e s m args below meth c B EB htab hsz => by
    have B : VB p s m args meth c D Y (va_A [(h0, oC 12 [.ref h1, .ref g0, .ref g1, .ref g2, .ref g3, .ref g4, .ref g5, .ref g6, .ref g7, .long 0]), (h1, oC 2 [.ref h2, .ref g8, .ref g9, .ref g10, .ref g11, .ref g12, .ref g13, .ref g14, .ref g15, .ref g16, .ref g17, .int 0]), (h2, oC 3 [.ref g18, .int 1]), (h3, aJ Y 1 (fun _ => 0))] sz) cL_clashing 4 RL (some .int) := B
    refine V_aload_n 0 B dL_clashing_0 2 rfl ?_
    refine V_iconst 1 B (v := 0) dL_clashing_1 (by decide +kernel) ?_
    refine V_aload_n 2 B dL_clashing_2 0 rfl ?_
    refine V_iload_n 3 B dL_clashing_3 1 rfl ?_
    refine V_xvi 4 B EB (st := [.int 0, .ref h3]) (As := [.int p0]) (fun sz => mX11_clashing_1 l hl9 D Y (h0) (h1) (g0) (g1) (g2) (g3) (g4) (g5) (g6) (g7) (h2) (g8) (g9) (g10) (g11) (g12) (g13) (g14) (g15) (g16) (g17) (g18) (p0) sz) glV_RL_54 ⟨rfl, rfl⟩ ⟨(Nat.le_of_ble_eq_true rfl), (Nat.le_of_ble_eq_true rfl)⟩ ⟨(Nat.le_of_ble_eq_true rfl), (Nat.le_of_ble_eq_true rfl)⟩ [0, 0, 0] rfl 12 0 rfl rfl rfl rfl (Nat.le_of_ble_eq_true rfl) rfl (fun _ _ _ => rfl) (fun _ _ _ => rfl) dL_clashing_4 (fun E u0 w0 => ?_) (fun r0 u0 w0 => ?_)
    ·
      rcases w0 with ⟨rfl, k1⟩ | ⟨rfl, k2, k3⟩
      ·
        refine VX_catch 4 B htab [] (0, 9, 12, 18) [] rfl "java/lang/IndexOutOfBoundsException" (fun z hz => nomatch hz) rfl (by decide) (mT5 103 rfl rfl) (EB.2.2.2.1 _ (List.mem_of_getElem? (i := 1) rfl)) 12 rfl (fun q9 => ?_)
        refine V_ws [(h0, oC 12 [.ref h1, .ref g0, .ref g1, .ref g2, .ref g3, .ref g4, .ref g5, .ref g6, .ref g7, .long 0]), (h1, oC 2 [.ref h2, .ref g8, .ref g9, .ref g10, .ref g11, .ref g12, .ref g13, .ref g14, .ref g15, .ref g16, .ref g17, .int 0]), (h2, oC 3 [.ref g18, .int 1]), (h3, aJ Y 1 (fun _ => 0))] rfl ?_
        refine V_astore_n 12 B (lv2 := [(3, .ref q9), (0, .ref h0), (1, .int p0), (2, .ref h3)]) dL_clashing_12 (by decide) rfl ?_
        refine V_iconst 13 B (v := 1) dL_clashing_13 (by decide +kernel) ?_
        exact V_iret 14 B dL_clashing_14 0 (Or.inl ⟨rfl, k1, rfl⟩) rfl
      ·
        refine VX_catch 4 B htab [] (0, 9, 12, 18) [] rfl "java/lang/IndexOutOfBoundsException" (fun z hz => nomatch hz) rfl (by decide) (mT5 103 rfl rfl) (EB.2.2.2.1 _ (List.mem_of_getElem? (i := 1) rfl)) 12 rfl (fun q9 => ?_)
        refine V_ws [(h0, oC 12 [.ref h1, .ref g0, .ref g1, .ref g2, .ref g3, .ref g4, .ref g5, .ref g6, .ref g7, .long 0]), (h1, oC 2 [.ref h2, .ref g8, .ref g9, .ref g10, .ref g11, .ref g12, .ref g13, .ref g14, .ref g15, .ref g16, .ref g17, .int 0]), (h2, oC 3 [.ref g18, .int 1]), (h3, aJ Y 1 (fun _ => 0))] rfl ?_
        refine V_astore_n 12 B (lv2 := [(3, .ref q9), (0, .ref h0), (1, .int p0), (2, .ref h3)]) dL_clashing_12 (by decide) rfl ?_
        refine V_iconst 13 B (v := 1) dL_clashing_13 (by decide +kernel) ?_
        exact V_iret 14 B dL_clashing_14 1 (Or.inr (Or.inl ⟨rfl, k2, k3, rfl⟩)) rfl
    ·
      obtain ⟨k4, rfl⟩ := w0
      refine V_ws [(h0, oC 12 [.ref h1, .ref g0, .ref g1, .ref g2, .ref g3, .ref g4, .ref g5, .ref g6, .ref g7, .long 0]), (h1, oC 2 [.ref h2, .ref g8, .ref g9, .ref g10, .ref g11, .ref g12, .ref g13, .ref g14, .ref g15, .ref g16, .ref g17, .int 0]), (h2, oC 3 [.ref g18, .int 1]), (h3, aJ Y 1 (fun _ => 0))] rfl ?_
      obtain rfl : p0 = 0 := k4
      refine V_i2l 7 B (v := (-4)) dL_clashing_7 (by decide +kernel) ?_
      refine V_last 8 B 3 rfl (vpin _ _ (by decide +kernel)) dL_clashing_8 [(h0, oC 12 [.ref h1, .ref g0, .ref g1, .ref g2, .ref g3, .ref g4, .ref g5, .ref g6, .ref g7, .long 0]), (h1, oC 2 [.ref h2, .ref g8, .ref g9, .ref g10, .ref g11, .ref g12, .ref g13, .ref g14, .ref g15, .ref g16, .ref g17, .int 0]), (h2, oC 3 [.ref g18, .int 1]), (h3, aJ Y 1 (vp_updL (fun _ => 0) 0 (-4)))] rfl ?_
      refine V_goto 9 B 15 dL_clashing_9 (by decide) ?_
      refine V_iconst 15 B (v := 0) dL_clashing_15 (by decide +kernel) ?_
      exact V_iret 16 B dL_clashing_16 2 (Or.inr (Or.inr ⟨rfl, rfl, rfl⟩)) rfl)
set_option maxRecDepth 100000 in
set_option maxHeartbeats 4000000 in
theorem mX12_clashing_2 (l : Launch) (D : va_G) (Y : Nat → ClassId) (h0 : Nat) (h1 : Nat) (g0 : Nat) (g1 : Nat) (g2 : Nat) (g3 : Nat) (g4 : Nat) (sz : Nat) : Met l yX12_clashing (WSm yX12_clashing cX12_clashing 2 (some .int)) (mkR 2 0 0 46) (PreC D Y [.ref h0, .int 0] [(h0, oC 13 [.ref h1, .ref g0, .int 0, .ref g1, .ref g2, .int 0, .int 0, .int 0, .int (-1), .int 0, .int 0, .int 0, .long 0, .ref g3, .ref g4, .int 0, .int 0]), (h1, aI Y 3640 (clB 0 (fun _ => 0)))] sz) (QI D (fun (r : Int32) (u : Unit) => (-4) = r) (fun (_ : Unit) => [(h0, oC 13 [.ref h1, .ref g0, .int 0, .ref g1, .ref g2, .int 0, .int 0, .int 0, .int (-1), .int 0, .int 0, .int 0, .long 0, .ref g3, .ref g4, .int 0, .int 0]), (h1, aI Y 3640 (clB 0 (fun _ => 0)))]) (va_A [(h0, oC 13 [.ref h1, .ref g0, .int 0, .ref g1, .ref g2, .int 0, .int 0, .int 0, .int (-1), .int 0, .int 0, .int 0, .long 0, .ref g3, .ref g4, .int 0, .int 0]), (h1, aI Y 3640 (clB 0 (fun _ => 0)))] sz)) 0 0 (va_A [(h0, oC 13 [.ref h1, .ref g0, .int 0, .ref g1, .ref g2, .int 0, .int 0, .int 0, .int (-1), .int 0, .int 0, .int 0, .long 0, .ref g3, .ref g4, .int 0, .int 0]), (h1, aI Y 3640 (clB 0 (fun _ => 0)))] sz) :=
  met_of (by decide +kernel) (Nat.le_of_ble_eq_true rfl) (fun p e s m args below meth c B hin hsz => by
    have B : VB p s m args meth c D Y (va_A [(h0, oC 13 [.ref h1, .ref g0, .int 0, .ref g1, .ref g2, .int 0, .int 0, .int 0, .int (-1), .int 0, .int 0, .int 0, .long 0, .ref g3, .ref g4, .int 0, .int 0]), (h1, aI Y 3640 (clB 0 (fun _ => 0)))] sz) cX12_clashing 2 RX12 (some .int) := B
    refine V_aload_n 0 B dX12_clashing_0 0 rfl ?_
    refine V_iconst 1 B (v := 0) dX12_clashing_1 (by decide +kernel) ?_
    refine V_put 2 B gp_RX12_38 0 rfl (Nat.le_of_ble_eq_true rfl) rfl rfl dX12_clashing_2 [(h0, oC 13 [.ref h1, .ref g0, .int 0, .ref g1, .ref g2, .int 0, .int 0, .int 0, .int (-1), .int 0, .int 0, .int 0, .long 0, .ref g3, .ref g4, .int 0, .int 0]), (h1, aI Y 3640 (clB 0 (fun _ => 0)))] rfl ?_
    refine V_aload_n 5 B dX12_clashing_5 0 rfl ?_
    refine V_aload_n 6 B dX12_clashing_6 0 rfl ?_
    refine V_iload_n 7 B dX12_clashing_7 1 rfl ?_
    refine V_cvi 8 B (st := [.ref h0]) (As := [.int 0]) (fun sz => mX12_isMode_2 l D Y (h0) (h1) (g0) (g1) (g2) (g3) (g4) sz) glV_RX12_91 ⟨rfl, rfl⟩ ⟨(Nat.le_of_ble_eq_true rfl), (Nat.le_of_ble_eq_true rfl)⟩ ⟨(Nat.le_of_ble_eq_true rfl), (Nat.le_of_ble_eq_true rfl)⟩ [0, 0] rfl 13 0 rfl rfl rfl rfl (Nat.le_of_ble_eq_true rfl) rfl (fun _ _ _ => rfl) dX12_clashing_8 (fun r0 u0 w0 => ?_)
    obtain rfl := w0
    refine V_ws [(h0, oC 13 [.ref h1, .ref g0, .int 0, .ref g1, .ref g2, .int 0, .int 0, .int 0, .int (-1), .int 0, .int 0, .int 0, .long 0, .ref g3, .ref g4, .int 0, .int 0]), (h1, aI Y 3640 (clB 0 (fun _ => 0)))] rfl ?_
    refine V_if_ne_t 11 B 18 dX12_clashing_11 (by decide) (by decide +kernel) ?_
    refine V_iconst 18 B (v := 0) dX12_clashing_18 (by decide +kernel) ?_
    refine V_iconst 19 B (v := 1) dX12_clashing_19 (by decide +kernel) ?_
    refine V_cvi 20 B (st := []) (As := [.int 0, .int 1]) (fun sz => mX12_throwsIf_2 l D Y (h0) (h1) (g0) (g1) (g2) (g3) (g4) sz) glV_RX12_69 ⟨rfl, rfl⟩ ⟨(Nat.le_of_ble_eq_true rfl), (Nat.le_of_ble_eq_true rfl)⟩ ⟨(Nat.le_of_ble_eq_true rfl), (Nat.le_of_ble_eq_true rfl)⟩ [0] rfl 13 0 rfl rfl rfl rfl (Nat.le_of_ble_eq_true rfl) rfl (fun _ _ _ => rfl) dX12_clashing_20 (fun r1 u1 w1 => ?_)
    obtain rfl := w1
    refine V_ws [(h0, oC 13 [.ref h1, .ref g0, .int 0, .ref g1, .ref g2, .int 0, .int 0, .int 0, .int (-1), .int 0, .int 0, .int 0, .long 0, .ref g3, .ref g4, .int 0, .int 0]), (h1, aI Y 3640 (clB 0 (fun _ => 0)))] rfl ?_
    refine V_if_eq_t 23 B 30 dX12_clashing_23 (by decide) (by decide +kernel) ?_
    refine V_aload_n 30 B dX12_clashing_30 0 rfl ?_
    refine V_cvi 31 B (st := []) (As := []) (fun sz => mX12_hasNoDraft_1 l D Y (h0) (h1) (g0) (g1) (g2) (g3) (g4) sz) glV_RX12_125 ⟨rfl, rfl⟩ ⟨(Nat.le_of_ble_eq_true rfl), (Nat.le_of_ble_eq_true rfl)⟩ ⟨(Nat.le_of_ble_eq_true rfl), (Nat.le_of_ble_eq_true rfl)⟩ [0, 0] rfl 13 0 rfl rfl rfl rfl (Nat.le_of_ble_eq_true rfl) rfl (fun _ _ _ => rfl) dX12_clashing_31 (fun r2 u2 w2 => ?_)
    obtain rfl := w2
    refine V_ws [(h0, oC 13 [.ref h1, .ref g0, .int 0, .ref g1, .ref g2, .int 0, .int 0, .int 0, .int (-1), .int 0, .int 0, .int 0, .long 0, .ref g3, .ref g4, .int 0, .int 0]), (h1, aI Y 3640 (clB 0 (fun _ => 0)))] rfl ?_
    refine V_if_eq_f 34 B 42 dX12_clashing_34 (by decide) (by decide +kernel) ?_
    refine V_bipush 37 B (v := (-4)) dX12_clashing_37 (by decide +kernel) ?_
    refine V_goto 39 B 51 dX12_clashing_39 (by decide) ?_
    exact V_iret 51 B dX12_clashing_51 () rfl rfl)
theorem dL_law_1337 : decode cL_law 1337 = .ok (.aload_n 1, 1) := by decide +kernel
theorem dL_law_1338 : decode cL_law 1338 = .ok (.aload_n 0, 1) := by decide +kernel
theorem dL_law_1339 : decode cL_law 1339 = .ok (.iload 4, 2) := by decide +kernel
theorem dL_law_1341 : decode cL_law 1341 = .ok (.iconst 1, 1) := by decide +kernel
theorem dL_law_1342 : decode cL_law 1342 = .ok (.iadd, 1) := by decide +kernel
theorem dL_law_1343 : decode cL_law 1343 = .ok (.iaload, 1) := by decide +kernel
theorem dL_law_1344 : decode cL_law 1344 = .ok (.aload_n 3, 1) := by decide +kernel
theorem dL_law_1345 : decode cL_law 1345 = .ok (.invokestatic 234, 3) := by decide +kernel
theorem glH_RL_234 : GLH RL 234 yL_clashing cL_clashing 4 (some .int) [(0, 9, 12, 18)] 3 := ⟨⟨(mT6 15 rfl rfl), (mT6 16 rfl rfl), (mT1 0 rfl rfl), (mT6 17 rfl rfl)⟩, by decide +kernel⟩
theorem dL_law_1348 : decode cL_law 1348 = .ok (.istore 5, 2) := by decide +kernel
theorem dL_law_1350 : decode cL_law 1350 = .ok (.aload_n 2, 1) := by decide +kernel
theorem dL_law_1351 : decode cL_law 1351 = .ok (.aload_n 0, 1) := by decide +kernel
theorem dL_law_1352 : decode cL_law 1352 = .ok (.iload 4, 2) := by decide +kernel
theorem dL_law_1354 : decode cL_law 1354 = .ok (.iconst 1, 1) := by decide +kernel
theorem dL_law_1355 : decode cL_law 1355 = .ok (.iadd, 1) := by decide +kernel
theorem dL_law_1356 : decode cL_law 1356 = .ok (.iaload, 1) := by decide +kernel
theorem dL_law_1357 : decode cL_law 1357 = .ok (.invokevirtual 236, 3) := by decide +kernel
theorem glV_RL_236 : GLV RL 236 yX12_clashing RX12 cX12_clashing 2 (some .int) 1 := ⟨⟨(mT8 152 rfl rfl), (mT8 153 rfl rfl), (mT8 154 rfl rfl), (mT1 13 rfl rfl), (mT8 155 rfl rfl)⟩, by decide +kernel⟩
theorem dL_law_1360 : decode cL_law 1360 = .ok (.istore 6, 2) := by decide +kernel
theorem dL_law_1362 : decode cL_law 1362 = .ok (.aload_n 2, 1) := by decide +kernel
theorem dL_law_1363 : decode cL_law 1363 = .ok (.invokevirtual 182, 3) := by decide +kernel
theorem dL_law_1366 : decode cL_law 1366 = .ok (.iload 5, 2) := by decide +kernel
theorem dL_law_1368 : decode cL_law 1368 = .ok (.if_icmp .eq 5, 3) := by decide +kernel
theorem dL_law_1373 : decode cL_law 1373 = .ok (.iload 5, 2) := by decide +kernel
theorem dL_law_1375 : decode cL_law 1375 = .ok (.ifCond .ne 15, 3) := by decide +kernel
theorem dL_law_1390 : decode cL_law 1390 = .ok (.goto 1942, 3) := by decide +kernel
theorem dL_law_1378 : decode cL_law 1378 = .ok (.aload_n 3, 1) := by decide +kernel
theorem dL_law_1379 : decode cL_law 1379 = .ok (.iconst 0, 1) := by decide +kernel
theorem dL_law_1380 : decode cL_law 1380 = .ok (.laload, 1) := by decide +kernel
theorem dL_law_1381 : decode cL_law 1381 = .ok (.iload 6, 2) := by decide +kernel
theorem dL_law_1383 : decode cL_law 1383 = .ok (.i2l, 1) := by decide +kernel
theorem dL_law_1384 : decode cL_law 1384 = .ok (.lcmp, 1) := by decide +kernel
theorem dL_law_1385 : decode cL_law 1385 = .ok (.ifCond .eq 5, 3) := by decide +kernel
set_option maxRecDepth 100000 in
set_option maxHeartbeats 4000000 in
theorem law_c22 {p : Program} {l : Launch} {e : Env} {s : State} {m : MethodId} {below : List Frame} {meth : Method} {c : Code} {b : Nat} {xs : Nat → Int32} {D : va_G} {Y : Nat → ClassId} (B : VB p s m #[Value.ref b] meth c D Y (fun q => s.heap.size ≤ q) cL_law 8 RL ret) (EB : EX (fun q => s.heap.size ≤ q) s s.heap) (hl9 : l.stackTraces = false) (hX : va_X b 6 xs s s.heap) (hbl : b < s.heap.size) (hbA : ¬ (fun q => s.heap.size ≤ q) b) (x0 x1 x30 x59 x88 x117 x126 x127 x129 x132 x2 x4 x6 x8 x10 x12 x14 x16 x18 x20 x27 x3 m0 m1 m2 m3 m4 m5 m6 o0 : Nat) (p1 : Int32) (e1 : xs 1 = p1) : V p l e room_1 s m #[Value.ref b] below meth c D (fun q => s.heap.size ≤ q) 8 149 10574 (lw_Z below #[Value.ref b] s) 1337 [(4, .int 0), (3, .ref o0), (2, .ref m0), (1, .ref x0), (0, .ref b)] [] [(x0, oC 12 [.ref x1, .ref x30, .ref x59, .ref x88, .ref x117, .ref x126, .ref x127, .ref x129, .ref x132, .long 0]), (x1, oC 2 [.ref x2, .ref x4, .ref x6, .ref x8, .ref x10, .ref x12, .ref x14, .ref x16, .ref x18, .ref x20, .ref x27, .int 0]), (x2, oC 3 [.ref x3, .int 1]), (m0, oC 13 [.ref m1, .ref m2, .int 0, .ref m3, .ref m4, .int 0, .int 0, .int 0, .int (-1), .int 0, .int 0, .int 0, .long 0, .ref m5, .ref m6, .int 0, .int 0]), (m1, aI Y 3640 (clB 0 (fun _ => 0))), (o0, aJ Y 1 (fun _ => 0))] := by
  refine V_aload_n 1337 B dL_law_1337 3 rfl ?_
  refine V_aload_n 1338 B dL_law_1338 4 rfl ?_
  refine V_iload 1339 B dL_law_1339 0 rfl ?_
  refine V_iconst 1341 B (v := 1) dL_law_1341 (by decide +kernel) ?_
  refine V_iadd 1342 B (v := 1) dL_law_1342 (by decide +kernel) ?_
  refine V_sld 1343 B hX hbl hbA (v := p1) (vpin _ _ (by decide +kernel)) dL_law_1343 e1 ?_
  refine V_aload_n 1344 B dL_law_1344 1 rfl ?_
  refine V_hsi 1345 B EB (st := []) (As := [.ref x0, .int p1, .ref o0]) (fun sz => mL_clashing_1 l hl9 D Y (x0) (o0) (x1) (x30) (x59) (x88) (x117) (x126) (x127) (x129) (x132) (x2) (x4) (x6) (x8) (x10) (x12) (x14) (x16) (x18) (x20) (x27) (x3) (p1) sz) glH_RL_234 ⟨rfl, rfl⟩ ⟨(Nat.le_of_ble_eq_true rfl), (Nat.le_of_ble_eq_true rfl)⟩ ⟨(Nat.le_of_ble_eq_true rfl), (Nat.le_of_ble_eq_true rfl)⟩ [0, 0, 0, 2] rfl rfl (Nat.le_of_ble_eq_true rfl) rfl (fun _ u _ => by
        first | rfl | (split <;> rfl) | (dsimp only; split <;> rfl)) dL_law_1345 (fun r0 u0 w0 => ?_)
  rcases w0 with ⟨rfl, k1, rfl⟩ | ⟨rfl, k2, k3, rfl⟩ | ⟨rfl, k4, rfl⟩
  ·
    refine V_ws [(x0, oC 12 [.ref x1, .ref x30, .ref x59, .ref x88, .ref x117, .ref x126, .ref x127, .ref x129, .ref x132, .long 0]), (x1, oC 2 [.ref x2, .ref x4, .ref x6, .ref x8, .ref x10, .ref x12, .ref x14, .ref x16, .ref x18, .ref x20, .ref x27, .int 0]), (x2, oC 3 [.ref x3, .int 1]), (m0, oC 13 [.ref m1, .ref m2, .int 0, .ref m3, .ref m4, .int 0, .int 0, .int 0, .int (-1), .int 0, .int 0, .int 0, .long 0, .ref m5, .ref m6, .int 0, .int 0]), (m1, aI Y 3640 (clB 0 (fun _ => 0))), (o0, aJ Y 1 (fun _ => 0))] rfl ?_
    refine V_istore 1348 B (lv2 := [(5, .int 1), (4, .int 0), (3, .ref o0), (2, .ref m0), (1, .ref x0), (0, .ref b)]) dL_law_1348 (by decide) rfl ?_
    refine V_aload_n 1350 B dL_law_1350 3 rfl ?_
    refine V_aload_n 1351 B dL_law_1351 5 rfl ?_
    refine V_iload 1352 B dL_law_1352 1 rfl ?_
    refine V_iconst 1354 B (v := 1) dL_law_1354 (by decide +kernel) ?_
    refine V_iadd 1355 B (v := 1) dL_law_1355 (by decide +kernel) ?_
    refine V_sld 1356 B hX hbl hbA (v := p1) (vpin _ _ (by decide +kernel)) dL_law_1356 e1 ?_
    refine V_cvi 1357 B (st := []) (As := [.int p1]) (fun sz => mX12_clashing_1 l D Y (m0) (m1) (m2) (m3) (m4) (m5) (m6) (p1) sz) glV_RL_236 ⟨rfl, rfl⟩ ⟨(Nat.le_of_ble_eq_true rfl), (Nat.le_of_ble_eq_true rfl)⟩ ⟨(Nat.le_of_ble_eq_true rfl), (Nat.le_of_ble_eq_true rfl)⟩ [3, 0] rfl 13 0 rfl rfl rfl rfl (Nat.le_of_ble_eq_true rfl) rfl (fun _ u _ => by
        first | rfl | (split <;> rfl) | (dsimp only; split <;> rfl)) dL_law_1357 (fun r5 u5 w5 => ?_)
    rcases w5 with ⟨rfl, k6, rfl⟩ | ⟨rfl, k7, rfl⟩ | ⟨rfl, k8, rfl⟩
    ·
      refine V_ws [(x0, oC 12 [.ref x1, .ref x30, .ref x59, .ref x88, .ref x117, .ref x126, .ref x127, .ref x129, .ref x132, .long 0]), (x1, oC 2 [.ref x2, .ref x4, .ref x6, .ref x8, .ref x10, .ref x12, .ref x14, .ref x16, .ref x18, .ref x20, .ref x27, .int 0]), (x2, oC 3 [.ref x3, .int 1]), (m0, oC 13 [.ref m1, .ref m2, .int 0, .ref m3, .ref m4, .int 0, .int 0, .int 0, .int (-1), .int 0, .int 0, .int 0, .long 0, .ref m5, .ref m6, .int 0, .int 0]), (m1, aI Y 3640 (clB 0 (fun _ => 0))), (o0, aJ Y 1 (fun _ => 0))] rfl ?_
      exact absurd k6 (q_neh (b_lt k1 (n := (-1)) (by decide +kernel)) (by decide +kernel))
    ·
      refine V_ws [(x0, oC 12 [.ref x1, .ref x30, .ref x59, .ref x88, .ref x117, .ref x126, .ref x127, .ref x129, .ref x132, .long 0]), (x1, oC 2 [.ref x2, .ref x4, .ref x6, .ref x8, .ref x10, .ref x12, .ref x14, .ref x16, .ref x18, .ref x20, .ref x27, .int 0]), (x2, oC 3 [.ref x3, .int 1]), (m0, oC 13 [.ref m1, .ref m2, .int 1, .ref m3, .ref m4, .int 0, .int 0, .int 0, .int (-1), .int 0, .int 0, .int 0, .long 0, .ref m5, .ref m6, .int 0, .int 0]), (m1, aI Y 3640 (clB 0 (fun _ => 0))), (o0, aJ Y 1 (fun _ => 0))] rfl ?_
      refine V_istore 1360 B (lv2 := [(6, .int 0), (5, .int 1), (4, .int 0), (3, .ref o0), (2, .ref m0), (1, .ref x0), (0, .ref b)]) dL_law_1360 (by decide) rfl ?_
      refine V_aload_n 1362 B dL_law_1362 4 rfl ?_
      refine V_cvi 1363 B (st := []) (As := []) (fun sz => mX12_thrown_2 l D Y (m0) (m1) (m2) (m3) (m4) (m5) (m6) sz) glV_RL_182 ⟨rfl, rfl⟩ ⟨(Nat.le_of_ble_eq_true rfl), (Nat.le_of_ble_eq_true rfl)⟩ ⟨(Nat.le_of_ble_eq_true rfl), (Nat.le_of_ble_eq_true rfl)⟩ [3] rfl 13 0 rfl rfl rfl rfl (Nat.le_of_ble_eq_true rfl) rfl (fun _ _ _ => rfl) dL_law_1363 (fun r9 u9 w9 => ?_)
      obtain rfl := w9
      refine V_ws [(x0, oC 12 [.ref x1, .ref x30, .ref x59, .ref x88, .ref x117, .ref x126, .ref x127, .ref x129, .ref x132, .long 0]), (x1, oC 2 [.ref x2, .ref x4, .ref x6, .ref x8, .ref x10, .ref x12, .ref x14, .ref x16, .ref x18, .ref x20, .ref x27, .int 0]), (x2, oC 3 [.ref x3, .int 1]), (m0, oC 13 [.ref m1, .ref m2, .int 1, .ref m3, .ref m4, .int 0, .int 0, .int 0, .int (-1), .int 0, .int 0, .int 0, .long 0, .ref m5, .ref m6, .int 0, .int 0]), (m1, aI Y 3640 (clB 0 (fun _ => 0))), (o0, aJ Y 1 (fun _ => 0))] rfl ?_
      refine V_iload 1366 B dL_law_1366 1 rfl ?_
      refine V_icmp_eq_t 1368 B 1373 dL_law_1368 (by decide) (by decide +kernel) ?_
      refine V_iload 1373 B dL_law_1373 1 rfl ?_
      refine V_if_ne_t 1375 B 1390 dL_law_1375 (by decide) (by decide +kernel) ?_
      refine V_goto 1390 B 3332 dL_law_1390 (by decide) ?_
      refine V_iinc 3332 B (v := 6) (lv2 := [(4, .int 6), (6, .int 0), (5, .int 1), (3, .ref o0), (2, .ref m0), (1, .ref x0), (0, .ref b)]) dL_law_3332 2 rfl (by decide +kernel) (by decide) rfl ?_
      refine V_goto 3335 B 23 dL_law_3335 (by decide) ?_
      refine V_iload 23 B dL_law_23 0 rfl ?_
      refine V_aload_n 25 B dL_law_25 6 rfl ?_
      refine V_slen 26 B hX hbl hbA (v := 6) (by decide +kernel) dL_law_26 ?_
      refine V_bipush 27 B (v := 6) dL_law_27 (by decide +kernel) ?_
      refine V_isub 29 B (v := 0) dL_law_29 (by decide +kernel) ?_
      refine V_icmp_gt_t 30 B 3338 dL_law_30 (by decide) (by decide +kernel) ?_
      exact law_end B (Nat.le_of_ble_eq_true rfl) (Nat.le_of_ble_eq_true rfl) dL_law_3338 dL_law_3339
    ·
      refine V_ws [(x0, oC 12 [.ref x1, .ref x30, .ref x59, .ref x88, .ref x117, .ref x126, .ref x127, .ref x129, .ref x132, .long 0]), (x1, oC 2 [.ref x2, .ref x4, .ref x6, .ref x8, .ref x10, .ref x12, .ref x14, .ref x16, .ref x18, .ref x20, .ref x27, .int 0]), (x2, oC 3 [.ref x3, .int 1]), (m0, oC 13 [.ref m1, .ref m2, .int 1, .ref m3, .ref m4, .int 0, .int 0, .int 0, .int (-1), .int 0, .int 0, .int 0, .long 0, .ref m5, .ref m6, .int 0, .int 0]), (m1, aI Y 3640 (clB 0 (fun _ => 0))), (o0, aJ Y 1 (fun _ => 0))] rfl ?_
      exact (q_abs (b_gt k8 (n := 1) (by decide +kernel)) (b_lt k1 (n := (-1)) (by decide +kernel)) (by decide +kernel)).elim
  ·
    refine V_ws [(x0, oC 12 [.ref x1, .ref x30, .ref x59, .ref x88, .ref x117, .ref x126, .ref x127, .ref x129, .ref x132, .long 0]), (x1, oC 2 [.ref x2, .ref x4, .ref x6, .ref x8, .ref x10, .ref x12, .ref x14, .ref x16, .ref x18, .ref x20, .ref x27, .int 0]), (x2, oC 3 [.ref x3, .int 1]), (m0, oC 13 [.ref m1, .ref m2, .int 0, .ref m3, .ref m4, .int 0, .int 0, .int 0, .int (-1), .int 0, .int 0, .int 0, .long 0, .ref m5, .ref m6, .int 0, .int 0]), (m1, aI Y 3640 (clB 0 (fun _ => 0))), (o0, aJ Y 1 (fun _ => 0))] rfl ?_
    refine V_istore 1348 B (lv2 := [(5, .int 1), (4, .int 0), (3, .ref o0), (2, .ref m0), (1, .ref x0), (0, .ref b)]) dL_law_1348 (by decide) rfl ?_
    refine V_aload_n 1350 B dL_law_1350 3 rfl ?_
    refine V_aload_n 1351 B dL_law_1351 5 rfl ?_
    refine V_iload 1352 B dL_law_1352 1 rfl ?_
    refine V_iconst 1354 B (v := 1) dL_law_1354 (by decide +kernel) ?_
    refine V_iadd 1355 B (v := 1) dL_law_1355 (by decide +kernel) ?_
    refine V_sld 1356 B hX hbl hbA (v := p1) (vpin _ _ (by decide +kernel)) dL_law_1356 e1 ?_
    refine V_cvi 1357 B (st := []) (As := [.int p1]) (fun sz => mX12_clashing_1 l D Y (m0) (m1) (m2) (m3) (m4) (m5) (m6) (p1) sz) glV_RL_236 ⟨rfl, rfl⟩ ⟨(Nat.le_of_ble_eq_true rfl), (Nat.le_of_ble_eq_true rfl)⟩ ⟨(Nat.le_of_ble_eq_true rfl), (Nat.le_of_ble_eq_true rfl)⟩ [3, 0] rfl 13 0 rfl rfl rfl rfl (Nat.le_of_ble_eq_true rfl) rfl (fun _ u _ => by
        first | rfl | (split <;> rfl) | (dsimp only; split <;> rfl)) dL_law_1357 (fun r10 u10 w10 => ?_)
    rcases w10 with ⟨rfl, k11, rfl⟩ | ⟨rfl, k12, rfl⟩ | ⟨rfl, k13, rfl⟩
    ·
      refine V_ws [(x0, oC 12 [.ref x1, .ref x30, .ref x59, .ref x88, .ref x117, .ref x126, .ref x127, .ref x129, .ref x132, .long 0]), (x1, oC 2 [.ref x2, .ref x4, .ref x6, .ref x8, .ref x10, .ref x12, .ref x14, .ref x16, .ref x18, .ref x20, .ref x27, .int 0]), (x2, oC 3 [.ref x3, .int 1]), (m0, oC 13 [.ref m1, .ref m2, .int 0, .ref m3, .ref m4, .int 0, .int 0, .int 0, .int (-1), .int 0, .int 0, .int 0, .long 0, .ref m5, .ref m6, .int 0, .int 0]), (m1, aI Y 3640 (clB 0 (fun _ => 0))), (o0, aJ Y 1 (fun _ => 0))] rfl ?_
      exact absurd k11 (q_nel (b_ge k3 (n := 1) (by decide +kernel)) (by decide +kernel))
    ·
      refine V_ws [(x0, oC 12 [.ref x1, .ref x30, .ref x59, .ref x88, .ref x117, .ref x126, .ref x127, .ref x129, .ref x132, .long 0]), (x1, oC 2 [.ref x2, .ref x4, .ref x6, .ref x8, .ref x10, .ref x12, .ref x14, .ref x16, .ref x18, .ref x20, .ref x27, .int 0]), (x2, oC 3 [.ref x3, .int 1]), (m0, oC 13 [.ref m1, .ref m2, .int 1, .ref m3, .ref m4, .int 0, .int 0, .int 0, .int (-1), .int 0, .int 0, .int 0, .long 0, .ref m5, .ref m6, .int 0, .int 0]), (m1, aI Y 3640 (clB 0 (fun _ => 0))), (o0, aJ Y 1 (fun _ => 0))] rfl ?_
      exact (q_abs (b_ge k3 (n := 1) (by decide +kernel)) (b_lt k12 (n := (-1)) (by decide +kernel)) (by decide +kernel)).elim
    ·
      refine V_ws [(x0, oC 12 [.ref x1, .ref x30, .ref x59, .ref x88, .ref x117, .ref x126, .ref x127, .ref x129, .ref x132, .long 0]), (x1, oC 2 [.ref x2, .ref x4, .ref x6, .ref x8, .ref x10, .ref x12, .ref x14, .ref x16, .ref x18, .ref x20, .ref x27, .int 0]), (x2, oC 3 [.ref x3, .int 1]), (m0, oC 13 [.ref m1, .ref m2, .int 1, .ref m3, .ref m4, .int 0, .int 0, .int 0, .int (-1), .int 0, .int 0, .int 0, .long 0, .ref m5, .ref m6, .int 0, .int 0]), (m1, aI Y 3640 (clB 0 (fun _ => 0))), (o0, aJ Y 1 (fun _ => 0))] rfl ?_
      refine V_istore 1360 B (lv2 := [(6, .int 0), (5, .int 1), (4, .int 0), (3, .ref o0), (2, .ref m0), (1, .ref x0), (0, .ref b)]) dL_law_1360 (by decide) rfl ?_
      refine V_aload_n 1362 B dL_law_1362 4 rfl ?_
      refine V_cvi 1363 B (st := []) (As := []) (fun sz => mX12_thrown_2 l D Y (m0) (m1) (m2) (m3) (m4) (m5) (m6) sz) glV_RL_182 ⟨rfl, rfl⟩ ⟨(Nat.le_of_ble_eq_true rfl), (Nat.le_of_ble_eq_true rfl)⟩ ⟨(Nat.le_of_ble_eq_true rfl), (Nat.le_of_ble_eq_true rfl)⟩ [3] rfl 13 0 rfl rfl rfl rfl (Nat.le_of_ble_eq_true rfl) rfl (fun _ _ _ => rfl) dL_law_1363 (fun r14 u14 w14 => ?_)
      obtain rfl := w14
      refine V_ws [(x0, oC 12 [.ref x1, .ref x30, .ref x59, .ref x88, .ref x117, .ref x126, .ref x127, .ref x129, .ref x132, .long 0]), (x1, oC 2 [.ref x2, .ref x4, .ref x6, .ref x8, .ref x10, .ref x12, .ref x14, .ref x16, .ref x18, .ref x20, .ref x27, .int 0]), (x2, oC 3 [.ref x3, .int 1]), (m0, oC 13 [.ref m1, .ref m2, .int 1, .ref m3, .ref m4, .int 0, .int 0, .int 0, .int (-1), .int 0, .int 0, .int 0, .long 0, .ref m5, .ref m6, .int 0, .int 0]), (m1, aI Y 3640 (clB 0 (fun _ => 0))), (o0, aJ Y 1 (fun _ => 0))] rfl ?_
      refine V_iload 1366 B dL_law_1366 1 rfl ?_
      refine V_icmp_eq_t 1368 B 1373 dL_law_1368 (by decide) (by decide +kernel) ?_
      refine V_iload 1373 B dL_law_1373 1 rfl ?_
      refine V_if_ne_t 1375 B 1390 dL_law_1375 (by decide) (by decide +kernel) ?_
      refine V_goto 1390 B 3332 dL_law_1390 (by decide) ?_
      refine V_iinc 3332 B (v := 6) (lv2 := [(4, .int 6), (6, .int 0), (5, .int 1), (3, .ref o0), (2, .ref m0), (1, .ref x0), (0, .ref b)]) dL_law_3332 2 rfl (by decide +kernel) (by decide) rfl ?_
      refine V_goto 3335 B 23 dL_law_3335 (by decide) ?_
      refine V_iload 23 B dL_law_23 0 rfl ?_
      refine V_aload_n 25 B dL_law_25 6 rfl ?_
      refine V_slen 26 B hX hbl hbA (v := 6) (by decide +kernel) dL_law_26 ?_
      refine V_bipush 27 B (v := 6) dL_law_27 (by decide +kernel) ?_
      refine V_isub 29 B (v := 0) dL_law_29 (by decide +kernel) ?_
      refine V_icmp_gt_t 30 B 3338 dL_law_30 (by decide) (by decide +kernel) ?_
      exact law_end B (Nat.le_of_ble_eq_true rfl) (Nat.le_of_ble_eq_true rfl) dL_law_3338 dL_law_3339
  ·
    refine V_ws [(x0, oC 12 [.ref x1, .ref x30, .ref x59, .ref x88, .ref x117, .ref x126, .ref x127, .ref x129, .ref x132, .long 0]), (x1, oC 2 [.ref x2, .ref x4, .ref x6, .ref x8, .ref x10, .ref x12, .ref x14, .ref x16, .ref x18, .ref x20, .ref x27, .int 0]), (x2, oC 3 [.ref x3, .int 1]), (m0, oC 13 [.ref m1, .ref m2, .int 0, .ref m3, .ref m4, .int 0, .int 0, .int 0, .int (-1), .int 0, .int 0, .int 0, .long 0, .ref m5, .ref m6, .int 0, .int 0]), (m1, aI Y 3640 (clB 0 (fun _ => 0))), (o0, aJ Y 1 (vp_updL (fun _ => 0) 0 (-4)))] rfl ?_
    obtain rfl : p1 = 0 := k4
    refine V_istore 1348 B (lv2 := [(5, .int 0), (4, .int 0), (3, .ref o0), (2, .ref m0), (1, .ref x0), (0, .ref b)]) dL_law_1348 (by decide) rfl ?_
    refine V_aload_n 1350 B dL_law_1350 3 rfl ?_
    refine V_aload_n 1351 B dL_law_1351 5 rfl ?_
    refine V_iload 1352 B dL_law_1352 1 rfl ?_
    refine V_iconst 1354 B (v := 1) dL_law_1354 (by decide +kernel) ?_
    refine V_iadd 1355 B (v := 1) dL_law_1355 (by decide +kernel) ?_
    refine V_sld 1356 B hX hbl hbA (v := 0) (vpin _ _ (by decide +kernel)) dL_law_1356 e1 ?_
    refine V_cvi 1357 B (st := []) (As := [.int 0]) (fun sz => mX12_clashing_2 l D Y (m0) (m1) (m2) (m3) (m4) (m5) (m6) sz) glV_RL_236 ⟨rfl, rfl⟩ ⟨(Nat.le_of_ble_eq_true rfl), (Nat.le_of_ble_eq_true rfl)⟩ ⟨(Nat.le_of_ble_eq_true rfl), (Nat.le_of_ble_eq_true rfl)⟩ [3, 0] rfl 13 0 rfl rfl rfl rfl (Nat.le_of_ble_eq_true rfl) rfl (fun _ _ _ => rfl) dL_law_1357 (fun r15 u15 w15 => ?_)
    obtain rfl := w15
    refine V_ws [(x0, oC 12 [.ref x1, .ref x30, .ref x59, .ref x88, .ref x117, .ref x126, .ref x127, .ref x129, .ref x132, .long 0]), (x1, oC 2 [.ref x2, .ref x4, .ref x6, .ref x8, .ref x10, .ref x12, .ref x14, .ref x16, .ref x18, .ref x20, .ref x27, .int 0]), (x2, oC 3 [.ref x3, .int 1]), (m0, oC 13 [.ref m1, .ref m2, .int 0, .ref m3, .ref m4, .int 0, .int 0, .int 0, .int (-1), .int 0, .int 0, .int 0, .long 0, .ref m5, .ref m6, .int 0, .int 0]), (m1, aI Y 3640 (clB 0 (fun _ => 0))), (o0, aJ Y 1 (vp_updL (fun _ => 0) 0 (-4)))] rfl ?_
    refine V_istore 1360 B (lv2 := [(6, .int (-4)), (5, .int 0), (4, .int 0), (3, .ref o0), (2, .ref m0), (1, .ref x0), (0, .ref b)]) dL_law_1360 (by decide) rfl ?_
    refine V_aload_n 1362 B dL_law_1362 4 rfl ?_
    refine V_cvi 1363 B (st := []) (As := []) (fun sz => mX12_thrown_1 l D Y (m0) (m1) (m2) (m3) (m4) (m5) (m6) sz) glV_RL_182 ⟨rfl, rfl⟩ ⟨(Nat.le_of_ble_eq_true rfl), (Nat.le_of_ble_eq_true rfl)⟩ ⟨(Nat.le_of_ble_eq_true rfl), (Nat.le_of_ble_eq_true rfl)⟩ [3] rfl 13 0 rfl rfl rfl rfl (Nat.le_of_ble_eq_true rfl) rfl (fun _ _ _ => rfl) dL_law_1363 (fun r16 u16 w16 => ?_)
    obtain rfl := w16
    refine V_ws [(x0, oC 12 [.ref x1, .ref x30, .ref x59, .ref x88, .ref x117, .ref x126, .ref x127, .ref x129, .ref x132, .long 0]), (x1, oC 2 [.ref x2, .ref x4, .ref x6, .ref x8, .ref x10, .ref x12, .ref x14, .ref x16, .ref x18, .ref x20, .ref x27, .int 0]), (x2, oC 3 [.ref x3, .int 1]), (m0, oC 13 [.ref m1, .ref m2, .int 0, .ref m3, .ref m4, .int 0, .int 0, .int 0, .int (-1), .int 0, .int 0, .int 0, .long 0, .ref m5, .ref m6, .int 0, .int 0]), (m1, aI Y 3640 (clB 0 (fun _ => 0))), (o0, aJ Y 1 (vp_updL (fun _ => 0) 0 (-4)))] rfl ?_
    refine V_iload 1366 B dL_law_1366 1 rfl ?_
    refine V_icmp_eq_t 1368 B 1373 dL_law_1368 (by decide) (by decide +kernel) ?_
    refine V_iload 1373 B dL_law_1373 1 rfl ?_
    refine V_if_ne_f 1375 B 1390 dL_law_1375 (by decide) (by decide +kernel) ?_
    refine V_aload_n 1378 B dL_law_1378 3 rfl ?_
    refine V_iconst 1379 B (v := 0) dL_law_1379 (by decide +kernel) ?_
    refine V_lald 1380 B (v := (-4)) 5 rfl (vpin _ _ (by decide +kernel)) dL_law_1380 rfl ?_
    refine V_iload 1381 B dL_law_1381 0 rfl ?_
    refine V_i2l 1383 B (v := (-4)) dL_law_1383 (by decide +kernel) ?_
    refine V_lcmp 1384 B (v := 0) dL_law_1384 (by decide +kernel) ?_
    refine V_if_eq_t 1385 B 1390 dL_law_1385 (by decide) (by decide +kernel) ?_
    refine V_goto 1390 B 3332 dL_law_1390 (by decide) ?_
    refine V_iinc 3332 B (v := 6) (lv2 := [(4, .int 6), (6, .int (-4)), (5, .int 0), (3, .ref o0), (2, .ref m0), (1, .ref x0), (0, .ref b)]) dL_law_3332 2 rfl (by decide +kernel) (by decide) rfl ?_
    refine V_goto 3335 B 23 dL_law_3335 (by decide) ?_
    refine V_iload 23 B dL_law_23 0 rfl ?_
    refine V_aload_n 25 B dL_law_25 6 rfl ?_
    refine V_slen 26 B hX hbl hbA (v := 6) (by decide +kernel) dL_law_26 ?_
    refine V_bipush 27 B (v := 6) dL_law_27 (by decide +kernel) ?_
    refine V_isub 29 B (v := 0) dL_law_29 (by decide +kernel) ?_
    refine V_icmp_gt_t 30 B 3338 dL_law_30 (by decide) (by decide +kernel) ?_
    exact law_end B (Nat.le_of_ble_eq_true rfl) (Nat.le_of_ble_eq_true rfl) dL_law_3338 dL_law_3339
theorem dL_clashes_0 : decode cL_clashes 0 = .ok (.aload_n 2, 1) := by decide +kernel
theorem dL_clashes_1 : decode cL_clashes 1 = .ok (.iconst 0, 1) := by decide +kernel
theorem dL_clashes_2 : decode cL_clashes 2 = .ok (.aload_n 0, 1) := by decide +kernel
theorem dL_clashes_3 : decode cL_clashes 3 = .ok (.iload_n 1, 1) := by decide +kernel
theorem dL_clashes_4 : decode cL_clashes 4 = .ok (.invokevirtual 57, 3) := by decide +kernel
theorem glV_RL_57 : GLV RL 57 yX11_clashes RX11 cX11_clashes 2 (some .int) 1 := ⟨⟨(mT6 26 rfl rfl), (mT6 27 rfl rfl), (mT6 28 rfl rfl), (mT1 1 rfl rfl), (mT6 29 rfl rfl)⟩, by decide +kernel⟩
theorem dL_clashes_12 : decode cL_clashes 12 = .ok (.astore_n 3, 1) := by decide +kernel
theorem dL_clashes_13 : decode cL_clashes 13 = .ok (.iconst 1, 1) := by decide +kernel
theorem dL_clashes_14 : decode cL_clashes 14 = .ok (.ireturn, 1) := by decide +kernel
theorem dL_clashes_7 : decode cL_clashes 7 = .ok (.i2l, 1) := by decide +kernel
theorem dL_clashes_8 : decode cL_clashes 8 = .ok (.lastore, 1) := by decide +kernel
theorem dL_clashes_9 : decode cL_clashes 9 = .ok (.goto 6, 3) := by decide +kernel
theorem dL_clashes_15 : decode cL_clashes 15 = .ok (.iconst 0, 1) := by decide +kernel
theorem dL_clashes_16 : decode cL_clashes 16 = .ok (.ireturn, 1) := by decide +kernel
set_option maxRecDepth 100000 in
set_option maxHeartbeats 4000000 in
theorem mL_clashes_1 (l : Launch) (hl9 : l.stackTraces = false) (D : va_G) (Y : Nat → ClassId) (h0 : Nat) (h3 : Nat) (h1 : Nat) (g0 : Nat) (g1 : Nat) (g2 : Nat) (g3 : Nat) (g4 : Nat) (g5 : Nat) (g6 : Nat) (g7 : Nat) (h2 : Nat) (g8 : Nat) (g9 : Nat) (g10 : Nat) (g11 : Nat) (g12 : Nat) (g13 : Nat) (g14 : Nat) (g15 : Nat) (g16 : Nat) (g17 : Nat) (g18 : Nat) (p0 : Int32) (sz : Nat) : Met l yL_clashes (Cond.codeWith yL_clashes cL_clashes 4 (some .int) [(0, 9, 12, 18)] :: lw_good) (mkR 8 1 6 124) (PreX D Y [.ref h0, .int p0, .ref h3] [(h0, oC 12 [.ref h1, .ref g0, .ref g1, .ref g2, .ref g3, .ref g4, .ref g5, .ref g6, .ref g7, .long 0]), (h1, oC 2 [.ref h2, .ref g8, .ref g9, .ref g10, .ref g11, .ref g12, .ref g13, .ref g14, .ref g15, .ref g16, .ref g17, .int 0]), (h2, oC 3 [.ref g18, .int 1]), (h3, aJ Y 1 (fun _ => 0))] sz) (QI D (fun (r : Int32) (u : Nat) => (u = 0 ∧ p0 < 0 ∧ 1 = r) ∨ (u = 1 ∧ ¬ p0 < 0 ∧ 1 ≤ p0 ∧ 1 = r) ∨ (u = 2 ∧ p0 = 0 ∧ 0 = r)) (fun (u : Nat) => match u with | 0 => [(h0, oC 12 [.ref h1, .ref g0, .ref g1, .ref g2, .ref g3, .ref g4, .ref g5, .ref g6, .ref g7, .long 0]), (h1, oC 2 [.ref h2, .ref g8, .ref g9, .ref g10, .ref g11, .ref g12, .ref g13, .ref g14, .ref g15, .ref g16, .ref g17, .int 0]), (h2, oC 3 [.ref g18, .int 1]), (h3, aJ Y 1 (fun _ => 0))] | 1 => [(h0, oC 12 [.ref h1, .ref g0, .ref g1, .ref g2, .ref g3, .ref g4, .ref g5, .ref g6, .ref g7, .long 0]), (h1, oC 2 [.ref h2, .ref g8, .ref g9, .ref g10, .ref g11, .ref g12, .ref g13, .ref g14, .ref g15, .ref g16, .ref g17, .int 0]), (h2, oC 3 [.ref g18, .int 1]), (h3, aJ Y 1 (fun _ => 0))] | _ => [(h0, oC 12 [.ref h1, .ref g0, .ref g1, .ref g2, .ref g3, .ref g4, .ref g5, .ref g6, .ref g7, .long 0]), (h1, oC 2 [.ref h2, .ref g8, .ref g9, .ref g10, .ref g11, .ref g12, .ref g13, .ref g14, .ref g15, .ref g16, .ref g17, .int 0]), (h2, oC 3 [.ref g18, .int 1]), (h3, aJ Y 1 (vp_updL (fun _ => 0) 0 (-4)))]) (va_A [(h0, oC 12 [.ref h1, .ref g0, .ref g1, .ref g2, .ref g3, .ref g4, .ref g5, .ref g6, .ref g7, .long 0]), (h1, oC 2 [.ref h2, .ref g8, .ref g9, .ref g10, .ref g11, .ref g12, .ref g13, .ref g14, .ref g15, .ref g16, .ref g17, .int 0]), (h2, oC 3 [.ref g18, .int 1]), (h3, aJ Y 1 (fun _ => 0))] sz)) 1 6 (va_A [(h0, oC 12 [.ref h1, .ref g0, .ref g1, .ref g2, .ref g3, .ref g4, .ref g5, .ref g6, .ref g7, .long 0]), (h1, oC 2 [.ref h2, .ref g8, .ref g9, .ref g10, .ref g11, .ref g12, .ref g13, .ref g14, .ref g15, .ref g16, .ref g17, .int 0]), (h2, oC 3 [.ref g18, .int 1]), (h3, aJ Y 1 (fun _ => 0))] sz) :=
  metH_of (by decide +kernel) (Nat.le_of_ble_eq_true rfl) (fun p e s m args below meth c B EB htab hsz => by
    have B : VB p s m args meth c D Y (va_A [(h0, oC 12 [.ref h1, .ref g0, .ref g1, .ref g2, .ref g3, .ref g4, .ref g5, .ref g6, .ref g7, .long 0]), (h1, oC 2 [.ref h2, .ref g8, .ref g9, .ref g10, .ref g11, .ref g12, .ref g13, .ref g14, .ref g15, .ref g16, .ref g17, .int 0]), (h2, oC 3 [.ref g18, .int 1]), (h3, aJ Y 1 (fun _ => 0))] sz) cL_clashes 4 RL (some .int) := B
    refine V_aload_n 0 B dL_clashes_0 2 rfl ?_
    refine V_iconst 1 B (v := 0) dL_clashes_1 (by decide +kernel) ?_
    refine V_aload_n 2 B dL_clashes_2 0 rfl ?_
    refine V_iload_n 3 B dL_clashes_3 1 rfl ?_
    refine V_xvi 4 B EB (st := [.int 0, .ref h3]) (As := [.int p0]) (fun sz => mX11_clashes_1 l hl9 D Y (h0) (h1) (g0) (g1) (g2) (g3) (g4) (g5) (g6) (g7) (h2) (g8) (g9) (g10) (g11) (g12) (g13) (g14) (g15) (g16) (g17) (g18) (p0) sz) glV_RL_57 ⟨rfl, rfl⟩ ⟨(Nat.le_of_ble_eq_true rfl), (Nat.le_of_ble_eq_true rfl)⟩ ⟨(Nat.le_of_ble_eq_true rfl), (Nat.le_of_ble_eq_true rfl)⟩ [0, 0, 0] rfl 12 0 rfl rfl rfl rfl (Nat.le_of_ble_eq_true rfl) rfl (fun _ _ _ => rfl) (fun _ _ _ => rfl) dL_clashes_4 (fun E u0 w0 => ?_) (fun r0 u0 w0 => ?_)
    ·
      rcases w0 with ⟨rfl, k1⟩ | ⟨rfl, k2, k3⟩
      ·
        refine VX_catch 4 B htab [] (0, 9, 12, 18) [] rfl "java/lang/IndexOutOfBoundsException" (fun z hz => nomatch hz) rfl (by decide) (mT5 103 rfl rfl) (EB.2.2.2.1 _ (List.mem_of_getElem? (i := 1) rfl)) 12 rfl (fun q9 => ?_)
        refine V_ws [(h0, oC 12 [.ref h1, .ref g0, .ref g1, .ref g2, .ref g3, .ref g4, .ref g5, .ref g6, .ref g7, .long 0]), (h1, oC 2 [.ref h2, .ref g8, .ref g9, .ref g10, .ref g11, .ref g12, .ref g13, .ref g14, .ref g15, .ref g16, .ref g17, .int 0]), (h2, oC 3 [.ref g18, .int 1]), (h3, aJ Y 1 (fun _ => 0))] rfl ?_
        refine V_astore_n 12 B (lv2 := [(3, .ref q9), (0, .ref h0), (1, .int p0), (2, .ref h3)]) dL_clashes_12 (by decide) rfl ?_
        refine V_iconst 13 B (v := 1) dL_clashes_13 (by decide +kernel) ?_
        exact V_iret 14 B dL_clashes_14 0 (Or.inl ⟨rfl, k1, rfl⟩) rfl
      ·
        refine VX_catch 4 B htab [] (0, 9, 12, 18) [] rfl "java/lang/IndexOutOfBoundsException" (fun z hz => nomatch hz) rfl (by decide) (mT5 103 rfl rfl) (EB.2.2.2.1 _ (List.mem_of_getElem? (i := 1) rfl)) 12 rfl (fun q9 => ?_)
        refine V_ws [(h0, oC 12 [.ref h1, .ref g0, .ref g1, .ref g2, .ref g3, .ref g4, .ref g5, .ref g6, .ref g7, .long 0]), (h1, oC 2 [.ref h2, .ref g8, .ref g9, .ref g10, .ref g11, .ref g12, .ref g13, .ref g14, .ref g15, .ref g16, .ref g17, .int 0]), (h2, oC 3 [.ref g18, .int 1]), (h3, aJ Y 1 (fun _ => 0))] rfl ?_
        refine V_astore_n 12 B (lv2 := [(3, .ref q9), (0, .ref h0), (1, .int p0), (2, .ref h3)]) dL_clashes_12 (by decide) rfl ?_
        refine V_iconst 13 B (v := 1) dL_clashes_13 (by decide +kernel) ?_
        exact V_iret 14 B dL_clashes_14 1 (Or.inr (Or.inl ⟨rfl, k2, k3, rfl⟩)) rfl
    ·
      obtain ⟨k4, rfl⟩ := w0
      refine V_ws [(h0, oC 12 [.ref h1, .ref g0, .ref g1, .ref g2, .ref g3, .ref g4, .ref g5, .ref g6, .ref g7, .long 0]), (h1, oC 2 [.ref h2, .ref g8, .ref g9, .ref g10, .ref g11, .ref g12, .ref g13, .ref g14, .ref g15, .ref g16, .ref g17, .int 0]), (h2, oC 3 [.ref g18, .int 1]), (h3, aJ Y 1 (fun _ => 0))] rfl ?_
      obtain rfl : p0 = 0 := k4
      refine V_i2l 7 B (v := (-4)) dL_clashes_7 (by decide +kernel) ?_
      refine V_last 8 B 3 rfl (vpin _ _ (by decide +kernel)) dL_clashes_8 [(h0, oC 12 [.ref h1, .ref g0, .ref g1, .ref g2, .ref g3, .ref g4, .ref g5, .ref g6, .ref g7, .long 0]), (h1, oC 2 [.ref h2, .ref g8, .ref g9, .ref g10, .ref g11, .ref g12, .ref g13, .ref g14, .ref g15, .ref g16, .ref g17, .int 0]), (h2, oC 3 [.ref g18, .int 1]), (h3, aJ Y 1 (vp_updL (fun _ => 0) 0 (-4)))] rfl ?_
      refine V_goto 9 B 15 dL_clashes_9 (by decide) ?_
      refine V_iconst 15 B (v := 0) dL_clashes_15 (by decide +kernel) ?_
      exact V_iret 16 B dL_clashes_16 2 (Or.inr (Or.inr ⟨rfl, rfl, rfl⟩)) rfl)
set_option maxRecDepth 100000 in
set_option maxHeartbeats 4000000 in
theorem mX12_clashes_2 (l : Launch) (D : va_G) (Y : Nat → ClassId) (h0 : Nat) (h1 : Nat) (g0 : Nat) (g1 : Nat) (g2 : Nat) (g3 : Nat) (g4 : Nat) (sz : Nat) : Met l yX12_clashes (WSm yX12_clashes cX12_clashes 2 (some .int)) (mkR 2 0 0 46) (PreC D Y [.ref h0, .int 0] [(h0, oC 13 [.ref h1, .ref g0, .int 0, .ref g1, .ref g2, .int 0, .int 0, .int 0, .int (-1), .int 0, .int 0, .int 0, .long 0, .ref g3, .ref g4, .int 0, .int 0]), (h1, aI Y 3640 (clB 0 (fun _ => 0)))] sz) (QI D (fun (r : Int32) (u : Unit) => (-4) = r) (fun (_ : Unit) => [(h0, oC 13 [.ref h1, .ref g0, .int 0, .ref g1, .ref g2, .int 0, .int 0, .int 0, .int (-1), .int 0, .int 0, .int 0, .long 0, .ref g3, .ref g4, .int 0, .int 0]), (h1, aI Y 3640 (clB 0 (fun _ => 0)))]) (va_A [(h0, oC 13 [.ref h1, .ref g0, .int 0, .ref g1, .ref g2, .int 0, .int 0, .int 0, .int (-1), .int 0, .int 0, .int 0, .long 0, .ref g3, .ref g4, .int 0, .int 0]), (h1, aI Y 3640 (clB 0 (fun _ => 0)))] sz)) 0 0 (va_A [(h0, oC 13 [.ref h1, .ref g0, .int 0, .ref g1, .ref g2, .int 0, .int 0, .int 0, .int (-1), .int 0, .int 0, .int 0, .long 0, .ref g3, .ref g4, .int 0, .int 0]), (h1, aI Y 3640 (clB 0 (fun _ => 0)))] sz) :=
  met_of (by decide +kernel) (Nat.le_of_ble_eq_true rfl) (fun p e s m args below meth c B hin hsz => by
    have B : VB p s m args meth c D Y (va_A [(h0, oC 13 [.ref h1, .ref g0, .int 0, .ref g1, .ref g2, .int 0, .int 0, .int 0, .int (-1), .int 0, .int 0, .int 0, .long 0, .ref g3, .ref g4, .int 0, .int 0]), (h1, aI Y 3640 (clB 0 (fun _ => 0)))] sz) cX12_clashes 2 RX12 (some .int) := B
    refine V_aload_n 0 B dX12_clashes_0 0 rfl ?_
    refine V_iconst 1 B (v := 0) dX12_clashes_1 (by decide +kernel) ?_
    refine V_put 2 B gp_RX12_38 0 rfl (Nat.le_of_ble_eq_true rfl) rfl rfl dX12_clashes_2 [(h0, oC 13 [.ref h1, .ref g0, .int 0, .ref g1, .ref g2, .int 0, .int 0, .int 0, .int (-1), .int 0, .int 0, .int 0, .long 0, .ref g3, .ref g4, .int 0, .int 0]), (h1, aI Y 3640 (clB 0 (fun _ => 0)))] rfl ?_
    refine V_aload_n 5 B dX12_clashes_5 0 rfl ?_
    refine V_aload_n 6 B dX12_clashes_6 0 rfl ?_
    refine V_iload_n 7 B dX12_clashes_7 1 rfl ?_
    refine V_cvi 8 B (st := [.ref h0]) (As := [.int 0]) (fun sz => mX12_isMode_2 l D Y (h0) (h1) (g0) (g1) (g2) (g3) (g4) sz) glV_RX12_91 ⟨rfl, rfl⟩ ⟨(Nat.le_of_ble_eq_true rfl), (Nat.le_of_ble_eq_true rfl)⟩ ⟨(Nat.le_of_ble_eq_true rfl), (Nat.le_of_ble_eq_true rfl)⟩ [0, 0] rfl 13 0 rfl rfl rfl rfl (Nat.le_of_ble_eq_true rfl) rfl (fun _ _ _ => rfl) dX12_clashes_8 (fun r0 u0 w0 => ?_)
    obtain rfl := w0
    refine V_ws [(h0, oC 13 [.ref h1, .ref g0, .int 0, .ref g1, .ref g2, .int 0, .int 0, .int 0, .int (-1), .int 0, .int 0, .int 0, .long 0, .ref g3, .ref g4, .int 0, .int 0]), (h1, aI Y 3640 (clB 0 (fun _ => 0)))] rfl ?_
    refine V_if_ne_t 11 B 18 dX12_clashes_11 (by decide) (by decide +kernel) ?_
    refine V_iconst 18 B (v := 0) dX12_clashes_18 (by decide +kernel) ?_
    refine V_iconst 19 B (v := 1) dX12_clashes_19 (by decide +kernel) ?_
    refine V_cvi 20 B (st := []) (As := [.int 0, .int 1]) (fun sz => mX12_throwsIf_2 l D Y (h0) (h1) (g0) (g1) (g2) (g3) (g4) sz) glV_RX12_69 ⟨rfl, rfl⟩ ⟨(Nat.le_of_ble_eq_true rfl), (Nat.le_of_ble_eq_true rfl)⟩ ⟨(Nat.le_of_ble_eq_true rfl), (Nat.le_of_ble_eq_true rfl)⟩ [0] rfl 13 0 rfl rfl rfl rfl (Nat.le_of_ble_eq_true rfl) rfl (fun _ _ _ => rfl) dX12_clashes_20 (fun r1 u1 w1 => ?_)
    obtain rfl := w1
    refine V_ws [(h0, oC 13 [.ref h1, .ref g0, .int 0, .ref g1, .ref g2, .int 0, .int 0, .int 0, .int (-1), .int 0, .int 0, .int 0, .long 0, .ref g3, .ref g4, .int 0, .int 0]), (h1, aI Y 3640 (clB 0 (fun _ => 0)))] rfl ?_
    refine V_if_eq_t 23 B 30 dX12_clashes_23 (by decide) (by decide +kernel) ?_
    refine V_aload_n 30 B dX12_clashes_30 0 rfl ?_
    refine V_cvi 31 B (st := []) (As := []) (fun sz => mX12_hasNoDraft_1 l D Y (h0) (h1) (g0) (g1) (g2) (g3) (g4) sz) glV_RX12_125 ⟨rfl, rfl⟩ ⟨(Nat.le_of_ble_eq_true rfl), (Nat.le_of_ble_eq_true rfl)⟩ ⟨(Nat.le_of_ble_eq_true rfl), (Nat.le_of_ble_eq_true rfl)⟩ [0, 0] rfl 13 0 rfl rfl rfl rfl (Nat.le_of_ble_eq_true rfl) rfl (fun _ _ _ => rfl) dX12_clashes_31 (fun r2 u2 w2 => ?_)
    obtain rfl := w2
    refine V_ws [(h0, oC 13 [.ref h1, .ref g0, .int 0, .ref g1, .ref g2, .int 0, .int 0, .int 0, .int (-1), .int 0, .int 0, .int 0, .long 0, .ref g3, .ref g4, .int 0, .int 0]), (h1, aI Y 3640 (clB 0 (fun _ => 0)))] rfl ?_
    refine V_if_eq_f 34 B 42 dX12_clashes_34 (by decide) (by decide +kernel) ?_
    refine V_bipush 37 B (v := (-4)) dX12_clashes_37 (by decide +kernel) ?_
    refine V_goto 39 B 50 dX12_clashes_39 (by decide) ?_
    exact V_iret 50 B dX12_clashes_50 () rfl rfl)
theorem dL_law_1393 : decode cL_law 1393 = .ok (.aload_n 1, 1) := by decide +kernel
theorem dL_law_1394 : decode cL_law 1394 = .ok (.aload_n 0, 1) := by decide +kernel
theorem dL_law_1395 : decode cL_law 1395 = .ok (.iload 4, 2) := by decide +kernel
theorem dL_law_1397 : decode cL_law 1397 = .ok (.iconst 1, 1) := by decide +kernel
theorem dL_law_1398 : decode cL_law 1398 = .ok (.iadd, 1) := by decide +kernel
theorem dL_law_1399 : decode cL_law 1399 = .ok (.iaload, 1) := by decide +kernel
theorem dL_law_1400 : decode cL_law 1400 = .ok (.aload_n 3, 1) := by decide +kernel
theorem dL_law_1401 : decode cL_law 1401 = .ok (.invokestatic 237, 3) := by decide +kernel
theorem glH_RL_237 : GLH RL 237 yL_clashes cL_clashes 4 (some .int) [(0, 9, 12, 18)] 3 := ⟨⟨(mT6 23 rfl rfl), (mT6 24 rfl rfl), (mT1 0 rfl rfl), (mT6 25 rfl rfl)⟩, by decide +kernel⟩
theorem dL_law_1404 : decode cL_law 1404 = .ok (.istore 5, 2) := by decide +kernel
theorem dL_law_1406 : decode cL_law 1406 = .ok (.aload_n 2, 1) := by decide +kernel
theorem dL_law_1407 : decode cL_law 1407 = .ok (.aload_n 0, 1) := by decide +kernel
theorem dL_law_1408 : decode cL_law 1408 = .ok (.iload 4, 2) := by decide +kernel
theorem dL_law_1410 : decode cL_law 1410 = .ok (.iconst 1, 1) := by decide +kernel
theorem dL_law_1411 : decode cL_law 1411 = .ok (.iadd, 1) := by decide +kernel
theorem dL_law_1412 : decode cL_law 1412 = .ok (.iaload, 1) := by decide +kernel
theorem dL_law_1413 : decode cL_law 1413 = .ok (.invokevirtual 239, 3) := by decide +kernel
theorem glV_RL_239 : GLV RL 239 yX12_clashes RX12 cX12_clashes 2 (some .int) 1 := ⟨⟨(mT8 156 rfl rfl), (mT8 157 rfl rfl), (mT8 158 rfl rfl), (mT1 13 rfl rfl), (mT8 159 rfl rfl)⟩, by decide +kernel⟩
theorem dL_law_1416 : decode cL_law 1416 = .ok (.istore 6, 2) := by decide +kernel
theorem dL_law_1418 : decode cL_law 1418 = .ok (.aload_n 2, 1) := by decide +kernel
theorem dL_law_1419 : decode cL_law 1419 = .ok (.invokevirtual 182, 3) := by decide +kernel
theorem dL_law_1422 : decode cL_law 1422 = .ok (.iload 5, 2) := by decide +kernel
theorem dL_law_1424 : decode cL_law 1424 = .ok (.if_icmp .eq 5, 3) := by decide +kernel
theorem dL_law_1429 : decode cL_law 1429 = .ok (.iload 5, 2) := by decide +kernel
theorem dL_law_1431 : decode cL_law 1431 = .ok (.ifCond .ne 15, 3) := by decide +kernel
theorem dL_law_1446 : decode cL_law 1446 = .ok (.goto 1886, 3) := by decide +kernel
theorem dL_law_1434 : decode cL_law 1434 = .ok (.aload_n 3, 1) := by decide +kernel
theorem dL_law_1435 : decode cL_law 1435 = .ok (.iconst 0, 1) := by decide +kernel
theorem dL_law_1436 : decode cL_law 1436 = .ok (.laload, 1) := by decide +kernel
theorem dL_law_1437 : decode cL_law 1437 = .ok (.iload 6, 2) := by decide +kernel
theorem dL_law_1439 : decode cL_law 1439 = .ok (.i2l, 1) := by decide +kernel
theorem dL_law_1440 : decode cL_law 1440 = .ok (.lcmp, 1) := by decide +kernel
theorem dL_law_1441 : decode cL_law 1441 = .ok (.ifCond .eq 5, 3) := by decide +kernel
set_option maxRecDepth 100000 in
set_option maxHeartbeats 4000000 in
theorem law_c23 {p : Program} {l : Launch} {e : Env} {s : State} {m : MethodId} {below : List Frame} {meth : Method} {c : Code} {b : Nat} {xs : Nat → Int32} {D : va_G} {Y : Nat → ClassId} (B : VB p s m #[Value.ref b] meth c D Y (fun q => s.heap.size ≤ q) cL_law 8 RL ret) (EB : EX (fun q => s.heap.size ≤ q) s s.heap) (hl9 : l.stackTraces = false) (hX : va_X b 6 xs s s.heap) (hbl : b < s.heap.size) (hbA : ¬ (fun q => s.heap.size ≤ q) b) (x0 x1 x30 x59 x88 x117 x126 x127 x129 x132 x2 x4 x6 x8 x10 x12 x14 x16 x18 x20 x27 x3 m0 m1 m2 m3 m4 m5 m6 o0 : Nat) (p1 : Int32) (e1 : xs 1 = p1) : V p l e room_1 s m #[Value.ref b] below meth c D (fun q => s.heap.size ≤ q) 8 149 10574 (lw_Z below #[Value.ref b] s) 1393 [(4, .int 0), (3, .ref o0), (2, .ref m0), (1, .ref x0), (0, .ref b)] [] [(x0, oC 12 [.ref x1, .ref x30, .ref x59, .ref x88, .ref x117, .ref x126, .ref x127, .ref x129, .ref x132, .long 0]), (x1, oC 2 [.ref x2, .ref x4, .ref x6, .ref x8, .ref x10, .ref x12, .ref x14, .ref x16, .ref x18, .ref x20, .ref x27, .int 0]), (x2, oC 3 [.ref x3, .int 1]), (m0, oC 13 [.ref m1, .ref m2, .int 0, .ref m3, .ref m4, .int 0, .int 0, .int 0, .int (-1), .int 0, .int 0, .int 0, .long 0, .ref m5, .ref m6, .int 0, .int 0]), (m1, aI Y 3640 (clB 0 (fun _ => 0))), (o0, aJ Y 1 (fun _ => 0))] := by
  refine V_aload_n 1393 B dL_law_1393 3 rfl ?_
  refine V_aload_n 1394 B dL_law_1394 4 rfl ?_
  refine V_iload 1395 B dL_law_1395 0 rfl ?_
  refine V_iconst 1397 B (v := 1) dL_law_1397 (by decide +kernel) ?_
  refine V_iadd 1398 B (v := 1) dL_law_1398 (by decide +kernel) ?_
  refine V_sld 1399 B hX hbl hbA (v := p1) (vpin _ _ (by decide +kernel)) dL_law_1399 e1 ?_
  refine V_aload_n 1400 B dL_law_1400 1 rfl ?_
  refine V_hsi 1401 B EB (st := []) (As := [.ref x0, .int p1, .ref o0]) (fun sz => mL_clashes_1 l hl9 D Y (x0) (o0) (x1) (x30) (x59) (x88) (x117) (x126) (x127) (x129) (x132) (x2) (x4) (x6) (x8) (x10) (x12) (x14) (x16) (x18) (x20) (x27) (x3) (p1) sz) glH_RL_237 ⟨rfl, rfl⟩ ⟨(Nat.le_of_ble_eq_true rfl), (Nat.le_of_ble_eq_true rfl)⟩ ⟨(Nat.le_of_ble_eq_true rfl), (Nat.le_of_ble_eq_true rfl)⟩ [0, 0, 0, 2] rfl rfl (Nat.le_of_ble_eq_true rfl) rfl (fun _ u _ => by
        first | rfl | (split <;> rfl) | (dsimp only; split <;> rfl)) dL_law_1401 (fun r0 u0 w0 => ?_)
  rcases w0 with ⟨rfl, k1, rfl⟩ | ⟨rfl, k2, k3, rfl⟩ | ⟨rfl, k4, rfl⟩
  ·
    refine V_ws [(x0, oC 12 [.ref x1, .ref x30, .ref x59, .ref x88, .ref x117, .ref x126, .ref x127, .ref x129, .ref x132, .long 0]), (x1, oC 2 [.ref x2, .ref x4, .ref x6, .ref x8, .ref x10, .ref x12, .ref x14, .ref x16, .ref x18, .ref x20, .ref x27, .int 0]), (x2, oC 3 [.ref x3, .int 1]), (m0, oC 13 [.ref m1, .ref m2, .int 0, .ref m3, .ref m4, .int 0, .int 0, .int 0, .int (-1), .int 0, .int 0, .int 0, .long 0, .ref m5, .ref m6, .int 0, .int 0]), (m1, aI Y 3640 (clB 0 (fun _ => 0))), (o0, aJ Y 1 (fun _ => 0))] rfl ?_
    refine V_istore 1404 B (lv2 := [(5, .int 1), (4, .int 0), (3, .ref o0), (2, .ref m0), (1, .ref x0), (0, .ref b)]) dL_law_1404 (by decide) rfl ?_
    refine V_aload_n 1406 B dL_law_1406 3 rfl ?_
    refine V_aload_n 1407 B dL_law_1407 5 rfl ?_
    refine V_iload 1408 B dL_law_1408 1 rfl ?_
    refine V_iconst 1410 B (v := 1) dL_law_1410 (by decide +kernel) ?_
    refine V_iadd 1411 B (v := 1) dL_law_1411 (by decide +kernel) ?_
    refine V_sld 1412 B hX hbl hbA (v := p1) (vpin _ _ (by decide +kernel)) dL_law_1412 e1 ?_
    refine V_cvi 1413 B (st := []) (As := [.int p1]) (fun sz => mX12_clashes_1 l D Y (m0) (m1) (m2) (m3) (m4) (m5) (m6) (p1) sz) glV_RL_239 ⟨rfl, rfl⟩ ⟨(Nat.le_of_ble_eq_true rfl), (Nat.le_of_ble_eq_true rfl)⟩ ⟨(Nat.le_of_ble_eq_true rfl), (Nat.le_of_ble_eq_true rfl)⟩ [3, 0] rfl 13 0 rfl rfl rfl rfl (Nat.le_of_ble_eq_true rfl) rfl (fun _ u _ => by
        first | rfl | (split <;> rfl) | (dsimp only; split <;> rfl)) dL_law_1413 (fun r5 u5 w5 => ?_)
    rcases w5 with ⟨rfl, k6, rfl⟩ | ⟨rfl, k7, rfl⟩ | ⟨rfl, k8, rfl⟩
    ·
      refine V_ws [(x0, oC 12 [.ref x1, .ref x30, .ref x59, .ref x88, .ref x117, .ref x126, .ref x127, .ref x129, .ref x132, .long 0]), (x1, oC 2 [.ref x2, .ref x4, .ref x6, .ref x8, .ref x10, .ref x12, .ref x14, .ref x16, .ref x18, .ref x20, .ref x27, .int 0]), (x2, oC 3 [.ref x3, .int 1]), (m0, oC 13 [.ref m1, .ref m2, .int 0, .ref m3, .ref m4, .int 0, .int 0, .int 0, .int (-1), .int 0, .int 0, .int 0, .long 0, .ref m5, .ref m6, .int 0, .int 0]), (m1, aI Y 3640 (clB 0 (fun _ => 0))), (o0, aJ Y 1 (fun _ => 0))] rfl ?_
      exact absurd k6 (q_neh (b_lt k1 (n := (-1)) (by decide +kernel)) (by decide +kernel))
    ·
      refine V_ws [(x0, oC 12 [.ref x1, .ref x30, .ref x59, .ref x88, .ref x117, .ref x126, .ref x127, .ref x129, .ref x132, .long 0]), (x1, oC 2 [.ref x2, .ref x4, .ref x6, .ref x8, .ref x10, .ref x12, .ref x14, .ref x16, .ref x18, .ref x20, .ref x27, .int 0]), (x2, oC 3 [.ref x3, .int 1]), (m0, oC 13 [.ref m1, .ref m2, .int 1, .ref m3, .ref m4, .int 0, .int 0, .int 0, .int (-1), .int 0, .int 0, .int 0, .long 0, .ref m5, .ref m6, .int 0, .int 0]), (m1, aI Y 3640 (clB 0 (fun _ => 0))), (o0, aJ Y 1 (fun _ => 0))] rfl ?_
      refine V_istore 1416 B (lv2 := [(6, .int 0), (5, .int 1), (4, .int 0), (3, .ref o0), (2, .ref m0), (1, .ref x0), (0, .ref b)]) dL_law_1416 (by decide) rfl ?_
      refine V_aload_n 1418 B dL_law_1418 4 rfl ?_
      refine V_cvi 1419 B (st := []) (As := []) (fun sz => mX12_thrown_2 l D Y (m0) (m1) (m2) (m3) (m4) (m5) (m6) sz) glV_RL_182 ⟨rfl, rfl⟩ ⟨(Nat.le_of_ble_eq_true rfl), (Nat.le_of_ble_eq_true rfl)⟩ ⟨(Nat.le_of_ble_eq_true rfl), (Nat.le_of_ble_eq_true rfl)⟩ [3] rfl 13 0 rfl rfl rfl rfl (Nat.le_of_ble_eq_true rfl) rfl (fun _ _ _ => rfl) dL_law_1419 (fun r9 u9 w9 => ?_)
      obtain rfl := w9
      refine V_ws [(x0, oC 12 [.ref x1, .ref x30, .ref x59, .ref x88, .ref x117, .ref x126, .ref x127, .ref x129, .ref x132, .long 0]), (x1, oC 2 [.ref x2, .ref x4, .ref x6, .ref x8, .ref x10, .ref x12, .ref x14, .ref x16, .ref x18, .ref x20, .ref x27, .int 0]), (x2, oC 3 [.ref x3, .int 1]), (m0, oC 13 [.ref m1, .ref m2, .int 1, .ref m3, .ref m4, .int 0, .int 0, .int 0, .int (-1), .int 0, .int 0, .int 0, .long 0, .ref m5, .ref m6, .int 0, .int 0]), (m1, aI Y 3640 (clB 0 (fun _ => 0))), (o0, aJ Y 1 (fun _ => 0))] rfl ?_
      refine V_iload 1422 B dL_law_1422 1 rfl ?_
      refine V_icmp_eq_t 1424 B 1429 dL_law_1424 (by decide) (by decide +kernel) ?_
      refine V_iload 1429 B dL_law_1429 1 rfl ?_
      refine V_if_ne_t 1431 B 1446 dL_law_1431 (by decide) (by decide +kernel) ?_
      refine V_goto 1446 B 3332 dL_law_1446 (by decide) ?_
      refine V_iinc 3332 B (v := 6) (lv2 := [(4, .int 6), (6, .int 0), (5, .int 1), (3, .ref o0), (2, .ref m0), (1, .ref x0), (0, .ref b)]) dL_law_3332 2 rfl (by decide +kernel) (by decide) rfl ?_
      refine V_goto 3335 B 23 dL_law_3335 (by decide) ?_
      refine V_iload 23 B dL_law_23 0 rfl ?_
      refine V_aload_n 25 B dL_law_25 6 rfl ?_
      refine V_slen 26 B hX hbl hbA (v := 6) (by decide +kernel) dL_law_26 ?_
      refine V_bipush 27 B (v := 6) dL_law_27 (by decide +kernel) ?_
      refine V_isub 29 B (v := 0) dL_law_29 (by decide +kernel) ?_
      refine V_icmp_gt_t 30 B 3338 dL_law_30 (by decide) (by decide +kernel) ?_
      exact law_end B (Nat.le_of_ble_eq_true rfl) (Nat.le_of_ble_eq_true rfl) dL_law_3338 dL_law_3339
    ·
      refine V_ws [(x0, oC 12 [.ref x1, .ref x30, .ref x59, .ref x88, .ref x117, .ref x126, .ref x127, .ref x129, .ref x132, .long 0]), (x1, oC 2 [.ref x2, .ref x4, .ref x6, .ref x8, .ref x10, .ref x12, .ref x14, .ref x16, .ref x18, .ref x20, .ref x27, .int 0]), (x2, oC 3 [.ref x3, .int 1]), (m0, oC 13 [.ref m1, .ref m2, .int 1, .ref m3, .ref m4, .int 0, .int 0, .int 0, .int (-1), .int 0, .int 0, .int 0, .long 0, .ref m5, .ref m6, .int 0, .int 0]), (m1, aI Y 3640 (clB 0 (fun _ => 0))), (o0, aJ Y 1 (fun _ => 0))] rfl ?_
      exact (q_abs (b_gt k8 (n := 1) (by decide +kernel)) (b_lt k1 (n := (-1)) (by decide +kernel)) (by decide +kernel)).elim
  ·
    refine V_ws [(x0, oC 12 [.ref x1, .ref x30, .ref x59, .ref x88, .ref x117, .ref x126, .ref x127, .ref x129, .ref x132, .long 0]), (x1, oC 2 [.ref x2, .ref x4, .ref x6, .ref x8, .ref x10, .ref x12, .ref x14, .ref x16, .ref x18, .ref x20, .ref x27, .int 0]), (x2, oC 3 [.ref x3, .int 1]), (m0, oC 13 [.ref m1, .ref m2, .int 0, .ref m3, .ref m4, .int 0, .int 0, .int 0, .int (-1), .int 0, .int 0, .int 0, .long 0, .ref m5, .ref m6, .int 0, .int 0]), (m1, aI Y 3640 (clB 0 (fun _ => 0))), (o0, aJ Y 1 (fun _ => 0))] rfl ?_
    refine V_istore 1404 B (lv2 := [(5, .int 1), (4, .int 0), (3, .ref o0), (2, .ref m0), (1, .ref x0), (0, .ref b)]) dL_law_1404 (by decide) rfl ?_
    refine V_aload_n 1406 B dL_law_1406 3 rfl ?_
    refine V_aload_n 1407 B dL_law_1407 5 rfl ?_
    refine V_iload 1408 B dL_law_1408 1 rfl ?_
    refine V_iconst 1410 B (v := 1) dL_law_1410 (by decide +kernel) ?_
    refine V_iadd 1411 B (v := 1) dL_law_1411 (by decide +kernel) ?_
    refine V_sld 1412 B hX hbl hbA (v := p1) (vpin _ _ (by decide +kernel)) dL_law_1412 e1 ?_
    refine V_cvi 1413 B (st := []) (As := [.int p1]) (fun sz => mX12_clashes_1 l D Y (m0) (m1) (m2) (m3) (m4) (m5) (m6) (p1) sz) glV_RL_239 ⟨rfl, rfl⟩ ⟨(Nat.le_of_ble_eq_true rfl), (Nat.le_of_ble_eq_true rfl)⟩ ⟨(Nat.le_of_ble_eq_true rfl), (Nat.le_of_ble_eq_true rfl)⟩ [3, 0] rfl 13 0 rfl rfl rfl rfl (Nat.le_of_ble_eq_true rfl) rfl (fun _ u _ => by
        first | rfl | (split <;> rfl) | (dsimp only; split <;> rfl)) dL_law_1413 (fun r10 u10 w10 => ?_)
    rcases w10 with ⟨rfl, k11, rfl⟩ | ⟨rfl, k12, rfl⟩ | ⟨rfl, k13, rfl⟩
    ·
      refine V_ws [(x0, oC 12 [.ref x1, .ref x30, .ref x59, .ref x88, .ref x117, .ref x126, .ref x127, .ref x129, .ref x132, .long 0]), (x1, oC 2 [.ref x2, .ref x4, .ref x6, .ref x8, .ref x10, .ref x12, .ref x14, .ref x16, .ref x18, .ref x20, .ref x27, .int 0]), (x2, oC 3 [.ref x3, .int 1]), (m0, oC 13 [.ref m1, .ref m2, .int 0, .ref m3, .ref m4, .int 0, .int 0, .int 0, .int (-1), .int 0, .int 0, .int 0, .long 0, .ref m5, .ref m6, .int 0, .int 0]), (m1, aI Y 3640 (clB 0 (fun _ => 0))), (o0, aJ Y 1 (fun _ => 0))] rfl ?_
      exact absurd k11 (q_nel (b_ge k3 (n := 1) (by decide +kernel)) (by decide +kernel))
    ·
      refine V_ws [(x0, oC 12 [.ref x1, .ref x30, .ref x59, .ref x88, .ref x117, .ref x126, .ref x127, .ref x129, .ref x132, .long 0]), (x1, oC 2 [.ref x2, .ref x4, .ref x6, .ref x8, .ref x10, .ref x12, .ref x14, .ref x16, .ref x18, .ref x20, .ref x27, .int 0]), (x2, oC 3 [.ref x3, .int 1]), (m0, oC 13 [.ref m1, .ref m2, .int 1, .ref m3, .ref m4, .int 0, .int 0, .int 0, .int (-1), .int 0, .int 0, .int 0, .long 0, .ref m5, .ref m6, .int 0, .int 0]), (m1, aI Y 3640 (clB 0 (fun _ => 0))), (o0, aJ Y 1 (fun _ => 0))] rfl ?_
      exact (q_abs (b_ge k3 (n := 1) (by decide +kernel)) (b_lt k12 (n := (-1)) (by decide +kernel)) (by decide +kernel)).elim
    ·
      refine V_ws [(x0, oC 12 [.ref x1, .ref x30, .ref x59, .ref x88, .ref x117, .ref x126, .ref x127, .ref x129, .ref x132, .long 0]), (x1, oC 2 [.ref x2, .ref x4, .ref x6, .ref x8, .ref x10, .ref x12, .ref x14, .ref x16, .ref x18, .ref x20, .ref x27, .int 0]), (x2, oC 3 [.ref x3, .int 1]), (m0, oC 13 [.ref m1, .ref m2, .int 1, .ref m3, .ref m4, .int 0, .int 0, .int 0, .int (-1), .int 0, .int 0, .int 0, .long 0, .ref m5, .ref m6, .int 0, .int 0]), (m1, aI Y 3640 (clB 0 (fun _ => 0))), (o0, aJ Y 1 (fun _ => 0))] rfl ?_
      refine V_istore 1416 B (lv2 := [(6, .int 0), (5, .int 1), (4, .int 0), (3, .ref o0), (2, .ref m0), (1, .ref x0), (0, .ref b)]) dL_law_1416 (by decide) rfl ?_
      refine V_aload_n 1418 B dL_law_1418 4 rfl ?_
      refine V_cvi 1419 B (st := []) (As := []) (fun sz => mX12_thrown_2 l D Y (m0) (m1) (m2) (m3) (m4) (m5) (m6) sz) glV_RL_182 ⟨rfl, rfl⟩ ⟨(Nat.le_of_ble_eq_true rfl), (Nat.le_of_ble_eq_true rfl)⟩ ⟨(Nat.le_of_ble_eq_true rfl), (Nat.le_of_ble_eq_true rfl)⟩ [3] rfl 13 0 rfl rfl rfl rfl (Nat.le_of_ble_eq_true rfl) rfl (fun _ _ _ => rfl) dL_law_1419 (fun r14 u14 w14 => ?_)
      obtain rfl := w14
      refine V_ws [(x0, oC 12 [.ref x1, .ref x30, .ref x59, .ref x88, .ref x117, .ref x126, .ref x127, .ref x129, .ref x132, .long 0]), (x1, oC 2 [.ref x2, .ref x4, .ref x6, .ref x8, .ref x10, .ref x12, .ref x14, .ref x16, .ref x18, .ref x20, .ref x27, .int 0]), (x2, oC 3 [.ref x3, .int 1]), (m0, oC 13 [.ref m1, .ref m2, .int 1, .ref m3, .ref m4, .int 0, .int 0, .int 0, .int (-1), .int 0, .int 0, .int 0, .long 0, .ref m5, .ref m6, .int 0, .int 0]), (m1, aI Y 3640 (clB 0 (fun _ => 0))), (o0, aJ Y 1 (fun _ => 0))] rfl ?_
      refine V_iload 1422 B dL_law_1422 1 rfl ?_
      refine V_icmp_eq_t 1424 B 1429 dL_law_1424 (by decide) (by decide +kernel) ?_
      refine V_iload 1429 B dL_law_1429 1 rfl ?_
      refine V_if_ne_t 1431 B 1446 dL_law_1431 (by decide) (by decide +kernel) ?_
      refine V_goto 1446 B 3332 dL_law_1446 (by decide) ?_
      refine V_iinc 3332 B (v := 6) (lv2 := [(4, .int 6), (6, .int 0), (5, .int 1), (3, .ref o0), (2, .ref m0), (1, .ref x0), (0, .ref b)]) dL_law_3332 2 rfl (by decide +kernel) (by decide) rfl ?_
      refine V_goto 3335 B 23 dL_law_3335 (by decide) ?_
      refine V_iload 23 B dL_law_23 0 rfl ?_
      refine V_aload_n 25 B dL_law_25 6 rfl ?_
      refine V_slen 26 B hX hbl hbA (v := 6) (by decide +kernel) dL_law_26 ?_
      refine V_bipush 27 B (v := 6) dL_law_27 (by decide +kernel) ?_
      refine V_isub 29 B (v := 0) dL_law_29 (by decide +kernel) ?_
      refine V_icmp_gt_t 30 B 3338 dL_law_30 (by decide) (by decide +kernel) ?_
      exact law_end B (Nat.le_of_ble_eq_true rfl) (Nat.le_of_ble_eq_true rfl) dL_law_3338 dL_law_3339
  ·
    refine V_ws [(x0, oC 12 [.ref x1, .ref x30, .ref x59, .ref x88, .ref x117, .ref x126, .ref x127, .ref x129, .ref x132, .long 0]), (x1, oC 2 [.ref x2, .ref x4, .ref x6, .ref x8, .ref x10, .ref x12, .ref x14, .ref x16, .ref x18, .ref x20, .ref x27, .int 0]), (x2, oC 3 [.ref x3, .int 1]), (m0, oC 13 [.ref m1, .ref m2, .int 0, .ref m3, .ref m4, .int 0, .int 0, .int 0, .int (-1), .int 0, .int 0, .int 0, .long 0, .ref m5, .ref m6, .int 0, .int 0]), (m1, aI Y 3640 (clB 0 (fun _ => 0))), (o0, aJ Y 1 (vp_updL (fun _ => 0) 0 (-4)))] rfl ?_
    obtain rfl : p1 = 0 := k4
    refine V_istore 1404 B (lv2 := [(5, .int 0), (4, .int 0), (3, .ref o0), (2, .ref m0), (1, .ref x0), (0, .ref b)]) dL_law_1404 (by decide) rfl ?_
    refine V_aload_n 1406 B dL_law_1406 3 rfl ?_
    refine V_aload_n 1407 B dL_law_1407 5 rfl ?_
    refine V_iload 1408 B dL_law_1408 1 rfl ?_
    refine V_iconst 1410 B (v := 1) dL_law_1410 (by decide +kernel) ?_
    refine V_iadd 1411 B (v := 1) dL_law_1411 (by decide +kernel) ?_
    refine V_sld 1412 B hX hbl hbA (v := 0) (vpin _ _ (by decide +kernel)) dL_law_1412 e1 ?_
    refine V_cvi 1413 B (st := []) (As := [.int 0]) (fun sz => mX12_clashes_2 l D Y (m0) (m1) (m2) (m3) (m4) (m5) (m6) sz) glV_RL_239 ⟨rfl, rfl⟩ ⟨(Nat.le_of_ble_eq_true rfl), (Nat.le_of_ble_eq_true rfl)⟩ ⟨(Nat.le_of_ble_eq_true rfl), (Nat.le_of_ble_eq_true rfl)⟩ [3, 0] rfl 13 0 rfl rfl rfl rfl (Nat.le_of_ble_eq_true rfl) rfl (fun _ _ _ => rfl) dL_law_1413 (fun r15 u15 w15 => ?_)
    obtain rfl := w15
    refine V_ws [(x0, oC 12 [.ref x1, .ref x30, .ref x59, .ref x88, .ref x117, .ref x126, .ref x127, .ref x129, .ref x132, .long 0]), (x1, oC 2 [.ref x2, .ref x4, .ref x6, .ref x8, .ref x10, .ref x12, .ref x14, .ref x16, .ref x18, .ref x20, .ref x27, .int 0]), (x2, oC 3 [.ref x3, .int 1]), (m0, oC 13 [.ref m1, .ref m2, .int 0, .ref m3, .ref m4, .int 0, .int 0, .int 0, .int (-1), .int 0, .int 0, .int 0, .long 0, .ref m5, .ref m6, .int 0, .int 0]), (m1, aI Y 3640 (clB 0 (fun _ => 0))), (o0, aJ Y 1 (vp_updL (fun _ => 0) 0 (-4)))] rfl ?_
    refine V_istore 1416 B (lv2 := [(6, .int (-4)), (5, .int 0), (4, .int 0), (3, .ref o0), (2, .ref m0), (1, .ref x0), (0, .ref b)]) dL_law_1416 (by decide) rfl ?_
    refine V_aload_n 1418 B dL_law_1418 4 rfl ?_
    refine V_cvi 1419 B (st := []) (As := []) (fun sz => mX12_thrown_1 l D Y (m0) (m1) (m2) (m3) (m4) (m5) (m6) sz) glV_RL_182 ⟨rfl, rfl⟩ ⟨(Nat.le_of_ble_eq_true rfl), (Nat.le_of_ble_eq_true rfl)⟩ ⟨(Nat.le_of_ble_eq_true rfl), (Nat.le_of_ble_eq_true rfl)⟩ [3] rfl 13 0 rfl rfl rfl rfl (Nat.le_of_ble_eq_true rfl) rfl (fun _ _ _ => rfl) dL_law_1419 (fun r16 u16 w16 => ?_)
    obtain rfl := w16
    refine V_ws [(x0, oC 12 [.ref x1, .ref x30, .ref x59, .ref x88, .ref x117, .ref x126, .ref x127, .ref x129, .ref x132, .long 0]), (x1, oC 2 [.ref x2, .ref x4, .ref x6, .ref x8, .ref x10, .ref x12, .ref x14, .ref x16, .ref x18, .ref x20, .ref x27, .int 0]), (x2, oC 3 [.ref x3, .int 1]), (m0, oC 13 [.ref m1, .ref m2, .int 0, .ref m3, .ref m4, .int 0, .int 0, .int 0, .int (-1), .int 0, .int 0, .int 0, .long 0, .ref m5, .ref m6, .int 0, .int 0]), (m1, aI Y 3640 (clB 0 (fun _ => 0))), (o0, aJ Y 1 (vp_updL (fun _ => 0) 0 (-4)))] rfl ?_
    refine V_iload 1422 B dL_law_1422 1 rfl ?_
    refine V_icmp_eq_t 1424 B 1429 dL_law_1424 (by decide) (by decide +kernel) ?_
    refine V_iload 1429 B dL_law_1429 1 rfl ?_
    refine V_if_ne_f 1431 B 1446 dL_law_1431 (by decide) (by decide +kernel) ?_
    refine V_aload_n 1434 B dL_law_1434 3 rfl ?_
    refine V_iconst 1435 B (v := 0) dL_law_1435 (by decide +kernel) ?_
    refine V_lald 1436 B (v := (-4)) 5 rfl (vpin _ _ (by decide +kernel)) dL_law_1436 rfl ?_
    refine V_iload 1437 B dL_law_1437 0 rfl ?_
    refine V_i2l 1439 B (v := (-4)) dL_law_1439 (by decide +kernel) ?_
    refine V_lcmp 1440 B (v := 0) dL_law_1440 (by decide +kernel) ?_
    refine V_if_eq_t 1441 B 1446 dL_law_1441 (by decide) (by decide +kernel) ?_
    refine V_goto 1446 B 3332 dL_law_1446 (by decide) ?_
    refine V_iinc 3332 B (v := 6) (lv2 := [(4, .int 6), (6, .int (-4)), (5, .int 0), (3, .ref o0), (2, .ref m0), (1, .ref x0), (0, .ref b)]) dL_law_3332 2 rfl (by decide +kernel) (by decide) rfl ?_
    refine V_goto 3335 B 23 dL_law_3335 (by decide) ?_
    refine V_iload 23 B dL_law_23 0 rfl ?_
    refine V_aload_n 25 B dL_law_25 6 rfl ?_
    refine V_slen 26 B hX hbl hbA (v := 6) (by decide +kernel) dL_law_26 ?_
    refine V_bipush 27 B (v := 6) dL_law_27 (by decide +kernel) ?_
    refine V_isub 29 B (v := 0) dL_law_29 (by decide +kernel) ?_
    refine V_icmp_gt_t 30 B 3338 dL_law_30 (by decide) (by decide +kernel) ?_
    exact law_end B (Nat.le_of_ble_eq_true rfl) (Nat.le_of_ble_eq_true rfl) dL_law_3338 dL_law_3339
theorem dL_reason_0 : decode cL_reason 0 = .ok (.aload_n 2, 1) := by decide +kernel
theorem dL_reason_1 : decode cL_reason 1 = .ok (.iconst 0, 1) := by decide +kernel
theorem dL_reason_2 : decode cL_reason 2 = .ok (.aload_n 0, 1) := by decide +kernel
theorem dL_reason_3 : decode cL_reason 3 = .ok (.iload_n 1, 1) := by decide +kernel
theorem dL_reason_4 : decode cL_reason 4 = .ok (.invokevirtual 60, 3) := by decide +kernel
theorem glV_RL_60 : GLV RL 60 yX11_reason RX11 cX11_reason 2 (some .int) 1 := ⟨⟨(mT6 34 rfl rfl), (mT6 35 rfl rfl), (mT6 36 rfl rfl), (mT1 1 rfl rfl), (mT6 37 rfl rfl)⟩, by decide +kernel⟩
theorem dL_reason_12 : decode cL_reason 12 = .ok (.astore_n 3, 1) := by decide +kernel
theorem dL_reason_13 : decode cL_reason 13 = .ok (.iconst 1, 1) := by decide +kernel
theorem dL_reason_14 : decode cL_reason 14 = .ok (.ireturn, 1) := by decide +kernel
theorem dL_reason_7 : decode cL_reason 7 = .ok (.i2l, 1) := by decide +kernel
theorem dL_reason_8 : decode cL_reason 8 = .ok (.lastore, 1) := by decide +kernel
theorem dL_reason_9 : decode cL_reason 9 = .ok (.goto 6, 3) := by decide +kernel
theorem dL_reason_15 : decode cL_reason 15 = .ok (.iconst 0, 1) := by decide +kernel
theorem dL_reason_16 : decode cL_reason 16 = .ok (.ireturn, 1) := by decide +kernel
set_option maxRecDepth 100000 in
set_option maxHeartbeats 4000000 in
theorem mL_reason_1 (l : Launch) (hl9 : l.stackTraces = false) (D : va_G) (Y : Nat → ClassId) (h0 : Nat) (h3 : Nat) (h1 : Nat) (g0 : Nat) (g1 : Nat) (g2 : Nat) (g3 : Nat) (g4 : Nat) (g5 : Nat) (g6 : Nat) (g7 : Nat) (h2 : Nat) (g8 : Nat) (g9 : Nat) (g10 : Nat) (g11 : Nat) (g12 : Nat) (g13 : Nat) (g14 : Nat) (g15 : Nat) (g16 : Nat) (g17 : Nat) (g18 : Nat) (p0 : Int32) (sz : Nat) : Met l yL_reason (Cond.codeWith yL_reason cL_reason 4 (some .int) [(0, 9, 12, 18)] :: lw_good) (mkR 8 1 6 124) (PreX D Y [.ref h0, .int p0, .ref h3] [(h0, oC 12 [.ref h1, .ref g0, .ref g1, .ref g2, .ref g3, .ref g4, .ref g5, .ref g6, .ref g7, .long 0]), (h1, oC 2 [.ref h2, .ref g8, .ref g9, .ref g10, .ref g11, .ref g12, .ref g13, .ref g14, .ref g15, .ref g16, .ref g17, .int 0]), (h2, oC 3 [.ref g18, .int 1]), (h3, aJ Y 1 (fun _ => 0))] sz) (QI D (fun (r : Int32) (u : Nat) => (u = 0 ∧ p0 < 0 ∧ 1 = r) ∨ (u = 1 ∧ ¬ p0 < 0 ∧ 1 ≤ p0 ∧ 1 = r) ∨ (u = 2 ∧ p0 = 0 ∧ 0 = r)) (fun (u : Nat) => match u with | 0 => [(h0, oC 12 [.ref h1, .ref g0, .ref g1, .ref g2, .ref g3, .ref g4, .ref g5, .ref g6, .ref g7, .long 0]), (h1, oC 2 [.ref h2, .ref g8, .ref g9, .ref g10, .ref g11, .ref g12, .ref g13, .ref g14, .ref g15, .ref g16, .ref g17, .int 0]), (h2, oC 3 [.ref g18, .int 1]), (h3, aJ Y 1 (fun _ => 0))] | 1 => [(h0, oC 12 [.ref h1, .ref g0, .ref g1, .ref g2, .ref g3, .ref g4, .ref g5, .ref g6, .ref g7, .long 0]), (h1, oC 2 [.ref h2, .ref g8, .ref g9, .ref g10, .ref g11, .ref g12, .ref g13, .ref g14, .ref g15, .ref g16, .ref g17, .int 0]), (h2, oC 3 [.ref g18, .int 1]), (h3, aJ Y 1 (fun _ => 0))] | _ => [(h0, oC 12 [.ref h1, .ref g0, .ref g1, .ref g2, .ref g3, .ref g4, .ref g5, .ref g6, .ref g7, .long 0]), (h1, oC 2 [.ref h2, .ref g8, .ref g9, .ref g10, .ref g11, .ref g12, .ref g13, .ref g14, .ref g15, .ref g16, .ref g17, .int 0]), (h2, oC 3 [.ref g18, .int 1]), (h3, aJ Y 1 (vp_updL (fun _ => 0) 0 (-4)))]) (va_A [(h0, oC 12 [.ref h1, .ref g0, .ref g1, .ref g2, .ref g3, .ref g4, .ref g5, .ref g6, .ref g7, .long 0]), (h1, oC 2 [.ref h2, .ref g8, .ref g9, .ref g10, .ref g11, .ref g12, .ref g13, .ref g14, .ref g15, .ref g16, .ref g17, .int 0]), (h2, oC 3 [.ref g18, .int 1]), (h3, aJ Y 1 (fun _ => 0))] sz)) 1 6 (va_A [(h0, oC 12 [.ref h1, .ref g0, .ref g1, .ref g2, .ref g3, .ref g4, .ref g5, .ref g6, .ref g7, .long 0]), (h1, oC 2 [.ref h2, .ref g8, .ref g9, .ref g10, .ref g11, .ref g12, .ref g13, .ref g14, .ref g15, .ref g16, .ref g17, .int 0]), (h2, oC 3 [.ref g18, .int 1]), (h3, aJ Y 1 (fun _ => 0))] sz) :=
  metH_of (by decide +kernel) (Nat.le_of_ble_eq_true rfl) (fun p e s m args below meth c B EB htab hsz => by
    have B : VB p s m args meth c D Y (va_A [(h0, oC 12 [.ref h1, .ref g0, .ref g1, .ref g2, .ref g3, .ref g4, .ref g5, .ref g6, .ref g7, .long 0]), (h1, oC 2 [.ref h2, .ref g8, .ref g9, .ref g10, .ref g11, .ref g12, .ref g13, .ref g14, .ref g15, .ref g16, .ref g17, .int 0]), (h2, oC 3 [.ref g18, .int 1]), (h3, aJ Y 1 (fun _ => 0))] sz) cL_reason 4 RL (some .int) := B
    refine V_aload_n 0 B dL_reason_0 2 rfl ?_
    refine V_iconst 1 B (v := 0) dL_reason_1 (by decide +kernel) ?_
    refine V_aload_n 2 B dL_reason_2 0 rfl ?_
    refine V_iload_n 3 B dL_reason_3 1 rfl ?_
    refine V_xvi 4 B EB (st := [.int 0, .ref h3]) (As := [.int p0]) (fun sz => mX11_reason_1 l hl9 D Y (h0) (h1) (g0) (g1) (g2) (g3) (g4) (g5) (g6) (g7) (h2) (g8) (g9) (g10) (g11) (g12) (g13) (g14) (g15) (g16) (g17) (g18) (p0) sz) glV_RL_60 ⟨rfl, rfl⟩ ⟨(Nat.le_of_ble_eq_true rfl), (Nat.le_of_ble_eq_true rfl)⟩ ⟨(Nat.le_of_ble_eq_true rfl), (Nat.le_of_ble_eq_true rfl)⟩ [0, 0, 0] rfl 12 0 rfl rfl rfl rfl (Nat.le_of_ble_eq_true rfl) rfl (fun _ _ _ => rfl) (fun _ _ _ => rfl) dL_reason_4 (fun E u0 w0 => ?_) (fun r0 u0 w0 => ?_)
    ·
      rcases w0 with ⟨rfl, k1⟩ | ⟨rfl, k2, k3⟩
      ·
        refine VX_catch 4 B htab [] (0, 9, 12, 18) [] rfl "java/lang/IndexOutOfBoundsException" (fun z hz => nomatch hz) rfl (by decide) (mT5 103 rfl rfl) (EB.2.2.2.1 _ (List.mem_of_getElem? (i := 1) rfl)) 12 rfl (fun q9 => ?_)
        refine V_ws [(h0, oC 12 [.ref h1, .ref g0, .ref g1, .ref g2, .ref g3, .ref g4, .ref g5, .ref g6, .ref g7, .long 0]), (h1, oC 2 [.ref h2, .ref g8, .ref g9, .ref g10, .ref g11, .ref g12, .ref g13, .ref g14, .ref g15, .ref g16, .ref g17, .int 0]), (h2, oC 3 [.ref g18, .int 1]), (h3, aJ Y 1 (fun _ => 0))] rfl ?_
        refine V_astore_n 12 B (lv2 := [(3, .ref q9), (0, .ref h0), (1, .int p0), (2, .ref h3)]) dL_reason_12 (by decide) rfl ?_
        refine V_iconst 13 B (v := 1) dL_reason_13 (by decide +kernel) ?_
        exact V_iret 14 B dL_reason_14 0 (Or.inl ⟨rfl, k1, rfl⟩) rfl
      ·
        refine VX_catch 4 B htab [] (0, 9, 12, 18) [] rfl "java/lang/IndexOutOfBoundsException" (fun z hz => nomatch hz) rfl (by decide) (mT5 103 rfl rfl) (EB.2.2.2.1 _ (List.mem_of_getElem? (i := 1) rfl)) 12 rfl (fun q9 => ?_)
        refine V_ws [(h0, oC 12 [.ref h1, .ref g0, .ref g1, .ref g2, .ref g3, .ref g4, .ref g5, .ref g6, .ref g7, .long 0]), (h1, oC 2 [.ref h2, .ref g8, .ref g9, .ref g10, .ref g11, .ref g12, .ref g13, .ref g14, .ref g15, .ref g16, .ref g17, .int 0]), (h2, oC 3 [.ref g18, .int 1]), (h3, aJ Y 1 (fun _ => 0))] rfl ?_
        refine V_astore_n 12 B (lv2 := [(3, .ref q9), (0, .ref h0), (1, .int p0), (2, .ref h3)]) dL_reason_12 (by decide) rfl ?_
        refine V_iconst 13 B (v := 1) dL_reason_13 (by decide +kernel) ?_
        exact V_iret 14 B dL_reason_14 1 (Or.inr (Or.inl ⟨rfl, k2, k3, rfl⟩)) rfl
    ·
      obtain ⟨k4, rfl⟩ := w0
      refine V_ws [(h0, oC 12 [.ref h1, .ref g0, .ref g1, .ref g2, .ref g3, .ref g4, .ref g5, .ref g6, .ref g7, .long 0]), (h1, oC 2 [.ref h2, .ref g8, .ref g9, .ref g10, .ref g11, .ref g12, .ref g13, .ref g14, .ref g15, .ref g16, .ref g17, .int 0]), (h2, oC 3 [.ref g18, .int 1]), (h3, aJ Y 1 (fun _ => 0))] rfl ?_
      obtain rfl : p0 = 0 := k4
      refine V_i2l 7 B (v := (-4)) dL_reason_7 (by decide +kernel) ?_
      refine V_last 8 B 3 rfl (vpin _ _ (by decide +kernel)) dL_reason_8 [(h0, oC 12 [.ref h1, .ref g0, .ref g1, .ref g2, .ref g3, .ref g4, .ref g5, .ref g6, .ref g7, .long 0]), (h1, oC 2 [.ref h2, .ref g8, .ref g9, .ref g10, .ref g11, .ref g12, .ref g13, .ref g14, .ref g15, .ref g16, .ref g17, .int 0]), (h2, oC 3 [.ref g18, .int 1]), (h3, aJ Y 1 (vp_updL (fun _ => 0) 0 (-4)))] rfl ?_
      refine V_goto 9 B 15 dL_reason_9 (by decide) ?_
      refine V_iconst 15 B (v := 0) dL_reason_15 (by decide +kernel) ?_
      exact V_iret 16 B dL_reason_16 2 (Or.inr (Or.inr ⟨rfl, rfl, rfl⟩)) rfl)
set_option maxRecDepth 100000 in
set_option maxHeartbeats 4000000 in
theorem mX12_reason_2 (l : Launch) (D : va_G) (Y : Nat → ClassId) (h0 : Nat) (h1 : Nat) (g0 : Nat) (g1 : Nat) (g2 : Nat) (g3 : Nat) (g4 : Nat) (sz : Nat) : Met l yX12_reason (WSm yX12_reason cX12_reason 5 (some .int)) (mkR 2 0 0 46) (PreC D Y [.ref h0, .int 0] [(h0, oC 13 [.ref h1, .ref g0, .int 0, .ref g1, .ref g2, .int 0, .int 0, .int 0, .int (-1), .int 0, .int 0, .int 0, .long 0, .ref g3, .ref g4, .int 0, .int 0]), (h1, aI Y 3640 (clB 0 (fun _ => 0)))] sz) (QI D (fun (r : Int32) (u : Unit) => (-4) = r) (fun (_ : Unit) => [(h0, oC 13 [.ref h1, .ref g0, .int 0, .ref g1, .ref g2, .int 0, .int 0, .int 0, .int (-1), .int 0, .int 0, .int 0, .long 0, .ref g3, .ref g4, .int 0, .int 0]), (h1, aI Y 3640 (clB 0 (fun _ => 0)))]) (va_A [(h0, oC 13 [.ref h1, .ref g0, .int 0, .ref g1, .ref g2, .int 0, .int 0, .int 0, .int (-1), .int 0, .int 0, .int 0, .long 0, .ref g3, .ref g4, .int 0, .int 0]), (h1, aI Y 3640 (clB 0 (fun _ => 0)))] sz)) 0 0 (va_A [(h0, oC 13 [.ref h1, .ref g0, .int 0, .ref g1, .ref g2, .int 0, .int 0, .int 0, .int (-1), .int 0, .int 0, .int 0, .long 0, .ref g3, .ref g4, .int 0, .int 0]), (h1, aI Y 3640 (clB 0 (fun _ => 0)))] sz) :=
  met_of (by decide +kernel) (Nat.le_of_ble_eq_true rfl) (fun p e s m args below meth c B hin hsz => by
    have B : VB p s m args meth c D Y (va_A [(h0, oC 13 [.ref h1, .ref g0, .int 0, .ref g1, .ref g2, .int 0, .int 0, .int 0, .int (-1), .int 0, .int 0, .int 0, .long 0, .ref g3, .ref g4, .int 0, .int 0]), (h1, aI Y 3640 (clB 0 (fun _ => 0)))] sz) cX12_reason 5 RX12 (some .int) := B
    refine V_aload_n 0 B dX12_reason_0 0 rfl ?_
    refine V_iconst 1 B (v := 0) dX12_reason_1 (by decide +kernel) ?_
    refine V_put 2 B gp_RX12_38 0 rfl (Nat.le_of_ble_eq_true rfl) rfl rfl dX12_reason_2 [(h0, oC 13 [.ref h1, .ref g0, .int 0, .ref g1, .ref g2, .int 0, .int 0, .int 0, .int (-1), .int 0, .int 0, .int 0, .long 0, .ref g3, .ref g4, .int 0, .int 0]), (h1, aI Y 3640 (clB 0 (fun _ => 0)))] rfl ?_
    refine V_aload_n 5 B dX12_reason_5 0 rfl ?_
    refine V_aload_n 6 B dX12_reason_6 0 rfl ?_
    refine V_iload_n 7 B dX12_reason_7 1 rfl ?_
    refine V_cvi 8 B (st := [.ref h0]) (As := [.int 0]) (fun sz => mX12_isMode_2 l D Y (h0) (h1) (g0) (g1) (g2) (g3) (g4) sz) glV_RX12_91 ⟨rfl, rfl⟩ ⟨(Nat.le_of_ble_eq_true rfl), (Nat.le_of_ble_eq_true rfl)⟩ ⟨(Nat.le_of_ble_eq_true rfl), (Nat.le_of_ble_eq_true rfl)⟩ [0, 0] rfl 13 0 rfl rfl rfl rfl (Nat.le_of_ble_eq_true rfl) rfl (fun _ _ _ => rfl) dX12_reason_8 (fun r0 u0 w0 => ?_)
    obtain rfl := w0
    refine V_ws [(h0, oC 13 [.ref h1, .ref g0, .int 0, .ref g1, .ref g2, .int 0, .int 0, .int 0, .int (-1), .int 0, .int 0, .int 0, .long 0, .ref g3, .ref g4, .int 0, .int 0]), (h1, aI Y 3640 (clB 0 (fun _ => 0)))] rfl ?_
    refine V_if_ne_t 11 B 18 dX12_reason_11 (by decide) (by decide +kernel) ?_
    refine V_iconst 18 B (v := 0) dX12_reason_18 (by decide +kernel) ?_
    refine V_iconst 19 B (v := 1) dX12_reason_19 (by decide +kernel) ?_
    refine V_cvi 20 B (st := []) (As := [.int 0, .int 1]) (fun sz => mX12_throwsIf_2 l D Y (h0) (h1) (g0) (g1) (g2) (g3) (g4) sz) glV_RX12_69 ⟨rfl, rfl⟩ ⟨(Nat.le_of_ble_eq_true rfl), (Nat.le_of_ble_eq_true rfl)⟩ ⟨(Nat.le_of_ble_eq_true rfl), (Nat.le_of_ble_eq_true rfl)⟩ [0] rfl 13 0 rfl rfl rfl rfl (Nat.le_of_ble_eq_true rfl) rfl (fun _ _ _ => rfl) dX12_reason_20 (fun r1 u1 w1 => ?_)
    obtain rfl := w1
    refine V_ws [(h0, oC 13 [.ref h1, .ref g0, .int 0, .ref g1, .ref g2, .int 0, .int 0, .int 0, .int (-1), .int 0, .int 0, .int 0, .long 0, .ref g3, .ref g4, .int 0, .int 0]), (h1, aI Y 3640 (clB 0 (fun _ => 0)))] rfl ?_
    refine V_if_eq_t 23 B 28 dX12_reason_23 (by decide) (by decide +kernel) ?_
    refine V_aload_n 28 B dX12_reason_28 0 rfl ?_
    refine V_cvi 29 B (st := []) (As := []) (fun sz => mX12_hasNoDraft_1 l D Y (h0) (h1) (g0) (g1) (g2) (g3) (g4) sz) glV_RX12_125 ⟨rfl, rfl⟩ ⟨(Nat.le_of_ble_eq_true rfl), (Nat.le_of_ble_eq_true rfl)⟩ ⟨(Nat.le_of_ble_eq_true rfl), (Nat.le_of_ble_eq_true rfl)⟩ [0, 0] rfl 13 0 rfl rfl rfl rfl (Nat.le_of_ble_eq_true rfl) rfl (fun _ _ _ => rfl) dX12_reason_29 (fun r2 u2 w2 => ?_)
    obtain rfl := w2
    refine V_ws [(h0, oC 13 [.ref h1, .ref g0, .int 0, .ref g1, .ref g2, .int 0, .int 0, .int 0, .int (-1), .int 0, .int 0, .int 0, .long 0, .ref g3, .ref g4, .int 0, .int 0]), (h1, aI Y 3640 (clB 0 (fun _ => 0)))] rfl ?_
    refine V_if_eq_f 32 B 38 dX12_reason_32 (by decide) (by decide +kernel) ?_
    refine V_bipush 35 B (v := (-4)) dX12_reason_35 (by decide +kernel) ?_
    exact V_iret 37 B dX12_reason_37 () rfl rfl)
theorem dL_law_1449 : decode cL_law 1449 = .ok (.aload_n 1, 1) := by decide +kernel
theorem dL_law_1450 : decode cL_law 1450 = .ok (.aload_n 0, 1) := by decide +kernel
theorem dL_law_1451 : decode cL_law 1451 = .ok (.iload 4, 2) := by decide +kernel
theorem dL_law_1453 : decode cL_law 1453 = .ok (.iconst 1, 1) := by decide +kernel
theorem dL_law_1454 : decode cL_law 1454 = .ok (.iadd, 1) := by decide +kernel
theorem dL_law_1455 : decode cL_law 1455 = .ok (.iaload, 1) := by decide +kernel
theorem dL_law_1456 : decode cL_law 1456 = .ok (.aload_n 3, 1) := by decide +kernel
theorem dL_law_1457 : decode cL_law 1457 = .ok (.invokestatic 240, 3) := by decide +kernel
theorem glH_RL_240 : GLH RL 240 yL_reason cL_reason 4 (some .int) [(0, 9, 12, 18)] 3 := ⟨⟨(mT6 31 rfl rfl), (mT6 32 rfl rfl), (mT1 0 rfl rfl), (mT6 33 rfl rfl)⟩, by decide +kernel⟩
theorem dL_law_1460 : decode cL_law 1460 = .ok (.istore 5, 2) := by decide +kernel
theorem dL_law_1462 : decode cL_law 1462 = .ok (.aload_n 2, 1) := by decide +kernel
theorem dL_law_1463 : decode cL_law 1463 = .ok (.aload_n 0, 1) := by decide +kernel
theorem dL_law_1464 : decode cL_law 1464 = .ok (.iload 4, 2) := by decide +kernel
theorem dL_law_1466 : decode cL_law 1466 = .ok (.iconst 1, 1) := by decide +kernel
theorem dL_law_1467 : decode cL_law 1467 = .ok (.iadd, 1) := by decide +kernel
theorem dL_law_1468 : decode cL_law 1468 = .ok (.iaload, 1) := by decide +kernel
theorem dL_law_1469 : decode cL_law 1469 = .ok (.invokevirtual 242, 3) := by decide +kernel
theorem glV_RL_242 : GLV RL 242 yX12_reason RX12 cX12_reason 5 (some .int) 1 := ⟨⟨(mT8 160 rfl rfl), (mT8 161 rfl rfl), (mT8 162 rfl rfl), (mT1 13 rfl rfl), (mT8 163 rfl rfl)⟩, by decide +kernel⟩
theorem dL_law_1472 : decode cL_law 1472 = .ok (.istore 6, 2) := by decide +kernel
theorem dL_law_1474 : decode cL_law 1474 = .ok (.aload_n 2, 1) := by decide +kernel
theorem dL_law_1475 : decode cL_law 1475 = .ok (.invokevirtual 182, 3) := by decide +kernel
theorem dL_law_1478 : decode cL_law 1478 = .ok (.iload 5, 2) := by decide +kernel
theorem dL_law_1480 : decode cL_law 1480 = .ok (.if_icmp .eq 5, 3) := by decide +kernel
theorem dL_law_1485 : decode cL_law 1485 = .ok (.iload 5, 2) := by decide +kernel
theorem dL_law_1487 : decode cL_law 1487 = .ok (.ifCond .ne 15, 3) := by decide +kernel
theorem dL_law_1502 : decode cL_law 1502 = .ok (.goto 1830, 3) := by decide +kernel
theorem dL_law_1490 : decode cL_law 1490 = .ok (.aload_n 3, 1) := by decide +kernel
theorem dL_law_1491 : decode cL_law 1491 = .ok (.iconst 0, 1) := by decide +kernel
theorem dL_law_1492 : decode cL_law 1492 = .ok (.laload, 1) := by decide +kernel
theorem dL_law_1493 : decode cL_law 1493 = .ok (.iload 6, 2) := by decide +kernel
theorem dL_law_1495 : decode cL_law 1495 = .ok (.i2l, 1) := by decide +kernel
theorem dL_law_1496 : decode cL_law 1496 = .ok (.lcmp, 1) := by decide +kernel
theorem dL_law_1497 : decode cL_law 1497 = .ok (.ifCond .eq 5, 3) := by decide +kernel
set_option maxRecDepth 100000 in
set_option maxHeartbeats 4000000 in
theorem law_c24 {p : Program} {l : Launch} {e : Env} {s : State} {m : MethodId} {below : List Frame} {meth : Method} {c : Code} {b : Nat} {xs : Nat → Int32} {D : va_G} {Y : Nat → ClassId} (B : VB p s m #[Value.ref b] meth c D Y (fun q => s.heap.size ≤ q) cL_law 8 RL ret) (EB : EX (fun q => s.heap.size ≤ q) s s.heap) (hl9 : l.stackTraces = false) (hX : va_X b 6 xs s s.heap) (hbl : b < s.heap.size) (hbA : ¬ (fun q => s.heap.size ≤ q) b) (x0 x1 x30 x59 x88 x117 x126 x127 x129 x132 x2 x4 x6 x8 x10 x12 x14 x16 x18 x20 x27 x3 m0 m1 m2 m3 m4 m5 m6 o0 : Nat) (p1 : Int32) (e1 : xs 1 = p1) : V p l e room_1 s m #[Value.ref b] below meth c D (fun q => s.heap.size ≤ q) 8 149 10574 (lw_Z below #[Value.ref b] s) 1449 [(4, .int 0), (3, .ref o0), (2, .ref m0), (1, .ref x0), (0, .ref b)] [] [(x0, oC 12 [.ref x1, .ref x30, .ref x59, .ref x88, .ref x117, .ref x126, .ref x127, .ref x129, .ref x132, .long 0]), (x1, oC 2 [.ref x2, .ref x4, .ref x6, .ref x8, .ref x10, .ref x12, .ref x14, .ref x16, .ref x18, .ref x20, .ref x27, .int 0]), (x2, oC 3 [.ref x3, .int 1]), (m0, oC 13 [.ref m1, .ref m2, .int 0, .ref m3, .ref m4, .int 0, .int 0, .int 0, .int (-1), .int 0, .int 0, .int 0, .long 0, .ref m5, .ref m6, .int 0, .int 0]), (m1, aI Y 3640 (clB 0 (fun _ => 0))), (o0, aJ Y 1 (fun _ => 0))] := by
  refine V_aload_n 1449 B dL_law_1449 3 rfl ?_
  refine V_aload_n 1450 B dL_law_1450 4 rfl ?_
  refine V_iload 1451 B dL_law_1451 0 rfl ?_
  refine V_iconst 1453 B (v := 1) dL_law_1453 (by decide +kernel) ?_
  refine V_iadd 1454 B (v := 1) dL_law_1454 (by decide +kernel) ?_
  refine V_sld 1455 B hX hbl hbA (v := p1) (vpin _ _ (by decide +kernel)) dL_law_1455 e1 ?_
  refine V_aload_n 1456 B dL_law_1456 1 rfl ?_
  refine V_hsi 1457 B EB (st := []) (As := [.ref x0, .int p1, .ref o0]) (fun sz => mL_reason_1 l hl9 D Y (x0) (o0) (x1) (x30) (x59) (x88) (x117) (x126) (x127) (x129) (x132) (x2) (x4) (x6) (x8) (x10) (x12) (x14) (x16) (x18) (x20) (x27) (x3) (p1) sz) glH_RL_240 ⟨rfl, rfl⟩ ⟨(Nat.le_of_ble_eq_true rfl), (Nat.le_of_ble_eq_true rfl)⟩ ⟨(Nat.le_of_ble_eq_true rfl), (Nat.le_of_ble_eq_true rfl)⟩ [0, 0, 0, 2] rfl rfl (Nat.le_of_ble_eq_true rfl) rfl (fun _ u _ => by
        first | rfl | (split <;> rfl) | (dsimp only; split <;> rfl)) dL_law_1457 (fun r0 u0 w0 => ?_)
  rcases w0 with ⟨rfl, k1, rfl⟩ | ⟨rfl, k2, k3, rfl⟩ | ⟨rfl, k4, rfl⟩
  ·
    refine V_ws [(x0, oC 12 [.ref x1, .ref x30, .ref x59, .ref x88, .ref x117, .ref x126, .ref x127, .ref x129, .ref x132, .long 0]), (x1, oC 2 [.ref x2, .ref x4, .ref x6, .ref x8, .ref x10, .ref x12, .ref x14, .ref x16, .ref x18, .ref x20, .ref x27, .int 0]), (x2, oC 3 [.ref x3, .int 1]), (m0, oC 13 [.ref m1, .ref m2, .int 0, .ref m3, .ref m4, .int 0, .int 0, .int 0, .int (-1), .int 0, .int 0, .int 0, .long 0, .ref m5, .ref m6, .int 0, .int 0]), (m1, aI Y 3640 (clB 0 (fun _ => 0))), (o0, aJ Y 1 (fun _ => 0))] rfl ?_
    refine V_istore 1460 B (lv2 := [(5, .int 1), (4, .int 0), (3, .ref o0), (2, .ref m0), (1, .ref x0), (0, .ref b)]) dL_law_1460 (by decide) rfl ?_
    refine V_aload_n 1462 B dL_law_1462 3 rfl ?_
    refine V_aload_n 1463 B dL_law_1463 5 rfl ?_
    refine V_iload 1464 B dL_law_1464 1 rfl ?_
    refine V_iconst 1466 B (v := 1) dL_law_1466 (by decide +kernel) ?_
    refine V_iadd 1467 B (v := 1) dL_law_1467 (by decide +kernel) ?_
    refine V_sld 1468 B hX hbl hbA (v := p1) (vpin _ _ (by decide +kernel)) dL_law_1468 e1 ?_
    refine V_cvi 1469 B (st := []) (As := [.int p1]) (fun sz => mX12_reason_1 l D Y (m0) (m1) (m2) (m3) (m4) (m5) (m6) (p1) sz) glV_RL_242 ⟨rfl, rfl⟩ ⟨(Nat.le_of_ble_eq_true rfl), (Nat.le_of_ble_eq_true rfl)⟩ ⟨(Nat.le_of_ble_eq_true rfl), (Nat.le_of_ble_eq_true rfl)⟩ [3, 0] rfl 13 0 rfl rfl rfl rfl (Nat.le_of_ble_eq_true rfl) rfl (fun _ u _ => by
        first | rfl | (split <;> rfl) | (dsimp only; split <;> rfl)) dL_law_1469 (fun r5 u5 w5 => ?_)
    rcases w5 with ⟨rfl, k6, rfl⟩ | ⟨rfl, k7, rfl⟩ | ⟨rfl, k8, rfl⟩
    ·
      refine V_ws [(x0, oC 12 [.ref x1, .ref x30, .ref x59, .ref x88, .ref x117, .ref x126, .ref x127, .ref x129, .ref x132, .long 0]), (x1, oC 2 [.ref x2, .ref x4, .ref x6, .ref x8, .ref x10, .ref x12, .ref x14, .ref x16, .ref x18, .ref x20, .ref x27, .int 0]), (x2, oC 3 [.ref x3, .int 1]), (m0, oC 13 [.ref m1, .ref m2, .int 0, .ref m3, .ref m4, .int 0, .int 0, .int 0, .int (-1), .int 0, .int 0, .int 0, .long 0, .ref m5, .ref m6, .int 0, .int 0]), (m1, aI Y 3640 (clB 0 (fun _ => 0))), (o0, aJ Y 1 (fun _ => 0))] rfl ?_
      exact absurd k6 (q_neh (b_lt k1 (n := (-1)) (by decide +kernel)) (by decide +kernel))
    ·
      refine V_ws [(x0, oC 12 [.ref x1, .ref x30, .ref x59, .ref x88, .ref x117, .ref x126, .ref x127, .ref x129, .ref x132, .long 0]), (x1, oC 2 [.ref x2, .ref x4, .ref x6, .ref x8, .ref x10, .ref x12, .ref x14, .ref x16, .ref x18, .ref x20, .ref x27, .int 0]), (x2, oC 3 [.ref x3, .int 1]), (m0, oC 13 [.ref m1, .ref m2, .int 1, .ref m3, .ref m4, .int 0, .int 0, .int 0, .int (-1), .int 0, .int 0, .int 0, .long 0, .ref m5, .ref m6, .int 0, .int 0]), (m1, aI Y 3640 (clB 0 (fun _ => 0))), (o0, aJ Y 1 (fun _ => 0))] rfl ?_
      refine V_istore 1472 B (lv2 := [(6, .int 0), (5, .int 1), (4, .int 0), (3, .ref o0), (2, .ref m0), (1, .ref x0), (0, .ref b)]) dL_law_1472 (by decide) rfl ?_
      refine V_aload_n 1474 B dL_law_1474 4 rfl ?_
      refine V_cvi 1475 B (st := []) (As := []) (fun sz => mX12_thrown_2 l D Y (m0) (m1) (m2) (m3) (m4) (m5) (m6) sz) glV_RL_182 ⟨rfl, rfl⟩ ⟨(Nat.le_of_ble_eq_true rfl), (Nat.le_of_ble_eq_true rfl)⟩ ⟨(Nat.le_of_ble_eq_true rfl), (Nat.le_of_ble_eq_true rfl)⟩ [3] rfl 13 0 rfl rfl rfl rfl (Nat.le_of_ble_eq_true rfl) rfl (fun _ _ _ => rfl) dL_law_1475 (fun r9 u9 w9 => ?_)
      obtain rfl := w9
      refine V_ws [(x0, oC 12 [.ref x1, .ref x30, .ref x59, .ref x88, .ref x117, .ref x126, .ref x127, .ref x129, .ref x132, .long 0]), (x1, oC 2 [.ref x2, .ref x4, .ref x6, .ref x8, .ref x10, .ref x12, .ref x14, .ref x16, .ref x18, .ref x20, .ref x27, .int 0]), (x2, oC 3 [.ref x3, .int 1]), (m0, oC 13 [.ref m1, .ref m2, .int 1, .ref m3, .ref m4, .int 0, .int 0, .int 0, .int (-1), .int 0, .int 0, .int 0, .long 0, .ref m5, .ref m6, .int 0, .int 0]), (m1, aI Y 3640 (clB 0 (fun _ => 0))), (o0, aJ Y 1 (fun _ => 0))] rfl ?_
      refine V_iload 1478 B dL_law_1478 1 rfl ?_
      refine V_icmp_eq_t 1480 B 1485 dL_law_1480 (by decide) (by decide +kernel) ?_
      refine V_iload 1485 B dL_law_1485 1 rfl ?_
      refine V_if_ne_t 1487 B 1502 dL_law_1487 (by decide) (by decide +kernel) ?_
      refine V_goto 1502 B 3332 dL_law_1502 (by decide) ?_
      refine V_iinc 3332 B (v := 6) (lv2 := [(4, .int 6), (6, .int 0), (5, .int 1), (3, .ref o0), (2, .ref m0), (1, .ref x0), (0, .ref b)]) dL_law_3332 2 rfl (by decide +kernel) (by decide) rfl ?_
      refine V_goto 3335 B 23 dL_law_3335 (by decide) ?_
      refine V_iload 23 B dL_law_23 0 rfl ?_
      refine V_aload_n 25 B dL_law_25 6 rfl ?_
      refine V_slen 26 B hX hbl hbA (v := 6) (by decide +kernel) dL_law_26 ?_
      refine V_bipush 27 B (v := 6) dL_law_27 (by decide +kernel) ?_
      refine V_isub 29 B (v := 0) dL_law_29 (by decide +kernel) ?_
      refine V_icmp_gt_t 30 B 3338 dL_law_30 (by decide) (by decide +kernel) ?_
      exact law_end B (Nat.le_of_ble_eq_true rfl) (Nat.le_of_ble_eq_true rfl) dL_law_3338 dL_law_3339
    ·
      refine V_ws [(x0, oC 12 [.ref x1, .ref x30, .ref x59, .ref x88, .ref x117, .ref x126, .ref x127, .ref x129, .ref x132, .long 0]), (x1, oC 2 [.ref x2, .ref x4, .ref x6, .ref x8, .ref x10, .ref x12, .ref x14, .ref x16, .ref x18, .ref x20, .ref x27, .int 0]), (x2, oC 3 [.ref x3, .int 1]), (m0, oC 13 [.ref m1, .ref m2, .int 1, .ref m3, .ref m4, .int 0, .int 0, .int 0, .int (-1), .int 0, .int 0, .int 0, .long 0, .ref m5, .ref m6, .int 0, .int 0]), (m1, aI Y 3640 (clB 0 (fun _ => 0))), (o0, aJ Y 1 (fun _ => 0))] rfl ?_
      exact (q_abs (b_gt k8 (n := 1) (by decide +kernel)) (b_lt k1 (n := (-1)) (by decide +kernel)) (by decide +kernel)).elim
  ·
    refine V_ws [(x0, oC 12 [.ref x1, .ref x30, .ref x59, .ref x88, .ref x117, .ref x126, .ref x127, .ref x129, .ref x132, .long 0]), (x1, oC 2 [.ref x2, .ref x4, .ref x6, .ref x8, .ref x10, .ref x12, .ref x14, .ref x16, .ref x18, .ref x20, .ref x27, .int 0]), (x2, oC 3 [.ref x3, .int 1]), (m0, oC 13 [.ref m1, .ref m2, .int 0, .ref m3, .ref m4, .int 0, .int 0, .int 0, .int (-1), .int 0, .int 0, .int 0, .long 0, .ref m5, .ref m6, .int 0, .int 0]), (m1, aI Y 3640 (clB 0 (fun _ => 0))), (o0, aJ Y 1 (fun _ => 0))] rfl ?_
    refine V_istore 1460 B (lv2 := [(5, .int 1), (4, .int 0), (3, .ref o0), (2, .ref m0), (1, .ref x0), (0, .ref b)]) dL_law_1460 (by decide) rfl ?_
    refine V_aload_n 1462 B dL_law_1462 3 rfl ?_
    refine V_aload_n 1463 B dL_law_1463 5 rfl ?_
    refine V_iload 1464 B dL_law_1464 1 rfl ?_
    refine V_iconst 1466 B (v := 1) dL_law_1466 (by decide +kernel) ?_
    refine V_iadd 1467 B (v := 1) dL_law_1467 (by decide +kernel) ?_
    refine V_sld 1468 B hX hbl hbA (v := p1) (vpin _ _ (by decide +kernel)) dL_law_1468 e1 ?_
    refine V_cvi 1469 B (st := []) (As := [.int p1]) (fun sz => mX12_reason_1 l D Y (m0) (m1) (m2) (m3) (m4) (m5) (m6) (p1) sz) glV_RL_242 ⟨rfl, rfl⟩ ⟨(Nat.le_of_ble_eq_true rfl), (Nat.le_of_ble_eq_true rfl)⟩ ⟨(Nat.le_of_ble_eq_true rfl), (Nat.le_of_ble_eq_true rfl)⟩ [3, 0] rfl 13 0 rfl rfl rfl rfl (Nat.le_of_ble_eq_true rfl) rfl (fun _ u _ => by
        first | rfl | (split <;> rfl) | (dsimp only; split <;> rfl)) dL_law_1469 (fun r10 u10 w10 => ?_)
    rcases w10 with ⟨rfl, k11, rfl⟩ | ⟨rfl, k12, rfl⟩ | ⟨rfl, k13, rfl⟩
    ·
      refine V_ws [(x0, oC 12 [.ref x1, .ref x30, .ref x59, .ref x88, .ref x117, .ref x126, .ref x127, .ref x129, .ref x132, .long 0]), (x1, oC 2 [.ref x2, .ref x4, .ref x6, .ref x8, .ref x10, .ref x12, .ref x14, .ref x16, .ref x18, .ref x20, .ref x27, .int 0]), (x2, oC 3 [.ref x3, .int 1]), (m0, oC 13 [.ref m1, .ref m2, .int 0, .ref m3, .ref m4, .int 0, .int 0, .int 0, .int (-1), .int 0, .int 0, .int 0, .long 0, .ref m5, .ref m6, .int 0, .int 0]), (m1, aI Y 3640 (clB 0 (fun _ => 0))), (o0, aJ Y 1 (fun _ => 0))] rfl ?_
      exact absurd k11 (q_nel (b_ge k3 (n := 1) (by decide +kernel)) (by decide +kernel))
    ·
      refine V_ws [(x0, oC 12 [.ref x1, .ref x30, .ref x59, .ref x88, .ref x117, .ref x126, .ref x127, .ref x129, .ref x132, .long 0]), (x1, oC 2 [.ref x2, .ref x4, .ref x6, .ref x8, .ref x10, .ref x12, .ref x14, .ref x16, .ref x18, .ref x20, .ref x27, .int 0]), (x2, oC 3 [.ref x3, .int 1]), (m0, oC 13 [.ref m1, .ref m2, .int 1, .ref m3, .ref m4, .int 0, .int 0, .int 0, .int (-1), .int 0, .int 0, .int 0, .long 0, .ref m5, .ref m6, .int 0, .int 0]), (m1, aI Y 3640 (clB 0 (fun _ => 0))), (o0, aJ Y 1 (fun _ => 0))] rfl ?_
      exact (q_abs (b_ge k3 (n := 1) (by decide +kernel)) (b_lt k12 (n := (-1)) (by decide +kernel)) (by decide +kernel)).elim
    ·
      refine V_ws [(x0, oC 12 [.ref x1, .ref x30, .ref x59, .ref x88, .ref x117, .ref x126, .ref x127, .ref x129, .ref x132, .long 0]), (x1, oC 2 [.ref x2, .ref x4, .ref x6, .ref x8, .ref x10, .ref x12, .ref x14, .ref x16, .ref x18, .ref x20, .ref x27, .int 0]), (x2, oC 3 [.ref x3, .int 1]), (m0, oC 13 [.ref m1, .ref m2, .int 1, .ref m3, .ref m4, .int 0, .int 0, .int 0, .int (-1), .int 0, .int 0, .int 0, .long 0, .ref m5, .ref m6, .int 0, .int 0]), (m1, aI Y 3640 (clB 0 (fun _ => 0))), (o0, aJ Y 1 (fun _ => 0))] rfl ?_
      refine V_istore 1472 B (lv2 := [(6, .int 0), (5, .int 1), (4, .int 0), (3, .ref o0), (2, .ref m0), (1, .ref x0), (0, .ref b)]) dL_law_1472 (by decide) rfl ?_
      refine V_aload_n 1474 B dL_law_1474 4 rfl ?_
      refine V_cvi 1475 B (st := []) (As := []) (fun sz => mX12_thrown_2 l D Y (m0) (m1) (m2) (m3) (m4) (m5) (m6) sz) glV_RL_182 ⟨rfl, rfl⟩ ⟨(Nat.le_of_ble_eq_true rfl), (Nat.le_of_ble_eq_true rfl)⟩ ⟨(Nat.le_of_ble_eq_true rfl), (Nat.le_of_ble_eq_true rfl)⟩ [3] rfl 13 0 rfl rfl rfl rfl (Nat.le_of_ble_eq_true rfl) rfl (fun _ _ _ => rfl) dL_law_1475 (fun r14 u14 w14 => ?_)
      obtain rfl := w14
      refine V_ws [(x0, oC 12 [.ref x1, .ref x30, .ref x59, .ref x88, .ref x117, .ref x126, .ref x127, .ref x129, .ref x132, .long 0]), (x1, oC 2 [.ref x2, .ref x4, .ref x6, .ref x8, .ref x10, .ref x12, .ref x14, .ref x16, .ref x18, .ref x20, .ref x27, .int 0]), (x2, oC 3 [.ref x3, .int 1]), (m0, oC 13 [.ref m1, .ref m2, .int 1, .ref m3, .ref m4, .int 0, .int 0, .int 0, .int (-1), .int 0, .int 0, .int 0, .long 0, .ref m5, .ref m6, .int 0, .int 0]), (m1, aI Y 3640 (clB 0 (fun _ => 0))), (o0, aJ Y 1 (fun _ => 0))] rfl ?_
      refine V_iload 1478 B dL_law_1478 1 rfl ?_
      refine V_icmp_eq_t 1480 B 1485 dL_law_1480 (by decide) (by decide +kernel) ?_
      refine V_iload 1485 B dL_law_1485 1 rfl ?_
      refine V_if_ne_t 1487 B 1502 dL_law_1487 (by decide) (by decide +kernel) ?_
      refine V_goto 1502 B 3332 dL_law_1502 (by decide) ?_
      refine V_iinc 3332 B (v := 6) (lv2 := [(4, .int 6), (6, .int 0), (5, .int 1), (3, .ref o0), (2, .ref m0), (1, .ref x0), (0, .ref b)]) dL_law_3332 2 rfl (by decide +kernel) (by decide) rfl ?_
      refine V_goto 3335 B 23 dL_law_3335 (by decide) ?_
      refine V_iload 23 B dL_law_23 0 rfl ?_
      refine V_aload_n 25 B dL_law_25 6 rfl ?_
      refine V_slen 26 B hX hbl hbA (v := 6) (by decide +kernel) dL_law_26 ?_
      refine V_bipush 27 B (v := 6) dL_law_27 (by decide +kernel) ?_
      refine V_isub 29 B (v := 0) dL_law_29 (by decide +kernel) ?_
      refine V_icmp_gt_t 30 B 3338 dL_law_30 (by decide) (by decide +kernel) ?_
      exact law_end B (Nat.le_of_ble_eq_true rfl) (Nat.le_of_ble_eq_true rfl) dL_law_3338 dL_law_3339
  ·
    refine V_ws [(x0, oC 12 [.ref x1, .ref x30, .ref x59, .ref x88, .ref x117, .ref x126, .ref x127, .ref x129, .ref x132, .long 0]), (x1, oC 2 [.ref x2, .ref x4, .ref x6, .ref x8, .ref x10, .ref x12, .ref x14, .ref x16, .ref x18, .ref x20, .ref x27, .int 0]), (x2, oC 3 [.ref x3, .int 1]), (m0, oC 13 [.ref m1, .ref m2, .int 0, .ref m3, .ref m4, .int 0, .int 0, .int 0, .int (-1), .int 0, .int 0, .int 0, .long 0, .ref m5, .ref m6, .int 0, .int 0]), (m1, aI Y 3640 (clB 0 (fun _ => 0))), (o0, aJ Y 1 (vp_updL (fun _ => 0) 0 (-4)))] rfl ?_
    obtain rfl : p1 = 0 := k4
    refine V_istore 1460 B (lv2 := [(5, .int 0), (4, .int 0), (3, .ref o0), (2, .ref m0), (1, .ref x0), (0, .ref b)]) dL_law_1460 (by decide) rfl ?_
    refine V_aload_n 1462 B dL_law_1462 3 rfl ?_
    refine V_aload_n 1463 B dL_law_1463 5 rfl ?_
    refine V_iload 1464 B dL_law_1464 1 rfl ?_
    refine V_iconst 1466 B (v := 1) dL_law_1466 (by decide +kernel) ?_
    refine V_iadd 1467 B (v := 1) dL_law_1467 (by decide +kernel) ?_
    refine V_sld 1468 B hX hbl hbA (v := 0) (vpin _ _ (by decide +kernel)) dL_law_1468 e1 ?_
    refine V_cvi 1469 B (st := []) (As := [.int 0]) (fun sz => mX12_reason_2 l D Y (m0) (m1) (m2) (m3) (m4) (m5) (m6) sz) glV_RL_242 ⟨rfl, rfl⟩ ⟨(Nat.le_of_ble_eq_true rfl), (Nat.le_of_ble_eq_true rfl)⟩ ⟨(Nat.le_of_ble_eq_true rfl), (Nat.le_of_ble_eq_true rfl)⟩ [3, 0] rfl 13 0 rfl rfl rfl rfl (Nat.le_of_ble_eq_true rfl) rfl (fun _ _ _ => rfl) dL_law_1469 (fun r15 u15 w15 => ?_)
    obtain rfl := w15
    refine V_ws [(x0, oC 12 [.ref x1, .ref x30, .ref x59, .ref x88, .ref x117, .ref x126, .ref x127, .ref x129, .ref x132, .long 0]), (x1, oC 2 [.ref x2, .ref x4, .ref x6, .ref x8, .ref x10, .ref x12, .ref x14, .ref x16, .ref x18, .ref x20, .ref x27, .int 0]), (x2, oC 3 [.ref x3, .int 1]), (m0, oC 13 [.ref m1, .ref m2, .int 0, .ref m3, .ref m4, .int 0, .int 0, .int 0, .int (-1), .int 0, .int 0, .int 0, .long 0, .ref m5, .ref m6, .int 0, .int 0]), (m1, aI Y 3640 (clB 0 (fun _ => 0))), (o0, aJ Y 1 (vp_updL (fun _ => 0) 0 (-4)))] rfl ?_
    refine V_istore 1472 B (lv2 := [(6, .int (-4)), (5, .int 0), (4, .int 0), (3, .ref o0), (2, .ref m0), (1, .ref x0), (0, .ref b)]) dL_law_1472 (by decide) rfl ?_
    refine V_aload_n 1474 B dL_law_1474 4 rfl ?_
    refine V_cvi 1475 B (st := []) (As := []) (fun sz => mX12_thrown_1 l D Y (m0) (m1) (m2) (m3) (m4) (m5) (m6) sz) glV_RL_182 ⟨rfl, rfl⟩ ⟨(Nat.le_of_ble_eq_true rfl), (Nat.le_of_ble_eq_true rfl)⟩ ⟨(Nat.le_of_ble_eq_true rfl), (Nat.le_of_ble_eq_true rfl)⟩ [3] rfl 13 0 rfl rfl rfl rfl (Nat.le_of_ble_eq_true rfl) rfl (fun _ _ _ => rfl) dL_law_1475 (fun r16 u16 w16 => ?_)
    obtain rfl := w16
    refine V_ws [(x0, oC 12 [.ref x1, .ref x30, .ref x59, .ref x88, .ref x117, .ref x126, .ref x127, .ref x129, .ref x132, .long 0]), (x1, oC 2 [.ref x2, .ref x4, .ref x6, .ref x8, .ref x10, .ref x12, .ref x14, .ref x16, .ref x18, .ref x20, .ref x27, .int 0]), (x2, oC 3 [.ref x3, .int 1]), (m0, oC 13 [.ref m1, .ref m2, .int 0, .ref m3, .ref m4, .int 0, .int 0, .int 0, .int (-1), .int 0, .int 0, .int 0, .long 0, .ref m5, .ref m6, .int 0, .int 0]), (m1, aI Y 3640 (clB 0 (fun _ => 0))), (o0, aJ Y 1 (vp_updL (fun _ => 0) 0 (-4)))] rfl ?_
    refine V_iload 1478 B dL_law_1478 1 rfl ?_
    refine V_icmp_eq_t 1480 B 1485 dL_law_1480 (by decide) (by decide +kernel) ?_
    refine V_iload 1485 B dL_law_1485 1 rfl ?_
    refine V_if_ne_f 1487 B 1502 dL_law_1487 (by decide) (by decide +kernel) ?_
    refine V_aload_n 1490 B dL_law_1490 3 rfl ?_
    refine V_iconst 1491 B (v := 0) dL_law_1491 (by decide +kernel) ?_
    refine V_lald 1492 B (v := (-4)) 5 rfl (vpin _ _ (by decide +kernel)) dL_law_1492 rfl ?_
    refine V_iload 1493 B dL_law_1493 0 rfl ?_
    refine V_i2l 1495 B (v := (-4)) dL_law_1495 (by decide +kernel) ?_
    refine V_lcmp 1496 B (v := 0) dL_law_1496 (by decide +kernel) ?_
    refine V_if_eq_t 1497 B 1502 dL_law_1497 (by decide) (by decide +kernel) ?_
    refine V_goto 1502 B 3332 dL_law_1502 (by decide) ?_
    refine V_iinc 3332 B (v := 6) (lv2 := [(4, .int 6), (6, .int (-4)), (5, .int 0), (3, .ref o0), (2, .ref m0), (1, .ref x0), (0, .ref b)]) dL_law_3332 2 rfl (by decide +kernel) (by decide) rfl ?_
    refine V_goto 3335 B 23 dL_law_3335 (by decide) ?_
    refine V_iload 23 B dL_law_23 0 rfl ?_
    refine V_aload_n 25 B dL_law_25 6 rfl ?_
    refine V_slen 26 B hX hbl hbA (v := 6) (by decide +kernel) dL_law_26 ?_
    refine V_bipush 27 B (v := 6) dL_law_27 (by decide +kernel) ?_
    refine V_isub 29 B (v := 0) dL_law_29 (by decide +kernel) ?_
    refine V_icmp_gt_t 30 B 3338 dL_law_30 (by decide) (by decide +kernel) ?_
    exact law_end B (Nat.le_of_ble_eq_true rfl) (Nat.le_of_ble_eq_true rfl) dL_law_3338 dL_law_3339
