set_option maxRecDepth 100000 in
set_option maxHeartbeats 4000000 in
theorem mX12_typing_3 (l : Launch) (D : va_G) (Y : Nat → ClassId) (h0 : Nat) (h1 : Nat) (g0 : Nat) (g1 : Nat) (g2 : Nat) (g3 : Nat) (g4 : Nat) (sz : Nat) : Met l yX12_typing (WSm yX12_typing cX12_typing 2 (some .int)) (mkR 0 0 0 0) (PreC D Y [.ref h0, .int 1] [(h0, oC 13 [.ref h1, .ref g0, .int 0, .ref g1, .ref g2, .int 0, .int 0, .int 0, .int (-1), .int 0, .int 0, .int 0, .long 0, .ref g3, .ref g4, .int 0, .int 0]), (h1, aI Y 3640 (clB 0 (fun _ => 0)))] sz) (QI D (fun (r : Int32) (u : Unit) => (-1) = r) (fun (_ : Unit) => [(h0, oC 13 [.ref h1, .ref g0, .int 0, .ref g1, .ref g2, .int 0, .int 0, .int 0, .int (-1), .int 0, .int 0, .int 0, .long 0, .ref g3, .ref g4, .int 0, .int 0]), (h1, aI Y 3640 (clB 0 (fun _ => 0)))]) (va_A [(h0, oC 13 [.ref h1, .ref g0, .int 0, .ref g1, .ref g2, .int 0, .int 0, .int 0, .int (-1), .int 0, .int 0, .int 0, .long 0, .ref g3, .ref g4, .int 0, .int 0]), (h1, aI Y 3640 (clB 0 (fun _ => 0)))] sz)) 0 0 (va_A [(h0, oC 13 [.ref h1, .ref g0, .int 0, .ref g1, .ref g2, .int 0, .int 0, .int 0, .int (-1), .int 0, .int 0, .int 0, .long 0, .ref g3, .ref g4, .int 0, .int 0]), (h1, aI Y 3640 (clB 0 (fun _ => 0)))] sz) :=
  met_of (by decide +kernel) (Nat.le_of_ble_eq_true rfl) (fun p e s m args below meth c B hin hsz => by
    have B : VB p s m args meth c D Y (va_A [(h0, oC 13 [.ref h1, .ref g0, .int 0, .ref g1, .ref g2, .int 0, .int 0, .int 0, .int (-1), .int 0, .int 0, .int 0, .long 0, .ref g3, .ref g4, .int 0, .int 0]), (h1, aI Y 3640 (clB 0 (fun _ => 0)))] sz) cX12_typing 2 RX12 (some .int) := B
    refine V_aload_n 0 B dX12_typing_0 0 rfl ?_
    refine V_iconst 1 B (v := 0) dX12_typing_1 (by decide +kernel) ?_
    refine V_put 2 B gp_RX12_38 0 rfl (Nat.le_of_ble_eq_true rfl) rfl rfl dX12_typing_2 [(h0, oC 13 [.ref h1, .ref g0, .int 0, .ref g1, .ref g2, .int 0, .int 0, .int 0, .int (-1), .int 0, .int 0, .int 0, .long 0, .ref g3, .ref g4, .int 0, .int 0]), (h1, aI Y 3640 (clB 0 (fun _ => 0)))] rfl ?_
    refine V_iload_n 5 B dX12_typing_5 1 rfl ?_
    refine V_tableIn 6 B 48 dX12_typing_6 (by decide +kernel) (by decide +kernel) (off := 42) (by decide +kernel) (by decide) ?_
    refine V_aload_n 48 B dX12_typing_48 0 rfl ?_
    refine V_get 49 B gf_RX12_9 0 rfl rfl dX12_typing_49 ?_
    refine V_bipush 52 B (v := 11) dX12_typing_52 (by decide +kernel) ?_
    refine V_iald 54 B (v := (-1)) 1 rfl (vpin _ _ (by decide +kernel)) dX12_typing_54 rfl ?_
    exact V_iret 55 B dX12_typing_55 () rfl rfl)
set_option maxRecDepth 100000 in
set_option maxHeartbeats 4000000 in
theorem mX12_typing_4 (l : Launch) (D : va_G) (Y : Nat → ClassId) (h0 : Nat) (h1 : Nat) (g0 : Nat) (g1 : Nat) (g2 : Nat) (g3 : Nat) (g4 : Nat) (sz : Nat) : Met l yX12_typing (WSm yX12_typing cX12_typing 2 (some .int)) (mkR 0 0 0 0) (PreC D Y [.ref h0, .int 2] [(h0, oC 13 [.ref h1, .ref g0, .int 0, .ref g1, .ref g2, .int 0, .int 0, .int 0, .int (-1), .int 0, .int 0, .int 0, .long 0, .ref g3, .ref g4, .int 0, .int 0]), (h1, aI Y 3640 (clB 0 (fun _ => 0)))] sz) (QI D (fun (r : Int32) (u : Unit) => 0 = r) (fun (_ : Unit) => [(h0, oC 13 [.ref h1, .ref g0, .int 0, .ref g1, .ref g2, .int 0, .int 0, .int 0, .int (-1), .int 0, .int 0, .int 0, .long 0, .ref g3, .ref g4, .int 0, .int 0]), (h1, aI Y 3640 (clB 0 (fun _ => 0)))]) (va_A [(h0, oC 13 [.ref h1, .ref g0, .int 0, .ref g1, .ref g2, .int 0, .int 0, .int 0, .int (-1), .int 0, .int 0, .int 0, .long 0, .ref g3, .ref g4, .int 0, .int 0]), (h1, aI Y 3640 (clB 0 (fun _ => 0)))] sz)) 0 0 (va_A [(h0, oC 13 [.ref h1, .ref g0, .int 0, .ref g1, .ref g2, .int 0, .int 0, .int 0, .int (-1), .int 0, .int 0, .int 0, .long 0, .ref g3, .ref g4, .int 0, .int 0]), (h1, aI Y 3640 (clB 0 (fun _ => 0)))] sz) :=
  met_of (by decide +kernel) (Nat.le_of_ble_eq_true rfl) (fun p e s m args below meth c B hin hsz => by
    have B : VB p s m args meth c D Y (va_A [(h0, oC 13 [.ref h1, .ref g0, .int 0, .ref g1, .ref g2, .int 0, .int 0, .int 0, .int (-1), .int 0, .int 0, .int 0, .long 0, .ref g3, .ref g4, .int 0, .int 0]), (h1, aI Y 3640 (clB 0 (fun _ => 0)))] sz) cX12_typing 2 RX12 (some .int) := B
    refine V_aload_n 0 B dX12_typing_0 0 rfl ?_
    refine V_iconst 1 B (v := 0) dX12_typing_1 (by decide +kernel) ?_
    refine V_put 2 B gp_RX12_38 0 rfl (Nat.le_of_ble_eq_true rfl) rfl rfl dX12_typing_2 [(h0, oC 13 [.ref h1, .ref g0, .int 0, .ref g1, .ref g2, .int 0, .int 0, .int 0, .int (-1), .int 0, .int 0, .int 0, .long 0, .ref g3, .ref g4, .int 0, .int 0]), (h1, aI Y 3640 (clB 0 (fun _ => 0)))] rfl ?_
    refine V_iload_n 5 B dX12_typing_5 1 rfl ?_
    refine V_tableIn 6 B 56 dX12_typing_6 (by decide +kernel) (by decide +kernel) (off := 50) (by decide +kernel) (by decide) ?_
    refine V_aload_n 56 B dX12_typing_56 0 rfl ?_
    refine V_get 57 B gf_RX12_9 0 rfl rfl dX12_typing_57 ?_
    refine V_bipush 60 B (v := 12) dX12_typing_60 (by decide +kernel) ?_
    refine V_iald 62 B (v := 0) 1 rfl (vpin _ _ (by decide +kernel)) dX12_typing_62 rfl ?_
    exact V_iret 63 B dX12_typing_63 () rfl rfl)
set_option maxRecDepth 100000 in
set_option maxHeartbeats 4000000 in
theorem mX12_typing_5 (l : Launch) (D : va_G) (Y : Nat → ClassId) (h0 : Nat) (h1 : Nat) (g0 : Nat) (g1 : Nat) (g2 : Nat) (g3 : Nat) (g4 : Nat) (sz : Nat) : Met l yX12_typing (WSm yX12_typing cX12_typing 2 (some .int)) (mkR 0 0 0 0) (PreC D Y [.ref h0, .int 3] [(h0, oC 13 [.ref h1, .ref g0, .int 0, .ref g1, .ref g2, .int 0, .int 0, .int 0, .int (-1), .int 0, .int 0, .int 0, .long 0, .ref g3, .ref g4, .int 0, .int 0]), (h1, aI Y 3640 (clB 0 (fun _ => 0)))] sz) (QI D (fun (r : Int32) (u : Unit) => 0 = r) (fun (_ : Unit) => [(h0, oC 13 [.ref h1, .ref g0, .int 0, .ref g1, .ref g2, .int 0, .int 0, .int 0, .int (-1), .int 0, .int 0, .int 0, .long 0, .ref g3, .ref g4, .int 0, .int 0]), (h1, aI Y 3640 (clB 0 (fun _ => 0)))]) (va_A [(h0, oC 13 [.ref h1, .ref g0, .int 0, .ref g1, .ref g2, .int 0, .int 0, .int 0, .int (-1), .int 0, .int 0, .int 0, .long 0, .ref g3, .ref g4, .int 0, .int 0]), (h1, aI Y 3640 (clB 0 (fun _ => 0)))] sz)) 0 0 (va_A [(h0, oC 13 [.ref h1, .ref g0, .int 0, .ref g1, .ref g2, .int 0, .int 0, .int 0, .int (-1), .int 0, .int 0, .int 0, .long 0, .ref g3, .ref g4, .int 0, .int 0]), (h1, aI Y 3640 (clB 0 (fun _ => 0)))] sz) :=
  met_of (by decide +kernel) (Nat.le_of_ble_eq_true rfl) (fun p e s m args below meth c B hin hsz => by
    have B : VB p s m args meth c D Y (va_A [(h0, oC 13 [.ref h1, .ref g0, .int 0, .ref g1, .ref g2, .int 0, .int 0, .int 0, .int (-1), .int 0, .int 0, .int 0, .long 0, .ref g3, .ref g4, .int 0, .int 0]), (h1, aI Y 3640 (clB 0 (fun _ => 0)))] sz) cX12_typing 2 RX12 (some .int) := B
    refine V_aload_n 0 B dX12_typing_0 0 rfl ?_
    refine V_iconst 1 B (v := 0) dX12_typing_1 (by decide +kernel) ?_
    refine V_put 2 B gp_RX12_38 0 rfl (Nat.le_of_ble_eq_true rfl) rfl rfl dX12_typing_2 [(h0, oC 13 [.ref h1, .ref g0, .int 0, .ref g1, .ref g2, .int 0, .int 0, .int 0, .int (-1), .int 0, .int 0, .int 0, .long 0, .ref g3, .ref g4, .int 0, .int 0]), (h1, aI Y 3640 (clB 0 (fun _ => 0)))] rfl ?_
    refine V_iload_n 5 B dX12_typing_5 1 rfl ?_
    refine V_tableIn 6 B 64 dX12_typing_6 (by decide +kernel) (by decide +kernel) (off := 58) (by decide +kernel) (by decide) ?_
    refine V_aload_n 64 B dX12_typing_64 0 rfl ?_
    refine V_get 65 B gf_RX12_9 0 rfl rfl dX12_typing_65 ?_
    refine V_bipush 68 B (v := 13) dX12_typing_68 (by decide +kernel) ?_
    refine V_iald 70 B (v := 0) 1 rfl (vpin _ _ (by decide +kernel)) dX12_typing_70 rfl ?_
    exact V_iret 71 B dX12_typing_71 () rfl rfl)
set_option maxRecDepth 100000 in
set_option maxHeartbeats 4000000 in
theorem mX12_typing_6 (l : Launch) (D : va_G) (Y : Nat → ClassId) (h0 : Nat) (h1 : Nat) (g0 : Nat) (g1 : Nat) (g2 : Nat) (g3 : Nat) (g4 : Nat) (sz : Nat) : Met l yX12_typing (WSm yX12_typing cX12_typing 2 (some .int)) (mkR 0 0 0 0) (PreC D Y [.ref h0, .int 4] [(h0, oC 13 [.ref h1, .ref g0, .int 0, .ref g1, .ref g2, .int 0, .int 0, .int 0, .int (-1), .int 0, .int 0, .int 0, .long 0, .ref g3, .ref g4, .int 0, .int 0]), (h1, aI Y 3640 (clB 0 (fun _ => 0)))] sz) (QI D (fun (r : Int32) (u : Unit) => 0 = r) (fun (_ : Unit) => [(h0, oC 13 [.ref h1, .ref g0, .int 0, .ref g1, .ref g2, .int 0, .int 0, .int 0, .int (-1), .int 0, .int 0, .int 0, .long 0, .ref g3, .ref g4, .int 0, .int 0]), (h1, aI Y 3640 (clB 0 (fun _ => 0)))]) (va_A [(h0, oC 13 [.ref h1, .ref g0, .int 0, .ref g1, .ref g2, .int 0, .int 0, .int 0, .int (-1), .int 0, .int 0, .int 0, .long 0, .ref g3, .ref g4, .int 0, .int 0]), (h1, aI Y 3640 (clB 0 (fun _ => 0)))] sz)) 0 0 (va_A [(h0, oC 13 [.ref h1, .ref g0, .int 0, .ref g1, .ref g2, .int 0, .int 0, .int 0, .int (-1), .int 0, .int 0, .int 0, .long 0, .ref g3, .ref g4, .int 0, .int 0]), (h1, aI Y 3640 (clB 0 (fun _ => 0)))] sz) :=
  met_of (by decide +kernel) (Nat.le_of_ble_eq_true rfl) (fun p e s m args below meth c B hin hsz => by
    have B : VB p s m args meth c D Y (va_A [(h0, oC 13 [.ref h1, .ref g0, .int 0, .ref g1, .ref g2, .int 0, .int 0, .int 0, .int (-1), .int 0, .int 0, .int 0, .long 0, .ref g3, .ref g4, .int 0, .int 0]), (h1, aI Y 3640 (clB 0 (fun _ => 0)))] sz) cX12_typing 2 RX12 (some .int) := B
    refine V_aload_n 0 B dX12_typing_0 0 rfl ?_
    refine V_iconst 1 B (v := 0) dX12_typing_1 (by decide +kernel) ?_
    refine V_put 2 B gp_RX12_38 0 rfl (Nat.le_of_ble_eq_true rfl) rfl rfl dX12_typing_2 [(h0, oC 13 [.ref h1, .ref g0, .int 0, .ref g1, .ref g2, .int 0, .int 0, .int 0, .int (-1), .int 0, .int 0, .int 0, .long 0, .ref g3, .ref g4, .int 0, .int 0]), (h1, aI Y 3640 (clB 0 (fun _ => 0)))] rfl ?_
    refine V_iload_n 5 B dX12_typing_5 1 rfl ?_
    refine V_tableIn 6 B 72 dX12_typing_6 (by decide +kernel) (by decide +kernel) (off := 66) (by decide +kernel) (by decide) ?_
    refine V_aload_n 72 B dX12_typing_72 0 rfl ?_
    refine V_get 73 B gf_RX12_9 0 rfl rfl dX12_typing_73 ?_
    refine V_bipush 76 B (v := 9) dX12_typing_76 (by decide +kernel) ?_
    refine V_iald 78 B (v := 0) 1 rfl (vpin _ _ (by decide +kernel)) dX12_typing_78 rfl ?_
    refine V_aload_n 79 B dX12_typing_79 0 rfl ?_
    refine V_get 80 B gf_RX12_9 0 rfl rfl dX12_typing_80 ?_
    refine V_bipush 83 B (v := 10) dX12_typing_83 (by decide +kernel) ?_
    refine V_iald 85 B (v := 0) 1 rfl (vpin _ _ (by decide +kernel)) dX12_typing_85 rfl ?_
    refine V_isub 86 B (v := 0) dX12_typing_86 (by decide +kernel) ?_
    exact V_iret 87 B dX12_typing_87 () rfl rfl)
theorem dL_law_3000 : decode cL_law 3000 = .ok (.aload_n 1, 1) := by decide +kernel
theorem dL_law_3001 : decode cL_law 3001 = .ok (.aload_n 0, 1) := by decide +kernel
theorem dL_law_3002 : decode cL_law 3002 = .ok (.iload 4, 2) := by decide +kernel
theorem dL_law_3004 : decode cL_law 3004 = .ok (.iconst 1, 1) := by decide +kernel
theorem dL_law_3005 : decode cL_law 3005 = .ok (.iadd, 1) := by decide +kernel
theorem dL_law_3006 : decode cL_law 3006 = .ok (.iaload, 1) := by decide +kernel
theorem dL_law_3007 : decode cL_law 3007 = .ok (.invokevirtual 333, 3) := by decide +kernel
theorem glV_RL_333 : GLV RL 333 yX11_typing RX11 cX11_typing 2 (some .int) 1 := ⟨⟨(mT4 228 rfl rfl), (mT4 229 rfl rfl), (mT4 230 rfl rfl), (mT1 1 rfl rfl), (mT4 231 rfl rfl)⟩, by decide +kernel⟩
theorem dL_law_3010 : decode cL_law 3010 = .ok (.aload_n 2, 1) := by decide +kernel
theorem dL_law_3011 : decode cL_law 3011 = .ok (.aload_n 0, 1) := by decide +kernel
theorem dL_law_3012 : decode cL_law 3012 = .ok (.iload 4, 2) := by decide +kernel
theorem dL_law_3014 : decode cL_law 3014 = .ok (.iconst 1, 1) := by decide +kernel
theorem dL_law_3015 : decode cL_law 3015 = .ok (.iadd, 1) := by decide +kernel
theorem dL_law_3016 : decode cL_law 3016 = .ok (.iaload, 1) := by decide +kernel
theorem dL_law_3017 : decode cL_law 3017 = .ok (.invokevirtual 336, 3) := by decide +kernel
theorem glV_RL_336 : GLV RL 336 yX12_typing RX12 cX12_typing 2 (some .int) 1 := ⟨⟨(mT9 130 rfl rfl), (mT9 131 rfl rfl), (mT9 132 rfl rfl), (mT1 13 rfl rfl), (mT9 133 rfl rfl)⟩, by decide +kernel⟩
theorem dL_law_3020 : decode cL_law 3020 = .ok (.if_icmp .eq 312, 3) := by decide +kernel
set_option maxRecDepth 100000 in
set_option maxHeartbeats 4000000 in
theorem law_c53 {p : Program} {l : Launch} {e : Env} {s : State} {m : MethodId} {below : List Frame} {meth : Method} {c : Code} {b : Nat} {xs : Nat → Int32} {D : va_G} {Y : Nat → ClassId} (B : VB p s m #[Value.ref b] meth c D Y (fun q => s.heap.size ≤ q) cL_law 8 RL ret) (EB : EX (fun q => s.heap.size ≤ q) s s.heap) (hl9 : l.stackTraces = false) (hX : va_X b 6 xs s s.heap) (hbl : b < s.heap.size) (hbA : ¬ (fun q => s.heap.size ≤ q) b) (x0 x1 x30 x59 x88 x117 x126 x127 x129 x132 x2 x4 x6 x8 x10 x12 x14 x16 x18 x20 x27 x28 m0 m1 m2 m3 m4 m5 m6 o0 : Nat) (p1 : Int32) (e1 : xs 1 = p1) : V p l e room_1 s m #[Value.ref b] below meth c D (fun q => s.heap.size ≤ q) 8 149 10574 (lw_Z below #[Value.ref b] s) 3000 [(4, .int 0), (3, .ref o0), (2, .ref m0), (1, .ref x0), (0, .ref b)] [] [(x0, oC 12 [.ref x1, .ref x30, .ref x59, .ref x88, .ref x117, .ref x126, .ref x127, .ref x129, .ref x132, .long 0]), (x1, oC 2 [.ref x2, .ref x4, .ref x6, .ref x8, .ref x10, .ref x12, .ref x14, .ref x16, .ref x18, .ref x20, .ref x27, .int 0]), (x27, oC 9 [.ref x28, .int 0, .long 0, .int (-1), .int 0, .int 0, .int 0, .int 0, .int 0]), (m0, oC 13 [.ref m1, .ref m2, .int 0, .ref m3, .ref m4, .int 0, .int 0, .int 0, .int (-1), .int 0, .int 0, .int 0, .long 0, .ref m5, .ref m6, .int 0, .int 0]), (m1, aI Y 3640 (clB 0 (fun _ => 0)))] := by
  refine V_aload_n 3000 B dL_law_3000 3 rfl ?_
  refine V_aload_n 3001 B dL_law_3001 4 rfl ?_
  refine V_iload 3002 B dL_law_3002 0 rfl ?_
  refine V_iconst 3004 B (v := 1) dL_law_3004 (by decide +kernel) ?_
  refine V_iadd 3005 B (v := 1) dL_law_3005 (by decide +kernel) ?_
  refine V_sld 3006 B hX hbl hbA (v := p1) (vpin _ _ (by decide +kernel)) dL_law_3006 e1 ?_
  refine V_cvi 3007 B (st := []) (As := [.int p1]) (fun sz => mX11_typing_1 l D Y (x0) (x1) (x30) (x59) (x88) (x117) (x126) (x127) (x129) (x132) (x2) (x4) (x6) (x8) (x10) (x12) (x14) (x16) (x18) (x20) (x27) (x28) (p1) sz) glV_RL_333 ⟨rfl, rfl⟩ ⟨(Nat.le_of_ble_eq_true rfl), (Nat.le_of_ble_eq_true rfl)⟩ ⟨(Nat.le_of_ble_eq_true rfl), (Nat.le_of_ble_eq_true rfl)⟩ [0, 0, 0] rfl 12 0 rfl rfl rfl rfl (Nat.le_of_ble_eq_true rfl) rfl (fun _ _ _ => rfl) dL_law_3007 (fun r0 u0 w0 => ?_)
  rcases w0 with ⟨k1, rfl⟩ | ⟨k2, rfl⟩ | ⟨k3, rfl⟩ | ⟨k4, rfl⟩ | ⟨k5, rfl⟩ | ⟨k6, k7, k8, k9, k10, rfl⟩
  ·
    refine V_ws [(x0, oC 12 [.ref x1, .ref x30, .ref x59, .ref x88, .ref x117, .ref x126, .ref x127, .ref x129, .ref x132, .long 0]), (x1, oC 2 [.ref x2, .ref x4, .ref x6, .ref x8, .ref x10, .ref x12, .ref x14, .ref x16, .ref x18, .ref x20, .ref x27, .int 0]), (x27, oC 9 [.ref x28, .int 0, .long 0, .int (-1), .int 0, .int 0, .int 0, .int 0, .int 0]), (m0, oC 13 [.ref m1, .ref m2, .int 0, .ref m3, .ref m4, .int 0, .int 0, .int 0, .int (-1), .int 0, .int 0, .int 0, .long 0, .ref m5, .ref m6, .int 0, .int 0]), (m1, aI Y 3640 (clB 0 (fun _ => 0)))] rfl ?_
    obtain rfl : p1 = 0 := k1
    refine V_aload_n 3010 B dL_law_3010 2 rfl ?_
    refine V_aload_n 3011 B dL_law_3011 4 rfl ?_
    refine V_iload 3012 B dL_law_3012 0 rfl ?_
    refine V_iconst 3014 B (v := 1) dL_law_3014 (by decide +kernel) ?_
    refine V_iadd 3015 B (v := 1) dL_law_3015 (by decide +kernel) ?_
    refine V_sld 3016 B hX hbl hbA (v := 0) (vpin _ _ (by decide +kernel)) dL_law_3016 e1 ?_
    refine V_cvi 3017 B (st := [.int 0]) (As := [.int 0]) (fun sz => mX12_typing_2 l D Y (m0) (m1) (m2) (m3) (m4) (m5) (m6) sz) glV_RL_336 ⟨rfl, rfl⟩ ⟨(Nat.le_of_ble_eq_true rfl), (Nat.le_of_ble_eq_true rfl)⟩ ⟨(Nat.le_of_ble_eq_true rfl), (Nat.le_of_ble_eq_true rfl)⟩ [3, 0] rfl 13 0 rfl rfl rfl rfl (Nat.le_of_ble_eq_true rfl) rfl (fun _ _ _ => rfl) dL_law_3017 (fun r11 u11 w11 => ?_)
    obtain rfl := w11
    refine V_ws [(x0, oC 12 [.ref x1, .ref x30, .ref x59, .ref x88, .ref x117, .ref x126, .ref x127, .ref x129, .ref x132, .long 0]), (x1, oC 2 [.ref x2, .ref x4, .ref x6, .ref x8, .ref x10, .ref x12, .ref x14, .ref x16, .ref x18, .ref x20, .ref x27, .int 0]), (x27, oC 9 [.ref x28, .int 0, .long 0, .int (-1), .int 0, .int 0, .int 0, .int 0, .int 0]), (m0, oC 13 [.ref m1, .ref m2, .int 0, .ref m3, .ref m4, .int 0, .int 0, .int 0, .int (-1), .int 0, .int 0, .int 0, .long 0, .ref m5, .ref m6, .int 0, .int 0]), (m1, aI Y 3640 (clB 0 (fun _ => 0)))] rfl ?_
    refine V_icmp_eq_t 3020 B 3332 dL_law_3020 (by decide) (by decide +kernel) ?_
    refine V_iinc 3332 B (v := 6) (lv2 := [(4, .int 6), (3, .ref o0), (2, .ref m0), (1, .ref x0), (0, .ref b)]) dL_law_3332 0 rfl (by decide +kernel) (by decide) rfl ?_
    refine V_goto 3335 B 23 dL_law_3335 (by decide) ?_
    refine V_iload 23 B dL_law_23 0 rfl ?_
    refine V_aload_n 25 B dL_law_25 4 rfl ?_
    refine V_slen 26 B hX hbl hbA (v := 6) (by decide +kernel) dL_law_26 ?_
    refine V_bipush 27 B (v := 6) dL_law_27 (by decide +kernel) ?_
    refine V_isub 29 B (v := 0) dL_law_29 (by decide +kernel) ?_
    refine V_icmp_gt_t 30 B 3338 dL_law_30 (by decide) (by decide +kernel) ?_
    exact law_end B (Nat.le_of_ble_eq_true rfl) (Nat.le_of_ble_eq_true rfl) dL_law_3338 dL_law_3339
  ·
    refine V_ws [(x0, oC 12 [.ref x1, .ref x30, .ref x59, .ref x88, .ref x117, .ref x126, .ref x127, .ref x129, .ref x132, .long 0]), (x1, oC 2 [.ref x2, .ref x4, .ref x6, .ref x8, .ref x10, .ref x12, .ref x14, .ref x16, .ref x18, .ref x20, .ref x27, .int 0]), (x27, oC 9 [.ref x28, .int 0, .long 0, .int (-1), .int 0, .int 0, .int 0, .int 0, .int 0]), (m0, oC 13 [.ref m1, .ref m2, .int 0, .ref m3, .ref m4, .int 0, .int 0, .int 0, .int (-1), .int 0, .int 0, .int 0, .long 0, .ref m5, .ref m6, .int 0, .int 0]), (m1, aI Y 3640 (clB 0 (fun _ => 0)))] rfl ?_
    obtain rfl : p1 = 1 := k2
    refine V_aload_n 3010 B dL_law_3010 2 rfl ?_
    refine V_aload_n 3011 B dL_law_3011 4 rfl ?_
    refine V_iload 3012 B dL_law_3012 0 rfl ?_
    refine V_iconst 3014 B (v := 1) dL_law_3014 (by decide +kernel) ?_
    refine V_iadd 3015 B (v := 1) dL_law_3015 (by decide +kernel) ?_
    refine V_sld 3016 B hX hbl hbA (v := 1) (vpin _ _ (by decide +kernel)) dL_law_3016 e1 ?_
    refine V_cvi 3017 B (st := [.int (-1)]) (As := [.int 1]) (fun sz => mX12_typing_3 l D Y (m0) (m1) (m2) (m3) (m4) (m5) (m6) sz) glV_RL_336 ⟨rfl, rfl⟩ ⟨(Nat.le_of_ble_eq_true rfl), (Nat.le_of_ble_eq_true rfl)⟩ ⟨(Nat.le_of_ble_eq_true rfl), (Nat.le_of_ble_eq_true rfl)⟩ [3, 0] rfl 13 0 rfl rfl rfl rfl (Nat.le_of_ble_eq_true rfl) rfl (fun _ _ _ => rfl) dL_law_3017 (fun r12 u12 w12 => ?_)
    obtain rfl := w12
    refine V_ws [(x0, oC 12 [.ref x1, .ref x30, .ref x59, .ref x88, .ref x117, .ref x126, .ref x127, .ref x129, .ref x132, .long 0]), (x1, oC 2 [.ref x2, .ref x4, .ref x6, .ref x8, .ref x10, .ref x12, .ref x14, .ref x16, .ref x18, .ref x20, .ref x27, .int 0]), (x27, oC 9 [.ref x28, .int 0, .long 0, .int (-1), .int 0, .int 0, .int 0, .int 0, .int 0]), (m0, oC 13 [.ref m1, .ref m2, .int 0, .ref m3, .ref m4, .int 0, .int 0, .int 0, .int (-1), .int 0, .int 0, .int 0, .long 0, .ref m5, .ref m6, .int 0, .int 0]), (m1, aI Y 3640 (clB 0 (fun _ => 0)))] rfl ?_
    refine V_icmp_eq_t 3020 B 3332 dL_law_3020 (by decide) (by decide +kernel) ?_
    refine V_iinc 3332 B (v := 6) (lv2 := [(4, .int 6), (3, .ref o0), (2, .ref m0), (1, .ref x0), (0, .ref b)]) dL_law_3332 0 rfl (by decide +kernel) (by decide) rfl ?_
    refine V_goto 3335 B 23 dL_law_3335 (by decide) ?_
    refine V_iload 23 B dL_law_23 0 rfl ?_
    refine V_aload_n 25 B dL_law_25 4 rfl ?_
    refine V_slen 26 B hX hbl hbA (v := 6) (by decide +kernel) dL_law_26 ?_
    refine V_bipush 27 B (v := 6) dL_law_27 (by decide +kernel) ?_
    refine V_isub 29 B (v := 0) dL_law_29 (by decide +kernel) ?_
    refine V_icmp_gt_t 30 B 3338 dL_law_30 (by decide) (by decide +kernel) ?_
    exact law_end B (Nat.le_of_ble_eq_true rfl) (Nat.le_of_ble_eq_true rfl) dL_law_3338 dL_law_3339
  ·
    refine V_ws [(x0, oC 12 [.ref x1, .ref x30, .ref x59, .ref x88, .ref x117, .ref x126, .ref x127, .ref x129, .ref x132, .long 0]), (x1, oC 2 [.ref x2, .ref x4, .ref x6, .ref x8, .ref x10, .ref x12, .ref x14, .ref x16, .ref x18, .ref x20, .ref x27, .int 0]), (x27, oC 9 [.ref x28, .int 0, .long 0, .int (-1), .int 0, .int 0, .int 0, .int 0, .int 0]), (m0, oC 13 [.ref m1, .ref m2, .int 0, .ref m3, .ref m4, .int 0, .int 0, .int 0, .int (-1), .int 0, .int 0, .int 0, .long 0, .ref m5, .ref m6, .int 0, .int 0]), (m1, aI Y 3640 (clB 0 (fun _ => 0)))] rfl ?_
    obtain rfl : p1 = 2 := k3
    refine V_aload_n 3010 B dL_law_3010 2 rfl ?_
    refine V_aload_n 3011 B dL_law_3011 4 rfl ?_
    refine V_iload 3012 B dL_law_3012 0 rfl ?_
    refine V_iconst 3014 B (v := 1) dL_law_3014 (by decide +kernel) ?_
    refine V_iadd 3015 B (v := 1) dL_law_3015 (by decide +kernel) ?_
    refine V_sld 3016 B hX hbl hbA (v := 2) (vpin _ _ (by decide +kernel)) dL_law_3016 e1 ?_
    refine V_cvi 3017 B (st := [.int 0]) (As := [.int 2]) (fun sz => mX12_typing_4 l D Y (m0) (m1) (m2) (m3) (m4) (m5) (m6) sz) glV_RL_336 ⟨rfl, rfl⟩ ⟨(Nat.le_of_ble_eq_true rfl), (Nat.le_of_ble_eq_true rfl)⟩ ⟨(Nat.le_of_ble_eq_true rfl), (Nat.le_of_ble_eq_true rfl)⟩ [3, 0] rfl 13 0 rfl rfl rfl rfl (Nat.le_of_ble_eq_true rfl) rfl (fun _ _ _ => rfl) dL_law_3017 (fun r13 u13 w13 => ?_)
    obtain rfl := w13
    refine V_ws [(x0, oC 12 [.ref x1, .ref x30, .ref x59, .ref x88, .ref x117, .ref x126, .ref x127, .ref x129, .ref x132, .long 0]), (x1, oC 2 [.ref x2, .ref x4, .ref x6, .ref x8, .ref x10, .ref x12, .ref x14, .ref x16, .ref x18, .ref x20, .ref x27, .int 0]), (x27, oC 9 [.ref x28, .int 0, .long 0, .int (-1), .int 0, .int 0, .int 0, .int 0, .int 0]), (m0, oC 13 [.ref m1, .ref m2, .int 0, .ref m3, .ref m4, .int 0, .int 0, .int 0, .int (-1), .int 0, .int 0, .int 0, .long 0, .ref m5, .ref m6, .int 0, .int 0]), (m1, aI Y 3640 (clB 0 (fun _ => 0)))] rfl ?_
    refine V_icmp_eq_t 3020 B 3332 dL_law_3020 (by decide) (by decide +kernel) ?_
    refine V_iinc 3332 B (v := 6) (lv2 := [(4, .int 6), (3, .ref o0), (2, .ref m0), (1, .ref x0), (0, .ref b)]) dL_law_3332 0 rfl (by decide +kernel) (by decide) rfl ?_
    refine V_goto 3335 B 23 dL_law_3335 (by decide) ?_
    refine V_iload 23 B dL_law_23 0 rfl ?_
    refine V_aload_n 25 B dL_law_25 4 rfl ?_
    refine V_slen 26 B hX hbl hbA (v := 6) (by decide +kernel) dL_law_26 ?_
    refine V_bipush 27 B (v := 6) dL_law_27 (by decide +kernel) ?_
    refine V_isub 29 B (v := 0) dL_law_29 (by decide +kernel) ?_
    refine V_icmp_gt_t 30 B 3338 dL_law_30 (by decide) (by decide +kernel) ?_
    exact law_end B (Nat.le_of_ble_eq_true rfl) (Nat.le_of_ble_eq_true rfl) dL_law_3338 dL_law_3339
  ·
    refine V_ws [(x0, oC 12 [.ref x1, .ref x30, .ref x59, .ref x88, .ref x117, .ref x126, .ref x127, .ref x129, .ref x132, .long 0]), (x1, oC 2 [.ref x2, .ref x4, .ref x6, .ref x8, .ref x10, .ref x12, .ref x14, .ref x16, .ref x18, .ref x20, .ref x27, .int 0]), (x27, oC 9 [.ref x28, .int 0, .long 0, .int (-1), .int 0, .int 0, .int 0, .int 0, .int 0]), (m0, oC 13 [.ref m1, .ref m2, .int 0, .ref m3, .ref m4, .int 0, .int 0, .int 0, .int (-1), .int 0, .int 0, .int 0, .long 0, .ref m5, .ref m6, .int 0, .int 0]), (m1, aI Y 3640 (clB 0 (fun _ => 0)))] rfl ?_
    obtain rfl : p1 = 3 := k4
    refine V_aload_n 3010 B dL_law_3010 2 rfl ?_
    refine V_aload_n 3011 B dL_law_3011 4 rfl ?_
    refine V_iload 3012 B dL_law_3012 0 rfl ?_
    refine V_iconst 3014 B (v := 1) dL_law_3014 (by decide +kernel) ?_
    refine V_iadd 3015 B (v := 1) dL_law_3015 (by decide +kernel) ?_
    refine V_sld 3016 B hX hbl hbA (v := 3) (vpin _ _ (by decide +kernel)) dL_law_3016 e1 ?_
    refine V_cvi 3017 B (st := [.int 0]) (As := [.int 3]) (fun sz => mX12_typing_5 l D Y (m0) (m1) (m2) (m3) (m4) (m5) (m6) sz) glV_RL_336 ⟨rfl, rfl⟩ ⟨(Nat.le_of_ble_eq_true rfl), (Nat.le_of_ble_eq_true rfl)⟩ ⟨(Nat.le_of_ble_eq_true rfl), (Nat.le_of_ble_eq_true rfl)⟩ [3, 0] rfl 13 0 rfl rfl rfl rfl (Nat.le_of_ble_eq_true rfl) rfl (fun _ _ _ => rfl) dL_law_3017 (fun r14 u14 w14 => ?_)
    obtain rfl := w14
    refine V_ws [(x0, oC 12 [.ref x1, .ref x30, .ref x59, .ref x88, .ref x117, .ref x126, .ref x127, .ref x129, .ref x132, .long 0]), (x1, oC 2 [.ref x2, .ref x4, .ref x6, .ref x8, .ref x10, .ref x12, .ref x14, .ref x16, .ref x18, .ref x20, .ref x27, .int 0]), (x27, oC 9 [.ref x28, .int 0, .long 0, .int (-1), .int 0, .int 0, .int 0, .int 0, .int 0]), (m0, oC 13 [.ref m1, .ref m2, .int 0, .ref m3, .ref m4, .int 0, .int 0, .int 0, .int (-1), .int 0, .int 0, .int 0, .long 0, .ref m5, .ref m6, .int 0, .int 0]), (m1, aI Y 3640 (clB 0 (fun _ => 0)))] rfl ?_
    refine V_icmp_eq_t 3020 B 3332 dL_law_3020 (by decide) (by decide +kernel) ?_
    refine V_iinc 3332 B (v := 6) (lv2 := [(4, .int 6), (3, .ref o0), (2, .ref m0), (1, .ref x0), (0, .ref b)]) dL_law_3332 0 rfl (by decide +kernel) (by decide) rfl ?_
    refine V_goto 3335 B 23 dL_law_3335 (by decide) ?_
    refine V_iload 23 B dL_law_23 0 rfl ?_
    refine V_aload_n 25 B dL_law_25 4 rfl ?_
    refine V_slen 26 B hX hbl hbA (v := 6) (by decide +kernel) dL_law_26 ?_
    refine V_bipush 27 B (v := 6) dL_law_27 (by decide +kernel) ?_
    refine V_isub 29 B (v := 0) dL_law_29 (by decide +kernel) ?_
    refine V_icmp_gt_t 30 B 3338 dL_law_30 (by decide) (by decide +kernel) ?_
    exact law_end B (Nat.le_of_ble_eq_true rfl) (Nat.le_of_ble_eq_true rfl) dL_law_3338 dL_law_3339
  ·
    refine V_ws [(x0, oC 12 [.ref x1, .ref x30, .ref x59, .ref x88, .ref x117, .ref x126, .ref x127, .ref x129, .ref x132, .long 0]), (x1, oC 2 [.ref x2, .ref x4, .ref x6, .ref x8, .ref x10, .ref x12, .ref x14, .ref x16, .ref x18, .ref x20, .ref x27, .int 0]), (x27, oC 9 [.ref x28, .int 0, .long 0, .int (-1), .int 0, .int 0, .int 0, .int 0, .int 0]), (m0, oC 13 [.ref m1, .ref m2, .int 0, .ref m3, .ref m4, .int 0, .int 0, .int 0, .int (-1), .int 0, .int 0, .int 0, .long 0, .ref m5, .ref m6, .int 0, .int 0]), (m1, aI Y 3640 (clB 0 (fun _ => 0)))] rfl ?_
    obtain rfl : p1 = 4 := k5
    refine V_aload_n 3010 B dL_law_3010 2 rfl ?_
    refine V_aload_n 3011 B dL_law_3011 4 rfl ?_
    refine V_iload 3012 B dL_law_3012 0 rfl ?_
    refine V_iconst 3014 B (v := 1) dL_law_3014 (by decide +kernel) ?_
    refine V_iadd 3015 B (v := 1) dL_law_3015 (by decide +kernel) ?_
    refine V_sld 3016 B hX hbl hbA (v := 4) (vpin _ _ (by decide +kernel)) dL_law_3016 e1 ?_
    refine V_cvi 3017 B (st := [.int 0]) (As := [.int 4]) (fun sz => mX12_typing_6 l D Y (m0) (m1) (m2) (m3) (m4) (m5) (m6) sz) glV_RL_336 ⟨rfl, rfl⟩ ⟨(Nat.le_of_ble_eq_true rfl), (Nat.le_of_ble_eq_true rfl)⟩ ⟨(Nat.le_of_ble_eq_true rfl), (Nat.le_of_ble_eq_true rfl)⟩ [3, 0] rfl 13 0 rfl rfl rfl rfl (Nat.le_of_ble_eq_true rfl) rfl (fun _ _ _ => rfl) dL_law_3017 (fun r15 u15 w15 => ?_)
    obtain rfl := w15
    refine V_ws [(x0, oC 12 [.ref x1, .ref x30, .ref x59, .ref x88, .ref x117, .ref x126, .ref x127, .ref x129, .ref x132, .long 0]), (x1, oC 2 [.ref x2, .ref x4, .ref x6, .ref x8, .ref x10, .ref x12, .ref x14, .ref x16, .ref x18, .ref x20, .ref x27, .int 0]), (x27, oC 9 [.ref x28, .int 0, .long 0, .int (-1), .int 0, .int 0, .int 0, .int 0, .int 0]), (m0, oC 13 [.ref m1, .ref m2, .int 0, .ref m3, .ref m4, .int 0, .int 0, .int 0, .int (-1), .int 0, .int 0, .int 0, .long 0, .ref m5, .ref m6, .int 0, .int 0]), (m1, aI Y 3640 (clB 0 (fun _ => 0)))] rfl ?_
    refine V_icmp_eq_t 3020 B 3332 dL_law_3020 (by decide) (by decide +kernel) ?_
    refine V_iinc 3332 B (v := 6) (lv2 := [(4, .int 6), (3, .ref o0), (2, .ref m0), (1, .ref x0), (0, .ref b)]) dL_law_3332 0 rfl (by decide +kernel) (by decide) rfl ?_
    refine V_goto 3335 B 23 dL_law_3335 (by decide) ?_
    refine V_iload 23 B dL_law_23 0 rfl ?_
    refine V_aload_n 25 B dL_law_25 4 rfl ?_
    refine V_slen 26 B hX hbl hbA (v := 6) (by decide +kernel) dL_law_26 ?_
    refine V_bipush 27 B (v := 6) dL_law_27 (by decide +kernel) ?_
    refine V_isub 29 B (v := 0) dL_law_29 (by decide +kernel) ?_
    refine V_icmp_gt_t 30 B 3338 dL_law_30 (by decide) (by decide +kernel) ?_
    exact law_end B (Nat.le_of_ble_eq_true rfl) (Nat.le_of_ble_eq_true rfl) dL_law_3338 dL_law_3339
  ·
    refine V_ws [(x0, oC 12 [.ref x1, .ref x30, .ref x59, .ref x88, .ref x117, .ref x126, .ref x127, .ref x129, .ref x132, .long 0]), (x1, oC 2 [.ref x2, .ref x4, .ref x6, .ref x8, .ref x10, .ref x12, .ref x14, .ref x16, .ref x18, .ref x20, .ref x27, .int 0]), (x27, oC 9 [.ref x28, .int 0, .long 0, .int (-1), .int 0, .int 0, .int 0, .int 0, .int 0]), (m0, oC 13 [.ref m1, .ref m2, .int 0, .ref m3, .ref m4, .int 0, .int 0, .int 0, .int (-1), .int 0, .int 0, .int 0, .long 0, .ref m5, .ref m6, .int 0, .int 0]), (m1, aI Y 3640 (clB 0 (fun _ => 0)))] rfl ?_
    refine V_aload_n 3010 B dL_law_3010 2 rfl ?_
    refine V_aload_n 3011 B dL_law_3011 4 rfl ?_
    refine V_iload 3012 B dL_law_3012 0 rfl ?_
    refine V_iconst 3014 B (v := 1) dL_law_3014 (by decide +kernel) ?_
    refine V_iadd 3015 B (v := 1) dL_law_3015 (by decide +kernel) ?_
    refine V_sld 3016 B hX hbl hbA (v := p1) (vpin _ _ (by decide +kernel)) dL_law_3016 e1 ?_
    refine V_cvi 3017 B (st := [.int (-1)]) (As := [.int p1]) (fun sz => mX12_typing_1 l D Y (m0) (m1) (m2) (m3) (m4) (m5) (m6) (p1) sz) glV_RL_336 ⟨rfl, rfl⟩ ⟨(Nat.le_of_ble_eq_true rfl), (Nat.le_of_ble_eq_true rfl)⟩ ⟨(Nat.le_of_ble_eq_true rfl), (Nat.le_of_ble_eq_true rfl)⟩ [3, 0] rfl 13 0 rfl rfl rfl rfl (Nat.le_of_ble_eq_true rfl) rfl (fun _ _ _ => rfl) dL_law_3017 (fun r16 u16 w16 => ?_)
    rcases w16 with ⟨k17, rfl⟩ | ⟨k18, rfl⟩ | ⟨k19, rfl⟩ | ⟨k20, rfl⟩ | ⟨k21, rfl⟩ | ⟨k22, k23, k24, k25, k26, rfl⟩
    ·
      refine V_ws [(x0, oC 12 [.ref x1, .ref x30, .ref x59, .ref x88, .ref x117, .ref x126, .ref x127, .ref x129, .ref x132, .long 0]), (x1, oC 2 [.ref x2, .ref x4, .ref x6, .ref x8, .ref x10, .ref x12, .ref x14, .ref x16, .ref x18, .ref x20, .ref x27, .int 0]), (x27, oC 9 [.ref x28, .int 0, .long 0, .int (-1), .int 0, .int 0, .int 0, .int 0, .int 0]), (m0, oC 13 [.ref m1, .ref m2, .int 0, .ref m3, .ref m4, .int 0, .int 0, .int 0, .int (-1), .int 0, .int 0, .int 0, .long 0, .ref m5, .ref m6, .int 0, .int 0]), (m1, aI Y 3640 (clB 0 (fun _ => 0)))] rfl ?_
      exact absurd k17 k6
    ·
      refine V_ws [(x0, oC 12 [.ref x1, .ref x30, .ref x59, .ref x88, .ref x117, .ref x126, .ref x127, .ref x129, .ref x132, .long 0]), (x1, oC 2 [.ref x2, .ref x4, .ref x6, .ref x8, .ref x10, .ref x12, .ref x14, .ref x16, .ref x18, .ref x20, .ref x27, .int 0]), (x27, oC 9 [.ref x28, .int 0, .long 0, .int (-1), .int 0, .int 0, .int 0, .int 0, .int 0]), (m0, oC 13 [.ref m1, .ref m2, .int 0, .ref m3, .ref m4, .int 0, .int 0, .int 0, .int (-1), .int 0, .int 0, .int 0, .long 0, .ref m5, .ref m6, .int 0, .int 0]), (m1, aI Y 3640 (clB 0 (fun _ => 0)))] rfl ?_
      exact absurd k18 k7
    ·
      refine V_ws [(x0, oC 12 [.ref x1, .ref x30, .ref x59, .ref x88, .ref x117, .ref x126, .ref x127, .ref x129, .ref x132, .long 0]), (x1, oC 2 [.ref x2, .ref x4, .ref x6, .ref x8, .ref x10, .ref x12, .ref x14, .ref x16, .ref x18, .ref x20, .ref x27, .int 0]), (x27, oC 9 [.ref x28, .int 0, .long 0, .int (-1), .int 0, .int 0, .int 0, .int 0, .int 0]), (m0, oC 13 [.ref m1, .ref m2, .int 0, .ref m3, .ref m4, .int 0, .int 0, .int 0, .int (-1), .int 0, .int 0, .int 0, .long 0, .ref m5, .ref m6, .int 0, .int 0]), (m1, aI Y 3640 (clB 0 (fun _ => 0)))] rfl ?_
      exact absurd k19 k8
    ·
      refine V_ws [(x0, oC 12 [.ref x1, .ref x30, .ref x59, .ref x88, .ref x117, .ref x126, .ref x127, .ref x129, .ref x132, .long 0]), (x1, oC 2 [.ref x2, .ref x4, .ref x6, .ref x8, .ref x10, .ref x12, .ref x14, .ref x16, .ref x18, .ref x20, .ref x27, .int 0]), (x27, oC 9 [.ref x28, .int 0, .long 0, .int (-1), .int 0, .int 0, .int 0, .int 0, .int 0]), (m0, oC 13 [.ref m1, .ref m2, .int 0, .ref m3, .ref m4, .int 0, .int 0, .int 0, .int (-1), .int 0, .int 0, .int 0, .long 0, .ref m5, .ref m6, .int 0, .int 0]), (m1, aI Y 3640 (clB 0 (fun _ => 0)))] rfl ?_
      exact absurd k20 k9
    ·
      refine V_ws [(x0, oC 12 [.ref x1, .ref x30, .ref x59, .ref x88, .ref x117, .ref x126, .ref x127, .ref x129, .ref x132, .long 0]), (x1, oC 2 [.ref x2, .ref x4, .ref x6, .ref x8, .ref x10, .ref x12, .ref x14, .ref x16, .ref x18, .ref x20, .ref x27, .int 0]), (x27, oC 9 [.ref x28, .int 0, .long 0, .int (-1), .int 0, .int 0, .int 0, .int 0, .int 0]), (m0, oC 13 [.ref m1, .ref m2, .int 0, .ref m3, .ref m4, .int 0, .int 0, .int 0, .int (-1), .int 0, .int 0, .int 0, .long 0, .ref m5, .ref m6, .int 0, .int 0]), (m1, aI Y 3640 (clB 0 (fun _ => 0)))] rfl ?_
      exact absurd k21 k10
    ·
      refine V_ws [(x0, oC 12 [.ref x1, .ref x30, .ref x59, .ref x88, .ref x117, .ref x126, .ref x127, .ref x129, .ref x132, .long 0]), (x1, oC 2 [.ref x2, .ref x4, .ref x6, .ref x8, .ref x10, .ref x12, .ref x14, .ref x16, .ref x18, .ref x20, .ref x27, .int 0]), (x27, oC 9 [.ref x28, .int 0, .long 0, .int (-1), .int 0, .int 0, .int 0, .int 0, .int 0]), (m0, oC 13 [.ref m1, .ref m2, .int 0, .ref m3, .ref m4, .int 0, .int 0, .int 0, .int (-1), .int 0, .int 0, .int 0, .long 0, .ref m5, .ref m6, .int 0, .int 0]), (m1, aI Y 3640 (clB 0 (fun _ => 0)))] rfl ?_
      refine V_icmp_eq_t 3020 B 3332 dL_law_3020 (by decide) (by decide +kernel) ?_
      refine V_iinc 3332 B (v := 6) (lv2 := [(4, .int 6), (3, .ref o0), (2, .ref m0), (1, .ref x0), (0, .ref b)]) dL_law_3332 0 rfl (by decide +kernel) (by decide) rfl ?_
      refine V_goto 3335 B 23 dL_law_3335 (by decide) ?_
      refine V_iload 23 B dL_law_23 0 rfl ?_
      refine V_aload_n 25 B dL_law_25 4 rfl ?_
      refine V_slen 26 B hX hbl hbA (v := 6) (by decide +kernel) dL_law_26 ?_
      refine V_bipush 27 B (v := 6) dL_law_27 (by decide +kernel) ?_
      refine V_isub 29 B (v := 0) dL_law_29 (by decide +kernel) ?_
      refine V_icmp_gt_t 30 B 3338 dL_law_30 (by decide) (by decide +kernel) ?_
      exact law_end B (Nat.le_of_ble_eq_true rfl) (Nat.le_of_ble_eq_true rfl) dL_law_3338 dL_law_3339
theorem dL_law_3025 : decode cL_law 3025 = .ok (.aload_n 1, 1) := by decide +kernel
theorem dL_law_3026 : decode cL_law 3026 = .ok (.aload_n 0, 1) := by decide +kernel
theorem dL_law_3027 : decode cL_law 3027 = .ok (.iload 4, 2) := by decide +kernel
theorem dL_law_3029 : decode cL_law 3029 = .ok (.iconst 1, 1) := by decide +kernel
theorem dL_law_3030 : decode cL_law 3030 = .ok (.iadd, 1) := by decide +kernel
theorem dL_law_3031 : decode cL_law 3031 = .ok (.iaload, 1) := by decide +kernel
theorem dL_law_3032 : decode cL_law 3032 = .ok (.invokevirtual 337, 3) := by decide +kernel
theorem glV_RL_337 : GLV RL 337 yX11_pending RX11 cX11_pending 2 (some .int) 1 := ⟨⟨(mT4 232 rfl rfl), (mT4 233 rfl rfl), (mT4 234 rfl rfl), (mT1 1 rfl rfl), (mT4 235 rfl rfl)⟩, by decide +kernel⟩
theorem dL_law_3035 : decode cL_law 3035 = .ok (.aload_n 2, 1) := by decide +kernel
theorem dL_law_3036 : decode cL_law 3036 = .ok (.aload_n 0, 1) := by decide +kernel
theorem dL_law_3037 : decode cL_law 3037 = .ok (.iload 4, 2) := by decide +kernel
theorem dL_law_3039 : decode cL_law 3039 = .ok (.iconst 1, 1) := by decide +kernel
theorem dL_law_3040 : decode cL_law 3040 = .ok (.iadd, 1) := by decide +kernel
theorem dL_law_3041 : decode cL_law 3041 = .ok (.iaload, 1) := by decide +kernel
theorem dL_law_3042 : decode cL_law 3042 = .ok (.invokevirtual 340, 3) := by decide +kernel
theorem glV_RL_340 : GLV RL 340 yX12_pending RX12 cX12_pending 2 (some .int) 1 := ⟨⟨(mT9 134 rfl rfl), (mT9 135 rfl rfl), (mT9 136 rfl rfl), (mT1 13 rfl rfl), (mT9 137 rfl rfl)⟩, by decide +kernel⟩
theorem dL_law_3045 : decode cL_law 3045 = .ok (.if_icmp .eq 287, 3) := by decide +kernel
set_option maxRecDepth 100000 in
set_option maxHeartbeats 4000000 in
theorem law_c54 {p : Program} {l : Launch} {e : Env} {s : State} {m : MethodId} {below : List Frame} {meth : Method} {c : Code} {b : Nat} {xs : Nat → Int32} {D : va_G} {Y : Nat → ClassId} (B : VB p s m #[Value.ref b] meth c D Y (fun q => s.heap.size ≤ q) cL_law 8 RL ret) (EB : EX (fun q => s.heap.size ≤ q) s s.heap) (hl9 : l.stackTraces = false) (hX : va_X b 6 xs s s.heap) (hbl : b < s.heap.size) (hbA : ¬ (fun q => s.heap.size ≤ q) b) (x0 x1 x30 x59 x88 x117 x126 x127 x129 x132 x2 x4 x6 x8 x10 x12 x14 x16 x18 x20 x27 x28 m0 m1 m2 m3 m4 m5 m6 o0 : Nat) (p1 : Int32) (e1 : xs 1 = p1) : V p l e room_1 s m #[Value.ref b] below meth c D (fun q => s.heap.size ≤ q) 8 149 10574 (lw_Z below #[Value.ref b] s) 3025 [(4, .int 0), (3, .ref o0), (2, .ref m0), (1, .ref x0), (0, .ref b)] [] [(x0, oC 12 [.ref x1, .ref x30, .ref x59, .ref x88, .ref x117, .ref x126, .ref x127, .ref x129, .ref x132, .long 0]), (x1, oC 2 [.ref x2, .ref x4, .ref x6, .ref x8, .ref x10, .ref x12, .ref x14, .ref x16, .ref x18, .ref x20, .ref x27, .int 0]), (x27, oC 9 [.ref x28, .int 0, .long 0, .int (-1), .int 0, .int 0, .int 0, .int 0, .int 0]), (m0, oC 13 [.ref m1, .ref m2, .int 0, .ref m3, .ref m4, .int 0, .int 0, .int 0, .int (-1), .int 0, .int 0, .int 0, .long 0, .ref m5, .ref m6, .int 0, .int 0]), (m1, aI Y 3640 (clB 0 (fun _ => 0)))] := by
  refine V_aload_n 3025 B dL_law_3025 3 rfl ?_
  refine V_aload_n 3026 B dL_law_3026 4 rfl ?_
  refine V_iload 3027 B dL_law_3027 0 rfl ?_
  refine V_iconst 3029 B (v := 1) dL_law_3029 (by decide +kernel) ?_
  refine V_iadd 3030 B (v := 1) dL_law_3030 (by decide +kernel) ?_
  refine V_sld 3031 B hX hbl hbA (v := p1) (vpin _ _ (by decide +kernel)) dL_law_3031 e1 ?_
  refine V_cvi 3032 B (st := []) (As := [.int p1]) (fun sz => mX11_pending_1 l D Y (x0) (x1) (x30) (x59) (x88) (x117) (x126) (x127) (x129) (x132) (x2) (x4) (x6) (x8) (x10) (x12) (x14) (x16) (x18) (x20) (x27) (x28) (p1) sz) glV_RL_337 ⟨rfl, rfl⟩ ⟨(Nat.le_of_ble_eq_true rfl), (Nat.le_of_ble_eq_true rfl)⟩ ⟨(Nat.le_of_ble_eq_true rfl), (Nat.le_of_ble_eq_true rfl)⟩ [0, 0, 0] rfl 12 0 rfl rfl rfl rfl (Nat.le_of_ble_eq_true rfl) rfl (fun _ _ _ => rfl) dL_law_3032 (fun r0 u0 w0 => ?_)
  rcases w0 with ⟨k1, rfl⟩ | ⟨k2, k3, rfl⟩ | ⟨k4, k5, rfl⟩
  ·
    refine V_ws [(x0, oC 12 [.ref x1, .ref x30, .ref x59, .ref x88, .ref x117, .ref x126, .ref x127, .ref x129, .ref x132, .long 0]), (x1, oC 2 [.ref x2, .ref x4, .ref x6, .ref x8, .ref x10, .ref x12, .ref x14, .ref x16, .ref x18, .ref x20, .ref x27, .int 0]), (x27, oC 9 [.ref x28, .int 0, .long 0, .int (-1), .int 0, .int 0, .int 0, .int 0, .int 0]), (m0, oC 13 [.ref m1, .ref m2, .int 0, .ref m3, .ref m4, .int 0, .int 0, .int 0, .int (-1), .int 0, .int 0, .int 0, .long 0, .ref m5, .ref m6, .int 0, .int 0]), (m1, aI Y 3640 (clB 0 (fun _ => 0)))] rfl ?_
    refine V_aload_n 3035 B dL_law_3035 2 rfl ?_
    refine V_aload_n 3036 B dL_law_3036 4 rfl ?_
    refine V_iload 3037 B dL_law_3037 0 rfl ?_
    refine V_iconst 3039 B (v := 1) dL_law_3039 (by decide +kernel) ?_
    refine V_iadd 3040 B (v := 1) dL_law_3040 (by decide +kernel) ?_
    refine V_sld 3041 B hX hbl hbA (v := p1) (vpin _ _ (by decide +kernel)) dL_law_3041 e1 ?_
    refine V_cvi 3042 B (st := [.int (-1)]) (As := [.int p1]) (fun sz => mX12_pending_1 l D Y (m0) (m1) (m2) (m3) (m4) (m5) (m6) (p1) sz) glV_RL_340 ⟨rfl, rfl⟩ ⟨(Nat.le_of_ble_eq_true rfl), (Nat.le_of_ble_eq_true rfl)⟩ ⟨(Nat.le_of_ble_eq_true rfl), (Nat.le_of_ble_eq_true rfl)⟩ [3, 0] rfl 13 0 rfl rfl rfl rfl (Nat.le_of_ble_eq_true rfl) rfl (fun _ _ _ => rfl) dL_law_3042 (fun r6 u6 w6 => ?_)
    rcases w6 with ⟨k7, rfl⟩ | ⟨k8, rfl⟩
    ·
      refine V_ws [(x0, oC 12 [.ref x1, .ref x30, .ref x59, .ref x88, .ref x117, .ref x126, .ref x127, .ref x129, .ref x132, .long 0]), (x1, oC 2 [.ref x2, .ref x4, .ref x6, .ref x8, .ref x10, .ref x12, .ref x14, .ref x16, .ref x18, .ref x20, .ref x27, .int 0]), (x27, oC 9 [.ref x28, .int 0, .long 0, .int (-1), .int 0, .int 0, .int 0, .int 0, .int 0]), (m0, oC 13 [.ref m1, .ref m2, .int 0, .ref m3, .ref m4, .int 0, .int 0, .int 0, .int (-1), .int 0, .int 0, .int 0, .long 0, .ref m5, .ref m6, .int 0, .int 0]), (m1, aI Y 3640 (clB 0 (fun _ => 0)))] rfl ?_
      refine V_icmp_eq_t 3045 B 3332 dL_law_3045 (by decide) (by decide +kernel) ?_
      refine V_iinc 3332 B (v := 6) (lv2 := [(4, .int 6), (3, .ref o0), (2, .ref m0), (1, .ref x0), (0, .ref b)]) dL_law_3332 0 rfl (by decide +kernel) (by decide) rfl ?_
      refine V_goto 3335 B 23 dL_law_3335 (by decide) ?_
      refine V_iload 23 B dL_law_23 0 rfl ?_
      refine V_aload_n 25 B dL_law_25 4 rfl ?_
      refine V_slen 26 B hX hbl hbA (v := 6) (by decide +kernel) dL_law_26 ?_
      refine V_bipush 27 B (v := 6) dL_law_27 (by decide +kernel) ?_
      refine V_isub 29 B (v := 0) dL_law_29 (by decide +kernel) ?_
      refine V_icmp_gt_t 30 B 3338 dL_law_30 (by decide) (by decide +kernel) ?_
      exact law_end B (Nat.le_of_ble_eq_true rfl) (Nat.le_of_ble_eq_true rfl) dL_law_3338 dL_law_3339
    ·
      refine V_ws [(x0, oC 12 [.ref x1, .ref x30, .ref x59, .ref x88, .ref x117, .ref x126, .ref x127, .ref x129, .ref x132, .long 0]), (x1, oC 2 [.ref x2, .ref x4, .ref x6, .ref x8, .ref x10, .ref x12, .ref x14, .ref x16, .ref x18, .ref x20, .ref x27, .int 0]), (x27, oC 9 [.ref x28, .int 0, .long 0, .int (-1), .int 0, .int 0, .int 0, .int 0, .int 0]), (m0, oC 13 [.ref m1, .ref m2, .int 0, .ref m3, .ref m4, .int 0, .int 0, .int 0, .int (-1), .int 0, .int 0, .int 0, .long 0, .ref m5, .ref m6, .int 0, .int 0]), (m1, aI Y 3640 (clB 0 (fun _ => 0)))] rfl ?_
      exact (q_abs (b_gt k8 (n := 0) (by decide +kernel)) (b_lt k1 (n := (-1)) (by decide +kernel)) (by decide +kernel)).elim
  ·
    refine V_ws [(x0, oC 12 [.ref x1, .ref x30, .ref x59, .ref x88, .ref x117, .ref x126, .ref x127, .ref x129, .ref x132, .long 0]), (x1, oC 2 [.ref x2, .ref x4, .ref x6, .ref x8, .ref x10, .ref x12, .ref x14, .ref x16, .ref x18, .ref x20, .ref x27, .int 0]), (x27, oC 9 [.ref x28, .int 0, .long 0, .int (-1), .int 0, .int 0, .int 0, .int 0, .int 0]), (m0, oC 13 [.ref m1, .ref m2, .int 0, .ref m3, .ref m4, .int 0, .int 0, .int 0, .int (-1), .int 0, .int 0, .int 0, .long 0, .ref m5, .ref m6, .int 0, .int 0]), (m1, aI Y 3640 (clB 0 (fun _ => 0)))] rfl ?_
    refine V_aload_n 3035 B dL_law_3035 2 rfl ?_
    refine V_aload_n 3036 B dL_law_3036 4 rfl ?_
    refine V_iload 3037 B dL_law_3037 0 rfl ?_
    refine V_iconst 3039 B (v := 1) dL_law_3039 (by decide +kernel) ?_
    refine V_iadd 3040 B (v := 1) dL_law_3040 (by decide +kernel) ?_
    refine V_sld 3041 B hX hbl hbA (v := p1) (vpin _ _ (by decide +kernel)) dL_law_3041 e1 ?_
    refine V_cvi 3042 B (st := [.int (-1)]) (As := [.int p1]) (fun sz => mX12_pending_1 l D Y (m0) (m1) (m2) (m3) (m4) (m5) (m6) (p1) sz) glV_RL_340 ⟨rfl, rfl⟩ ⟨(Nat.le_of_ble_eq_true rfl), (Nat.le_of_ble_eq_true rfl)⟩ ⟨(Nat.le_of_ble_eq_true rfl), (Nat.le_of_ble_eq_true rfl)⟩ [3, 0] rfl 13 0 rfl rfl rfl rfl (Nat.le_of_ble_eq_true rfl) rfl (fun _ _ _ => rfl) dL_law_3042 (fun r9 u9 w9 => ?_)
    rcases w9 with ⟨k10, rfl⟩ | ⟨k11, rfl⟩
    ·
      refine V_ws [(x0, oC 12 [.ref x1, .ref x30, .ref x59, .ref x88, .ref x117, .ref x126, .ref x127, .ref x129, .ref x132, .long 0]), (x1, oC 2 [.ref x2, .ref x4, .ref x6, .ref x8, .ref x10, .ref x12, .ref x14, .ref x16, .ref x18, .ref x20, .ref x27, .int 0]), (x27, oC 9 [.ref x28, .int 0, .long 0, .int (-1), .int 0, .int 0, .int 0, .int 0, .int 0]), (m0, oC 13 [.ref m1, .ref m2, .int 0, .ref m3, .ref m4, .int 0, .int 0, .int 0, .int (-1), .int 0, .int 0, .int 0, .long 0, .ref m5, .ref m6, .int 0, .int 0]), (m1, aI Y 3640 (clB 0 (fun _ => 0)))] rfl ?_
      exact (q_abs (b_nlt k2 (n := 0) (by decide +kernel)) (b_lt k10 (n := (-1)) (by decide +kernel)) (by decide +kernel)).elim
    ·
      refine V_ws [(x0, oC 12 [.ref x1, .ref x30, .ref x59, .ref x88, .ref x117, .ref x126, .ref x127, .ref x129, .ref x132, .long 0]), (x1, oC 2 [.ref x2, .ref x4, .ref x6, .ref x8, .ref x10, .ref x12, .ref x14, .ref x16, .ref x18, .ref x20, .ref x27, .int 0]), (x27, oC 9 [.ref x28, .int 0, .long 0, .int (-1), .int 0, .int 0, .int 0, .int 0, .int 0]), (m0, oC 13 [.ref m1, .ref m2, .int 0, .ref m3, .ref m4, .int 0, .int 0, .int 0, .int (-1), .int 0, .int 0, .int 0, .long 0, .ref m5, .ref m6, .int 0, .int 0]), (m1, aI Y 3640 (clB 0 (fun _ => 0)))] rfl ?_
      refine V_icmp_eq_t 3045 B 3332 dL_law_3045 (by decide) (by decide +kernel) ?_
      refine V_iinc 3332 B (v := 6) (lv2 := [(4, .int 6), (3, .ref o0), (2, .ref m0), (1, .ref x0), (0, .ref b)]) dL_law_3332 0 rfl (by decide +kernel) (by decide) rfl ?_
      refine V_goto 3335 B 23 dL_law_3335 (by decide) ?_
      refine V_iload 23 B dL_law_23 0 rfl ?_
      refine V_aload_n 25 B dL_law_25 4 rfl ?_
      refine V_slen 26 B hX hbl hbA (v := 6) (by decide +kernel) dL_law_26 ?_
      refine V_bipush 27 B (v := 6) dL_law_27 (by decide +kernel) ?_
      refine V_isub 29 B (v := 0) dL_law_29 (by decide +kernel) ?_
      refine V_icmp_gt_t 30 B 3338 dL_law_30 (by decide) (by decide +kernel) ?_
      exact law_end B (Nat.le_of_ble_eq_true rfl) (Nat.le_of_ble_eq_true rfl) dL_law_3338 dL_law_3339
  ·
    refine V_ws [(x0, oC 12 [.ref x1, .ref x30, .ref x59, .ref x88, .ref x117, .ref x126, .ref x127, .ref x129, .ref x132, .long 0]), (x1, oC 2 [.ref x2, .ref x4, .ref x6, .ref x8, .ref x10, .ref x12, .ref x14, .ref x16, .ref x18, .ref x20, .ref x27, .int 0]), (x27, oC 9 [.ref x28, .int 0, .long 0, .int (-1), .int 0, .int 0, .int 0, .int 0, .int 0]), (m0, oC 13 [.ref m1, .ref m2, .int 0, .ref m3, .ref m4, .int 0, .int 0, .int 0, .int (-1), .int 0, .int 0, .int 0, .long 0, .ref m5, .ref m6, .int 0, .int 0]), (m1, aI Y 3640 (clB 0 (fun _ => 0)))] rfl ?_
    refine V_aload_n 3035 B dL_law_3035 2 rfl ?_
    refine V_aload_n 3036 B dL_law_3036 4 rfl ?_
    refine V_iload 3037 B dL_law_3037 0 rfl ?_
    refine V_iconst 3039 B (v := 1) dL_law_3039 (by decide +kernel) ?_
    refine V_iadd 3040 B (v := 1) dL_law_3040 (by decide +kernel) ?_
    refine V_sld 3041 B hX hbl hbA (v := p1) (vpin _ _ (by decide +kernel)) dL_law_3041 e1 ?_
    refine V_cvi 3042 B (st := [.int (-1)]) (As := [.int p1]) (fun sz => mX12_pending_1 l D Y (m0) (m1) (m2) (m3) (m4) (m5) (m6) (p1) sz) glV_RL_340 ⟨rfl, rfl⟩ ⟨(Nat.le_of_ble_eq_true rfl), (Nat.le_of_ble_eq_true rfl)⟩ ⟨(Nat.le_of_ble_eq_true rfl), (Nat.le_of_ble_eq_true rfl)⟩ [3, 0] rfl 13 0 rfl rfl rfl rfl (Nat.le_of_ble_eq_true rfl) rfl (fun _ _ _ => rfl) dL_law_3042 (fun r12 u12 w12 => ?_)
    rcases w12 with ⟨k13, rfl⟩ | ⟨k14, rfl⟩
    ·
      refine V_ws [(x0, oC 12 [.ref x1, .ref x30, .ref x59, .ref x88, .ref x117, .ref x126, .ref x127, .ref x129, .ref x132, .long 0]), (x1, oC 2 [.ref x2, .ref x4, .ref x6, .ref x8, .ref x10, .ref x12, .ref x14, .ref x16, .ref x18, .ref x20, .ref x27, .int 0]), (x27, oC 9 [.ref x28, .int 0, .long 0, .int (-1), .int 0, .int 0, .int 0, .int 0, .int 0]), (m0, oC 13 [.ref m1, .ref m2, .int 0, .ref m3, .ref m4, .int 0, .int 0, .int 0, .int (-1), .int 0, .int 0, .int 0, .long 0, .ref m5, .ref m6, .int 0, .int 0]), (m1, aI Y 3640 (clB 0 (fun _ => 0)))] rfl ?_
      exact (q_abs (b_nlt k5 (n := 4) (by decide +kernel)) (b_lt k13 (n := (-1)) (by decide +kernel)) (by decide +kernel)).elim
    ·
      refine V_ws [(x0, oC 12 [.ref x1, .ref x30, .ref x59, .ref x88, .ref x117, .ref x126, .ref x127, .ref x129, .ref x132, .long 0]), (x1, oC 2 [.ref x2, .ref x4, .ref x6, .ref x8, .ref x10, .ref x12, .ref x14, .ref x16, .ref x18, .ref x20, .ref x27, .int 0]), (x27, oC 9 [.ref x28, .int 0, .long 0, .int (-1), .int 0, .int 0, .int 0, .int 0, .int 0]), (m0, oC 13 [.ref m1, .ref m2, .int 0, .ref m3, .ref m4, .int 0, .int 0, .int 0, .int (-1), .int 0, .int 0, .int 0, .long 0, .ref m5, .ref m6, .int 0, .int 0]), (m1, aI Y 3640 (clB 0 (fun _ => 0)))] rfl ?_
      refine V_icmp_eq_t 3045 B 3332 dL_law_3045 (by decide) (by decide +kernel) ?_
      refine V_iinc 3332 B (v := 6) (lv2 := [(4, .int 6), (3, .ref o0), (2, .ref m0), (1, .ref x0), (0, .ref b)]) dL_law_3332 0 rfl (by decide +kernel) (by decide) rfl ?_
      refine V_goto 3335 B 23 dL_law_3335 (by decide) ?_
      refine V_iload 23 B dL_law_23 0 rfl ?_
      refine V_aload_n 25 B dL_law_25 4 rfl ?_
      refine V_slen 26 B hX hbl hbA (v := 6) (by decide +kernel) dL_law_26 ?_
      refine V_bipush 27 B (v := 6) dL_law_27 (by decide +kernel) ?_
      refine V_isub 29 B (v := 0) dL_law_29 (by decide +kernel) ?_
      refine V_icmp_gt_t 30 B 3338 dL_law_30 (by decide) (by decide +kernel) ?_
      exact law_end B (Nat.le_of_ble_eq_true rfl) (Nat.le_of_ble_eq_true rfl) dL_law_3338 dL_law_3339
theorem dL_law_3050 : decode cL_law 3050 = .ok (.aload_n 1, 1) := by decide +kernel
theorem dL_law_3051 : decode cL_law 3051 = .ok (.aload_n 0, 1) := by decide +kernel
theorem dL_law_3052 : decode cL_law 3052 = .ok (.iload 4, 2) := by decide +kernel
theorem dL_law_3054 : decode cL_law 3054 = .ok (.iconst 1, 1) := by decide +kernel
theorem dL_law_3055 : decode cL_law 3055 = .ok (.iadd, 1) := by decide +kernel
theorem dL_law_3056 : decode cL_law 3056 = .ok (.iaload, 1) := by decide +kernel
theorem dL_law_3057 : decode cL_law 3057 = .ok (.invokevirtual 341, 3) := by decide +kernel
theorem glV_RL_341 : GLV RL 341 yX11_backTo RX11 cX11_backTo 2 (some .int) 1 := ⟨⟨(mT4 236 rfl rfl), (mT4 237 rfl rfl), (mT4 238 rfl rfl), (mT1 1 rfl rfl), (mT4 239 rfl rfl)⟩, by decide +kernel⟩
theorem dL_law_3060 : decode cL_law 3060 = .ok (.aload_n 2, 1) := by decide +kernel
theorem dL_law_3061 : decode cL_law 3061 = .ok (.aload_n 0, 1) := by decide +kernel
theorem dL_law_3062 : decode cL_law 3062 = .ok (.iload 4, 2) := by decide +kernel
theorem dL_law_3064 : decode cL_law 3064 = .ok (.iconst 1, 1) := by decide +kernel
theorem dL_law_3065 : decode cL_law 3065 = .ok (.iadd, 1) := by decide +kernel
theorem dL_law_3066 : decode cL_law 3066 = .ok (.iaload, 1) := by decide +kernel
theorem dL_law_3067 : decode cL_law 3067 = .ok (.invokevirtual 344, 3) := by decide +kernel
theorem glV_RL_344 : GLV RL 344 yX12_backTo RX12 cX12_backTo 2 (some .int) 1 := ⟨⟨(mT9 138 rfl rfl), (mT9 139 rfl rfl), (mT9 140 rfl rfl), (mT1 13 rfl rfl), (mT9 141 rfl rfl)⟩, by decide +kernel⟩
theorem dL_law_3070 : decode cL_law 3070 = .ok (.if_icmp .eq 262, 3) := by decide +kernel
set_option maxRecDepth 100000 in
set_option maxHeartbeats 4000000 in
theorem law_c55 {p : Program} {l : Launch} {e : Env} {s : State} {m : MethodId} {below : List Frame} {meth : Method} {c : Code} {b : Nat} {xs : Nat → Int32} {D : va_G} {Y : Nat → ClassId} (B : VB p s m #[Value.ref b] meth c D Y (fun q => s.heap.size ≤ q) cL_law 8 RL ret) (EB : EX (fun q => s.heap.size ≤ q) s s.heap) (hl9 : l.stackTraces = false) (hX : va_X b 6 xs s s.heap) (hbl : b < s.heap.size) (hbA : ¬ (fun q => s.heap.size ≤ q) b) (x0 x1 x30 x59 x88 x117 x126 x127 x129 x132 x2 x4 x6 x8 x10 x12 x14 x16 x18 x20 x27 x28 x29 m0 m1 m2 m3 m4 m5 m6 o0 : Nat) (p1 : Int32) (e1 : xs 1 = p1) : V p l e room_1 s m #[Value.ref b] below meth c D (fun q => s.heap.size ≤ q) 8 149 10574 (lw_Z below #[Value.ref b] s) 3050 [(4, .int 0), (3, .ref o0), (2, .ref m0), (1, .ref x0), (0, .ref b)] [] [(x0, oC 12 [.ref x1, .ref x30, .ref x59, .ref x88, .ref x117, .ref x126, .ref x127, .ref x129, .ref x132, .long 0]), (x1, oC 2 [.ref x2, .ref x4, .ref x6, .ref x8, .ref x10, .ref x12, .ref x14, .ref x16, .ref x18, .ref x20, .ref x27, .int 0]), (x27, oC 9 [.ref x28, .int 0, .long 0, .int (-1), .int 0, .int 0, .int 0, .int 0, .int 0]), (x28, oC 3 [.ref x29, .int 0]), (m0, oC 13 [.ref m1, .ref m2, .int 0, .ref m3, .ref m4, .int 0, .int 0, .int 0, .int (-1), .int 0, .int 0, .int 0, .long 0, .ref m5, .ref m6, .int 0, .int 0]), (m1, aI Y 3640 (clB 0 (fun _ => 0)))] := by
  refine V_aload_n 3050 B dL_law_3050 3 rfl ?_
  refine V_aload_n 3051 B dL_law_3051 4 rfl ?_
  refine V_iload 3052 B dL_law_3052 0 rfl ?_
  refine V_iconst 3054 B (v := 1) dL_law_3054 (by decide +kernel) ?_
  refine V_iadd 3055 B (v := 1) dL_law_3055 (by decide +kernel) ?_
  refine V_sld 3056 B hX hbl hbA (v := p1) (vpin _ _ (by decide +kernel)) dL_law_3056 e1 ?_
  refine V_cvi 3057 B (st := []) (As := [.int p1]) (fun sz => mX11_backTo_1 l D Y (x0) (x1) (x30) (x59) (x88) (x117) (x126) (x127) (x129) (x132) (x2) (x4) (x6) (x8) (x10) (x12) (x14) (x16) (x18) (x20) (x27) (x28) (x29) (p1) sz) glV_RL_341 ⟨rfl, rfl⟩ ⟨(Nat.le_of_ble_eq_true rfl), (Nat.le_of_ble_eq_true rfl)⟩ ⟨(Nat.le_of_ble_eq_true rfl), (Nat.le_of_ble_eq_true rfl)⟩ [0, 0, 0, 0] rfl 12 0 rfl rfl rfl rfl (Nat.le_of_ble_eq_true rfl) rfl (fun _ _ _ => rfl) dL_law_3057 (fun r0 u0 w0 => ?_)
  rcases w0 with ⟨k1, k2, rfl⟩ | ⟨k3, k4, rfl⟩ | ⟨k5, rfl⟩
  ·
    refine V_ws [(x0, oC 12 [.ref x1, .ref x30, .ref x59, .ref x88, .ref x117, .ref x126, .ref x127, .ref x129, .ref x132, .long 0]), (x1, oC 2 [.ref x2, .ref x4, .ref x6, .ref x8, .ref x10, .ref x12, .ref x14, .ref x16, .ref x18, .ref x20, .ref x27, .int 0]), (x27, oC 9 [.ref x28, .int 0, .long 0, .int (-1), .int 0, .int 0, .int 0, .int 0, .int 0]), (x28, oC 3 [.ref x29, .int 0]), (m0, oC 13 [.ref m1, .ref m2, .int 0, .ref m3, .ref m4, .int 0, .int 0, .int 0, .int (-1), .int 0, .int 0, .int 0, .long 0, .ref m5, .ref m6, .int 0, .int 0]), (m1, aI Y 3640 (clB 0 (fun _ => 0)))] rfl ?_
    refine V_aload_n 3060 B dL_law_3060 2 rfl ?_
    refine V_aload_n 3061 B dL_law_3061 4 rfl ?_
    refine V_iload 3062 B dL_law_3062 0 rfl ?_
    refine V_iconst 3064 B (v := 1) dL_law_3064 (by decide +kernel) ?_
    refine V_iadd 3065 B (v := 1) dL_law_3065 (by decide +kernel) ?_
    refine V_sld 3066 B hX hbl hbA (v := p1) (vpin _ _ (by decide +kernel)) dL_law_3066 e1 ?_
    refine V_cvi 3067 B (st := [.int (-1)]) (As := [.int p1]) (fun sz => mX12_backTo_1 l D Y (m0) (m1) (m2) (m3) (m4) (m5) (m6) (p1) sz) glV_RL_344 ⟨rfl, rfl⟩ ⟨(Nat.le_of_ble_eq_true rfl), (Nat.le_of_ble_eq_true rfl)⟩ ⟨(Nat.le_of_ble_eq_true rfl), (Nat.le_of_ble_eq_true rfl)⟩ [4, 0] rfl 13 0 rfl rfl rfl rfl (Nat.le_of_ble_eq_true rfl) rfl (fun _ _ _ => rfl) dL_law_3067 (fun r6 u6 w6 => ?_)
    rcases w6 with ⟨k7, rfl⟩ | ⟨k8, rfl⟩
    ·
      refine V_ws [(x0, oC 12 [.ref x1, .ref x30, .ref x59, .ref x88, .ref x117, .ref x126, .ref x127, .ref x129, .ref x132, .long 0]), (x1, oC 2 [.ref x2, .ref x4, .ref x6, .ref x8, .ref x10, .ref x12, .ref x14, .ref x16, .ref x18, .ref x20, .ref x27, .int 0]), (x27, oC 9 [.ref x28, .int 0, .long 0, .int (-1), .int 0, .int 0, .int 0, .int 0, .int 0]), (x28, oC 3 [.ref x29, .int 0]), (m0, oC 13 [.ref m1, .ref m2, .int 0, .ref m3, .ref m4, .int 0, .int 0, .int 0, .int (-1), .int 0, .int 0, .int 0, .long 0, .ref m5, .ref m6, .int 0, .int 0]), (m1, aI Y 3640 (clB 0 (fun _ => 0)))] rfl ?_
      exact (q_abs (b_ge k1 (n := 0) (by decide +kernel)) (b_lt k7 (n := (-1)) (by decide +kernel)) (by decide +kernel)).elim
    ·
      refine V_ws [(x0, oC 12 [.ref x1, .ref x30, .ref x59, .ref x88, .ref x117, .ref x126, .ref x127, .ref x129, .ref x132, .long 0]), (x1, oC 2 [.ref x2, .ref x4, .ref x6, .ref x8, .ref x10, .ref x12, .ref x14, .ref x16, .ref x18, .ref x20, .ref x27, .int 0]), (x27, oC 9 [.ref x28, .int 0, .long 0, .int (-1), .int 0, .int 0, .int 0, .int 0, .int 0]), (x28, oC 3 [.ref x29, .int 0]), (m0, oC 13 [.ref m1, .ref m2, .int 0, .ref m3, .ref m4, .int 0, .int 0, .int 0, .int (-1), .int 0, .int 0, .int 0, .long 0, .ref m5, .ref m6, .int 0, .int 0]), (m1, aI Y 3640 (clB 0 (fun _ => 0)))] rfl ?_
      refine V_icmp_eq_t 3070 B 3332 dL_law_3070 (by decide) (by decide +kernel) ?_
      refine V_iinc 3332 B (v := 6) (lv2 := [(4, .int 6), (3, .ref o0), (2, .ref m0), (1, .ref x0), (0, .ref b)]) dL_law_3332 0 rfl (by decide +kernel) (by decide) rfl ?_
      refine V_goto 3335 B 23 dL_law_3335 (by decide) ?_
      refine V_iload 23 B dL_law_23 0 rfl ?_
      refine V_aload_n 25 B dL_law_25 4 rfl ?_
      refine V_slen 26 B hX hbl hbA (v := 6) (by decide +kernel) dL_law_26 ?_
      refine V_bipush 27 B (v := 6) dL_law_27 (by decide +kernel) ?_
      refine V_isub 29 B (v := 0) dL_law_29 (by decide +kernel) ?_
      refine V_icmp_gt_t 30 B 3338 dL_law_30 (by decide) (by decide +kernel) ?_
      exact law_end B (Nat.le_of_ble_eq_true rfl) (Nat.le_of_ble_eq_true rfl) dL_law_3338 dL_law_3339
  ·
    refine V_ws [(x0, oC 12 [.ref x1, .ref x30, .ref x59, .ref x88, .ref x117, .ref x126, .ref x127, .ref x129, .ref x132, .long 0]), (x1, oC 2 [.ref x2, .ref x4, .ref x6, .ref x8, .ref x10, .ref x12, .ref x14, .ref x16, .ref x18, .ref x20, .ref x27, .int 0]), (x27, oC 9 [.ref x28, .int 0, .long 0, .int (-1), .int 0, .int 0, .int 0, .int 0, .int 0]), (x28, oC 3 [.ref x29, .int 0]), (m0, oC 13 [.ref m1, .ref m2, .int 0, .ref m3, .ref m4, .int 0, .int 0, .int 0, .int (-1), .int 0, .int 0, .int 0, .long 0, .ref m5, .ref m6, .int 0, .int 0]), (m1, aI Y 3640 (clB 0 (fun _ => 0)))] rfl ?_
    refine V_aload_n 3060 B dL_law_3060 2 rfl ?_
    refine V_aload_n 3061 B dL_law_3061 4 rfl ?_
    refine V_iload 3062 B dL_law_3062 0 rfl ?_
    refine V_iconst 3064 B (v := 1) dL_law_3064 (by decide +kernel) ?_
    refine V_iadd 3065 B (v := 1) dL_law_3065 (by decide +kernel) ?_
    refine V_sld 3066 B hX hbl hbA (v := p1) (vpin _ _ (by decide +kernel)) dL_law_3066 e1 ?_
    refine V_cvi 3067 B (st := [.int (-1)]) (As := [.int p1]) (fun sz => mX12_backTo_1 l D Y (m0) (m1) (m2) (m3) (m4) (m5) (m6) (p1) sz) glV_RL_344 ⟨rfl, rfl⟩ ⟨(Nat.le_of_ble_eq_true rfl), (Nat.le_of_ble_eq_true rfl)⟩ ⟨(Nat.le_of_ble_eq_true rfl), (Nat.le_of_ble_eq_true rfl)⟩ [4, 0] rfl 13 0 rfl rfl rfl rfl (Nat.le_of_ble_eq_true rfl) rfl (fun _ _ _ => rfl) dL_law_3067 (fun r9 u9 w9 => ?_)
    rcases w9 with ⟨k10, rfl⟩ | ⟨k11, rfl⟩
    ·
      refine V_ws [(x0, oC 12 [.ref x1, .ref x30, .ref x59, .ref x88, .ref x117, .ref x126, .ref x127, .ref x129, .ref x132, .long 0]), (x1, oC 2 [.ref x2, .ref x4, .ref x6, .ref x8, .ref x10, .ref x12, .ref x14, .ref x16, .ref x18, .ref x20, .ref x27, .int 0]), (x27, oC 9 [.ref x28, .int 0, .long 0, .int (-1), .int 0, .int 0, .int 0, .int 0, .int 0]), (x28, oC 3 [.ref x29, .int 0]), (m0, oC 13 [.ref m1, .ref m2, .int 0, .ref m3, .ref m4, .int 0, .int 0, .int 0, .int (-1), .int 0, .int 0, .int 0, .long 0, .ref m5, .ref m6, .int 0, .int 0]), (m1, aI Y 3640 (clB 0 (fun _ => 0)))] rfl ?_
      exact (q_abs (b_ge k3 (n := 0) (by decide +kernel)) (b_lt k10 (n := (-1)) (by decide +kernel)) (by decide +kernel)).elim
    ·
      refine V_ws [(x0, oC 12 [.ref x1, .ref x30, .ref x59, .ref x88, .ref x117, .ref x126, .ref x127, .ref x129, .ref x132, .long 0]), (x1, oC 2 [.ref x2, .ref x4, .ref x6, .ref x8, .ref x10, .ref x12, .ref x14, .ref x16, .ref x18, .ref x20, .ref x27, .int 0]), (x27, oC 9 [.ref x28, .int 0, .long 0, .int (-1), .int 0, .int 0, .int 0, .int 0, .int 0]), (x28, oC 3 [.ref x29, .int 0]), (m0, oC 13 [.ref m1, .ref m2, .int 0, .ref m3, .ref m4, .int 0, .int 0, .int 0, .int (-1), .int 0, .int 0, .int 0, .long 0, .ref m5, .ref m6, .int 0, .int 0]), (m1, aI Y 3640 (clB 0 (fun _ => 0)))] rfl ?_
      refine V_icmp_eq_t 3070 B 3332 dL_law_3070 (by decide) (by decide +kernel) ?_
      refine V_iinc 3332 B (v := 6) (lv2 := [(4, .int 6), (3, .ref o0), (2, .ref m0), (1, .ref x0), (0, .ref b)]) dL_law_3332 0 rfl (by decide +kernel) (by decide) rfl ?_
      refine V_goto 3335 B 23 dL_law_3335 (by decide) ?_
      refine V_iload 23 B dL_law_23 0 rfl ?_
      refine V_aload_n 25 B dL_law_25 4 rfl ?_
      refine V_slen 26 B hX hbl hbA (v := 6) (by decide +kernel) dL_law_26 ?_
      refine V_bipush 27 B (v := 6) dL_law_27 (by decide +kernel) ?_
      refine V_isub 29 B (v := 0) dL_law_29 (by decide +kernel) ?_
      refine V_icmp_gt_t 30 B 3338 dL_law_30 (by decide) (by decide +kernel) ?_
      exact law_end B (Nat.le_of_ble_eq_true rfl) (Nat.le_of_ble_eq_true rfl) dL_law_3338 dL_law_3339
  ·
    refine V_ws [(x0, oC 12 [.ref x1, .ref x30, .ref x59, .ref x88, .ref x117, .ref x126, .ref x127, .ref x129, .ref x132, .long 0]), (x1, oC 2 [.ref x2, .ref x4, .ref x6, .ref x8, .ref x10, .ref x12, .ref x14, .ref x16, .ref x18, .ref x20, .ref x27, .int 0]), (x27, oC 9 [.ref x28, .int 0, .long 0, .int (-1), .int 0, .int 0, .int 0, .int 0, .int 0]), (x28, oC 3 [.ref x29, .int 0]), (m0, oC 13 [.ref m1, .ref m2, .int 0, .ref m3, .ref m4, .int 0, .int 0, .int 0, .int (-1), .int 0, .int 0, .int 0, .long 0, .ref m5, .ref m6, .int 0, .int 0]), (m1, aI Y 3640 (clB 0 (fun _ => 0)))] rfl ?_
    refine V_aload_n 3060 B dL_law_3060 2 rfl ?_
    refine V_aload_n 3061 B dL_law_3061 4 rfl ?_
    refine V_iload 3062 B dL_law_3062 0 rfl ?_
    refine V_iconst 3064 B (v := 1) dL_law_3064 (by decide +kernel) ?_
    refine V_iadd 3065 B (v := 1) dL_law_3065 (by decide +kernel) ?_
    refine V_sld 3066 B hX hbl hbA (v := p1) (vpin _ _ (by decide +kernel)) dL_law_3066 e1 ?_
    refine V_cvi 3067 B (st := [.int (-1)]) (As := [.int p1]) (fun sz => mX12_backTo_1 l D Y (m0) (m1) (m2) (m3) (m4) (m5) (m6) (p1) sz) glV_RL_344 ⟨rfl, rfl⟩ ⟨(Nat.le_of_ble_eq_true rfl), (Nat.le_of_ble_eq_true rfl)⟩ ⟨(Nat.le_of_ble_eq_true rfl), (Nat.le_of_ble_eq_true rfl)⟩ [4, 0] rfl 13 0 rfl rfl rfl rfl (Nat.le_of_ble_eq_true rfl) rfl (fun _ _ _ => rfl) dL_law_3067 (fun r12 u12 w12 => ?_)
    rcases w12 with ⟨k13, rfl⟩ | ⟨k14, rfl⟩
    ·
      refine V_ws [(x0, oC 12 [.ref x1, .ref x30, .ref x59, .ref x88, .ref x117, .ref x126, .ref x127, .ref x129, .ref x132, .long 0]), (x1, oC 2 [.ref x2, .ref x4, .ref x6, .ref x8, .ref x10, .ref x12, .ref x14, .ref x16, .ref x18, .ref x20, .ref x27, .int 0]), (x27, oC 9 [.ref x28, .int 0, .long 0, .int (-1), .int 0, .int 0, .int 0, .int 0, .int 0]), (x28, oC 3 [.ref x29, .int 0]), (m0, oC 13 [.ref m1, .ref m2, .int 0, .ref m3, .ref m4, .int 0, .int 0, .int 0, .int (-1), .int 0, .int 0, .int 0, .long 0, .ref m5, .ref m6, .int 0, .int 0]), (m1, aI Y 3640 (clB 0 (fun _ => 0)))] rfl ?_
      refine V_icmp_eq_t 3070 B 3332 dL_law_3070 (by decide) (by decide +kernel) ?_
      refine V_iinc 3332 B (v := 6) (lv2 := [(4, .int 6), (3, .ref o0), (2, .ref m0), (1, .ref x0), (0, .ref b)]) dL_law_3332 0 rfl (by decide +kernel) (by decide) rfl ?_
      refine V_goto 3335 B 23 dL_law_3335 (by decide) ?_
      refine V_iload 23 B dL_law_23 0 rfl ?_
      refine V_aload_n 25 B dL_law_25 4 rfl ?_
      refine V_slen 26 B hX hbl hbA (v := 6) (by decide +kernel) dL_law_26 ?_
      refine V_bipush 27 B (v := 6) dL_law_27 (by decide +kernel) ?_
      refine V_isub 29 B (v := 0) dL_law_29 (by decide +kernel) ?_
      refine V_icmp_gt_t 30 B 3338 dL_law_30 (by decide) (by decide +kernel) ?_
      exact law_end B (Nat.le_of_ble_eq_true rfl) (Nat.le_of_ble_eq_true rfl) dL_law_3338 dL_law_3339
    ·
      refine V_ws [(x0, oC 12 [.ref x1, .ref x30, .ref x59, .ref x88, .ref x117, .ref x126, .ref x127, .ref x129, .ref x132, .long 0]), (x1, oC 2 [.ref x2, .ref x4, .ref x6, .ref x8, .ref x10, .ref x12, .ref x14, .ref x16, .ref x18, .ref x20, .ref x27, .int 0]), (x27, oC 9 [.ref x28, .int 0, .long 0, .int (-1), .int 0, .int 0, .int 0, .int 0, .int 0]), (x28, oC 3 [.ref x29, .int 0]), (m0, oC 13 [.ref m1, .ref m2, .int 0, .ref m3, .ref m4, .int 0, .int 0, .int 0, .int (-1), .int 0, .int 0, .int 0, .long 0, .ref m5, .ref m6, .int 0, .int 0]), (m1, aI Y 3640 (clB 0 (fun _ => 0)))] rfl ?_
      exact (q_abs (b_gt k14 (n := 0) (by decide +kernel)) (b_nge k5 (n := (-1)) (by decide +kernel)) (by decide +kernel)).elim
theorem dL_setTimeout_0 : decode cL_setTimeout 0 = .ok (.aload_n 2, 1) := by decide +kernel
theorem dL_setTimeout_1 : decode cL_setTimeout 1 = .ok (.iconst 0, 1) := by decide +kernel
theorem dL_setTimeout_2 : decode cL_setTimeout 2 = .ok (.aload_n 0, 1) := by decide +kernel
theorem dL_setTimeout_3 : decode cL_setTimeout 3 = .ok (.iload_n 1, 1) := by decide +kernel
theorem dL_setTimeout_4 : decode cL_setTimeout 4 = .ok (.invokevirtual 137, 3) := by decide +kernel
theorem glV_RL_137 : GLV RL 137 yX11_setTimeout RX11 cX11_setTimeout 3 (some .int) 1 := ⟨⟨(mT7 91 rfl rfl), (mT7 92 rfl rfl), (mT7 93 rfl rfl), (mT1 1 rfl rfl), (mT7 94 rfl rfl)⟩, by decide +kernel⟩
theorem dL_setTimeout_12 : decode cL_setTimeout 12 = .ok (.astore_n 3, 1) := by decide +kernel
theorem dL_setTimeout_13 : decode cL_setTimeout 13 = .ok (.iconst 1, 1) := by decide +kernel
theorem dL_setTimeout_14 : decode cL_setTimeout 14 = .ok (.ireturn, 1) := by decide +kernel
theorem dL_setTimeout_7 : decode cL_setTimeout 7 = .ok (.i2l, 1) := by decide +kernel
theorem dL_setTimeout_8 : decode cL_setTimeout 8 = .ok (.lastore, 1) := by decide +kernel
theorem dL_setTimeout_9 : decode cL_setTimeout 9 = .ok (.goto 6, 3) := by decide +kernel
theorem dL_setTimeout_15 : decode cL_setTimeout 15 = .ok (.iconst 0, 1) := by decide +kernel
theorem dL_setTimeout_16 : decode cL_setTimeout 16 = .ok (.ireturn, 1) := by decide +kernel
set_option maxRecDepth 100000 in
set_option maxHeartbeats 4000000 in
theorem mL_setTimeout_1 (l : Launch) (hl9 : l.stackTraces = false) (D : va_G) (Y : Nat → ClassId) (h0 : Nat) (h3 : Nat) (h1 : Nat) (g0 : Nat) (g1 : Nat) (g2 : Nat) (g3 : Nat) (g4 : Nat) (g5 : Nat) (g6 : Nat) (g7 : Nat) (g8 : Nat) (g9 : Nat) (g10 : Nat) (g11 : Nat) (g12 : Nat) (g13 : Nat) (g14 : Nat) (g15 : Nat) (g16 : Nat) (g17 : Nat) (h2 : Nat) (g18 : Nat) (p0 : Int32) (sz : Nat) : Met l yL_setTimeout (Cond.codeWith yL_setTimeout cL_setTimeout 4 (some .int) [(0, 9, 12, 13)] :: lw_good) (mkR 7 1 6 104) (PreX D Y [.ref h0, .int p0, .ref h3] [(h0, oC 12 [.ref h1, .ref g0, .ref g1, .ref g2, .ref g3, .ref g4, .ref g5, .ref g6, .ref g7, .long 0]), (h1, oC 2 [.ref g8, .ref g9, .ref g10, .ref g11, .ref g12, .ref g13, .ref g14, .ref g15, .ref g16, .ref g17, .ref h2, .int 0]), (h2, oC 9 [.ref g18, .int 0, .long 0, .int (-1), .int 0, .int 0, .int 0, .int 0, .int 0]), (h3, aJ Y 1 (fun _ => 0))] sz) (QI D (fun (r : Int32) (u : Nat) => (u = 0 ∧ p0 < 0 ∧ 1 = r) ∨ (u = 1 ∧ ¬ p0 < 0 ∧ ¬ p0 < 1000 ∧ 1 = r) ∨ (u = 2 ∧ p0 = 0 ∧ 0 = r) ∨ (u = 3 ∧ ¬ p0 < 0 ∧ p0 < 1000 ∧ ¬ p0 ≤ 0 ∧ 0 = r)) (fun (u : Nat) => match u with | 0 => [(h0, oC 12 [.ref h1, .ref g0, .ref g1, .ref g2, .ref g3, .ref g4, .ref g5, .ref g6, .ref g7, .long 0]), (h1, oC 2 [.ref g8, .ref g9, .ref g10, .ref g11, .ref g12, .ref g13, .ref g14, .ref g15, .ref g16, .ref g17, .ref h2, .int 0]), (h2, oC 9 [.ref g18, .int 0, .long 0, .int (-1), .int 0, .int 0, .int 0, .int 0, .int 0]), (h3, aJ Y 1 (fun _ => 0))] | 1 => [(h0, oC 12 [.ref h1, .ref g0, .ref g1, .ref g2, .ref g3, .ref g4, .ref g5, .ref g6, .ref g7, .long 0]), (h1, oC 2 [.ref g8, .ref g9, .ref g10, .ref g11, .ref g12, .ref g13, .ref g14, .ref g15, .ref g16, .ref g17, .ref h2, .int 0]), (h2, oC 9 [.ref g18, .int 0, .long 0, .int (-1), .int 0, .int 0, .int 0, .int 0, .int 0]), (h3, aJ Y 1 (fun _ => 0))] | 2 => [(h0, oC 12 [.ref h1, .ref g0, .ref g1, .ref g2, .ref g3, .ref g4, .ref g5, .ref g6, .ref g7, .long 0]), (h1, oC 2 [.ref g8, .ref g9, .ref g10, .ref g11, .ref g12, .ref g13, .ref g14, .ref g15, .ref g16, .ref g17, .ref h2, .int 0]), (h2, oC 9 [.ref g18, .int 0, .long 0, .int (-1), .int 0, .int 0, .int 0, .int 0, .int 0]), (h3, aJ Y 1 (vp_updL (fun _ => 0) 0 0))] | _ => [(h0, oC 12 [.ref h1, .ref g0, .ref g1, .ref g2, .ref g3, .ref g4, .ref g5, .ref g6, .ref g7, .long 0]), (h1, oC 2 [.ref g8, .ref g9, .ref g10, .ref g11, .ref g12, .ref g13, .ref g14, .ref g15, .ref g16, .ref g17, .ref h2, .int 0]), (h2, oC 9 [.ref g18, .int 0, .long 0, .int (-1), .int 0, .int 0, .int 0, .int 0, .int p0]), (h3, aJ Y 1 (vp_updL (fun _ => 0) 0 0))]) (va_A [(h0, oC 12 [.ref h1, .ref g0, .ref g1, .ref g2, .ref g3, .ref g4, .ref g5, .ref g6, .ref g7, .long 0]), (h1, oC 2 [.ref g8, .ref g9, .ref g10, .ref g11, .ref g12, .ref g13, .ref g14, .ref g15, .ref g16, .ref g17, .ref h2, .int 0]), (h2, oC 9 [.ref g18, .int 0, .long 0, .int (-1), .int 0, .int 0, .int 0, .int 0, .int 0]), (h3, aJ Y 1 (fun _ => 0))] sz)) 1 6 (va_A [(h0, oC 12 [.ref h1, .ref g0, .ref g1, .ref g2, .ref g3, .ref g4, .ref g5, .ref g6, .ref g7, .long 0]), (h1, oC 2 [.ref g8, .ref g9, .ref g10, .ref g11, .ref g12, .ref g13, .ref g14, .ref g15, .ref g16, .ref g17, .ref h2, .int 0]), (h2, oC 9 [.ref g18, .int 0, .long 0, .int (-1), .int 0, .int 0, .int 0, .int 0, .int 0]), (h3, aJ Y 1 (fun _ => 0))] sz) :=
  metH_of (by decide +kernel) (Nat.le_of_ble_eq_true rfl) (fun p e s m args below meth c B EB htab hsz => by
    have B : VB p s m args meth c D Y (va_A [(h0, oC 12 [.ref h1, .ref g0, .ref g1, .ref g2, .ref g3, .ref g4, .ref g5, .ref g6, .ref g7, .long 0]), (h1, oC 2 [.ref g8, .ref g9, .ref g10, .ref g11, .ref g12, .ref g13, .ref g14, .ref g15, .ref g16, .ref g17, .ref h2, .int 0]), (h2, oC 9 [.ref g18, .int 0, .long 0, .int (-1), .int 0, .int 0, .int 0, .int 0, .int 0]), (h3, aJ Y 1 (fun _ => 0))] sz) cL_setTimeout 4 RL (some .int) := B
    refine V_aload_n 0 B dL_setTimeout_0 2 rfl ?_
    refine V_iconst 1 B (v := 0) dL_setTimeout_1 (by decide +kernel) ?_
    refine V_aload_n 2 B dL_setTimeout_2 0 rfl ?_
    refine V_iload_n 3 B dL_setTimeout_3 1 rfl ?_
    refine V_xvi 4 B EB (st := [.int 0, .ref h3]) (As := [.int p0]) (fun sz => mX11_setTimeout_1 l hl9 D Y (h0) (h1) (g0) (g1) (g2) (g3) (g4) (g5) (g6) (g7) (g8) (g9) (g10) (g11) (g12) (g13) (g14) (g15) (g16) (g17) (h2) (g18) (p0) sz) glV_RL_137 ⟨rfl, rfl⟩ ⟨(Nat.le_of_ble_eq_true rfl), (Nat.le_of_ble_eq_true rfl)⟩ ⟨(Nat.le_of_ble_eq_true rfl), (Nat.le_of_ble_eq_true rfl)⟩ [0, 0, 0] rfl 12 0 rfl rfl rfl rfl (Nat.le_of_ble_eq_true rfl) rfl (fun _ u _ => by
        first | rfl | (split <;> rfl) | (dsimp only; split <;> rfl)) (fun _ _ _ => rfl) dL_setTimeout_4 (fun E u0 w0 => ?_) (fun r0 u0 w0 => ?_)
    ·
      rcases w0 with ⟨rfl, k1⟩ | ⟨rfl, k2, k3⟩
      ·
        refine VX_catch 4 B htab [] (0, 9, 12, 13) [] rfl "java/lang/IllegalArgumentException" (fun z hz => nomatch hz) rfl (by decide) (mT5 20 rfl rfl) (EB.2.2.2.1 _ (List.mem_of_getElem? (i := 0) rfl)) 12 rfl (fun q9 => ?_)
        refine V_ws [(h0, oC 12 [.ref h1, .ref g0, .ref g1, .ref g2, .ref g3, .ref g4, .ref g5, .ref g6, .ref g7, .long 0]), (h1, oC 2 [.ref g8, .ref g9, .ref g10, .ref g11, .ref g12, .ref g13, .ref g14, .ref g15, .ref g16, .ref g17, .ref h2, .int 0]), (h2, oC 9 [.ref g18, .int 0, .long 0, .int (-1), .int 0, .int 0, .int 0, .int 0, .int 0]), (h3, aJ Y 1 (fun _ => 0))] rfl ?_
        refine V_astore_n 12 B (lv2 := [(3, .ref q9), (0, .ref h0), (1, .int p0), (2, .ref h3)]) dL_setTimeout_12 (by decide) rfl ?_
        refine V_iconst 13 B (v := 1) dL_setTimeout_13 (by decide +kernel) ?_
        exact V_iret 14 B dL_setTimeout_14 0 (Or.inl ⟨rfl, k1, rfl⟩) rfl
      ·
        refine VX_catch 4 B htab [] (0, 9, 12, 13) [] rfl "java/lang/IllegalArgumentException" (fun z hz => nomatch hz) rfl (by decide) (mT5 20 rfl rfl) (EB.2.2.2.1 _ (List.mem_of_getElem? (i := 0) rfl)) 12 rfl (fun q9 => ?_)
        refine V_ws [(h0, oC 12 [.ref h1, .ref g0, .ref g1, .ref g2, .ref g3, .ref g4, .ref g5, .ref g6, .ref g7, .long 0]), (h1, oC 2 [.ref g8, .ref g9, .ref g10, .ref g11, .ref g12, .ref g13, .ref g14, .ref g15, .ref g16, .ref g17, .ref h2, .int 0]), (h2, oC 9 [.ref g18, .int 0, .long 0, .int (-1), .int 0, .int 0, .int 0, .int 0, .int 0]), (h3, aJ Y 1 (fun _ => 0))] rfl ?_
        refine V_astore_n 12 B (lv2 := [(3, .ref q9), (0, .ref h0), (1, .int p0), (2, .ref h3)]) dL_setTimeout_12 (by decide) rfl ?_
        refine V_iconst 13 B (v := 1) dL_setTimeout_13 (by decide +kernel) ?_
        exact V_iret 14 B dL_setTimeout_14 1 (Or.inr (Or.inl ⟨rfl, k2, k3, rfl⟩)) rfl
    ·
      rcases w0 with ⟨rfl, k4, rfl⟩ | ⟨rfl, k5, k6, k7, rfl⟩
      ·
        refine V_ws [(h0, oC 12 [.ref h1, .ref g0, .ref g1, .ref g2, .ref g3, .ref g4, .ref g5, .ref g6, .ref g7, .long 0]), (h1, oC 2 [.ref g8, .ref g9, .ref g10, .ref g11, .ref g12, .ref g13, .ref g14, .ref g15, .ref g16, .ref g17, .ref h2, .int 0]), (h2, oC 9 [.ref g18, .int 0, .long 0, .int (-1), .int 0, .int 0, .int 0, .int 0, .int 0]), (h3, aJ Y 1 (fun _ => 0))] rfl ?_
        obtain rfl : p0 = 0 := k4
        refine V_i2l 7 B (v := 0) dL_setTimeout_7 (by decide +kernel) ?_
        refine V_last 8 B 3 rfl (vpin _ _ (by decide +kernel)) dL_setTimeout_8 [(h0, oC 12 [.ref h1, .ref g0, .ref g1, .ref g2, .ref g3, .ref g4, .ref g5, .ref g6, .ref g7, .long 0]), (h1, oC 2 [.ref g8, .ref g9, .ref g10, .ref g11, .ref g12, .ref g13, .ref g14, .ref g15, .ref g16, .ref g17, .ref h2, .int 0]), (h2, oC 9 [.ref g18, .int 0, .long 0, .int (-1), .int 0, .int 0, .int 0, .int 0, .int 0]), (h3, aJ Y 1 (vp_updL (fun _ => 0) 0 0))] rfl ?_
        refine V_goto 9 B 15 dL_setTimeout_9 (by decide) ?_
        refine V_iconst 15 B (v := 0) dL_setTimeout_15 (by decide +kernel) ?_
        exact V_iret 16 B dL_setTimeout_16 2 (Or.inr (Or.inr (Or.inl ⟨rfl, rfl, rfl⟩))) rfl
      ·
        refine V_ws [(h0, oC 12 [.ref h1, .ref g0, .ref g1, .ref g2, .ref g3, .ref g4, .ref g5, .ref g6, .ref g7, .long 0]), (h1, oC 2 [.ref g8, .ref g9, .ref g10, .ref g11, .ref g12, .ref g13, .ref g14, .ref g15, .ref g16, .ref g17, .ref h2, .int 0]), (h2, oC 9 [.ref g18, .int 0, .long 0, .int (-1), .int 0, .int 0, .int 0, .int 0, .int p0]), (h3, aJ Y 1 (fun _ => 0))] rfl ?_
        refine V_i2l 7 B (v := 0) dL_setTimeout_7 (by decide +kernel) ?_
        refine V_last 8 B 3 rfl (vpin _ _ (by decide +kernel)) dL_setTimeout_8 [(h0, oC 12 [.ref h1, .ref g0, .ref g1, .ref g2, .ref g3, .ref g4, .ref g5, .ref g6, .ref g7, .long 0]), (h1, oC 2 [.ref g8, .ref g9, .ref g10, .ref g11, .ref g12, .ref g13, .ref g14, .ref g15, .ref g16, .ref g17, .ref h2, .int 0]), (h2, oC 9 [.ref g18, .int 0, .long 0, .int (-1), .int 0, .int 0, .int 0, .int 0, .int p0]), (h3, aJ Y 1 (vp_updL (fun _ => 0) 0 0))] rfl ?_
        refine V_goto 9 B 15 dL_setTimeout_9 (by decide) ?_
        refine V_iconst 15 B (v := 0) dL_setTimeout_15 (by decide +kernel) ?_
        exact V_iret 16 B dL_setTimeout_16 3 (Or.inr (Or.inr (Or.inr ⟨rfl, k5, k6, k7, rfl⟩))) rfl)
set_option maxRecDepth 100000 in
set_option maxHeartbeats 4000000 in
theorem mX12_inRange_3 (l : Launch) (D : va_G) (Y : Nat → ClassId)  (sz : Nat) : Met l yX12_inRange (WSm yX12_inRange cX12_inRange 6 (some .boolean)) (mkR 0 0 0 0) (PreC D Y [.long 0, .long 0, .long 999] [] sz) (QI D (fun (r : Int32) (u : Unit) => 1 = r) (fun (_ : Unit) => []) (va_A [] sz)) 0 0 (va_A [] sz) :=
  met_of (by decide +kernel) (Nat.le_of_ble_eq_true rfl) (fun p e s m args below meth c B hin hsz => by
    have B : VB p s m args meth c D Y (va_A [] sz) cX12_inRange 6 RX12 (some .boolean) := B
    refine V_lload_n 0 B dX12_inRange_0 0 rfl ?_
    refine V_lload_n 1 B dX12_inRange_1 1 rfl ?_
    refine V_lcmp 2 B (v := 0) dX12_inRange_2 (by decide +kernel) ?_
    refine V_if_lt_f 3 B 17 dX12_inRange_3 (by decide) (by decide +kernel) ?_
    refine V_lload_n 6 B dX12_inRange_6 0 rfl ?_
    refine V_lload 7 B dX12_inRange_7 2 rfl ?_
    refine V_lcmp 9 B (v := (-1)) dX12_inRange_9 (by decide +kernel) ?_
    refine V_if_gt_f 10 B 17 dX12_inRange_10 (by decide) (by decide +kernel) ?_
    refine V_iconst 13 B (v := 1) dX12_inRange_13 (by decide +kernel) ?_
    refine V_goto 14 B 18 dX12_inRange_14 (by decide) ?_
    exact V_zret 18 B rfl dX12_inRange_18 () rfl rfl)
set_option maxRecDepth 100000 in
set_option maxHeartbeats 4000000 in
theorem mX12_dropLate_3 (l : Launch) (D : va_G) (Y : Nat → ClassId) (h0 : Nat) (h1 : Nat) (g0 : Nat) (g1 : Nat) (g2 : Nat) (g3 : Nat) (g4 : Nat) (sz : Nat) : Met l yX12_dropLate (WSm yX12_dropLate cX12_dropLate 1 none) (mkR 0 0 0 0) (PreC D Y [.ref h0] [(h0, oC 13 [.ref h1, .ref g0, .int 0, .ref g1, .ref g2, .int 0, .int 0, .int 0, .int (-1), .int 0, .int 0, .int 0, .long 0, .ref g3, .ref g4, .int 0, .int 0]), (h1, aI Y 3640 (upd (clB 0 (fun _ => 0)) 5 0))] sz) (QV D (fun (u : Unit) => True) (fun (_ : Unit) => [(h0, oC 13 [.ref h1, .ref g0, .int 0, .ref g1, .ref g2, .int 0, .int 0, .int 0, .int (-1), .int 0, .int 0, .int 0, .long 0, .ref g3, .ref g4, .int 0, .int 0]), (h1, aI Y 3640 (upd (clB 0 (fun _ => 0)) 5 0))]) (va_A [(h0, oC 13 [.ref h1, .ref g0, .int 0, .ref g1, .ref g2, .int 0, .int 0, .int 0, .int (-1), .int 0, .int 0, .int 0, .long 0, .ref g3, .ref g4, .int 0, .int 0]), (h1, aI Y 3640 (upd (clB 0 (fun _ => 0)) 5 0))] sz)) 0 0 (va_A [(h0, oC 13 [.ref h1, .ref g0, .int 0, .ref g1, .ref g2, .int 0, .int 0, .int 0, .int (-1), .int 0, .int 0, .int 0, .long 0, .ref g3, .ref g4, .int 0, .int 0]), (h1, aI Y 3640 (upd (clB 0 (fun _ => 0)) 5 0))] sz) :=
  met_of (by decide +kernel) (Nat.le_of_ble_eq_true rfl) (fun p e s m args below meth c B hin hsz => by
    have B : VB p s m args meth c D Y (va_A [(h0, oC 13 [.ref h1, .ref g0, .int 0, .ref g1, .ref g2, .int 0, .int 0, .int 0, .int (-1), .int 0, .int 0, .int 0, .long 0, .ref g3, .ref g4, .int 0, .int 0]), (h1, aI Y 3640 (upd (clB 0 (fun _ => 0)) 5 0))] sz) cX12_dropLate 1 RX12 none := B
    refine V_aload_n 0 B dX12_dropLate_0 0 rfl ?_
    refine V_get 1 B gf_RX12_9 0 rfl rfl dX12_dropLate_1 ?_
    refine V_bipush 4 B (v := 8) dX12_dropLate_4 (by decide +kernel) ?_
    refine V_iald 6 B (v := 0) 1 rfl (vpin _ _ (by decide +kernel)) dX12_dropLate_6 rfl ?_
    refine V_if_eq_t 7 B 43 dX12_dropLate_7 (by decide) (by decide +kernel) ?_
    exact V_vret 43 B dX12_dropLate_43 () trivial rfl)
set_option maxRecDepth 100000 in
set_option maxHeartbeats 4000000 in
theorem mX12_setTimeout_2 (l : Launch) (D : va_G) (Y : Nat → ClassId) (h0 : Nat) (h1 : Nat) (g0 : Nat) (g1 : Nat) (g2 : Nat) (g3 : Nat) (g4 : Nat) (sz : Nat) : Met l yX12_setTimeout (WSm yX12_setTimeout cX12_setTimeout 3 (some .int)) (mkR 1 0 0 25) (PreC D Y [.ref h0, .int 0] [(h0, oC 13 [.ref h1, .ref g0, .int 0, .ref g1, .ref g2, .int 0, .int 0, .int 0, .int (-1), .int 0, .int 0, .int 0, .long 0, .ref g3, .ref g4, .int 0, .int 0]), (h1, aI Y 3640 (clB 0 (fun _ => 0)))] sz) (QI D (fun (r : Int32) (u : Unit) => 0 = r) (fun (_ : Unit) => [(h0, oC 13 [.ref h1, .ref g0, .int 0, .ref g1, .ref g2, .int 0, .int 0, .int 0, .int (-1), .int 0, .int 0, .int 0, .long 0, .ref g3, .ref g4, .int 0, .int 0]), (h1, aI Y 3640 (upd (clB 0 (fun _ => 0)) 5 0))]) (va_A [(h0, oC 13 [.ref h1, .ref g0, .int 0, .ref g1, .ref g2, .int 0, .int 0, .int 0, .int (-1), .int 0, .int 0, .int 0, .long 0, .ref g3, .ref g4, .int 0, .int 0]), (h1, aI Y 3640 (clB 0 (fun _ => 0)))] sz)) 0 0 (va_A [(h0, oC 13 [.ref h1, .ref g0, .int 0, .ref g1, .ref g2, .int 0, .int 0, .int 0, .int (-1), .int 0, .int 0, .int 0, .long 0, .ref g3, .ref g4, .int 0, .int 0]), (h1, aI Y 3640 (clB 0 (fun _ => 0)))] sz) :=
  met_of (by decide +kernel) (Nat.le_of_ble_eq_true rfl) (fun p e s m args below meth c B hin hsz => by
    have B : VB p s m args meth c D Y (va_A [(h0, oC 13 [.ref h1, .ref g0, .int 0, .ref g1, .ref g2, .int 0, .int 0, .int 0, .int (-1), .int 0, .int 0, .int 0, .long 0, .ref g3, .ref g4, .int 0, .int 0]), (h1, aI Y 3640 (clB 0 (fun _ => 0)))] sz) cX12_setTimeout 3 RX12 (some .int) := B
    refine V_aload_n 0 B dX12_setTimeout_0 0 rfl ?_
    refine V_iconst 1 B (v := 0) dX12_setTimeout_1 (by decide +kernel) ?_
    refine V_put 2 B gp_RX12_38 0 rfl (Nat.le_of_ble_eq_true rfl) rfl rfl dX12_setTimeout_2 [(h0, oC 13 [.ref h1, .ref g0, .int 0, .ref g1, .ref g2, .int 0, .int 0, .int 0, .int (-1), .int 0, .int 0, .int 0, .long 0, .ref g3, .ref g4, .int 0, .int 0]), (h1, aI Y 3640 (clB 0 (fun _ => 0)))] rfl ?_
    refine V_aload_n 5 B dX12_setTimeout_5 0 rfl ?_
    refine V_iload_n 6 B dX12_setTimeout_6 1 rfl ?_
    refine V_i2l 7 B (v := 0) dX12_setTimeout_7 (by decide +kernel) ?_
    refine V_lconst 8 B (v := 0) dX12_setTimeout_8 (by decide +kernel) ?_
    refine V_ldc2 9 B (v := 999) dX12_setTimeout_9 (mT9 146 rfl rfl) ?_
    refine V_csi 12 B (st := [.ref h0]) (As := [.long 0, .long 0, .long 999]) (fun sz => mX12_inRange_3 l D Y  sz) glS_RX12_41 ⟨rfl, rfl⟩ ⟨(Nat.le_of_ble_eq_true rfl), (Nat.le_of_ble_eq_true rfl)⟩ ⟨(Nat.le_of_ble_eq_true rfl), (Nat.le_of_ble_eq_true rfl)⟩ [] rfl rfl (Nat.le_of_ble_eq_true rfl) rfl (fun _ _ _ => rfl) dX12_setTimeout_12 (fun r0 u0 w0 => ?_)
    obtain rfl := w0
    refine V_ws [(h0, oC 13 [.ref h1, .ref g0, .int 0, .ref g1, .ref g2, .int 0, .int 0, .int 0, .int (-1), .int 0, .int 0, .int 0, .long 0, .ref g3, .ref g4, .int 0, .int 0]), (h1, aI Y 3640 (clB 0 (fun _ => 0)))] rfl ?_
    refine V_if_ne_t 15 B 22 dX12_setTimeout_15 (by decide) (by decide +kernel) ?_
    refine V_iconst 22 B (v := 0) dX12_setTimeout_22 (by decide +kernel) ?_
    refine V_iconst 23 B (v := 1) dX12_setTimeout_23 (by decide +kernel) ?_
    refine V_cvi 24 B (st := []) (As := [.int 0, .int 1]) (fun sz => mX12_throwsIf_2 l D Y (h0) (h1) (g0) (g1) (g2) (g3) (g4) sz) glV_RX12_69 ⟨rfl, rfl⟩ ⟨(Nat.le_of_ble_eq_true rfl), (Nat.le_of_ble_eq_true rfl)⟩ ⟨(Nat.le_of_ble_eq_true rfl), (Nat.le_of_ble_eq_true rfl)⟩ [0] rfl 13 0 rfl rfl rfl rfl (Nat.le_of_ble_eq_true rfl) rfl (fun _ _ _ => rfl) dX12_setTimeout_24 (fun r1 u1 w1 => ?_)
    obtain rfl := w1
    refine V_ws [(h0, oC 13 [.ref h1, .ref g0, .int 0, .ref g1, .ref g2, .int 0, .int 0, .int 0, .int (-1), .int 0, .int 0, .int 0, .long 0, .ref g3, .ref g4, .int 0, .int 0]), (h1, aI Y 3640 (clB 0 (fun _ => 0)))] rfl ?_
    refine V_if_eq_t 27 B 32 dX12_setTimeout_27 (by decide) (by decide +kernel) ?_
    refine V_aload_n 32 B dX12_setTimeout_32 0 rfl ?_
    refine V_get 33 B gf_RX12_9 0 rfl rfl dX12_setTimeout_33 ?_
    refine V_iconst 36 B (v := 5) dX12_setTimeout_36 (by decide +kernel) ?_
    refine V_iald 37 B (v := 0) 1 rfl (vpin _ _ (by decide +kernel)) dX12_setTimeout_37 rfl ?_
    refine V_istore_n 38 B (lv2 := [(2, .int 0), (0, .ref h0), (1, .int 0)]) dX12_setTimeout_38 (by decide) rfl ?_
    refine V_aload_n 39 B dX12_setTimeout_39 1 rfl ?_
    refine V_get 40 B gf_RX12_9 0 rfl rfl dX12_setTimeout_40 ?_
    refine V_iconst 43 B (v := 5) dX12_setTimeout_43 (by decide +kernel) ?_
    refine V_iload_n 44 B dX12_setTimeout_44 2 rfl ?_
    refine V_iast 45 B 1 rfl (vpin _ _ (by decide +kernel)) dX12_setTimeout_45 [(h0, oC 13 [.ref h1, .ref g0, .int 0, .ref g1, .ref g2, .int 0, .int 0, .int 0, .int (-1), .int 0, .int 0, .int 0, .long 0, .ref g3, .ref g4, .int 0, .int 0]), (h1, aI Y 3640 (upd (clB 0 (fun _ => 0)) 5 0))] rfl ?_
    refine V_aload_n 46 B dX12_setTimeout_46 1 rfl ?_
    refine V_cvv 47 B (st := []) (As := []) (fun sz => mX12_dropLate_3 l D Y (h0) (h1) (g0) (g1) (g2) (g3) (g4) sz) glV_RX12_226 ⟨rfl, rfl⟩ ⟨(Nat.le_of_ble_eq_true rfl), (Nat.le_of_ble_eq_true rfl)⟩ ⟨(Nat.le_of_ble_eq_true rfl), (Nat.le_of_ble_eq_true rfl)⟩ [0, 0] rfl 13 0 rfl rfl rfl rfl (Nat.le_of_ble_eq_true rfl) rfl (fun _ _ => rfl) dX12_setTimeout_47 (fun u2 w2 => ?_)
    refine V_ws [(h0, oC 13 [.ref h1, .ref g0, .int 0, .ref g1, .ref g2, .int 0, .int 0, .int 0, .int (-1), .int 0, .int 0, .int 0, .long 0, .ref g3, .ref g4, .int 0, .int 0]), (h1, aI Y 3640 (upd (clB 0 (fun _ => 0)) 5 0))] rfl ?_
    refine V_iload_n 50 B dX12_setTimeout_50 0 rfl ?_
    exact V_iret 51 B dX12_setTimeout_51 () rfl rfl)
theorem dL_law_3075 : decode cL_law 3075 = .ok (.aload_n 1, 1) := by decide +kernel
theorem dL_law_3076 : decode cL_law 3076 = .ok (.aload_n 0, 1) := by decide +kernel
theorem dL_law_3077 : decode cL_law 3077 = .ok (.iload 4, 2) := by decide +kernel
theorem dL_law_3079 : decode cL_law 3079 = .ok (.iconst 1, 1) := by decide +kernel
theorem dL_law_3080 : decode cL_law 3080 = .ok (.iadd, 1) := by decide +kernel
theorem dL_law_3081 : decode cL_law 3081 = .ok (.iaload, 1) := by decide +kernel
theorem dL_law_3082 : decode cL_law 3082 = .ok (.aload_n 3, 1) := by decide +kernel
theorem dL_law_3083 : decode cL_law 3083 = .ok (.invokestatic 345, 3) := by decide +kernel
theorem glH_RL_345 : GLH RL 345 yL_setTimeout cL_setTimeout 4 (some .int) [(0, 9, 12, 13)] 3 := ⟨⟨(mT7 88 rfl rfl), (mT7 89 rfl rfl), (mT1 0 rfl rfl), (mT7 90 rfl rfl)⟩, by decide +kernel⟩
theorem dL_law_3086 : decode cL_law 3086 = .ok (.istore 5, 2) := by decide +kernel
theorem dL_law_3088 : decode cL_law 3088 = .ok (.aload_n 2, 1) := by decide +kernel
theorem dL_law_3089 : decode cL_law 3089 = .ok (.aload_n 0, 1) := by decide +kernel
theorem dL_law_3090 : decode cL_law 3090 = .ok (.iload 4, 2) := by decide +kernel
theorem dL_law_3092 : decode cL_law 3092 = .ok (.iconst 1, 1) := by decide +kernel
theorem dL_law_3093 : decode cL_law 3093 = .ok (.iadd, 1) := by decide +kernel
theorem dL_law_3094 : decode cL_law 3094 = .ok (.iaload, 1) := by decide +kernel
theorem dL_law_3095 : decode cL_law 3095 = .ok (.invokevirtual 347, 3) := by decide +kernel
theorem glV_RL_347 : GLV RL 347 yX12_setTimeout RX12 cX12_setTimeout 3 (some .int) 1 := ⟨⟨(mT9 142 rfl rfl), (mT9 143 rfl rfl), (mT9 144 rfl rfl), (mT1 13 rfl rfl), (mT9 145 rfl rfl)⟩, by decide +kernel⟩
theorem dL_law_3098 : decode cL_law 3098 = .ok (.istore 6, 2) := by decide +kernel
theorem dL_law_3100 : decode cL_law 3100 = .ok (.aload_n 2, 1) := by decide +kernel
theorem dL_law_3101 : decode cL_law 3101 = .ok (.invokevirtual 182, 3) := by decide +kernel
theorem dL_law_3104 : decode cL_law 3104 = .ok (.iload 5, 2) := by decide +kernel
theorem dL_law_3106 : decode cL_law 3106 = .ok (.if_icmp .eq 5, 3) := by decide +kernel
theorem dL_law_3111 : decode cL_law 3111 = .ok (.iload 5, 2) := by decide +kernel
theorem dL_law_3113 : decode cL_law 3113 = .ok (.ifCond .ne 15, 3) := by decide +kernel
theorem dL_law_3128 : decode cL_law 3128 = .ok (.goto 204, 3) := by decide +kernel
theorem dL_law_3116 : decode cL_law 3116 = .ok (.aload_n 3, 1) := by decide +kernel
theorem dL_law_3117 : decode cL_law 3117 = .ok (.iconst 0, 1) := by decide +kernel
theorem dL_law_3118 : decode cL_law 3118 = .ok (.laload, 1) := by decide +kernel
theorem dL_law_3119 : decode cL_law 3119 = .ok (.iload 6, 2) := by decide +kernel
theorem dL_law_3121 : decode cL_law 3121 = .ok (.i2l, 1) := by decide +kernel
theorem dL_law_3122 : decode cL_law 3122 = .ok (.lcmp, 1) := by decide +kernel
theorem dL_law_3123 : decode cL_law 3123 = .ok (.ifCond .eq 5, 3) := by decide +kernel
set_option maxRecDepth 100000 in
set_option maxHeartbeats 4000000 in
theorem law_c56 {p : Program} {l : Launch} {e : Env} {s : State} {m : MethodId} {below : List Frame} {meth : Method} {c : Code} {b : Nat} {xs : Nat → Int32} {D : va_G} {Y : Nat → ClassId} (B : VB p s m #[Value.ref b] meth c D Y (fun q => s.heap.size ≤ q) cL_law 8 RL ret) (EB : EX (fun q => s.heap.size ≤ q) s s.heap) (hl9 : l.stackTraces = false) (hX : va_X b 6 xs s s.heap) (hbl : b < s.heap.size) (hbA : ¬ (fun q => s.heap.size ≤ q) b) (x0 x1 x30 x59 x88 x117 x126 x127 x129 x132 x2 x4 x6 x8 x10 x12 x14 x16 x18 x20 x27 x28 m0 m1 m2 m3 m4 m5 m6 o0 : Nat) (p1 : Int32) (e1 : xs 1 = p1) : V p l e room_1 s m #[Value.ref b] below meth c D (fun q => s.heap.size ≤ q) 8 149 10574 (lw_Z below #[Value.ref b] s) 3075 [(4, .int 0), (3, .ref o0), (2, .ref m0), (1, .ref x0), (0, .ref b)] [] [(x0, oC 12 [.ref x1, .ref x30, .ref x59, .ref x88, .ref x117, .ref x126, .ref x127, .ref x129, .ref x132, .long 0]), (x1, oC 2 [.ref x2, .ref x4, .ref x6, .ref x8, .ref x10, .ref x12, .ref x14, .ref x16, .ref x18, .ref x20, .ref x27, .int 0]), (x27, oC 9 [.ref x28, .int 0, .long 0, .int (-1), .int 0, .int 0, .int 0, .int 0, .int 0]), (m0, oC 13 [.ref m1, .ref m2, .int 0, .ref m3, .ref m4, .int 0, .int 0, .int 0, .int (-1), .int 0, .int 0, .int 0, .long 0, .ref m5, .ref m6, .int 0, .int 0]), (m1, aI Y 3640 (clB 0 (fun _ => 0))), (o0, aJ Y 1 (fun _ => 0))] := by
  refine V_aload_n 3075 B dL_law_3075 3 rfl ?_
  refine V_aload_n 3076 B dL_law_3076 4 rfl ?_
  refine V_iload 3077 B dL_law_3077 0 rfl ?_
  refine V_iconst 3079 B (v := 1) dL_law_3079 (by decide +kernel) ?_
  refine V_iadd 3080 B (v := 1) dL_law_3080 (by decide +kernel) ?_
  refine V_sld 3081 B hX hbl hbA (v := p1) (vpin _ _ (by decide +kernel)) dL_law_3081 e1 ?_
  refine V_aload_n 3082 B dL_law_3082 1 rfl ?_
  refine V_hsi 3083 B EB (st := []) (As := [.ref x0, .int p1, .ref o0]) (fun sz => mL_setTimeout_1 l hl9 D Y (x0) (o0) (x1) (x30) (x59) (x88) (x117) (x126) (x127) (x129) (x132) (x2) (x4) (x6) (x8) (x10) (x12) (x14) (x16) (x18) (x20) (x27) (x28) (p1) sz) glH_RL_345 ⟨rfl, rfl⟩ ⟨(Nat.le_of_ble_eq_true rfl), (Nat.le_of_ble_eq_true rfl)⟩ ⟨(Nat.le_of_ble_eq_true rfl), (Nat.le_of_ble_eq_true rfl)⟩ [0, 0, 0, 2] rfl rfl (Nat.le_of_ble_eq_true rfl) rfl (fun _ u _ => by
        first | rfl | (split <;> rfl) | (dsimp only; split <;> rfl)) dL_law_3083 (fun r0 u0 w0 => ?_)
  rcases w0 with ⟨rfl, k1, rfl⟩ | ⟨rfl, k2, k3, rfl⟩ | ⟨rfl, k4, rfl⟩ | ⟨rfl, k5, k6, k7, rfl⟩
  ·
    refine V_ws [(x0, oC 12 [.ref x1, .ref x30, .ref x59, .ref x88, .ref x117, .ref x126, .ref x127, .ref x129, .ref x132, .long 0]), (x1, oC 2 [.ref x2, .ref x4, .ref x6, .ref x8, .ref x10, .ref x12, .ref x14, .ref x16, .ref x18, .ref x20, .ref x27, .int 0]), (x27, oC 9 [.ref x28, .int 0, .long 0, .int (-1), .int 0, .int 0, .int 0, .int 0, .int 0]), (m0, oC 13 [.ref m1, .ref m2, .int 0, .ref m3, .ref m4, .int 0, .int 0, .int 0, .int (-1), .int 0, .int 0, .int 0, .long 0, .ref m5, .ref m6, .int 0, .int 0]), (m1, aI Y 3640 (clB 0 (fun _ => 0))), (o0, aJ Y 1 (fun _ => 0))] rfl ?_
    refine V_istore 3086 B (lv2 := [(5, .int 1), (4, .int 0), (3, .ref o0), (2, .ref m0), (1, .ref x0), (0, .ref b)]) dL_law_3086 (by decide) rfl ?_
    refine V_aload_n 3088 B dL_law_3088 3 rfl ?_
    refine V_aload_n 3089 B dL_law_3089 5 rfl ?_
    refine V_iload 3090 B dL_law_3090 1 rfl ?_
    refine V_iconst 3092 B (v := 1) dL_law_3092 (by decide +kernel) ?_
    refine V_iadd 3093 B (v := 1) dL_law_3093 (by decide +kernel) ?_
    refine V_sld 3094 B hX hbl hbA (v := p1) (vpin _ _ (by decide +kernel)) dL_law_3094 e1 ?_
    refine V_cvi 3095 B (st := []) (As := [.int p1]) (fun sz => mX12_setTimeout_1 l D Y (m0) (m1) (m2) (m3) (m4) (m5) (m6) (p1) sz) glV_RL_347 ⟨rfl, rfl⟩ ⟨(Nat.le_of_ble_eq_true rfl), (Nat.le_of_ble_eq_true rfl)⟩ ⟨(Nat.le_of_ble_eq_true rfl), (Nat.le_of_ble_eq_true rfl)⟩ [3, 0] rfl 13 0 rfl rfl rfl rfl (Nat.le_of_ble_eq_true rfl) rfl (fun _ u _ => by
        first | rfl | (split <;> rfl) | (dsimp only; split <;> rfl)) dL_law_3095 (fun r8 u8 w8 => ?_)
    rcases w8 with ⟨rfl, k9, k10, rfl⟩ | ⟨rfl, k11, rfl⟩ | ⟨rfl, k12, rfl⟩
    ·
      refine V_ws [(x0, oC 12 [.ref x1, .ref x30, .ref x59, .ref x88, .ref x117, .ref x126, .ref x127, .ref x129, .ref x132, .long 0]), (x1, oC 2 [.ref x2, .ref x4, .ref x6, .ref x8, .ref x10, .ref x12, .ref x14, .ref x16, .ref x18, .ref x20, .ref x27, .int 0]), (x27, oC 9 [.ref x28, .int 0, .long 0, .int (-1), .int 0, .int 0, .int 0, .int 0, .int 0]), (m0, oC 13 [.ref m1, .ref m2, .int 0, .ref m3, .ref m4, .int 0, .int 0, .int 0, .int (-1), .int 0, .int 0, .int 0, .long 0, .ref m5, .ref m6, .int 0, .int 0]), (m1, aI Y 3640 (upd (clB 0 (fun _ => 0)) 5 p1)), (o0, aJ Y 1 (fun _ => 0))] rfl ?_
      exact (q_abs (b_nlt k9 (n := 0) (by decide +kernel)) (b_lt k1 (n := (-1)) (by decide +kernel)) (by decide +kernel)).elim
    ·
      refine V_ws [(x0, oC 12 [.ref x1, .ref x30, .ref x59, .ref x88, .ref x117, .ref x126, .ref x127, .ref x129, .ref x132, .long 0]), (x1, oC 2 [.ref x2, .ref x4, .ref x6, .ref x8, .ref x10, .ref x12, .ref x14, .ref x16, .ref x18, .ref x20, .ref x27, .int 0]), (x27, oC 9 [.ref x28, .int 0, .long 0, .int (-1), .int 0, .int 0, .int 0, .int 0, .int 0]), (m0, oC 13 [.ref m1, .ref m2, .int 1, .ref m3, .ref m4, .int 0, .int 0, .int 0, .int (-1), .int 0, .int 0, .int 0, .long 0, .ref m5, .ref m6, .int 0, .int 0]), (m1, aI Y 3640 (clB 0 (fun _ => 0))), (o0, aJ Y 1 (fun _ => 0))] rfl ?_
      refine V_istore 3098 B (lv2 := [(6, .int 0), (5, .int 1), (4, .int 0), (3, .ref o0), (2, .ref m0), (1, .ref x0), (0, .ref b)]) dL_law_3098 (by decide) rfl ?_
      refine V_aload_n 3100 B dL_law_3100 4 rfl ?_
      refine V_cvi 3101 B (st := []) (As := []) (fun sz => mX12_thrown_2 l D Y (m0) (m1) (m2) (m3) (m4) (m5) (m6) sz) glV_RL_182 ⟨rfl, rfl⟩ ⟨(Nat.le_of_ble_eq_true rfl), (Nat.le_of_ble_eq_true rfl)⟩ ⟨(Nat.le_of_ble_eq_true rfl), (Nat.le_of_ble_eq_true rfl)⟩ [3] rfl 13 0 rfl rfl rfl rfl (Nat.le_of_ble_eq_true rfl) rfl (fun _ _ _ => rfl) dL_law_3101 (fun r13 u13 w13 => ?_)
      obtain rfl := w13
      refine V_ws [(x0, oC 12 [.ref x1, .ref x30, .ref x59, .ref x88, .ref x117, .ref x126, .ref x127, .ref x129, .ref x132, .long 0]), (x1, oC 2 [.ref x2, .ref x4, .ref x6, .ref x8, .ref x10, .ref x12, .ref x14, .ref x16, .ref x18, .ref x20, .ref x27, .int 0]), (x27, oC 9 [.ref x28, .int 0, .long 0, .int (-1), .int 0, .int 0, .int 0, .int 0, .int 0]), (m0, oC 13 [.ref m1, .ref m2, .int 1, .ref m3, .ref m4, .int 0, .int 0, .int 0, .int (-1), .int 0, .int 0, .int 0, .long 0, .ref m5, .ref m6, .int 0, .int 0]), (m1, aI Y 3640 (clB 0 (fun _ => 0))), (o0, aJ Y 1 (fun _ => 0))] rfl ?_
      refine V_iload 3104 B dL_law_3104 1 rfl ?_
      refine V_icmp_eq_t 3106 B 3111 dL_law_3106 (by decide) (by decide +kernel) ?_
      refine V_iload 3111 B dL_law_3111 1 rfl ?_
      refine V_if_ne_t 3113 B 3128 dL_law_3113 (by decide) (by decide +kernel) ?_
      refine V_goto 3128 B 3332 dL_law_3128 (by decide) ?_
      refine V_iinc 3332 B (v := 6) (lv2 := [(4, .int 6), (6, .int 0), (5, .int 1), (3, .ref o0), (2, .ref m0), (1, .ref x0), (0, .ref b)]) dL_law_3332 2 rfl (by decide +kernel) (by decide) rfl ?_
      refine V_goto 3335 B 23 dL_law_3335 (by decide) ?_
      refine V_iload 23 B dL_law_23 0 rfl ?_
      refine V_aload_n 25 B dL_law_25 6 rfl ?_
      refine V_slen 26 B hX hbl hbA (v := 6) (by decide +kernel) dL_law_26 ?_
      refine V_bipush 27 B (v := 6) dL_law_27 (by decide +kernel) ?_
      refine V_isub 29 B (v := 0) dL_law_29 (by decide +kernel) ?_
      refine V_icmp_gt_t 30 B 3338 dL_law_30 (by decide) (by decide +kernel) ?_
      exact law_end B (Nat.le_of_ble_eq_true rfl) (Nat.le_of_ble_eq_true rfl) dL_law_3338 dL_law_3339
    ·
      refine V_ws [(x0, oC 12 [.ref x1, .ref x30, .ref x59, .ref x88, .ref x117, .ref x126, .ref x127, .ref x129, .ref x132, .long 0]), (x1, oC 2 [.ref x2, .ref x4, .ref x6, .ref x8, .ref x10, .ref x12, .ref x14, .ref x16, .ref x18, .ref x20, .ref x27, .int 0]), (x27, oC 9 [.ref x28, .int 0, .long 0, .int (-1), .int 0, .int 0, .int 0, .int 0, .int 0]), (m0, oC 13 [.ref m1, .ref m2, .int 1, .ref m3, .ref m4, .int 0, .int 0, .int 0, .int (-1), .int 0, .int 0, .int 0, .long 0, .ref m5, .ref m6, .int 0, .int 0]), (m1, aI Y 3640 (clB 0 (fun _ => 0))), (o0, aJ Y 1 (fun _ => 0))] rfl ?_
      exact (q_abs (b_gt k12 (n := 1000) (by decide +kernel)) (b_lt k1 (n := (-1)) (by decide +kernel)) (by decide +kernel)).elim
  ·
    refine V_ws [(x0, oC 12 [.ref x1, .ref x30, .ref x59, .ref x88, .ref x117, .ref x126, .ref x127, .ref x129, .ref x132, .long 0]), (x1, oC 2 [.ref x2, .ref x4, .ref x6, .ref x8, .ref x10, .ref x12, .ref x14, .ref x16, .ref x18, .ref x20, .ref x27, .int 0]), (x27, oC 9 [.ref x28, .int 0, .long 0, .int (-1), .int 0, .int 0, .int 0, .int 0, .int 0]), (m0, oC 13 [.ref m1, .ref m2, .int 0, .ref m3, .ref m4, .int 0, .int 0, .int 0, .int (-1), .int 0, .int 0, .int 0, .long 0, .ref m5, .ref m6, .int 0, .int 0]), (m1, aI Y 3640 (clB 0 (fun _ => 0))), (o0, aJ Y 1 (fun _ => 0))] rfl ?_
    refine V_istore 3086 B (lv2 := [(5, .int 1), (4, .int 0), (3, .ref o0), (2, .ref m0), (1, .ref x0), (0, .ref b)]) dL_law_3086 (by decide) rfl ?_
    refine V_aload_n 3088 B dL_law_3088 3 rfl ?_
    refine V_aload_n 3089 B dL_law_3089 5 rfl ?_
    refine V_iload 3090 B dL_law_3090 1 rfl ?_
    refine V_iconst 3092 B (v := 1) dL_law_3092 (by decide +kernel) ?_
    refine V_iadd 3093 B (v := 1) dL_law_3093 (by decide +kernel) ?_
    refine V_sld 3094 B hX hbl hbA (v := p1) (vpin _ _ (by decide +kernel)) dL_law_3094 e1 ?_
    refine V_cvi 3095 B (st := []) (As := [.int p1]) (fun sz => mX12_setTimeout_1 l D Y (m0) (m1) (m2) (m3) (m4) (m5) (m6) (p1) sz) glV_RL_347 ⟨rfl, rfl⟩ ⟨(Nat.le_of_ble_eq_true rfl), (Nat.le_of_ble_eq_true rfl)⟩ ⟨(Nat.le_of_ble_eq_true rfl), (Nat.le_of_ble_eq_true rfl)⟩ [3, 0] rfl 13 0 rfl rfl rfl rfl (Nat.le_of_ble_eq_true rfl) rfl (fun _ u _ => by
        first | rfl | (split <;> rfl) | (dsimp only; split <;> rfl)) dL_law_3095 (fun r14 u14 w14 => ?_)
    rcases w14 with ⟨rfl, k15, k16, rfl⟩ | ⟨rfl, k17, rfl⟩ | ⟨rfl, k18, rfl⟩
    ·
      refine V_ws [(x0, oC 12 [.ref x1, .ref x30, .ref x59, .ref x88, .ref x117, .ref x126, .ref x127, .ref x129, .ref x132, .long 0]), (x1, oC 2 [.ref x2, .ref x4, .ref x6, .ref x8, .ref x10, .ref x12, .ref x14, .ref x16, .ref x18, .ref x20, .ref x27, .int 0]), (x27, oC 9 [.ref x28, .int 0, .long 0, .int (-1), .int 0, .int 0, .int 0, .int 0, .int 0]), (m0, oC 13 [.ref m1, .ref m2, .int 0, .ref m3, .ref m4, .int 0, .int 0, .int 0, .int (-1), .int 0, .int 0, .int 0, .long 0, .ref m5, .ref m6, .int 0, .int 0]), (m1, aI Y 3640 (upd (clB 0 (fun _ => 0)) 5 p1)), (o0, aJ Y 1 (fun _ => 0))] rfl ?_
      exact (q_abs (b_nlt k3 (n := 1000) (by decide +kernel)) (b_ngt k16 (n := 999) (by decide +kernel)) (by decide +kernel)).elim
    ·
      refine V_ws [(x0, oC 12 [.ref x1, .ref x30, .ref x59, .ref x88, .ref x117, .ref x126, .ref x127, .ref x129, .ref x132, .long 0]), (x1, oC 2 [.ref x2, .ref x4, .ref x6, .ref x8, .ref x10, .ref x12, .ref x14, .ref x16, .ref x18, .ref x20, .ref x27, .int 0]), (x27, oC 9 [.ref x28, .int 0, .long 0, .int (-1), .int 0, .int 0, .int 0, .int 0, .int 0]), (m0, oC 13 [.ref m1, .ref m2, .int 1, .ref m3, .ref m4, .int 0, .int 0, .int 0, .int (-1), .int 0, .int 0, .int 0, .long 0, .ref m5, .ref m6, .int 0, .int 0]), (m1, aI Y 3640 (clB 0 (fun _ => 0))), (o0, aJ Y 1 (fun _ => 0))] rfl ?_
      exact (q_abs (b_nlt k3 (n := 1000) (by decide +kernel)) (b_lt k17 (n := (-1)) (by decide +kernel)) (by decide +kernel)).elim
    ·
      refine V_ws [(x0, oC 12 [.ref x1, .ref x30, .ref x59, .ref x88, .ref x117, .ref x126, .ref x127, .ref x129, .ref x132, .long 0]), (x1, oC 2 [.ref x2, .ref x4, .ref x6, .ref x8, .ref x10, .ref x12, .ref x14, .ref x16, .ref x18, .ref x20, .ref x27, .int 0]), (x27, oC 9 [.ref x28, .int 0, .long 0, .int (-1), .int 0, .int 0, .int 0, .int 0, .int 0]), (m0, oC 13 [.ref m1, .ref m2, .int 1, .ref m3, .ref m4, .int 0, .int 0, .int 0, .int (-1), .int 0, .int 0, .int 0, .long 0, .ref m5, .ref m6, .int 0, .int 0]), (m1, aI Y 3640 (clB 0 (fun _ => 0))), (o0, aJ Y 1 (fun _ => 0))] rfl ?_
      refine V_istore 3098 B (lv2 := [(6, .int 0), (5, .int 1), (4, .int 0), (3, .ref o0), (2, .ref m0), (1, .ref x0), (0, .ref b)]) dL_law_3098 (by decide) rfl ?_
      refine V_aload_n 3100 B dL_law_3100 4 rfl ?_
      refine V_cvi 3101 B (st := []) (As := []) (fun sz => mX12_thrown_2 l D Y (m0) (m1) (m2) (m3) (m4) (m5) (m6) sz) glV_RL_182 ⟨rfl, rfl⟩ ⟨(Nat.le_of_ble_eq_true rfl), (Nat.le_of_ble_eq_true rfl)⟩ ⟨(Nat.le_of_ble_eq_true rfl), (Nat.le_of_ble_eq_true rfl)⟩ [3] rfl 13 0 rfl rfl rfl rfl (Nat.le_of_ble_eq_true rfl) rfl (fun _ _ _ => rfl) dL_law_3101 (fun r19 u19 w19 => ?_)
      obtain rfl := w19
      refine V_ws [(x0, oC 12 [.ref x1, .ref x30, .ref x59, .ref x88, .ref x117, .ref x126, .ref x127, .ref x129, .ref x132, .long 0]), (x1, oC 2 [.ref x2, .ref x4, .ref x6, .ref x8, .ref x10, .ref x12, .ref x14, .ref x16, .ref x18, .ref x20, .ref x27, .int 0]), (x27, oC 9 [.ref x28, .int 0, .long 0, .int (-1), .int 0, .int 0, .int 0, .int 0, .int 0]), (m0, oC 13 [.ref m1, .ref m2, .int 1, .ref m3, .ref m4, .int 0, .int 0, .int 0, .int (-1), .int 0, .int 0, .int 0, .long 0, .ref m5, .ref m6, .int 0, .int 0]), (m1, aI Y 3640 (clB 0 (fun _ => 0))), (o0, aJ Y 1 (fun _ => 0))] rfl ?_
      refine V_iload 3104 B dL_law_3104 1 rfl ?_
      refine V_icmp_eq_t 3106 B 3111 dL_law_3106 (by decide) (by decide +kernel) ?_
      refine V_iload 3111 B dL_law_3111 1 rfl ?_
      refine V_if_ne_t 3113 B 3128 dL_law_3113 (by decide) (by decide +kernel) ?_
      refine V_goto 3128 B 3332 dL_law_3128 (by decide) ?_
      refine V_iinc 3332 B (v := 6) (lv2 := [(4, .int 6), (6, .int 0), (5, .int 1), (3, .ref o0), (2, .ref m0), (1, .ref x0), (0, .ref b)]) dL_law_3332 2 rfl (by decide +kernel) (by decide) rfl ?_
      refine V_goto 3335 B 23 dL_law_3335 (by decide) ?_
      refine V_iload 23 B dL_law_23 0 rfl ?_
      refine V_aload_n 25 B dL_law_25 6 rfl ?_
      refine V_slen 26 B hX hbl hbA (v := 6) (by decide +kernel) dL_law_26 ?_
      refine V_bipush 27 B (v := 6) dL_law_27 (by decide +kernel) ?_
      refine V_isub 29 B (v := 0) dL_law_29 (by decide +kernel) ?_
      refine V_icmp_gt_t 30 B 3338 dL_law_30 (by decide) (by decide +kernel) ?_
      exact law_end B (Nat.le_of_ble_eq_true rfl) (Nat.le_of_ble_eq_true rfl) dL_law_3338 dL_law_3339
  ·
    refine V_ws [(x0, oC 12 [.ref x1, .ref x30, .ref x59, .ref x88, .ref x117, .ref x126, .ref x127, .ref x129, .ref x132, .long 0]), (x1, oC 2 [.ref x2, .ref x4, .ref x6, .ref x8, .ref x10, .ref x12, .ref x14, .ref x16, .ref x18, .ref x20, .ref x27, .int 0]), (x27, oC 9 [.ref x28, .int 0, .long 0, .int (-1), .int 0, .int 0, .int 0, .int 0, .int 0]), (m0, oC 13 [.ref m1, .ref m2, .int 0, .ref m3, .ref m4, .int 0, .int 0, .int 0, .int (-1), .int 0, .int 0, .int 0, .long 0, .ref m5, .ref m6, .int 0, .int 0]), (m1, aI Y 3640 (clB 0 (fun _ => 0))), (o0, aJ Y 1 (vp_updL (fun _ => 0) 0 0))] rfl ?_
    obtain rfl : p1 = 0 := k4
    refine V_istore 3086 B (lv2 := [(5, .int 0), (4, .int 0), (3, .ref o0), (2, .ref m0), (1, .ref x0), (0, .ref b)]) dL_law_3086 (by decide) rfl ?_
    refine V_aload_n 3088 B dL_law_3088 3 rfl ?_
    refine V_aload_n 3089 B dL_law_3089 5 rfl ?_
    refine V_iload 3090 B dL_law_3090 1 rfl ?_
    refine V_iconst 3092 B (v := 1) dL_law_3092 (by decide +kernel) ?_
    refine V_iadd 3093 B (v := 1) dL_law_3093 (by decide +kernel) ?_
    refine V_sld 3094 B hX hbl hbA (v := 0) (vpin _ _ (by decide +kernel)) dL_law_3094 e1 ?_
    refine V_cvi 3095 B (st := []) (As := [.int 0]) (fun sz => mX12_setTimeout_2 l D Y (m0) (m1) (m2) (m3) (m4) (m5) (m6) sz) glV_RL_347 ⟨rfl, rfl⟩ ⟨(Nat.le_of_ble_eq_true rfl), (Nat.le_of_ble_eq_true rfl)⟩ ⟨(Nat.le_of_ble_eq_true rfl), (Nat.le_of_ble_eq_true rfl)⟩ [3, 0] rfl 13 0 rfl rfl rfl rfl (Nat.le_of_ble_eq_true rfl) rfl (fun _ _ _ => rfl) dL_law_3095 (fun r20 u20 w20 => ?_)
    obtain rfl := w20
    refine V_ws [(x0, oC 12 [.ref x1, .ref x30, .ref x59, .ref x88, .ref x117, .ref x126, .ref x127, .ref x129, .ref x132, .long 0]), (x1, oC 2 [.ref x2, .ref x4, .ref x6, .ref x8, .ref x10, .ref x12, .ref x14, .ref x16, .ref x18, .ref x20, .ref x27, .int 0]), (x27, oC 9 [.ref x28, .int 0, .long 0, .int (-1), .int 0, .int 0, .int 0, .int 0, .int 0]), (m0, oC 13 [.ref m1, .ref m2, .int 0, .ref m3, .ref m4, .int 0, .int 0, .int 0, .int (-1), .int 0, .int 0, .int 0, .long 0, .ref m5, .ref m6, .int 0, .int 0]), (m1, aI Y 3640 (upd (clB 0 (fun _ => 0)) 5 0)), (o0, aJ Y 1 (vp_updL (fun _ => 0) 0 0))] rfl ?_
    refine V_istore 3098 B (lv2 := [(6, .int 0), (5, .int 0), (4, .int 0), (3, .ref o0), (2, .ref m0), (1, .ref x0), (0, .ref b)]) dL_law_3098 (by decide) rfl ?_
    refine V_aload_n 3100 B dL_law_3100 4 rfl ?_
    refine V_cvi 3101 B (st := []) (As := []) (fun sz => mX12_thrown_1 l D Y (m0) (m1) (m2) (m3) (m4) (m5) (m6) sz) glV_RL_182 ⟨rfl, rfl⟩ ⟨(Nat.le_of_ble_eq_true rfl), (Nat.le_of_ble_eq_true rfl)⟩ ⟨(Nat.le_of_ble_eq_true rfl), (Nat.le_of_ble_eq_true rfl)⟩ [3] rfl 13 0 rfl rfl rfl rfl (Nat.le_of_ble_eq_true rfl) rfl (fun _ _ _ => rfl) dL_law_3101 (fun r21 u21 w21 => ?_)
    obtain rfl := w21
    refine V_ws [(x0, oC 12 [.ref x1, .ref x30, .ref x59, .ref x88, .ref x117, .ref x126, .ref x127, .ref x129, .ref x132, .long 0]), (x1, oC 2 [.ref x2, .ref x4, .ref x6, .ref x8, .ref x10, .ref x12, .ref x14, .ref x16, .ref x18, .ref x20, .ref x27, .int 0]), (x27, oC 9 [.ref x28, .int 0, .long 0, .int (-1), .int 0, .int 0, .int 0, .int 0, .int 0]), (m0, oC 13 [.ref m1, .ref m2, .int 0, .ref m3, .ref m4, .int 0, .int 0, .int 0, .int (-1), .int 0, .int 0, .int 0, .long 0, .ref m5, .ref m6, .int 0, .int 0]), (m1, aI Y 3640 (upd (clB 0 (fun _ => 0)) 5 0)), (o0, aJ Y 1 (vp_updL (fun _ => 0) 0 0))] rfl ?_
    refine V_iload 3104 B dL_law_3104 1 rfl ?_
    refine V_icmp_eq_t 3106 B 3111 dL_law_3106 (by decide) (by decide +kernel) ?_
    refine V_iload 3111 B dL_law_3111 1 rfl ?_
    refine V_if_ne_f 3113 B 3128 dL_law_3113 (by decide) (by decide +kernel) ?_
    refine V_aload_n 3116 B dL_law_3116 3 rfl ?_
    refine V_iconst 3117 B (v := 0) dL_law_3117 (by decide +kernel) ?_
    refine V_lald 3118 B (v := 0) 5 rfl (vpin _ _ (by decide +kernel)) dL_law_3118 rfl ?_
    refine V_iload 3119 B dL_law_3119 0 rfl ?_
    refine V_i2l 3121 B (v := 0) dL_law_3121 (by decide +kernel) ?_
    refine V_lcmp 3122 B (v := 0) dL_law_3122 (by decide +kernel) ?_
    refine V_if_eq_t 3123 B 3128 dL_law_3123 (by decide) (by decide +kernel) ?_
    refine V_goto 3128 B 3332 dL_law_3128 (by decide) ?_
    refine V_iinc 3332 B (v := 6) (lv2 := [(4, .int 6), (6, .int 0), (5, .int 0), (3, .ref o0), (2, .ref m0), (1, .ref x0), (0, .ref b)]) dL_law_3332 2 rfl (by decide +kernel) (by decide) rfl ?_
    refine V_goto 3335 B 23 dL_law_3335 (by decide) ?_
    refine V_iload 23 B dL_law_23 0 rfl ?_
    refine V_aload_n 25 B dL_law_25 6 rfl ?_
    refine V_slen 26 B hX hbl hbA (v := 6) (by decide +kernel) dL_law_26 ?_
    refine V_bipush 27 B (v := 6) dL_law_27 (by decide +kernel) ?_
    refine V_isub 29 B (v := 0) dL_law_29 (by decide +kernel) ?_
    refine V_icmp_gt_t 30 B 3338 dL_law_30 (by decide) (by decide +kernel) ?_
    exact law_end B (Nat.le_of_ble_eq_true rfl) (Nat.le_of_ble_eq_true rfl) dL_law_3338 dL_law_3339
  ·
    refine V_ws [(x0, oC 12 [.ref x1, .ref x30, .ref x59, .ref x88, .ref x117, .ref x126, .ref x127, .ref x129, .ref x132, .long 0]), (x1, oC 2 [.ref x2, .ref x4, .ref x6, .ref x8, .ref x10, .ref x12, .ref x14, .ref x16, .ref x18, .ref x20, .ref x27, .int 0]), (x27, oC 9 [.ref x28, .int 0, .long 0, .int (-1), .int 0, .int 0, .int 0, .int 0, .int p1]), (m0, oC 13 [.ref m1, .ref m2, .int 0, .ref m3, .ref m4, .int 0, .int 0, .int 0, .int (-1), .int 0, .int 0, .int 0, .long 0, .ref m5, .ref m6, .int 0, .int 0]), (m1, aI Y 3640 (clB 0 (fun _ => 0))), (o0, aJ Y 1 (vp_updL (fun _ => 0) 0 0))] rfl ?_
    refine V_istore 3086 B (lv2 := [(5, .int 0), (4, .int 0), (3, .ref o0), (2, .ref m0), (1, .ref x0), (0, .ref b)]) dL_law_3086 (by decide) rfl ?_
    refine V_aload_n 3088 B dL_law_3088 3 rfl ?_
    refine V_aload_n 3089 B dL_law_3089 5 rfl ?_
    refine V_iload 3090 B dL_law_3090 1 rfl ?_
    refine V_iconst 3092 B (v := 1) dL_law_3092 (by decide +kernel) ?_
    refine V_iadd 3093 B (v := 1) dL_law_3093 (by decide +kernel) ?_
    refine V_sld 3094 B hX hbl hbA (v := p1) (vpin _ _ (by decide +kernel)) dL_law_3094 e1 ?_
    refine V_cvi 3095 B (st := []) (As := [.int p1]) (fun sz => mX12_setTimeout_1 l D Y (m0) (m1) (m2) (m3) (m4) (m5) (m6) (p1) sz) glV_RL_347 ⟨rfl, rfl⟩ ⟨(Nat.le_of_ble_eq_true rfl), (Nat.le_of_ble_eq_true rfl)⟩ ⟨(Nat.le_of_ble_eq_true rfl), (Nat.le_of_ble_eq_true rfl)⟩ [3, 0] rfl 13 0 rfl rfl rfl rfl (Nat.le_of_ble_eq_true rfl) rfl (fun _ u _ => by
        first | rfl | (split <;> rfl) | (dsimp only; split <;> rfl)) dL_law_3095 (fun r22 u22 w22 => ?_)
    rcases w22 with ⟨rfl, k23, k24, rfl⟩ | ⟨rfl, k25, rfl⟩ | ⟨rfl, k26, rfl⟩
    ·
      refine V_ws [(x0, oC 12 [.ref x1, .ref x30, .ref x59, .ref x88, .ref x117, .ref x126, .ref x127, .ref x129, .ref x132, .long 0]), (x1, oC 2 [.ref x2, .ref x4, .ref x6, .ref x8, .ref x10, .ref x12, .ref x14, .ref x16, .ref x18, .ref x20, .ref x27, .int 0]), (x27, oC 9 [.ref x28, .int 0, .long 0, .int (-1), .int 0, .int 0, .int 0, .int 0, .int p1]), (m0, oC 13 [.ref m1, .ref m2, .int 0, .ref m3, .ref m4, .int 0, .int 0, .int 0, .int (-1), .int 0, .int 0, .int 0, .long 0, .ref m5, .ref m6, .int 0, .int 0]), (m1, aI Y 3640 (upd (clB 0 (fun _ => 0)) 5 p1)), (o0, aJ Y 1 (vp_updL (fun _ => 0) 0 0))] rfl ?_
      refine V_istore 3098 B (lv2 := [(6, .int 0), (5, .int 0), (4, .int 0), (3, .ref o0), (2, .ref m0), (1, .ref x0), (0, .ref b)]) dL_law_3098 (by decide) rfl ?_
      refine V_aload_n 3100 B dL_law_3100 4 rfl ?_
      refine V_cvi 3101 B (st := []) (As := []) (fun sz => mX12_thrown_1 l D Y (m0) (m1) (m2) (m3) (m4) (m5) (m6) sz) glV_RL_182 ⟨rfl, rfl⟩ ⟨(Nat.le_of_ble_eq_true rfl), (Nat.le_of_ble_eq_true rfl)⟩ ⟨(Nat.le_of_ble_eq_true rfl), (Nat.le_of_ble_eq_true rfl)⟩ [3] rfl 13 0 rfl rfl rfl rfl (Nat.le_of_ble_eq_true rfl) rfl (fun _ _ _ => rfl) dL_law_3101 (fun r27 u27 w27 => ?_)
      obtain rfl := w27
      refine V_ws [(x0, oC 12 [.ref x1, .ref x30, .ref x59, .ref x88, .ref x117, .ref x126, .ref x127, .ref x129, .ref x132, .long 0]), (x1, oC 2 [.ref x2, .ref x4, .ref x6, .ref x8, .ref x10, .ref x12, .ref x14, .ref x16, .ref x18, .ref x20, .ref x27, .int 0]), (x27, oC 9 [.ref x28, .int 0, .long 0, .int (-1), .int 0, .int 0, .int 0, .int 0, .int p1]), (m0, oC 13 [.ref m1, .ref m2, .int 0, .ref m3, .ref m4, .int 0, .int 0, .int 0, .int (-1), .int 0, .int 0, .int 0, .long 0, .ref m5, .ref m6, .int 0, .int 0]), (m1, aI Y 3640 (upd (clB 0 (fun _ => 0)) 5 p1)), (o0, aJ Y 1 (vp_updL (fun _ => 0) 0 0))] rfl ?_
      refine V_iload 3104 B dL_law_3104 1 rfl ?_
      refine V_icmp_eq_t 3106 B 3111 dL_law_3106 (by decide) (by decide +kernel) ?_
      refine V_iload 3111 B dL_law_3111 1 rfl ?_
      refine V_if_ne_f 3113 B 3128 dL_law_3113 (by decide) (by decide +kernel) ?_
      refine V_aload_n 3116 B dL_law_3116 3 rfl ?_
      refine V_iconst 3117 B (v := 0) dL_law_3117 (by decide +kernel) ?_
      refine V_lald 3118 B (v := 0) 5 rfl (vpin _ _ (by decide +kernel)) dL_law_3118 rfl ?_
      refine V_iload 3119 B dL_law_3119 0 rfl ?_
      refine V_i2l 3121 B (v := 0) dL_law_3121 (by decide +kernel) ?_
      refine V_lcmp 3122 B (v := 0) dL_law_3122 (by decide +kernel) ?_
      refine V_if_eq_t 3123 B 3128 dL_law_3123 (by decide) (by decide +kernel) ?_
      refine V_goto 3128 B 3332 dL_law_3128 (by decide) ?_
      refine V_iinc 3332 B (v := 6) (lv2 := [(4, .int 6), (6, .int 0), (5, .int 0), (3, .ref o0), (2, .ref m0), (1, .ref x0), (0, .ref b)]) dL_law_3332 2 rfl (by decide +kernel) (by decide) rfl ?_
      refine V_goto 3335 B 23 dL_law_3335 (by decide) ?_
      refine V_iload 23 B dL_law_23 0 rfl ?_
      refine V_aload_n 25 B dL_law_25 6 rfl ?_
      refine V_slen 26 B hX hbl hbA (v := 6) (by decide +kernel) dL_law_26 ?_
      refine V_bipush 27 B (v := 6) dL_law_27 (by decide +kernel) ?_
      refine V_isub 29 B (v := 0) dL_law_29 (by decide +kernel) ?_
      refine V_icmp_gt_t 30 B 3338 dL_law_30 (by decide) (by decide +kernel) ?_
      exact law_end B (Nat.le_of_ble_eq_true rfl) (Nat.le_of_ble_eq_true rfl) dL_law_3338 dL_law_3339
    ·
      refine V_ws [(x0, oC 12 [.ref x1, .ref x30, .ref x59, .ref x88, .ref x117, .ref x126, .ref x127, .ref x129, .ref x132, .long 0]), (x1, oC 2 [.ref x2, .ref x4, .ref x6, .ref x8, .ref x10, .ref x12, .ref x14, .ref x16, .ref x18, .ref x20, .ref x27, .int 0]), (x27, oC 9 [.ref x28, .int 0, .long 0, .int (-1), .int 0, .int 0, .int 0, .int 0, .int p1]), (m0, oC 13 [.ref m1, .ref m2, .int 1, .ref m3, .ref m4, .int 0, .int 0, .int 0, .int (-1), .int 0, .int 0, .int 0, .long 0, .ref m5, .ref m6, .int 0, .int 0]), (m1, aI Y 3640 (clB 0 (fun _ => 0))), (o0, aJ Y 1 (vp_updL (fun _ => 0) 0 0))] rfl ?_
      exact (q_abs (b_nle k7 (n := 1) (by decide +kernel)) (b_lt k25 (n := (-1)) (by decide +kernel)) (by decide +kernel)).elim
    ·
      refine V_ws [(x0, oC 12 [.ref x1, .ref x30, .ref x59, .ref x88, .ref x117, .ref x126, .ref x127, .ref x129, .ref x132, .long 0]), (x1, oC 2 [.ref x2, .ref x4, .ref x6, .ref x8, .ref x10, .ref x12, .ref x14, .ref x16, .ref x18, .ref x20, .ref x27, .int 0]), (x27, oC 9 [.ref x28, .int 0, .long 0, .int (-1), .int 0, .int 0, .int 0, .int 0, .int p1]), (m0, oC 13 [.ref m1, .ref m2, .int 1, .ref m3, .ref m4, .int 0, .int 0, .int 0, .int (-1), .int 0, .int 0, .int 0, .long 0, .ref m5, .ref m6, .int 0, .int 0]), (m1, aI Y 3640 (clB 0 (fun _ => 0))), (o0, aJ Y 1 (vp_updL (fun _ => 0) 0 0))] rfl ?_
      exact (q_abs (b_gt k26 (n := 1000) (by decide +kernel)) (b_lt k6 (n := 999) (by decide +kernel)) (by decide +kernel)).elim
theorem dL_law_3131 : decode cL_law 3131 = .ok (.aload_n 1, 1) := by decide +kernel
theorem dL_law_3132 : decode cL_law 3132 = .ok (.invokevirtual 348, 3) := by decide +kernel
theorem glV_RL_348 : GLV RL 348 yX11_wish RX11 cX11_wish 1 (some .int) 0 := ⟨⟨(mT5 0 rfl rfl), (mT5 1 rfl rfl), (mT5 2 rfl rfl), (mT1 1 rfl rfl), (mT5 3 rfl rfl)⟩, by decide +kernel⟩
theorem dL_law_3135 : decode cL_law 3135 = .ok (.aload_n 2, 1) := by decide +kernel
theorem dL_law_3136 : decode cL_law 3136 = .ok (.invokevirtual 351, 3) := by decide +kernel
theorem glV_RL_351 : GLV RL 351 yX12_wish RX12 cX12_wish 1 (some .int) 0 := ⟨⟨(mT9 147 rfl rfl), (mT9 148 rfl rfl), (mT9 149 rfl rfl), (mT1 13 rfl rfl), (mT9 150 rfl rfl)⟩, by decide +kernel⟩
theorem dL_law_3139 : decode cL_law 3139 = .ok (.if_icmp .eq 193, 3) := by decide +kernel
set_option maxRecDepth 100000 in
set_option maxHeartbeats 4000000 in
theorem law_c57 {p : Program} {l : Launch} {e : Env} {s : State} {m : MethodId} {below : List Frame} {meth : Method} {c : Code} {b : Nat} {xs : Nat → Int32} {D : va_G} {Y : Nat → ClassId} (B : VB p s m #[Value.ref b] meth c D Y (fun q => s.heap.size ≤ q) cL_law 8 RL ret) (EB : EX (fun q => s.heap.size ≤ q) s s.heap) (hl9 : l.stackTraces = false) (hX : va_X b 6 xs s s.heap) (hbl : b < s.heap.size) (hbA : ¬ (fun q => s.heap.size ≤ q) b) (x0 x1 x30 x59 x88 x117 x126 x127 x129 x132 m0 m1 m2 m3 m4 m5 m6 o0 : Nat) : V p l e room_1 s m #[Value.ref b] below meth c D (fun q => s.heap.size ≤ q) 8 149 10574 (lw_Z below #[Value.ref b] s) 3131 [(4, .int 0), (3, .ref o0), (2, .ref m0), (1, .ref x0), (0, .ref b)] [] [(x0, oC 12 [.ref x1, .ref x30, .ref x59, .ref x88, .ref x117, .ref x126, .ref x127, .ref x129, .ref x132, .long 0]), (m0, oC 13 [.ref m1, .ref m2, .int 0, .ref m3, .ref m4, .int 0, .int 0, .int 0, .int (-1), .int 0, .int 0, .int 0, .long 0, .ref m5, .ref m6, .int 0, .int 0]), (m1, aI Y 3640 (clB 0 (fun _ => 0)))] := by
  refine V_aload_n 3131 B dL_law_3131 3 rfl ?_
  refine V_cvi 3132 B (st := []) (As := []) (fun sz => mX11_wish_1 l D Y (x0) (x1) (x30) (x59) (x88) (x117) (x126) (x127) (x129) (x132) sz) glV_RL_348 ⟨rfl, rfl⟩ ⟨(Nat.le_of_ble_eq_true rfl), (Nat.le_of_ble_eq_true rfl)⟩ ⟨(Nat.le_of_ble_eq_true rfl), (Nat.le_of_ble_eq_true rfl)⟩ [0] rfl 12 0 rfl rfl rfl rfl (Nat.le_of_ble_eq_true rfl) rfl (fun _ _ _ => rfl) dL_law_3132 (fun r0 u0 w0 => ?_)
  obtain rfl := w0
  refine V_ws [(x0, oC 12 [.ref x1, .ref x30, .ref x59, .ref x88, .ref x117, .ref x126, .ref x127, .ref x129, .ref x132, .long 0]), (m0, oC 13 [.ref m1, .ref m2, .int 0, .ref m3, .ref m4, .int 0, .int 0, .int 0, .int (-1), .int 0, .int 0, .int 0, .long 0, .ref m5, .ref m6, .int 0, .int 0]), (m1, aI Y 3640 (clB 0 (fun _ => 0)))] rfl ?_
  refine V_aload_n 3135 B dL_law_3135 2 rfl ?_
  refine V_cvi 3136 B (st := [.int (-4)]) (As := []) (fun sz => mX12_wish_1 l D Y (m0) (m1) (m2) (m3) (m4) (m5) (m6) sz) glV_RL_351 ⟨rfl, rfl⟩ ⟨(Nat.le_of_ble_eq_true rfl), (Nat.le_of_ble_eq_true rfl)⟩ ⟨(Nat.le_of_ble_eq_true rfl), (Nat.le_of_ble_eq_true rfl)⟩ [1, 0] rfl 13 0 rfl rfl rfl rfl (Nat.le_of_ble_eq_true rfl) rfl (fun _ _ _ => rfl) dL_law_3136 (fun r1 u1 w1 => ?_)
  obtain rfl := w1
  refine V_ws [(x0, oC 12 [.ref x1, .ref x30, .ref x59, .ref x88, .ref x117, .ref x126, .ref x127, .ref x129, .ref x132, .long 0]), (m0, oC 13 [.ref m1, .ref m2, .int 0, .ref m3, .ref m4, .int 0, .int 0, .int 0, .int (-1), .int 0, .int 0, .int 0, .long 0, .ref m5, .ref m6, .int 0, .int 0]), (m1, aI Y 3640 (clB 0 (fun _ => 0)))] rfl ?_
  refine V_icmp_eq_t 3139 B 3332 dL_law_3139 (by decide) (by decide +kernel) ?_
  refine V_iinc 3332 B (v := 6) (lv2 := [(4, .int 6), (3, .ref o0), (2, .ref m0), (1, .ref x0), (0, .ref b)]) dL_law_3332 0 rfl (by decide +kernel) (by decide) rfl ?_
  refine V_goto 3335 B 23 dL_law_3335 (by decide) ?_
  refine V_iload 23 B dL_law_23 0 rfl ?_
  refine V_aload_n 25 B dL_law_25 4 rfl ?_
  refine V_slen 26 B hX hbl hbA (v := 6) (by decide +kernel) dL_law_26 ?_
  refine V_bipush 27 B (v := 6) dL_law_27 (by decide +kernel) ?_
  refine V_isub 29 B (v := 0) dL_law_29 (by decide +kernel) ?_
  refine V_icmp_gt_t 30 B 3338 dL_law_30 (by decide) (by decide +kernel) ?_
  exact law_end B (Nat.le_of_ble_eq_true rfl) (Nat.le_of_ble_eq_true rfl) dL_law_3338 dL_law_3339
theorem dL_law_3144 : decode cL_law 3144 = .ok (.aload_n 1, 1) := by decide +kernel
theorem dL_law_3145 : decode cL_law 3145 = .ok (.invokevirtual 352, 3) := by decide +kernel
theorem glV_RL_352 : GLV RL 352 yX11_clearWishes RX11 cX11_clearWishes 2 (some .int) 0 := ⟨⟨(mT5 4 rfl rfl), (mT5 5 rfl rfl), (mT5 6 rfl rfl), (mT1 1 rfl rfl), (mT5 7 rfl rfl)⟩, by decide +kernel⟩
theorem dL_law_3148 : decode cL_law 3148 = .ok (.aload_n 2, 1) := by decide +kernel
theorem dL_law_3149 : decode cL_law 3149 = .ok (.invokevirtual 355, 3) := by decide +kernel
theorem glV_RL_355 : GLV RL 355 yX12_clearWishes RX12 cX12_clearWishes 2 (some .int) 0 := ⟨⟨(mT9 154 rfl rfl), (mT9 155 rfl rfl), (mT9 156 rfl rfl), (mT1 13 rfl rfl), (mT9 157 rfl rfl)⟩, by decide +kernel⟩
theorem dL_law_3152 : decode cL_law 3152 = .ok (.if_icmp .eq 180, 3) := by decide +kernel
set_option maxRecDepth 100000 in
set_option maxHeartbeats 4000000 in
theorem law_c58 {p : Program} {l : Launch} {e : Env} {s : State} {m : MethodId} {below : List Frame} {meth : Method} {c : Code} {b : Nat} {xs : Nat → Int32} {D : va_G} {Y : Nat → ClassId} (B : VB p s m #[Value.ref b] meth c D Y (fun q => s.heap.size ≤ q) cL_law 8 RL ret) (EB : EX (fun q => s.heap.size ≤ q) s s.heap) (hl9 : l.stackTraces = false) (hX : va_X b 6 xs s s.heap) (hbl : b < s.heap.size) (hbA : ¬ (fun q => s.heap.size ≤ q) b) (x0 x1 x30 x59 x88 x117 x126 x127 x129 x132 x2 x4 x6 x8 x10 x12 x14 x16 x18 x20 x27 x19 m0 m1 m2 m3 m4 m5 m6 o0 : Nat) : V p l e room_1 s m #[Value.ref b] below meth c D (fun q => s.heap.size ≤ q) 8 149 10574 (lw_Z below #[Value.ref b] s) 3144 [(4, .int 0), (3, .ref o0), (2, .ref m0), (1, .ref x0), (0, .ref b)] [] [(x0, oC 12 [.ref x1, .ref x30, .ref x59, .ref x88, .ref x117, .ref x126, .ref x127, .ref x129, .ref x132, .long 0]), (x1, oC 2 [.ref x2, .ref x4, .ref x6, .ref x8, .ref x10, .ref x12, .ref x14, .ref x16, .ref x18, .ref x20, .ref x27, .int 0]), (x18, oC 7 [.ref x19, .int 0]), (m0, oC 13 [.ref m1, .ref m2, .int 0, .ref m3, .ref m4, .int 0, .int 0, .int 0, .int (-1), .int 0, .int 0, .int 0, .long 0, .ref m5, .ref m6, .int 0, .int 0]), (m1, aI Y 3640 (clB 0 (fun _ => 0)))] := by
  refine V_aload_n 3144 B dL_law_3144 3 rfl ?_
  refine V_cvi 3145 B (st := []) (As := []) (fun sz => mX11_clearWishes_1 l D Y (x0) (x1) (x30) (x59) (x88) (x117) (x126) (x127) (x129) (x132) (x2) (x4) (x6) (x8) (x10) (x12) (x14) (x16) (x18) (x20) (x27) (x19) sz) glV_RL_352 ⟨rfl, rfl⟩ ⟨(Nat.le_of_ble_eq_true rfl), (Nat.le_of_ble_eq_true rfl)⟩ ⟨(Nat.le_of_ble_eq_true rfl), (Nat.le_of_ble_eq_true rfl)⟩ [0, 0, 0] rfl 12 0 rfl rfl rfl rfl (Nat.le_of_ble_eq_true rfl) rfl (fun _ _ _ => rfl) dL_law_3145 (fun r0 u0 w0 => ?_)
  obtain rfl := w0
  refine V_ws [(x0, oC 12 [.ref x1, .ref x30, .ref x59, .ref x88, .ref x117, .ref x126, .ref x127, .ref x129, .ref x132, .long 0]), (x1, oC 2 [.ref x2, .ref x4, .ref x6, .ref x8, .ref x10, .ref x12, .ref x14, .ref x16, .ref x18, .ref x20, .ref x27, .int 0]), (x18, oC 7 [.ref x19, .int 0]), (m0, oC 13 [.ref m1, .ref m2, .int 0, .ref m3, .ref m4, .int 0, .int 0, .int 0, .int (-1), .int 0, .int 0, .int 0, .long 0, .ref m5, .ref m6, .int 0, .int 0]), (m1, aI Y 3640 (clB 0 (fun _ => 0)))] rfl ?_
  refine V_aload_n 3148 B dL_law_3148 2 rfl ?_
  refine V_cvi 3149 B (st := [.int 0]) (As := []) (fun sz => mX12_clearWishes_1 l D Y (m0) (m1) (m2) (m3) (m4) (m5) (m6) sz) glV_RL_355 ⟨rfl, rfl⟩ ⟨(Nat.le_of_ble_eq_true rfl), (Nat.le_of_ble_eq_true rfl)⟩ ⟨(Nat.le_of_ble_eq_true rfl), (Nat.le_of_ble_eq_true rfl)⟩ [3, 0] rfl 13 0 rfl rfl rfl rfl (Nat.le_of_ble_eq_true rfl) rfl (fun _ _ _ => rfl) dL_law_3149 (fun r1 u1 w1 => ?_)
  obtain rfl := w1
  refine V_ws [(x0, oC 12 [.ref x1, .ref x30, .ref x59, .ref x88, .ref x117, .ref x126, .ref x127, .ref x129, .ref x132, .long 0]), (x1, oC 2 [.ref x2, .ref x4, .ref x6, .ref x8, .ref x10, .ref x12, .ref x14, .ref x16, .ref x18, .ref x20, .ref x27, .int 0]), (x18, oC 7 [.ref x19, .int 0]), (m0, oC 13 [.ref m1, .ref m2, .int 0, .ref m3, .ref m4, .int 0, .int 0, .int 0, .int (-1), .int 0, .int 0, .int 0, .long 0, .ref m5, .ref m6, .int 0, .int 0]), (m1, aI Y 3640 (upd (clB 0 (fun _ => 0)) 15 0))] rfl ?_
  refine V_icmp_eq_t 3152 B 3332 dL_law_3152 (by decide) (by decide +kernel) ?_
  refine V_iinc 3332 B (v := 6) (lv2 := [(4, .int 6), (3, .ref o0), (2, .ref m0), (1, .ref x0), (0, .ref b)]) dL_law_3332 0 rfl (by decide +kernel) (by decide) rfl ?_
  refine V_goto 3335 B 23 dL_law_3335 (by decide) ?_
  refine V_iload 23 B dL_law_23 0 rfl ?_
  refine V_aload_n 25 B dL_law_25 4 rfl ?_
  refine V_slen 26 B hX hbl hbA (v := 6) (by decide +kernel) dL_law_26 ?_
  refine V_bipush 27 B (v := 6) dL_law_27 (by decide +kernel) ?_
  refine V_isub 29 B (v := 0) dL_law_29 (by decide +kernel) ?_
  refine V_icmp_gt_t 30 B 3338 dL_law_30 (by decide) (by decide +kernel) ?_
  exact law_end B (Nat.le_of_ble_eq_true rfl) (Nat.le_of_ble_eq_true rfl) dL_law_3338 dL_law_3339
theorem dL_leastDrop_0 : decode cL_leastDrop 0 = .ok (.aload_n 2, 1) := by decide +kernel
theorem dL_leastDrop_1 : decode cL_leastDrop 1 = .ok (.iconst 0, 1) := by decide +kernel
theorem dL_leastDrop_2 : decode cL_leastDrop 2 = .ok (.aload_n 0, 1) := by decide +kernel
theorem dL_leastDrop_3 : decode cL_leastDrop 3 = .ok (.iload_n 1, 1) := by decide +kernel
theorem dL_leastDrop_4 : decode cL_leastDrop 4 = .ok (.invokevirtual 140, 3) := by decide +kernel
theorem glV_RL_140 : GLV RL 140 yX11_leastDrop RX11 cX11_leastDrop 2 (some .int) 1 := ⟨⟨(mT7 100 rfl rfl), (mT7 101 rfl rfl), (mT7 102 rfl rfl), (mT1 1 rfl rfl), (mT7 103 rfl rfl)⟩, by decide +kernel⟩
theorem dL_leastDrop_12 : decode cL_leastDrop 12 = .ok (.astore_n 3, 1) := by decide +kernel
theorem dL_leastDrop_13 : decode cL_leastDrop 13 = .ok (.iconst 1, 1) := by decide +kernel
theorem dL_leastDrop_14 : decode cL_leastDrop 14 = .ok (.ireturn, 1) := by decide +kernel
theorem dL_leastDrop_7 : decode cL_leastDrop 7 = .ok (.i2l, 1) := by decide +kernel
theorem dL_leastDrop_8 : decode cL_leastDrop 8 = .ok (.lastore, 1) := by decide +kernel
theorem dL_leastDrop_9 : decode cL_leastDrop 9 = .ok (.goto 6, 3) := by decide +kernel
theorem dL_leastDrop_15 : decode cL_leastDrop 15 = .ok (.iconst 0, 1) := by decide +kernel
theorem dL_leastDrop_16 : decode cL_leastDrop 16 = .ok (.ireturn, 1) := by decide +kernel
set_option maxRecDepth 100000 in
set_option maxHeartbeats 4000000 in
theorem mL_leastDrop_1 (l : Launch) (hl9 : l.stackTraces = false) (D : va_G) (Y : Nat → ClassId) (h0 : Nat) (h6 : Nat) (h1 : Nat) (g0 : Nat) (g1 : Nat) (g2 : Nat) (h4 : Nat) (g3 : Nat) (g4 : Nat) (g5 : Nat) (g6 : Nat) (h2 : Nat) (g7 : Nat) (g8 : Nat) (g9 : Nat) (g10 : Nat) (g11 : Nat) (g12 : Nat) (g13 : Nat) (h3 : Nat) (g14 : Nat) (g15 : Nat) (g16 : Nat) (g17 : Nat) (g18 : Nat) (g19 : Nat) (g20 : Nat) (h5 : Nat) (g21 : Nat) (p0 : Int32) (sz : Nat) : Met l yL_leastDrop (Cond.codeWith yL_leastDrop cL_leastDrop 4 (some .int) [(0, 9, 12, 18)] :: lw_good) (mkR 8 1 6 124) (PreX D Y [.ref h0, .int p0, .ref h6] [(h0, oC 12 [.ref h1, .ref g0, .ref g1, .ref g2, .ref h4, .ref g3, .ref g4, .ref g5, .ref g6, .long 0]), (h1, oC 2 [.ref h2, .ref g7, .ref g8, .ref g9, .ref g10, .ref g11, .ref g12, .ref g13, .ref h3, .ref g14, .ref g15, .int 0]), (h2, oC 3 [.ref g16, .int 1]), (h3, oC 7 [.ref g17, .int 0]), (h4, oC 11 [.ref h1, .ref g18, .ref g19, .ref g20, .ref h5]), (h5, oC 3 [.ref g21, .int 0]), (h6, aJ Y 1 (fun _ => 0))] sz) (QI D (fun (r : Int32) (u : Nat) => (u = 0 ∧ p0 < 0 ∧ 1 = r) ∨ (u = 1 ∧ ¬ p0 < 0 ∧ 1 ≤ p0 ∧ 1 = r) ∨ (u = 2 ∧ p0 = 0 ∧ 0 = r)) (fun (u : Nat) => match u with | 0 => [(h0, oC 12 [.ref h1, .ref g0, .ref g1, .ref g2, .ref h4, .ref g3, .ref g4, .ref g5, .ref g6, .long 0]), (h1, oC 2 [.ref h2, .ref g7, .ref g8, .ref g9, .ref g10, .ref g11, .ref g12, .ref g13, .ref h3, .ref g14, .ref g15, .int 0]), (h2, oC 3 [.ref g16, .int 1]), (h3, oC 7 [.ref g17, .int 0]), (h4, oC 11 [.ref h1, .ref g18, .ref g19, .ref g20, .ref h5]), (h5, oC 3 [.ref g21, .int 0]), (h6, aJ Y 1 (fun _ => 0))] | 1 => [(h0, oC 12 [.ref h1, .ref g0, .ref g1, .ref g2, .ref h4, .ref g3, .ref g4, .ref g5, .ref g6, .long 0]), (h1, oC 2 [.ref h2, .ref g7, .ref g8, .ref g9, .ref g10, .ref g11, .ref g12, .ref g13, .ref h3, .ref g14, .ref g15, .int 0]), (h2, oC 3 [.ref g16, .int 1]), (h3, oC 7 [.ref g17, .int 0]), (h4, oC 11 [.ref h1, .ref g18, .ref g19, .ref g20, .ref h5]), (h5, oC 3 [.ref g21, .int 0]), (h6, aJ Y 1 (fun _ => 0))] | _ => [(h0, oC 12 [.ref h1, .ref g0, .ref g1, .ref g2, .ref h4, .ref g3, .ref g4, .ref g5, .ref g6, .long 0]), (h1, oC 2 [.ref h2, .ref g7, .ref g8, .ref g9, .ref g10, .ref g11, .ref g12, .ref g13, .ref h3, .ref g14, .ref g15, .int 0]), (h2, oC 3 [.ref g16, .int 1]), (h3, oC 7 [.ref g17, .int 0]), (h4, oC 11 [.ref h1, .ref g18, .ref g19, .ref g20, .ref h5]), (h5, oC 3 [.ref g21, .int 0]), (h6, aJ Y 1 (vp_updL (fun _ => 0) 0 0))]) (va_A [(h0, oC 12 [.ref h1, .ref g0, .ref g1, .ref g2, .ref h4, .ref g3, .ref g4, .ref g5, .ref g6, .long 0]), (h1, oC 2 [.ref h2, .ref g7, .ref g8, .ref g9, .ref g10, .ref g11, .ref g12, .ref g13, .ref h3, .ref g14, .ref g15, .int 0]), (h2, oC 3 [.ref g16, .int 1]), (h3, oC 7 [.ref g17, .int 0]), (h4, oC 11 [.ref h1, .ref g18, .ref g19, .ref g20, .ref h5]), (h5, oC 3 [.ref g21, .int 0]), (h6, aJ Y 1 (fun _ => 0))] sz)) 1 6 (va_A [(h0, oC 12 [.ref h1, .ref g0, .ref g1, .ref g2, .ref h4, .ref g3, .ref g4, .ref g5, .ref g6, .long 0]), (h1, oC 2 [.ref h2, .ref g7, .ref g8, .ref g9, .ref g10, .ref g11, .ref g12, .ref g13, .ref h3, .ref g14, .ref g15, .int 0]), (h2, oC 3 [.ref g16, .int 1]), (h3, oC 7 [.ref g17, .int 0]), (h4, oC 11 [.ref h1, .ref g18, .ref g19, .ref g20, .ref h5]), (h5, oC 3 [.ref g21, .int 0]), (h6, aJ Y 1 (fun _ => 0))] sz) :=
  metH_of (by decide +kernel) (Nat.le_of_ble_eq_true rfl) (fun p e s m args below meth c B EB htab hsz => by
    have B : VB p s m args meth c D Y (va_A [(h0, oC 12 [.ref h1, .ref g0, .ref g1, .ref g2, .ref h4, .ref g3, .ref g4, .ref g5, .ref g6, .long 0]), (h1, oC 2 [.ref h2, .ref g7, .ref g8, .ref g9, .ref g10, .ref g11, .ref g12, .ref g13, .ref h3, .ref g14, .ref g15, .int 0]), (h2, oC 3 [.ref g16, .int 1]), (h3, oC 7 [.ref g17, .int 0]), (h4, oC 11 [.ref h1, .ref g18, .ref g19, .ref g20, .ref h5]), (h5, oC 3 [.ref g21, .int 0]), (h6, aJ Y 1 (fun _ => 0))] sz) cL_leastDrop 4 RL (some .int) := B
    refine V_aload_n 0 B dL_leastDrop_0 2 rfl ?_
    refine V_iconst 1 B (v := 0) dL_leastDrop_1 (by decide +kernel) ?_
    refine V_aload_n 2 B dL_leastDrop_2 0 rfl ?_
    refine V_iload_n 3 B dL_leastDrop_3 1 rfl ?_
    refine V_xvi 4 B EB (st := [.int 0, .ref h6]) (As := [.int p0]) (fun sz => mX11_leastDrop_1 l hl9 D Y (h0) (h1) (g0) (g1) (g2) (h4) (g3) (g4) (g5) (g6) (h2) (g7) (g8) (g9) (g10) (g11) (g12) (g13) (h3) (g14) (g15) (g16) (g17) (g18) (g19) (g20) (h5) (g21) (p0) sz) glV_RL_140 ⟨rfl, rfl⟩ ⟨(Nat.le_of_ble_eq_true rfl), (Nat.le_of_ble_eq_true rfl)⟩ ⟨(Nat.le_of_ble_eq_true rfl), (Nat.le_of_ble_eq_true rfl)⟩ [0, 0, 0, 0, 0, 0] rfl 12 0 rfl rfl rfl rfl (Nat.le_of_ble_eq_true rfl) rfl (fun _ _ _ => rfl) (fun _ _ _ => rfl) dL_leastDrop_4 (fun E u0 w0 => ?_) (fun r0 u0 w0 => ?_)
    ·
      rcases w0 with ⟨rfl, k1⟩ | ⟨rfl, k2, k3⟩
      ·
        refine VX_catch 4 B htab [] (0, 9, 12, 18) [] rfl "java/lang/IndexOutOfBoundsException" (fun z hz => nomatch hz) rfl (by decide) (mT5 103 rfl rfl) (EB.2.2.2.1 _ (List.mem_of_getElem? (i := 1) rfl)) 12 rfl (fun q9 => ?_)
        refine V_ws [(h0, oC 12 [.ref h1, .ref g0, .ref g1, .ref g2, .ref h4, .ref g3, .ref g4, .ref g5, .ref g6, .long 0]), (h1, oC 2 [.ref h2, .ref g7, .ref g8, .ref g9, .ref g10, .ref g11, .ref g12, .ref g13, .ref h3, .ref g14, .ref g15, .int 0]), (h2, oC 3 [.ref g16, .int 1]), (h3, oC 7 [.ref g17, .int 0]), (h4, oC 11 [.ref h1, .ref g18, .ref g19, .ref g20, .ref h5]), (h5, oC 3 [.ref g21, .int 0]), (h6, aJ Y 1 (fun _ => 0))] rfl ?_
        refine V_astore_n 12 B (lv2 := [(3, .ref q9), (0, .ref h0), (1, .int p0), (2, .ref h6)]) dL_leastDrop_12 (by decide) rfl ?_
        refine V_iconst 13 B (v := 1) dL_leastDrop_13 (by decide +kernel) ?_
        exact V_iret 14 B dL_leastDrop_14 0 (Or.inl ⟨rfl, k1, rfl⟩) rfl
      ·
        refine VX_catch 4 B htab [] (0, 9, 12, 18) [] rfl "java/lang/IndexOutOfBoundsException" (fun z hz => nomatch hz) rfl (by decide) (mT5 103 rfl rfl) (EB.2.2.2.1 _ (List.mem_of_getElem? (i := 1) rfl)) 12 rfl (fun q9 => ?_)
        refine V_ws [(h0, oC 12 [.ref h1, .ref g0, .ref g1, .ref g2, .ref h4, .ref g3, .ref g4, .ref g5, .ref g6, .long 0]), (h1, oC 2 [.ref h2, .ref g7, .ref g8, .ref g9, .ref g10, .ref g11, .ref g12, .ref g13, .ref h3, .ref g14, .ref g15, .int 0]), (h2, oC 3 [.ref g16, .int 1]), (h3, oC 7 [.ref g17, .int 0]), (h4, oC 11 [.ref h1, .ref g18, .ref g19, .ref g20, .ref h5]), (h5, oC 3 [.ref g21, .int 0]), (h6, aJ Y 1 (fun _ => 0))] rfl ?_
        refine V_astore_n 12 B (lv2 := [(3, .ref q9), (0, .ref h0), (1, .int p0), (2, .ref h6)]) dL_leastDrop_12 (by decide) rfl ?_
        refine V_iconst 13 B (v := 1) dL_leastDrop_13 (by decide +kernel) ?_
        exact V_iret 14 B dL_leastDrop_14 1 (Or.inr (Or.inl ⟨rfl, k2, k3, rfl⟩)) rfl
    ·
      obtain ⟨k4, rfl⟩ := w0
      refine V_ws [(h0, oC 12 [.ref h1, .ref g0, .ref g1, .ref g2, .ref h4, .ref g3, .ref g4, .ref g5, .ref g6, .long 0]), (h1, oC 2 [.ref h2, .ref g7, .ref g8, .ref g9, .ref g10, .ref g11, .ref g12, .ref g13, .ref h3, .ref g14, .ref g15, .int 0]), (h2, oC 3 [.ref g16, .int 1]), (h3, oC 7 [.ref g17, .int 0]), (h4, oC 11 [.ref h1, .ref g18, .ref g19, .ref g20, .ref h5]), (h5, oC 3 [.ref g21, .int 0]), (h6, aJ Y 1 (fun _ => 0))] rfl ?_
      obtain rfl : p0 = 0 := k4
      refine V_i2l 7 B (v := 0) dL_leastDrop_7 (by decide +kernel) ?_
      refine V_last 8 B 6 rfl (vpin _ _ (by decide +kernel)) dL_leastDrop_8 [(h0, oC 12 [.ref h1, .ref g0, .ref g1, .ref g2, .ref h4, .ref g3, .ref g4, .ref g5, .ref g6, .long 0]), (h1, oC 2 [.ref h2, .ref g7, .ref g8, .ref g9, .ref g10, .ref g11, .ref g12, .ref g13, .ref h3, .ref g14, .ref g15, .int 0]), (h2, oC 3 [.ref g16, .int 1]), (h3, oC 7 [.ref g17, .int 0]), (h4, oC 11 [.ref h1, .ref g18, .ref g19, .ref g20, .ref h5]), (h5, oC 3 [.ref g21, .int 0]), (h6, aJ Y 1 (vp_updL (fun _ => 0) 0 0))] rfl ?_
      refine V_goto 9 B 15 dL_leastDrop_9 (by decide) ?_
      refine V_iconst 15 B (v := 0) dL_leastDrop_15 (by decide +kernel) ?_
      exact V_iret 16 B dL_leastDrop_16 2 (Or.inr (Or.inr ⟨rfl, rfl, rfl⟩)) rfl)
set_option maxRecDepth 100000 in
set_option maxHeartbeats 4000000 in
theorem mX12_leastDrop_2 (l : Launch) (D : va_G) (Y : Nat → ClassId) (h0 : Nat) (h1 : Nat) (g0 : Nat) (g1 : Nat) (g2 : Nat) (g3 : Nat) (g4 : Nat) (sz : Nat) : Met l yX12_leastDrop (WSm yX12_leastDrop cX12_leastDrop 4 (some .int)) (mkR 2 0 0 46) (PreC D Y [.ref h0, .int 0] [(h0, oC 13 [.ref h1, .ref g0, .int 0, .ref g1, .ref g2, .int 0, .int 0, .int 0, .int (-1), .int 0, .int 0, .int 0, .long 0, .ref g3, .ref g4, .int 0, .int 0]), (h1, aI Y 3640 (clB 0 (fun _ => 0)))] sz) (QI D (fun (r : Int32) (u : Unit) => 0 = r) (fun (_ : Unit) => [(h0, oC 13 [.ref h1, .ref g0, .int 0, .ref g1, .ref g2, .int 0, .int 0, .int 0, .int (-1), .int 0, .int 0, .int 0, .long 0, .ref g3, .ref g4, .int 0, .int 0]), (h1, aI Y 3640 (clB 0 (fun _ => 0)))]) (va_A [(h0, oC 13 [.ref h1, .ref g0, .int 0, .ref g1, .ref g2, .int 0, .int 0, .int 0, .int (-1), .int 0, .int 0, .int 0, .long 0, .ref g3, .ref g4, .int 0, .int 0]), (h1, aI Y 3640 (clB 0 (fun _ => 0)))] sz)) 0 0 (va_A [(h0, oC 13 [.ref h1, .ref g0, .int 0, .ref g1, .ref g2, .int 0, .int 0, .int 0, .int (-1), .int 0, .int 0, .int 0, .long 0, .ref g3, .ref g4, .int 0, .int 0]), (h1, aI Y 3640 (clB 0 (fun _ => 0)))] sz) :=
  met_of (by decide +kernel) (Nat.le_of_ble_eq_true rfl) (fun p e s m args below meth c B hin hsz => by
    have B : VB p s m args meth c D Y (va_A [(h0, oC 13 [.ref h1, .ref g0, .int 0, .ref g1, .ref g2, .int 0, .int 0, .int 0, .int (-1), .int 0, .int 0, .int 0, .long 0, .ref g3, .ref g4, .int 0, .int 0]), (h1, aI Y 3640 (clB 0 (fun _ => 0)))] sz) cX12_leastDrop 4 RX12 (some .int) := B
    refine V_aload_n 0 B dX12_leastDrop_0 0 rfl ?_
    refine V_iconst 1 B (v := 0) dX12_leastDrop_1 (by decide +kernel) ?_
    refine V_put 2 B gp_RX12_38 0 rfl (Nat.le_of_ble_eq_true rfl) rfl rfl dX12_leastDrop_2 [(h0, oC 13 [.ref h1, .ref g0, .int 0, .ref g1, .ref g2, .int 0, .int 0, .int 0, .int (-1), .int 0, .int 0, .int 0, .long 0, .ref g3, .ref g4, .int 0, .int 0]), (h1, aI Y 3640 (clB 0 (fun _ => 0)))] rfl ?_
    refine V_aload_n 5 B dX12_leastDrop_5 0 rfl ?_
    refine V_aload_n 6 B dX12_leastDrop_6 0 rfl ?_
    refine V_iload_n 7 B dX12_leastDrop_7 1 rfl ?_
    refine V_cvi 8 B (st := [.ref h0]) (As := [.int 0]) (fun sz => mX12_isMode_2 l D Y (h0) (h1) (g0) (g1) (g2) (g3) (g4) sz) glV_RX12_91 ⟨rfl, rfl⟩ ⟨(Nat.le_of_ble_eq_true rfl), (Nat.le_of_ble_eq_true rfl)⟩ ⟨(Nat.le_of_ble_eq_true rfl), (Nat.le_of_ble_eq_true rfl)⟩ [0, 0] rfl 13 0 rfl rfl rfl rfl (Nat.le_of_ble_eq_true rfl) rfl (fun _ _ _ => rfl) dX12_leastDrop_8 (fun r0 u0 w0 => ?_)
    obtain rfl := w0
    refine V_ws [(h0, oC 13 [.ref h1, .ref g0, .int 0, .ref g1, .ref g2, .int 0, .int 0, .int 0, .int (-1), .int 0, .int 0, .int 0, .long 0, .ref g3, .ref g4, .int 0, .int 0]), (h1, aI Y 3640 (clB 0 (fun _ => 0)))] rfl ?_
    refine V_if_ne_t 11 B 18 dX12_leastDrop_11 (by decide) (by decide +kernel) ?_
    refine V_iconst 18 B (v := 0) dX12_leastDrop_18 (by decide +kernel) ?_
    refine V_iconst 19 B (v := 1) dX12_leastDrop_19 (by decide +kernel) ?_
    refine V_cvi 20 B (st := []) (As := [.int 0, .int 1]) (fun sz => mX12_throwsIf_2 l D Y (h0) (h1) (g0) (g1) (g2) (g3) (g4) sz) glV_RX12_69 ⟨rfl, rfl⟩ ⟨(Nat.le_of_ble_eq_true rfl), (Nat.le_of_ble_eq_true rfl)⟩ ⟨(Nat.le_of_ble_eq_true rfl), (Nat.le_of_ble_eq_true rfl)⟩ [0] rfl 13 0 rfl rfl rfl rfl (Nat.le_of_ble_eq_true rfl) rfl (fun _ _ _ => rfl) dX12_leastDrop_20 (fun r1 u1 w1 => ?_)
    obtain rfl := w1
    refine V_ws [(h0, oC 13 [.ref h1, .ref g0, .int 0, .ref g1, .ref g2, .int 0, .int 0, .int 0, .int (-1), .int 0, .int 0, .int 0, .long 0, .ref g3, .ref g4, .int 0, .int 0]), (h1, aI Y 3640 (clB 0 (fun _ => 0)))] rfl ?_
    refine V_if_eq_t 23 B 28 dX12_leastDrop_23 (by decide) (by decide +kernel) ?_
    refine V_iconst 28 B (v := 1) dX12_leastDrop_28 (by decide +kernel) ?_
    refine V_aload_n 29 B dX12_leastDrop_29 0 rfl ?_
    refine V_get 30 B gf_RX12_9 0 rfl rfl dX12_leastDrop_30 ?_
    refine V_bipush 33 B (v := 15) dX12_leastDrop_33 (by decide +kernel) ?_
    refine V_iald 35 B (v := 0) 1 rfl (vpin _ _ (by decide +kernel)) dX12_leastDrop_35 rfl ?_
    refine V_ishl 36 B (v := 1) dX12_leastDrop_36 (by decide +kernel) ?_
    refine V_iconst 37 B (v := 1) dX12_leastDrop_37 (by decide +kernel) ?_
    refine V_isub 38 B (v := 0) dX12_leastDrop_38 (by decide +kernel) ?_
    refine V_istore_n 39 B (lv2 := [(2, .int 0), (0, .ref h0), (1, .int 0)]) dX12_leastDrop_39 (by decide) rfl ?_
    refine V_iload_n 40 B dX12_leastDrop_40 0 rfl ?_
    refine V_iconst 41 B (v := 1) dX12_leastDrop_41 (by decide +kernel) ?_
    refine V_isub 42 B (v := (-1)) dX12_leastDrop_42 (by decide +kernel) ?_
    refine V_istore_n 43 B (lv2 := [(3, .int (-1)), (2, .int 0), (0, .ref h0), (1, .int 0)]) dX12_leastDrop_43 (by decide) rfl ?_
    refine V_iload_n 44 B dX12_leastDrop_44 0 rfl ?_
    refine V_if_lt_t 45 B 76 dX12_leastDrop_45 (by decide) (by decide +kernel) ?_
    refine V_iload_n 76 B dX12_leastDrop_76 1 rfl ?_
    exact V_iret 77 B dX12_leastDrop_77 () rfl rfl)
