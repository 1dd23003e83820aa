set_option maxRecDepth 100000 in
set_option maxHeartbeats 4000000 in
theorem mX12_restoreSnapshot_2 (l : Launch) (D : va_G) (Y : Nat → ClassId) (h0 : Nat) (g0 : Nat) (h1 : Nat) (g1 : Nat) (g2 : Nat) (g3 : Nat) (g4 : Nat) (sz : Nat) : Met l yX12_restoreSnapshot (WSm yX12_restoreSnapshot cX12_restoreSnapshot 2 (some .boolean)) (mkR 1 0 0 25) (PreC D Y [.ref h0, .int 0] [(h0, oC 13 [.ref g0, .ref h1, .int 0, .ref g1, .ref g2, .int 0, .int 0, .int 0, .int (-1), .int 0, .int 0, .int 0, .long 0, .ref g3, .ref g4, .int 0, .int 0]), (h1, aZ Y 2 (fun _ => 0))] sz) (QI D (fun (r : Int32) (u : Unit) => 0 = r) (fun (_ : Unit) => [(h0, oC 13 [.ref g0, .ref h1, .int 0, .ref g1, .ref g2, .int 0, .int 0, .int 0, .int (-1), .int 0, .int 0, .int 0, .long 0, .ref g3, .ref g4, .int 0, .int 0]), (h1, aZ Y 2 (fun _ => 0))]) (va_A [(h0, oC 13 [.ref g0, .ref h1, .int 0, .ref g1, .ref g2, .int 0, .int 0, .int 0, .int (-1), .int 0, .int 0, .int 0, .long 0, .ref g3, .ref g4, .int 0, .int 0]), (h1, aZ Y 2 (fun _ => 0))] sz)) 0 0 (va_A [(h0, oC 13 [.ref g0, .ref h1, .int 0, .ref g1, .ref g2, .int 0, .int 0, .int 0, .int (-1), .int 0, .int 0, .int 0, .long 0, .ref g3, .ref g4, .int 0, .int 0]), (h1, aZ Y 2 (fun _ => 0))] sz) :=
  met_of (by decide +kernel) (Nat.le_of_ble_eq_true rfl) (fun p e s m args below meth c B hin hsz => by
    have B : VB p s m args meth c D Y (va_A [(h0, oC 13 [.ref g0, .ref h1, .int 0, .ref g1, .ref g2, .int 0, .int 0, .int 0, .int (-1), .int 0, .int 0, .int 0, .long 0, .ref g3, .ref g4, .int 0, .int 0]), (h1, aZ Y 2 (fun _ => 0))] sz) cX12_restoreSnapshot 2 RX12 (some .boolean) := B
    refine V_aload_n 0 B dX12_restoreSnapshot_0 0 rfl ?_
    refine V_iconst 1 B (v := 0) dX12_restoreSnapshot_1 (by decide +kernel) ?_
    refine V_put 2 B gp_RX12_38 0 rfl (Nat.le_of_ble_eq_true rfl) rfl rfl dX12_restoreSnapshot_2 [(h0, oC 13 [.ref g0, .ref h1, .int 0, .ref g1, .ref g2, .int 0, .int 0, .int 0, .int (-1), .int 0, .int 0, .int 0, .long 0, .ref g3, .ref g4, .int 0, .int 0]), (h1, aZ Y 2 (fun _ => 0))] rfl ?_
    refine V_iload_n 5 B dX12_restoreSnapshot_5 1 rfl ?_
    refine V_i2l 6 B (v := 0) dX12_restoreSnapshot_6 (by decide +kernel) ?_
    refine V_lconst 7 B (v := 0) dX12_restoreSnapshot_7 (by decide +kernel) ?_
    refine V_lconst 8 B (v := 1) dX12_restoreSnapshot_8 (by decide +kernel) ?_
    refine V_csi 9 B (st := []) (As := [.long 0, .long 0, .long 1]) (fun sz => mX12_inRange_4 l D Y  sz) glS_RX12_41 ⟨rfl, rfl⟩ ⟨(Nat.le_of_ble_eq_true rfl), (Nat.le_of_ble_eq_true rfl)⟩ ⟨(Nat.le_of_ble_eq_true rfl), (Nat.le_of_ble_eq_true rfl)⟩ [] rfl rfl (Nat.le_of_ble_eq_true rfl) rfl (fun _ _ _ => rfl) dX12_restoreSnapshot_9 (fun r0 u0 w0 => ?_)
    obtain rfl := w0
    refine V_ws [(h0, oC 13 [.ref g0, .ref h1, .int 0, .ref g1, .ref g2, .int 0, .int 0, .int 0, .int (-1), .int 0, .int 0, .int 0, .long 0, .ref g3, .ref g4, .int 0, .int 0]), (h1, aZ Y 2 (fun _ => 0))] rfl ?_
    refine V_if_eq_f 12 B 24 dX12_restoreSnapshot_12 (by decide) (by decide +kernel) ?_
    refine V_aload_n 15 B dX12_restoreSnapshot_15 0 rfl ?_
    refine V_get 16 B gf_RX12_13 0 rfl rfl dX12_restoreSnapshot_16 ?_
    refine V_iload_n 19 B dX12_restoreSnapshot_19 1 rfl ?_
    refine V_zald 20 B (v := 0) 1 rfl (vpin _ _ (by decide +kernel)) dX12_restoreSnapshot_20 rfl ?_
    refine V_if_ne_f 21 B 26 dX12_restoreSnapshot_21 (by decide) (by decide +kernel) ?_
    refine V_iconst 24 B (v := 0) dX12_restoreSnapshot_24 (by decide +kernel) ?_
    exact V_zret 25 B rfl dX12_restoreSnapshot_25 () rfl rfl)
theorem dL_law_3307 : decode cL_law 3307 = .ok (.aload_n 1, 1) := by decide +kernel
theorem dL_law_3308 : decode cL_law 3308 = .ok (.aload_n 0, 1) := by decide +kernel
theorem dL_law_3309 : decode cL_law 3309 = .ok (.iload 4, 2) := by decide +kernel
theorem dL_law_3311 : decode cL_law 3311 = .ok (.iconst 1, 1) := by decide +kernel
theorem dL_law_3312 : decode cL_law 3312 = .ok (.iadd, 1) := by decide +kernel
theorem dL_law_3313 : decode cL_law 3313 = .ok (.iaload, 1) := by decide +kernel
theorem dL_law_3314 : decode cL_law 3314 = .ok (.invokevirtual 370, 3) := by decide +kernel
theorem glV_RL_370 : GLV RL 370 yX11_restoreSnapshot RX11 cX11_restoreSnapshot 3 (some .boolean) 1 := ⟨⟨(mT5 13 rfl rfl), (mT5 14 rfl rfl), (mT5 15 rfl rfl), (mT1 1 rfl rfl), (mT5 16 rfl rfl)⟩, by decide +kernel⟩
theorem dL_law_3317 : decode cL_law 3317 = .ok (.aload_n 2, 1) := by decide +kernel
theorem dL_law_3318 : decode cL_law 3318 = .ok (.aload_n 0, 1) := by decide +kernel
theorem dL_law_3319 : decode cL_law 3319 = .ok (.iload 4, 2) := by decide +kernel
theorem dL_law_3321 : decode cL_law 3321 = .ok (.iconst 1, 1) := by decide +kernel
theorem dL_law_3322 : decode cL_law 3322 = .ok (.iadd, 1) := by decide +kernel
theorem dL_law_3323 : decode cL_law 3323 = .ok (.iaload, 1) := by decide +kernel
theorem dL_law_3324 : decode cL_law 3324 = .ok (.invokevirtual 373, 3) := by decide +kernel
theorem glV_RL_373 : GLV RL 373 yX12_restoreSnapshot RX12 cX12_restoreSnapshot 2 (some .boolean) 1 := ⟨⟨(mT7 205 rfl rfl), (mT7 206 rfl rfl), (mT7 207 rfl rfl), (mT1 13 rfl rfl), (mT7 208 rfl rfl)⟩, by decide +kernel⟩
theorem dL_law_3327 : decode cL_law 3327 = .ok (.if_icmp .eq 5, 3) := by decide +kernel
set_option maxRecDepth 100000 in
set_option maxHeartbeats 4000000 in
theorem law_c63 {p : Program} {l : Launch} {e : Env} {s : State} {m : MethodId} {below : List Frame} {meth : Method} {c : Code} {b : Nat} {xs : Nat → Int32} {D : va_G} {Y : Nat → ClassId} (B : VB p s m #[Value.ref b] meth c D Y (fun q => s.heap.size ≤ q) cL_law 8 RL ret) (EB : EX (fun q => s.heap.size ≤ q) s s.heap) (hl9 : l.stackTraces = false) (hX : va_X b 6 xs s s.heap) (hbl : b < s.heap.size) (hbA : ¬ (fun q => s.heap.size ≤ q) b) (x0 x1 x30 x59 x88 x117 x126 x127 x129 x132 x60 x62 x64 x66 x68 x70 x72 x74 x76 x78 x85 x89 x91 x93 x95 x97 x99 x101 x103 x105 x107 x114 m0 m1 m2 m3 m4 m5 m6 o0 : Nat) (p1 : Int32) (e1 : xs 1 = p1) : V p l e room_1 s m #[Value.ref b] below meth c D (fun q => s.heap.size ≤ q) 8 149 10574 (lw_Z below #[Value.ref b] s) 3307 [(4, .int 0), (3, .ref o0), (2, .ref m0), (1, .ref x0), (0, .ref b)] [] [(x0, oC 12 [.ref x1, .ref x30, .ref x59, .ref x88, .ref x117, .ref x126, .ref x127, .ref x129, .ref x132, .long 0]), (x59, oC 2 [.ref x60, .ref x62, .ref x64, .ref x66, .ref x68, .ref x70, .ref x72, .ref x74, .ref x76, .ref x78, .ref x85, .int 0]), (x88, oC 2 [.ref x89, .ref x91, .ref x93, .ref x95, .ref x97, .ref x99, .ref x101, .ref x103, .ref x105, .ref x107, .ref x114, .int 0]), (m0, oC 13 [.ref m1, .ref m2, .int 0, .ref m3, .ref m4, .int 0, .int 0, .int 0, .int (-1), .int 0, .int 0, .int 0, .long 0, .ref m5, .ref m6, .int 0, .int 0]), (m2, aZ Y 2 (fun _ => 0))] := by
  refine V_aload_n 3307 B dL_law_3307 3 rfl ?_
  refine V_aload_n 3308 B dL_law_3308 4 rfl ?_
  refine V_iload 3309 B dL_law_3309 0 rfl ?_
  refine V_iconst 3311 B (v := 1) dL_law_3311 (by decide +kernel) ?_
  refine V_iadd 3312 B (v := 1) dL_law_3312 (by decide +kernel) ?_
  refine V_sld 3313 B hX hbl hbA (v := p1) (vpin _ _ (by decide +kernel)) dL_law_3313 e1 ?_
  refine V_cvi 3314 B (st := []) (As := [.int p1]) (fun sz => mX11_restoreSnapshot_1 l D Y (x0) (x1) (x30) (x59) (x88) (x117) (x126) (x127) (x129) (x132) (x60) (x62) (x64) (x66) (x68) (x70) (x72) (x74) (x76) (x78) (x85) (x89) (x91) (x93) (x95) (x97) (x99) (x101) (x103) (x105) (x107) (x114) (p1) sz) glV_RL_370 ⟨rfl, rfl⟩ ⟨(Nat.le_of_ble_eq_true rfl), (Nat.le_of_ble_eq_true rfl)⟩ ⟨(Nat.le_of_ble_eq_true rfl), (Nat.le_of_ble_eq_true rfl)⟩ [0, 0, 0] rfl 12 0 rfl rfl rfl rfl (Nat.le_of_ble_eq_true rfl) rfl (fun _ _ _ => rfl) dL_law_3314 (fun r0 u0 w0 => ?_)
  rcases w0 with ⟨k1, rfl⟩ | ⟨k2, k3, k4, rfl⟩ | ⟨k5, rfl⟩ | ⟨k6, k7, rfl⟩
  ·
    refine V_ws [(x0, oC 12 [.ref x1, .ref x30, .ref x59, .ref x88, .ref x117, .ref x126, .ref x127, .ref x129, .ref x132, .long 0]), (x59, oC 2 [.ref x60, .ref x62, .ref x64, .ref x66, .ref x68, .ref x70, .ref x72, .ref x74, .ref x76, .ref x78, .ref x85, .int 0]), (x88, oC 2 [.ref x89, .ref x91, .ref x93, .ref x95, .ref x97, .ref x99, .ref x101, .ref x103, .ref x105, .ref x107, .ref x114, .int 0]), (m0, oC 13 [.ref m1, .ref m2, .int 0, .ref m3, .ref m4, .int 0, .int 0, .int 0, .int (-1), .int 0, .int 0, .int 0, .long 0, .ref m5, .ref m6, .int 0, .int 0]), (m2, aZ Y 2 (fun _ => 0))] rfl ?_
    refine V_aload_n 3317 B dL_law_3317 2 rfl ?_
    refine V_aload_n 3318 B dL_law_3318 4 rfl ?_
    refine V_iload 3319 B dL_law_3319 0 rfl ?_
    refine V_iconst 3321 B (v := 1) dL_law_3321 (by decide +kernel) ?_
    refine V_iadd 3322 B (v := 1) dL_law_3322 (by decide +kernel) ?_
    refine V_sld 3323 B hX hbl hbA (v := p1) (vpin _ _ (by decide +kernel)) dL_law_3323 e1 ?_
    refine V_cvi 3324 B (st := [.int 0]) (As := [.int p1]) (fun sz => mX12_restoreSnapshot_1 l D Y (m0) (m1) (m2) (m3) (m4) (m5) (m6) (p1) sz) glV_RL_373 ⟨rfl, rfl⟩ ⟨(Nat.le_of_ble_eq_true rfl), (Nat.le_of_ble_eq_true rfl)⟩ ⟨(Nat.le_of_ble_eq_true rfl), (Nat.le_of_ble_eq_true rfl)⟩ [3, 0] rfl 13 0 rfl rfl rfl rfl (Nat.le_of_ble_eq_true rfl) rfl (fun _ _ _ => rfl) dL_law_3324 (fun r8 u8 w8 => ?_)
    rcases w8 with ⟨k9, rfl⟩ | ⟨k10, rfl⟩ | ⟨k11, rfl⟩ | ⟨k12, rfl⟩
    ·
      refine V_ws [(x0, oC 12 [.ref x1, .ref x30, .ref x59, .ref x88, .ref x117, .ref x126, .ref x127, .ref x129, .ref x132, .long 0]), (x59, oC 2 [.ref x60, .ref x62, .ref x64, .ref x66, .ref x68, .ref x70, .ref x72, .ref x74, .ref x76, .ref x78, .ref x85, .int 0]), (x88, oC 2 [.ref x89, .ref x91, .ref x93, .ref x95, .ref x97, .ref x99, .ref x101, .ref x103, .ref x105, .ref x107, .ref x114, .int 0]), (m0, oC 13 [.ref m1, .ref m2, .int 0, .ref m3, .ref m4, .int 0, .int 0, .int 0, .int (-1), .int 0, .int 0, .int 0, .long 0, .ref m5, .ref m6, .int 0, .int 0]), (m2, aZ Y 2 (fun _ => 0))] rfl ?_
      exact absurd k9 (q_neh (b_lt k1 (n := (-1)) (by decide +kernel)) (by decide +kernel))
    ·
      refine V_ws [(x0, oC 12 [.ref x1, .ref x30, .ref x59, .ref x88, .ref x117, .ref x126, .ref x127, .ref x129, .ref x132, .long 0]), (x59, oC 2 [.ref x60, .ref x62, .ref x64, .ref x66, .ref x68, .ref x70, .ref x72, .ref x74, .ref x76, .ref x78, .ref x85, .int 0]), (x88, oC 2 [.ref x89, .ref x91, .ref x93, .ref x95, .ref x97, .ref x99, .ref x101, .ref x103, .ref x105, .ref x107, .ref x114, .int 0]), (m0, oC 13 [.ref m1, .ref m2, .int 0, .ref m3, .ref m4, .int 0, .int 0, .int 0, .int (-1), .int 0, .int 0, .int 0, .long 0, .ref m5, .ref m6, .int 0, .int 0]), (m2, aZ Y 2 (fun _ => 0))] rfl ?_
      exact absurd k10 (q_neh (b_lt k1 (n := (-1)) (by decide +kernel)) (by decide +kernel))
    ·
      refine V_ws [(x0, oC 12 [.ref x1, .ref x30, .ref x59, .ref x88, .ref x117, .ref x126, .ref x127, .ref x129, .ref x132, .long 0]), (x59, oC 2 [.ref x60, .ref x62, .ref x64, .ref x66, .ref x68, .ref x70, .ref x72, .ref x74, .ref x76, .ref x78, .ref x85, .int 0]), (x88, oC 2 [.ref x89, .ref x91, .ref x93, .ref x95, .ref x97, .ref x99, .ref x101, .ref x103, .ref x105, .ref x107, .ref x114, .int 0]), (m0, oC 13 [.ref m1, .ref m2, .int 0, .ref m3, .ref m4, .int 0, .int 0, .int 0, .int (-1), .int 0, .int 0, .int 0, .long 0, .ref m5, .ref m6, .int 0, .int 0]), (m2, aZ Y 2 (fun _ => 0))] rfl ?_
      refine V_icmp_eq_t 3327 B 3332 dL_law_3327 (by decide) (by decide +kernel) ?_
      refine V_iinc 3332 B (v := 6) (lv2 := [(4, .int 6), (3, .ref o0), (2, .ref m0), (1, .ref x0), (0, .ref b)]) dL_law_3332 0 rfl (by decide +kernel) (by decide) rfl ?_
      refine V_goto 3335 B 23 dL_law_3335 (by decide) ?_
      refine V_iload 23 B dL_law_23 0 rfl ?_
      refine V_aload_n 25 B dL_law_25 4 rfl ?_
      refine V_slen 26 B hX hbl hbA (v := 6) (by decide +kernel) dL_law_26 ?_
      refine V_bipush 27 B (v := 6) dL_law_27 (by decide +kernel) ?_
      refine V_isub 29 B (v := 0) dL_law_29 (by decide +kernel) ?_
      refine V_icmp_gt_t 30 B 3338 dL_law_30 (by decide) (by decide +kernel) ?_
      exact law_end B (Nat.le_of_ble_eq_true rfl) (Nat.le_of_ble_eq_true rfl) dL_law_3338 dL_law_3339
    ·
      refine V_ws [(x0, oC 12 [.ref x1, .ref x30, .ref x59, .ref x88, .ref x117, .ref x126, .ref x127, .ref x129, .ref x132, .long 0]), (x59, oC 2 [.ref x60, .ref x62, .ref x64, .ref x66, .ref x68, .ref x70, .ref x72, .ref x74, .ref x76, .ref x78, .ref x85, .int 0]), (x88, oC 2 [.ref x89, .ref x91, .ref x93, .ref x95, .ref x97, .ref x99, .ref x101, .ref x103, .ref x105, .ref x107, .ref x114, .int 0]), (m0, oC 13 [.ref m1, .ref m2, .int 0, .ref m3, .ref m4, .int 0, .int 0, .int 0, .int (-1), .int 0, .int 0, .int 0, .long 0, .ref m5, .ref m6, .int 0, .int 0]), (m2, aZ Y 2 (fun _ => 0))] rfl ?_
      exact (q_abs (b_gt k12 (n := 2) (by decide +kernel)) (b_lt k1 (n := (-1)) (by decide +kernel)) (by decide +kernel)).elim
  ·
    refine V_ws [(x0, oC 12 [.ref x1, .ref x30, .ref x59, .ref x88, .ref x117, .ref x126, .ref x127, .ref x129, .ref x132, .long 0]), (x59, oC 2 [.ref x60, .ref x62, .ref x64, .ref x66, .ref x68, .ref x70, .ref x72, .ref x74, .ref x76, .ref x78, .ref x85, .int 0]), (x88, oC 2 [.ref x89, .ref x91, .ref x93, .ref x95, .ref x97, .ref x99, .ref x101, .ref x103, .ref x105, .ref x107, .ref x114, .int 0]), (m0, oC 13 [.ref m1, .ref m2, .int 0, .ref m3, .ref m4, .int 0, .int 0, .int 0, .int (-1), .int 0, .int 0, .int 0, .long 0, .ref m5, .ref m6, .int 0, .int 0]), (m2, aZ Y 2 (fun _ => 0))] rfl ?_
    refine V_aload_n 3317 B dL_law_3317 2 rfl ?_
    refine V_aload_n 3318 B dL_law_3318 4 rfl ?_
    refine V_iload 3319 B dL_law_3319 0 rfl ?_
    refine V_iconst 3321 B (v := 1) dL_law_3321 (by decide +kernel) ?_
    refine V_iadd 3322 B (v := 1) dL_law_3322 (by decide +kernel) ?_
    refine V_sld 3323 B hX hbl hbA (v := p1) (vpin _ _ (by decide +kernel)) dL_law_3323 e1 ?_
    refine V_cvi 3324 B (st := [.int 0]) (As := [.int p1]) (fun sz => mX12_restoreSnapshot_1 l D Y (m0) (m1) (m2) (m3) (m4) (m5) (m6) (p1) sz) glV_RL_373 ⟨rfl, rfl⟩ ⟨(Nat.le_of_ble_eq_true rfl), (Nat.le_of_ble_eq_true rfl)⟩ ⟨(Nat.le_of_ble_eq_true rfl), (Nat.le_of_ble_eq_true rfl)⟩ [3, 0] rfl 13 0 rfl rfl rfl rfl (Nat.le_of_ble_eq_true rfl) rfl (fun _ _ _ => rfl) dL_law_3324 (fun r13 u13 w13 => ?_)
    rcases w13 with ⟨k14, rfl⟩ | ⟨k15, rfl⟩ | ⟨k16, rfl⟩ | ⟨k17, rfl⟩
    ·
      refine V_ws [(x0, oC 12 [.ref x1, .ref x30, .ref x59, .ref x88, .ref x117, .ref x126, .ref x127, .ref x129, .ref x132, .long 0]), (x59, oC 2 [.ref x60, .ref x62, .ref x64, .ref x66, .ref x68, .ref x70, .ref x72, .ref x74, .ref x76, .ref x78, .ref x85, .int 0]), (x88, oC 2 [.ref x89, .ref x91, .ref x93, .ref x95, .ref x97, .ref x99, .ref x101, .ref x103, .ref x105, .ref x107, .ref x114, .int 0]), (m0, oC 13 [.ref m1, .ref m2, .int 0, .ref m3, .ref m4, .int 0, .int 0, .int 0, .int (-1), .int 0, .int 0, .int 0, .long 0, .ref m5, .ref m6, .int 0, .int 0]), (m2, aZ Y 2 (fun _ => 0))] rfl ?_
      exact absurd k14 k4
    ·
      refine V_ws [(x0, oC 12 [.ref x1, .ref x30, .ref x59, .ref x88, .ref x117, .ref x126, .ref x127, .ref x129, .ref x132, .long 0]), (x59, oC 2 [.ref x60, .ref x62, .ref x64, .ref x66, .ref x68, .ref x70, .ref x72, .ref x74, .ref x76, .ref x78, .ref x85, .int 0]), (x88, oC 2 [.ref x89, .ref x91, .ref x93, .ref x95, .ref x97, .ref x99, .ref x101, .ref x103, .ref x105, .ref x107, .ref x114, .int 0]), (m0, oC 13 [.ref m1, .ref m2, .int 0, .ref m3, .ref m4, .int 0, .int 0, .int 0, .int (-1), .int 0, .int 0, .int 0, .long 0, .ref m5, .ref m6, .int 0, .int 0]), (m2, aZ Y 2 (fun _ => 0))] rfl ?_
      obtain rfl : p1 = 1 := k15
      refine V_icmp_eq_t 3327 B 3332 dL_law_3327 (by decide) (by decide +kernel) ?_
      refine V_iinc 3332 B (v := 6) (lv2 := [(4, .int 6), (3, .ref o0), (2, .ref m0), (1, .ref x0), (0, .ref b)]) dL_law_3332 0 rfl (by decide +kernel) (by decide) rfl ?_
      refine V_goto 3335 B 23 dL_law_3335 (by decide) ?_
      refine V_iload 23 B dL_law_23 0 rfl ?_
      refine V_aload_n 25 B dL_law_25 4 rfl ?_
      refine V_slen 26 B hX hbl hbA (v := 6) (by decide +kernel) dL_law_26 ?_
      refine V_bipush 27 B (v := 6) dL_law_27 (by decide +kernel) ?_
      refine V_isub 29 B (v := 0) dL_law_29 (by decide +kernel) ?_
      refine V_icmp_gt_t 30 B 3338 dL_law_30 (by decide) (by decide +kernel) ?_
      exact law_end B (Nat.le_of_ble_eq_true rfl) (Nat.le_of_ble_eq_true rfl) dL_law_3338 dL_law_3339
    ·
      refine V_ws [(x0, oC 12 [.ref x1, .ref x30, .ref x59, .ref x88, .ref x117, .ref x126, .ref x127, .ref x129, .ref x132, .long 0]), (x59, oC 2 [.ref x60, .ref x62, .ref x64, .ref x66, .ref x68, .ref x70, .ref x72, .ref x74, .ref x76, .ref x78, .ref x85, .int 0]), (x88, oC 2 [.ref x89, .ref x91, .ref x93, .ref x95, .ref x97, .ref x99, .ref x101, .ref x103, .ref x105, .ref x107, .ref x114, .int 0]), (m0, oC 13 [.ref m1, .ref m2, .int 0, .ref m3, .ref m4, .int 0, .int 0, .int 0, .int (-1), .int 0, .int 0, .int 0, .long 0, .ref m5, .ref m6, .int 0, .int 0]), (m2, aZ Y 2 (fun _ => 0))] rfl ?_
      exact (q_abs (b_nlt k2 (n := 0) (by decide +kernel)) (b_lt k16 (n := (-1)) (by decide +kernel)) (by decide +kernel)).elim
    ·
      refine V_ws [(x0, oC 12 [.ref x1, .ref x30, .ref x59, .ref x88, .ref x117, .ref x126, .ref x127, .ref x129, .ref x132, .long 0]), (x59, oC 2 [.ref x60, .ref x62, .ref x64, .ref x66, .ref x68, .ref x70, .ref x72, .ref x74, .ref x76, .ref x78, .ref x85, .int 0]), (x88, oC 2 [.ref x89, .ref x91, .ref x93, .ref x95, .ref x97, .ref x99, .ref x101, .ref x103, .ref x105, .ref x107, .ref x114, .int 0]), (m0, oC 13 [.ref m1, .ref m2, .int 0, .ref m3, .ref m4, .int 0, .int 0, .int 0, .int (-1), .int 0, .int 0, .int 0, .long 0, .ref m5, .ref m6, .int 0, .int 0]), (m2, aZ Y 2 (fun _ => 0))] rfl ?_
      exact (q_abs (b_gt k17 (n := 2) (by decide +kernel)) (b_le k3 (n := 1) (by decide +kernel)) (by decide +kernel)).elim
  ·
    refine V_ws [(x0, oC 12 [.ref x1, .ref x30, .ref x59, .ref x88, .ref x117, .ref x126, .ref x127, .ref x129, .ref x132, .long 0]), (x59, oC 2 [.ref x60, .ref x62, .ref x64, .ref x66, .ref x68, .ref x70, .ref x72, .ref x74, .ref x76, .ref x78, .ref x85, .int 0]), (x88, oC 2 [.ref x89, .ref x91, .ref x93, .ref x95, .ref x97, .ref x99, .ref x101, .ref x103, .ref x105, .ref x107, .ref x114, .int 0]), (m0, oC 13 [.ref m1, .ref m2, .int 0, .ref m3, .ref m4, .int 0, .int 0, .int 0, .int (-1), .int 0, .int 0, .int 0, .long 0, .ref m5, .ref m6, .int 0, .int 0]), (m2, aZ Y 2 (fun _ => 0))] rfl ?_
    obtain rfl : p1 = 0 := k5
    refine V_aload_n 3317 B dL_law_3317 2 rfl ?_
    refine V_aload_n 3318 B dL_law_3318 4 rfl ?_
    refine V_iload 3319 B dL_law_3319 0 rfl ?_
    refine V_iconst 3321 B (v := 1) dL_law_3321 (by decide +kernel) ?_
    refine V_iadd 3322 B (v := 1) dL_law_3322 (by decide +kernel) ?_
    refine V_sld 3323 B hX hbl hbA (v := 0) (vpin _ _ (by decide +kernel)) dL_law_3323 e1 ?_
    refine V_cvi 3324 B (st := [.int 0]) (As := [.int 0]) (fun sz => mX12_restoreSnapshot_2 l D Y (m0) (m1) (m2) (m3) (m4) (m5) (m6) sz) glV_RL_373 ⟨rfl, rfl⟩ ⟨(Nat.le_of_ble_eq_true rfl), (Nat.le_of_ble_eq_true rfl)⟩ ⟨(Nat.le_of_ble_eq_true rfl), (Nat.le_of_ble_eq_true rfl)⟩ [3, 0] rfl 13 0 rfl rfl rfl rfl (Nat.le_of_ble_eq_true rfl) rfl (fun _ _ _ => rfl) dL_law_3324 (fun r18 u18 w18 => ?_)
    obtain rfl := w18
    refine V_ws [(x0, oC 12 [.ref x1, .ref x30, .ref x59, .ref x88, .ref x117, .ref x126, .ref x127, .ref x129, .ref x132, .long 0]), (x59, oC 2 [.ref x60, .ref x62, .ref x64, .ref x66, .ref x68, .ref x70, .ref x72, .ref x74, .ref x76, .ref x78, .ref x85, .int 0]), (x88, oC 2 [.ref x89, .ref x91, .ref x93, .ref x95, .ref x97, .ref x99, .ref x101, .ref x103, .ref x105, .ref x107, .ref x114, .int 0]), (m0, oC 13 [.ref m1, .ref m2, .int 0, .ref m3, .ref m4, .int 0, .int 0, .int 0, .int (-1), .int 0, .int 0, .int 0, .long 0, .ref m5, .ref m6, .int 0, .int 0]), (m2, aZ Y 2 (fun _ => 0))] rfl ?_
    refine V_icmp_eq_t 3327 B 3332 dL_law_3327 (by decide) (by decide +kernel) ?_
    refine V_iinc 3332 B (v := 6) (lv2 := [(4, .int 6), (3, .ref o0), (2, .ref m0), (1, .ref x0), (0, .ref b)]) dL_law_3332 0 rfl (by decide +kernel) (by decide) rfl ?_
    refine V_goto 3335 B 23 dL_law_3335 (by decide) ?_
    refine V_iload 23 B dL_law_23 0 rfl ?_
    refine V_aload_n 25 B dL_law_25 4 rfl ?_
    refine V_slen 26 B hX hbl hbA (v := 6) (by decide +kernel) dL_law_26 ?_
    refine V_bipush 27 B (v := 6) dL_law_27 (by decide +kernel) ?_
    refine V_isub 29 B (v := 0) dL_law_29 (by decide +kernel) ?_
    refine V_icmp_gt_t 30 B 3338 dL_law_30 (by decide) (by decide +kernel) ?_
    exact law_end B (Nat.le_of_ble_eq_true rfl) (Nat.le_of_ble_eq_true rfl) dL_law_3338 dL_law_3339
  ·
    refine V_ws [(x0, oC 12 [.ref x1, .ref x30, .ref x59, .ref x88, .ref x117, .ref x126, .ref x127, .ref x129, .ref x132, .long 0]), (x59, oC 2 [.ref x60, .ref x62, .ref x64, .ref x66, .ref x68, .ref x70, .ref x72, .ref x74, .ref x76, .ref x78, .ref x85, .int 0]), (x88, oC 2 [.ref x89, .ref x91, .ref x93, .ref x95, .ref x97, .ref x99, .ref x101, .ref x103, .ref x105, .ref x107, .ref x114, .int 0]), (m0, oC 13 [.ref m1, .ref m2, .int 0, .ref m3, .ref m4, .int 0, .int 0, .int 0, .int (-1), .int 0, .int 0, .int 0, .long 0, .ref m5, .ref m6, .int 0, .int 0]), (m2, aZ Y 2 (fun _ => 0))] rfl ?_
    refine V_aload_n 3317 B dL_law_3317 2 rfl ?_
    refine V_aload_n 3318 B dL_law_3318 4 rfl ?_
    refine V_iload 3319 B dL_law_3319 0 rfl ?_
    refine V_iconst 3321 B (v := 1) dL_law_3321 (by decide +kernel) ?_
    refine V_iadd 3322 B (v := 1) dL_law_3322 (by decide +kernel) ?_
    refine V_sld 3323 B hX hbl hbA (v := p1) (vpin _ _ (by decide +kernel)) dL_law_3323 e1 ?_
    refine V_cvi 3324 B (st := [.int 0]) (As := [.int p1]) (fun sz => mX12_restoreSnapshot_1 l D Y (m0) (m1) (m2) (m3) (m4) (m5) (m6) (p1) sz) glV_RL_373 ⟨rfl, rfl⟩ ⟨(Nat.le_of_ble_eq_true rfl), (Nat.le_of_ble_eq_true rfl)⟩ ⟨(Nat.le_of_ble_eq_true rfl), (Nat.le_of_ble_eq_true rfl)⟩ [3, 0] rfl 13 0 rfl rfl rfl rfl (Nat.le_of_ble_eq_true rfl) rfl (fun _ _ _ => rfl) dL_law_3324 (fun r19 u19 w19 => ?_)
    rcases w19 with ⟨k20, rfl⟩ | ⟨k21, rfl⟩ | ⟨k22, rfl⟩ | ⟨k23, rfl⟩
    ·
      refine V_ws [(x0, oC 12 [.ref x1, .ref x30, .ref x59, .ref x88, .ref x117, .ref x126, .ref x127, .ref x129, .ref x132, .long 0]), (x59, oC 2 [.ref x60, .ref x62, .ref x64, .ref x66, .ref x68, .ref x70, .ref x72, .ref x74, .ref x76, .ref x78, .ref x85, .int 0]), (x88, oC 2 [.ref x89, .ref x91, .ref x93, .ref x95, .ref x97, .ref x99, .ref x101, .ref x103, .ref x105, .ref x107, .ref x114, .int 0]), (m0, oC 13 [.ref m1, .ref m2, .int 0, .ref m3, .ref m4, .int 0, .int 0, .int 0, .int (-1), .int 0, .int 0, .int 0, .long 0, .ref m5, .ref m6, .int 0, .int 0]), (m2, aZ Y 2 (fun _ => 0))] rfl ?_
      exact absurd k20 (q_nel (b_nle k7 (n := 2) (by decide +kernel)) (by decide +kernel))
    ·
      refine V_ws [(x0, oC 12 [.ref x1, .ref x30, .ref x59, .ref x88, .ref x117, .ref x126, .ref x127, .ref x129, .ref x132, .long 0]), (x59, oC 2 [.ref x60, .ref x62, .ref x64, .ref x66, .ref x68, .ref x70, .ref x72, .ref x74, .ref x76, .ref x78, .ref x85, .int 0]), (x88, oC 2 [.ref x89, .ref x91, .ref x93, .ref x95, .ref x97, .ref x99, .ref x101, .ref x103, .ref x105, .ref x107, .ref x114, .int 0]), (m0, oC 13 [.ref m1, .ref m2, .int 0, .ref m3, .ref m4, .int 0, .int 0, .int 0, .int (-1), .int 0, .int 0, .int 0, .long 0, .ref m5, .ref m6, .int 0, .int 0]), (m2, aZ Y 2 (fun _ => 0))] rfl ?_
      exact absurd k21 (q_nel (b_nle k7 (n := 2) (by decide +kernel)) (by decide +kernel))
    ·
      refine V_ws [(x0, oC 12 [.ref x1, .ref x30, .ref x59, .ref x88, .ref x117, .ref x126, .ref x127, .ref x129, .ref x132, .long 0]), (x59, oC 2 [.ref x60, .ref x62, .ref x64, .ref x66, .ref x68, .ref x70, .ref x72, .ref x74, .ref x76, .ref x78, .ref x85, .int 0]), (x88, oC 2 [.ref x89, .ref x91, .ref x93, .ref x95, .ref x97, .ref x99, .ref x101, .ref x103, .ref x105, .ref x107, .ref x114, .int 0]), (m0, oC 13 [.ref m1, .ref m2, .int 0, .ref m3, .ref m4, .int 0, .int 0, .int 0, .int (-1), .int 0, .int 0, .int 0, .long 0, .ref m5, .ref m6, .int 0, .int 0]), (m2, aZ Y 2 (fun _ => 0))] rfl ?_
      exact (q_abs (b_nle k7 (n := 2) (by decide +kernel)) (b_lt k22 (n := (-1)) (by decide +kernel)) (by decide +kernel)).elim
    ·
      refine V_ws [(x0, oC 12 [.ref x1, .ref x30, .ref x59, .ref x88, .ref x117, .ref x126, .ref x127, .ref x129, .ref x132, .long 0]), (x59, oC 2 [.ref x60, .ref x62, .ref x64, .ref x66, .ref x68, .ref x70, .ref x72, .ref x74, .ref x76, .ref x78, .ref x85, .int 0]), (x88, oC 2 [.ref x89, .ref x91, .ref x93, .ref x95, .ref x97, .ref x99, .ref x101, .ref x103, .ref x105, .ref x107, .ref x114, .int 0]), (m0, oC 13 [.ref m1, .ref m2, .int 0, .ref m3, .ref m4, .int 0, .int 0, .int 0, .int (-1), .int 0, .int 0, .int 0, .long 0, .ref m5, .ref m6, .int 0, .int 0]), (m2, aZ Y 2 (fun _ => 0))] rfl ?_
      refine V_icmp_eq_t 3327 B 3332 dL_law_3327 (by decide) (by decide +kernel) ?_
      refine V_iinc 3332 B (v := 6) (lv2 := [(4, .int 6), (3, .ref o0), (2, .ref m0), (1, .ref x0), (0, .ref b)]) dL_law_3332 0 rfl (by decide +kernel) (by decide) rfl ?_
      refine V_goto 3335 B 23 dL_law_3335 (by decide) ?_
      refine V_iload 23 B dL_law_23 0 rfl ?_
      refine V_aload_n 25 B dL_law_25 4 rfl ?_
      refine V_slen 26 B hX hbl hbA (v := 6) (by decide +kernel) dL_law_26 ?_
      refine V_bipush 27 B (v := 6) dL_law_27 (by decide +kernel) ?_
      refine V_isub 29 B (v := 0) dL_law_29 (by decide +kernel) ?_
      refine V_icmp_gt_t 30 B 3338 dL_law_30 (by decide) (by decide +kernel) ?_
      exact law_end B (Nat.le_of_ble_eq_true rfl) (Nat.le_of_ble_eq_true rfl) dL_law_3338 dL_law_3339
