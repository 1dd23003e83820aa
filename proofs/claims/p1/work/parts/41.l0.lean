theorem dL_law_3338 : decode cL_law 3338 = .ok (.iconst 1, 1) := by decide +kernel
theorem dL_law_3339 : decode cL_law 3339 = .ok (.ireturn, 1) := by decide +kernel
theorem dL_law_312 : decode cL_law 312 = .ok (.aload_n 1, 1) := by decide +kernel
theorem dL_law_313 : decode cL_law 313 = .ok (.aload_n 0, 1) := by decide +kernel
theorem dL_law_314 : decode cL_law 314 = .ok (.iload 4, 2) := by decide +kernel
theorem dL_law_316 : decode cL_law 316 = .ok (.iconst 1, 1) := by decide +kernel
theorem dL_law_317 : decode cL_law 317 = .ok (.iadd, 1) := by decide +kernel
theorem dL_law_318 : decode cL_law 318 = .ok (.iaload, 1) := by decide +kernel
theorem dL_law_319 : decode cL_law 319 = .ok (.aload_n 0, 1) := by decide +kernel
theorem dL_law_320 : decode cL_law 320 = .ok (.iload 4, 2) := by decide +kernel
theorem dL_law_322 : decode cL_law 322 = .ok (.iconst 2, 1) := by decide +kernel
theorem dL_law_323 : decode cL_law 323 = .ok (.iadd, 1) := by decide +kernel
theorem dL_law_324 : decode cL_law 324 = .ok (.iaload, 1) := by decide +kernel
theorem dL_law_325 : decode cL_law 325 = .ok (.aload_n 0, 1) := by decide +kernel
theorem dL_law_326 : decode cL_law 326 = .ok (.iload 4, 2) := by decide +kernel
theorem dL_law_328 : decode cL_law 328 = .ok (.iconst 3, 1) := by decide +kernel
theorem dL_law_329 : decode cL_law 329 = .ok (.iadd, 1) := by decide +kernel
theorem dL_law_330 : decode cL_law 330 = .ok (.iaload, 1) := by decide +kernel
theorem dL_law_331 : decode cL_law 331 = .ok (.aload_n 0, 1) := by decide +kernel
theorem dL_law_332 : decode cL_law 332 = .ok (.iload 4, 2) := by decide +kernel
theorem dL_law_334 : decode cL_law 334 = .ok (.iconst 4, 1) := by decide +kernel
theorem dL_law_335 : decode cL_law 335 = .ok (.iadd, 1) := by decide +kernel
theorem dL_law_336 : decode cL_law 336 = .ok (.iaload, 1) := by decide +kernel
theorem dL_law_337 : decode cL_law 337 = .ok (.aload_n 0, 1) := by decide +kernel
theorem dL_law_338 : decode cL_law 338 = .ok (.iload 4, 2) := by decide +kernel
theorem dL_law_340 : decode cL_law 340 = .ok (.iconst 5, 1) := by decide +kernel
theorem dL_law_341 : decode cL_law 341 = .ok (.iadd, 1) := by decide +kernel
theorem dL_law_342 : decode cL_law 342 = .ok (.iaload, 1) := by decide +kernel
theorem dL_law_343 : decode cL_law 343 = .ok (.invokevirtual 150, 3) := by decide +kernel
theorem glV_RL_150 : GLV RL 150 yX11_appendInput RX11 cX11_appendInput 6 (some .int) 5 := ⟨⟨(mT2 159 rfl rfl), (mT2 160 rfl rfl), (mT2 161 rfl rfl), (mT1 1 rfl rfl), (mT2 162 rfl rfl)⟩, by decide +kernel⟩
theorem dL_law_346 : decode cL_law 346 = .ok (.aload_n 2, 1) := by decide +kernel
theorem dL_law_347 : decode cL_law 347 = .ok (.aload_n 0, 1) := by decide +kernel
theorem dL_law_348 : decode cL_law 348 = .ok (.iload 4, 2) := by decide +kernel
theorem dL_law_350 : decode cL_law 350 = .ok (.iconst 1, 1) := by decide +kernel
theorem dL_law_351 : decode cL_law 351 = .ok (.iadd, 1) := by decide +kernel
theorem dL_law_352 : decode cL_law 352 = .ok (.iaload, 1) := by decide +kernel
theorem dL_law_353 : decode cL_law 353 = .ok (.aload_n 0, 1) := by decide +kernel
theorem dL_law_354 : decode cL_law 354 = .ok (.iload 4, 2) := by decide +kernel
theorem dL_law_356 : decode cL_law 356 = .ok (.iconst 2, 1) := by decide +kernel
theorem dL_law_357 : decode cL_law 357 = .ok (.iadd, 1) := by decide +kernel
theorem dL_law_358 : decode cL_law 358 = .ok (.iaload, 1) := by decide +kernel
theorem dL_law_359 : decode cL_law 359 = .ok (.aload_n 0, 1) := by decide +kernel
theorem dL_law_360 : decode cL_law 360 = .ok (.iload 4, 2) := by decide +kernel
theorem dL_law_362 : decode cL_law 362 = .ok (.iconst 3, 1) := by decide +kernel
theorem dL_law_363 : decode cL_law 363 = .ok (.iadd, 1) := by decide +kernel
theorem dL_law_364 : decode cL_law 364 = .ok (.iaload, 1) := by decide +kernel
theorem dL_law_365 : decode cL_law 365 = .ok (.aload_n 0, 1) := by decide +kernel
theorem dL_law_366 : decode cL_law 366 = .ok (.iload 4, 2) := by decide +kernel
theorem dL_law_368 : decode cL_law 368 = .ok (.iconst 4, 1) := by decide +kernel
theorem dL_law_369 : decode cL_law 369 = .ok (.iadd, 1) := by decide +kernel
theorem dL_law_370 : decode cL_law 370 = .ok (.iaload, 1) := by decide +kernel
theorem dL_law_371 : decode cL_law 371 = .ok (.aload_n 0, 1) := by decide +kernel
theorem dL_law_372 : decode cL_law 372 = .ok (.iload 4, 2) := by decide +kernel
theorem dL_law_374 : decode cL_law 374 = .ok (.iconst 5, 1) := by decide +kernel
theorem dL_law_375 : decode cL_law 375 = .ok (.iadd, 1) := by decide +kernel
theorem dL_law_376 : decode cL_law 376 = .ok (.iaload, 1) := by decide +kernel
theorem dL_law_377 : decode cL_law 377 = .ok (.invokevirtual 154, 3) := by decide +kernel
theorem glV_RL_154 : GLV RL 154 yX12_appendInput RX12 cX12_appendInput 6 (some .int) 5 := ⟨⟨(mT9 173 rfl rfl), (mT9 174 rfl rfl), (mT9 175 rfl rfl), (mT1 13 rfl rfl), (mT9 176 rfl rfl)⟩, by decide +kernel⟩
theorem dL_law_380 : decode cL_law 380 = .ok (.if_icmp .eq 2952, 3) := by decide +kernel
theorem dL_law_3332 : decode cL_law 3332 = .ok (.iinc 4 6, 3) := by decide +kernel
theorem dL_law_3335 : decode cL_law 3335 = .ok (.goto (-3312), 3) := by decide +kernel
theorem dL_law_23 : decode cL_law 23 = .ok (.iload 4, 2) := by decide +kernel
theorem dL_law_25 : decode cL_law 25 = .ok (.aload_n 0, 1) := by decide +kernel
theorem dL_law_26 : decode cL_law 26 = .ok (.arraylength, 1) := by decide +kernel
theorem dL_law_27 : decode cL_law 27 = .ok (.bipush 6, 2) := by decide +kernel
theorem dL_law_29 : decode cL_law 29 = .ok (.isub, 1) := by decide +kernel
theorem dL_law_30 : decode cL_law 30 = .ok (.if_icmp .gt 3308, 3) := by decide +kernel
set_option maxRecDepth 100000 in
set_option maxHeartbeats 4000000 in
theorem law_c0 {p : Program} {l : Launch} {e : Env} {s : State} {m : MethodId} {below : List Frame} {meth : Method} {c : Code} {b : Nat} {xs : Nat → Int32} {D : va_G} {Y : Nat → ClassId} (B : VB p s m #[Value.ref b] meth c D Y (fun q => s.heap.size ≤ q) cL_law 8 RL ret) (EB : EX (fun q => s.heap.size ≤ q) s s.heap) (hl9 : l.stackTraces = false) (hX : va_X b 6 xs s s.heap) (hbl : b < s.heap.size) (hbA : ¬ (fun q => s.heap.size ≤ q) b) (x0 x1 x30 x59 x88 x117 x126 x127 x129 x132 x128 m0 m1 m2 m3 m4 m5 m6 o0 : Nat) (p1 p2 p3 p4 p5 : Int32) (e1 : xs 1 = p1) (e2 : xs 2 = p2) (e3 : xs 3 = p3) (e4 : xs 4 = p4) (e5 : xs 5 = p5) : V p l e room_1 s m #[Value.ref b] below meth c D (fun q => s.heap.size ≤ q) 8 149 10574 (lw_Z below #[Value.ref b] s) 312 [(4, .int 0), (3, .ref o0), (2, .ref m0), (1, .ref x0), (0, .ref b)] [] [(x0, oC 12 [.ref x1, .ref x30, .ref x59, .ref x88, .ref x117, .ref x126, .ref x127, .ref x129, .ref x132, .long 0]), (x127, oC 8 [.ref x128, .int 0, .int 0, .int 0, .int 0, .int 0, .long 0, .int 0, .int (-1)]), (x128, aB Y 1600 (fun _ => 0)), (m0, oC 13 [.ref m1, .ref m2, .int 0, .ref m3, .ref m4, .int 0, .int 0, .int 0, .int (-1), .int 0, .int 0, .int 0, .long 0, .ref m5, .ref m6, .int 0, .int 0]), (m4, aB Y 1600 (fun _ => 0))] := by
  refine V_aload_n 312 B dL_law_312 3 rfl ?_
  refine V_aload_n 313 B dL_law_313 4 rfl ?_
  refine V_iload 314 B dL_law_314 0 rfl ?_
  refine V_iconst 316 B (v := 1) dL_law_316 (by decide +kernel) ?_
  refine V_iadd 317 B (v := 1) dL_law_317 (by decide +kernel) ?_
  refine V_sld 318 B hX hbl hbA (v := p1) (vpin _ _ (by decide +kernel)) dL_law_318 e1 ?_
  refine V_aload_n 319 B dL_law_319 4 rfl ?_
  refine V_iload 320 B dL_law_320 0 rfl ?_
  refine V_iconst 322 B (v := 2) dL_law_322 (by decide +kernel) ?_
  refine V_iadd 323 B (v := 2) dL_law_323 (by decide +kernel) ?_
  refine V_sld 324 B hX hbl hbA (v := p2) (vpin _ _ (by decide +kernel)) dL_law_324 e2 ?_
  refine V_aload_n 325 B dL_law_325 4 rfl ?_
  refine V_iload 326 B dL_law_326 0 rfl ?_
  refine V_iconst 328 B (v := 3) dL_law_328 (by decide +kernel) ?_
  refine V_iadd 329 B (v := 3) dL_law_329 (by decide +kernel) ?_
  refine V_sld 330 B hX hbl hbA (v := p3) (vpin _ _ (by decide +kernel)) dL_law_330 e3 ?_
  refine V_aload_n 331 B dL_law_331 4 rfl ?_
  refine V_iload 332 B dL_law_332 0 rfl ?_
  refine V_iconst 334 B (v := 4) dL_law_334 (by decide +kernel) ?_
  refine V_iadd 335 B (v := 4) dL_law_335 (by decide +kernel) ?_
  refine V_sld 336 B hX hbl hbA (v := p4) (vpin _ _ (by decide +kernel)) dL_law_336 e4 ?_
  refine V_aload_n 337 B dL_law_337 4 rfl ?_
  refine V_iload 338 B dL_law_338 0 rfl ?_
  refine V_iconst 340 B (v := 5) dL_law_340 (by decide +kernel) ?_
  refine V_iadd 341 B (v := 5) dL_law_341 (by decide +kernel) ?_
  refine V_sld 342 B hX hbl hbA (v := p5) (vpin _ _ (by decide +kernel)) dL_law_342 e5 ?_
  refine V_cvi 343 B (st := []) (As := [.int p1, .int p2, .int p3, .int p4, .int p5]) (fun sz => mX11_appendInput_1 l D Y (x0) (x1) (x30) (x59) (x88) (x117) (x126) (x127) (x129) (x132) (x128) (p1) (p2) (p3) (p4) (p5) sz) glV_RL_150 ⟨rfl, rfl⟩ ⟨(Nat.le_of_ble_eq_true rfl), (Nat.le_of_ble_eq_true rfl)⟩ ⟨(Nat.le_of_ble_eq_true rfl), (Nat.le_of_ble_eq_true rfl)⟩ [0, 0, 0] rfl 12 0 rfl rfl rfl rfl (Nat.le_of_ble_eq_true rfl) rfl (fun _ _ _ => rfl) dL_law_343 (fun r0 u0 w0 => ?_)
  obtain rfl := w0
  refine V_ws [(x0, oC 12 [.ref x1, .ref x30, .ref x59, .ref x88, .ref x117, .ref x126, .ref x127, .ref x129, .ref x132, .long 0]), (x127, oC 8 [.ref x128, .int 20, .int 0, .int 0, .int 0, .int 0, .long 0, .int 0, .int (-1)]), (x128, aB Y 1600 (upd (upd (upd (upd (upd (upd (upd (upd (upd (upd (upd (upd (upd (upd (upd (upd (upd (upd (upd (upd (fun _ => 0) 0 (vp_nar .byte ((p1 >>> (24 &&& 31)).toInt8.toInt32))) 1 (vp_nar .byte ((p1 >>> (16 &&& 31)).toInt8.toInt32))) 2 (vp_nar .byte ((p1 >>> (8 &&& 31)).toInt8.toInt32))) 3 (vp_nar .byte ((p1 >>> (0 &&& 31)).toInt8.toInt32))) 4 (vp_nar .byte ((p2 >>> (24 &&& 31)).toInt8.toInt32))) 5 (vp_nar .byte ((p2 >>> (16 &&& 31)).toInt8.toInt32))) 6 (vp_nar .byte ((p2 >>> (8 &&& 31)).toInt8.toInt32))) 7 (vp_nar .byte ((p2 >>> (0 &&& 31)).toInt8.toInt32))) 8 (vp_nar .byte ((p3 >>> (24 &&& 31)).toInt8.toInt32))) 9 (vp_nar .byte ((p3 >>> (16 &&& 31)).toInt8.toInt32))) 10 (vp_nar .byte ((p3 >>> (8 &&& 31)).toInt8.toInt32))) 11 (vp_nar .byte ((p3 >>> (0 &&& 31)).toInt8.toInt32))) 12 (vp_nar .byte ((p4 >>> (24 &&& 31)).toInt8.toInt32))) 13 (vp_nar .byte ((p4 >>> (16 &&& 31)).toInt8.toInt32))) 14 (vp_nar .byte ((p4 >>> (8 &&& 31)).toInt8.toInt32))) 15 (vp_nar .byte ((p4 >>> (0 &&& 31)).toInt8.toInt32))) 16 (vp_nar .byte ((p5 >>> (24 &&& 31)).toInt8.toInt32))) 17 (vp_nar .byte ((p5 >>> (16 &&& 31)).toInt8.toInt32))) 18 (vp_nar .byte ((p5 >>> (8 &&& 31)).toInt8.toInt32))) 19 (vp_nar .byte ((p5 >>> (0 &&& 31)).toInt8.toInt32)))), (m0, oC 13 [.ref m1, .ref m2, .int 0, .ref m3, .ref m4, .int 0, .int 0, .int 0, .int (-1), .int 0, .int 0, .int 0, .long 0, .ref m5, .ref m6, .int 0, .int 0]), (m4, aB Y 1600 (fun _ => 0))] rfl ?_
  refine V_aload_n 346 B dL_law_346 2 rfl ?_
  refine V_aload_n 347 B dL_law_347 4 rfl ?_
  refine V_iload 348 B dL_law_348 0 rfl ?_
  refine V_iconst 350 B (v := 1) dL_law_350 (by decide +kernel) ?_
  refine V_iadd 351 B (v := 1) dL_law_351 (by decide +kernel) ?_
  refine V_sld 352 B hX hbl hbA (v := p1) (vpin _ _ (by decide +kernel)) dL_law_352 e1 ?_
  refine V_aload_n 353 B dL_law_353 4 rfl ?_
  refine V_iload 354 B dL_law_354 0 rfl ?_
  refine V_iconst 356 B (v := 2) dL_law_356 (by decide +kernel) ?_
  refine V_iadd 357 B (v := 2) dL_law_357 (by decide +kernel) ?_
  refine V_sld 358 B hX hbl hbA (v := p2) (vpin _ _ (by decide +kernel)) dL_law_358 e2 ?_
  refine V_aload_n 359 B dL_law_359 4 rfl ?_
  refine V_iload 360 B dL_law_360 0 rfl ?_
  refine V_iconst 362 B (v := 3) dL_law_362 (by decide +kernel) ?_
  refine V_iadd 363 B (v := 3) dL_law_363 (by decide +kernel) ?_
  refine V_sld 364 B hX hbl hbA (v := p3) (vpin _ _ (by decide +kernel)) dL_law_364 e3 ?_
  refine V_aload_n 365 B dL_law_365 4 rfl ?_
  refine V_iload 366 B dL_law_366 0 rfl ?_
  refine V_iconst 368 B (v := 4) dL_law_368 (by decide +kernel) ?_
  refine V_iadd 369 B (v := 4) dL_law_369 (by decide +kernel) ?_
  refine V_sld 370 B hX hbl hbA (v := p4) (vpin _ _ (by decide +kernel)) dL_law_370 e4 ?_
  refine V_aload_n 371 B dL_law_371 4 rfl ?_
  refine V_iload 372 B dL_law_372 0 rfl ?_
  refine V_iconst 374 B (v := 5) dL_law_374 (by decide +kernel) ?_
  refine V_iadd 375 B (v := 5) dL_law_375 (by decide +kernel) ?_
  refine V_sld 376 B hX hbl hbA (v := p5) (vpin _ _ (by decide +kernel)) dL_law_376 e5 ?_
  refine V_cvi 377 B (st := [.int 20]) (As := [.int p1, .int p2, .int p3, .int p4, .int p5]) (fun sz => mX12_appendInput_1 l D Y (m0) (m1) (m2) (m3) (m4) (m5) (m6) (p1) (p2) (p3) (p4) (p5) sz) glV_RL_154 ⟨rfl, rfl⟩ ⟨(Nat.le_of_ble_eq_true rfl), (Nat.le_of_ble_eq_true rfl)⟩ ⟨(Nat.le_of_ble_eq_true rfl), (Nat.le_of_ble_eq_true rfl)⟩ [3, 0] rfl 13 0 rfl rfl rfl rfl (Nat.le_of_ble_eq_true rfl) rfl (fun _ _ _ => rfl) dL_law_377 (fun r1 u1 w1 => ?_)
  obtain rfl := w1
  refine V_ws [(x0, oC 12 [.ref x1, .ref x30, .ref x59, .ref x88, .ref x117, .ref x126, .ref x127, .ref x129, .ref x132, .long 0]), (x127, oC 8 [.ref x128, .int 20, .int 0, .int 0, .int 0, .int 0, .long 0, .int 0, .int (-1)]), (x128, aB Y 1600 (upd (upd (upd (upd (upd (upd (upd (upd (upd (upd (upd (upd (upd (upd (upd (upd (upd (upd (upd (upd (fun _ => 0) 0 (vp_nar .byte ((p1 >>> (24 &&& 31)).toInt8.toInt32))) 1 (vp_nar .byte ((p1 >>> (16 &&& 31)).toInt8.toInt32))) 2 (vp_nar .byte ((p1 >>> (8 &&& 31)).toInt8.toInt32))) 3 (vp_nar .byte ((p1 >>> (0 &&& 31)).toInt8.toInt32))) 4 (vp_nar .byte ((p2 >>> (24 &&& 31)).toInt8.toInt32))) 5 (vp_nar .byte ((p2 >>> (16 &&& 31)).toInt8.toInt32))) 6 (vp_nar .byte ((p2 >>> (8 &&& 31)).toInt8.toInt32))) 7 (vp_nar .byte ((p2 >>> (0 &&& 31)).toInt8.toInt32))) 8 (vp_nar .byte ((p3 >>> (24 &&& 31)).toInt8.toInt32))) 9 (vp_nar .byte ((p3 >>> (16 &&& 31)).toInt8.toInt32))) 10 (vp_nar .byte ((p3 >>> (8 &&& 31)).toInt8.toInt32))) 11 (vp_nar .byte ((p3 >>> (0 &&& 31)).toInt8.toInt32))) 12 (vp_nar .byte ((p4 >>> (24 &&& 31)).toInt8.toInt32))) 13 (vp_nar .byte ((p4 >>> (16 &&& 31)).toInt8.toInt32))) 14 (vp_nar .byte ((p4 >>> (8 &&& 31)).toInt8.toInt32))) 15 (vp_nar .byte ((p4 >>> (0 &&& 31)).toInt8.toInt32))) 16 (vp_nar .byte ((p5 >>> (24 &&& 31)).toInt8.toInt32))) 17 (vp_nar .byte ((p5 >>> (16 &&& 31)).toInt8.toInt32))) 18 (vp_nar .byte ((p5 >>> (8 &&& 31)).toInt8.toInt32))) 19 (vp_nar .byte ((p5 >>> (0 &&& 31)).toInt8.toInt32)))), (m0, oC 13 [.ref m1, .ref m2, .int 0, .ref m3, .ref m4, .int 20, .int 0, .int 0, .int (-1), .int 0, .int 0, .int 0, .long 0, .ref m5, .ref m6, .int 0, .int 0]), (m4, aB Y 1600 (upd (upd (upd (upd (upd (upd (upd (upd (upd (upd (upd (upd (upd (upd (upd (upd (upd (upd (upd (upd (fun _ => 0) 0 (vp_nar .byte ((p1 >>> (24 &&& 31)).toInt8.toInt32))) 1 (vp_nar .byte ((p1 >>> (16 &&& 31)).toInt8.toInt32))) 2 (vp_nar .byte ((p1 >>> (8 &&& 31)).toInt8.toInt32))) 3 (vp_nar .byte ((p1 >>> (0 &&& 31)).toInt8.toInt32))) 4 (vp_nar .byte ((p2 >>> (24 &&& 31)).toInt8.toInt32))) 5 (vp_nar .byte ((p2 >>> (16 &&& 31)).toInt8.toInt32))) 6 (vp_nar .byte ((p2 >>> (8 &&& 31)).toInt8.toInt32))) 7 (vp_nar .byte ((p2 >>> (0 &&& 31)).toInt8.toInt32))) 8 (vp_nar .byte ((p3 >>> (24 &&& 31)).toInt8.toInt32))) 9 (vp_nar .byte ((p3 >>> (16 &&& 31)).toInt8.toInt32))) 10 (vp_nar .byte ((p3 >>> (8 &&& 31)).toInt8.toInt32))) 11 (vp_nar .byte ((p3 >>> (0 &&& 31)).toInt8.toInt32))) 12 (vp_nar .byte ((p4 >>> (24 &&& 31)).toInt8.toInt32))) 13 (vp_nar .byte ((p4 >>> (16 &&& 31)).toInt8.toInt32))) 14 (vp_nar .byte ((p4 >>> (8 &&& 31)).toInt8.toInt32))) 15 (vp_nar .byte ((p4 >>> (0 &&& 31)).toInt8.toInt32))) 16 (vp_nar .byte ((p5 >>> (24 &&& 31)).toInt8.toInt32))) 17 (vp_nar .byte ((p5 >>> (16 &&& 31)).toInt8.toInt32))) 18 (vp_nar .byte ((p5 >>> (8 &&& 31)).toInt8.toInt32))) 19 (vp_nar .byte ((p5 >>> (0 &&& 31)).toInt8.toInt32))))] rfl ?_
  refine V_icmp_eq_t 380 B 3332 dL_law_380 (by decide) (by decide +kernel) ?_
  refine V_iinc 3332 B (v := 6) (lv2 := [(4, .int 6), (3, .ref o0), (2, .ref m0), (1, .ref x0), (0, .ref b)]) dL_law_3332 0 rfl (by decide +kernel) (by decide) rfl ?_
  refine V_goto 3335 B 23 dL_law_3335 (by decide) ?_
  refine V_iload 23 B dL_law_23 0 rfl ?_
  refine V_aload_n 25 B dL_law_25 4 rfl ?_
  refine V_slen 26 B hX hbl hbA (v := 6) (by decide +kernel) dL_law_26 ?_
  refine V_bipush 27 B (v := 6) dL_law_27 (by decide +kernel) ?_
  refine V_isub 29 B (v := 0) dL_law_29 (by decide +kernel) ?_
  refine V_icmp_gt_t 30 B 3338 dL_law_30 (by decide) (by decide +kernel) ?_
  exact law_end B (Nat.le_of_ble_eq_true rfl) (Nat.le_of_ble_eq_true rfl) dL_law_3338 dL_law_3339
set_option maxRecDepth 100000 in
set_option maxHeartbeats 4000000 in
theorem mX12_inRange_1 (l : Launch) (D : va_G) (Y : Nat → ClassId)  (sz : Nat) : Met l yX12_inRange (WSm yX12_inRange cX12_inRange 6 (some .boolean)) (mkR 0 0 0 0) (PreC D Y [.long 0, .long 0, .long 0] [] sz) (QI D (fun (r : Int32) (u : Unit) => 1 = r) (fun (_ : Unit) => []) (va_A [] sz)) 0 0 (va_A [] sz) :=
  met_of (by decide +kernel) (Nat.le_of_ble_eq_true rfl) (fun p e s m args below meth c B hin hsz => by
    have B : VB p s m args meth c D Y (va_A [] sz) cX12_inRange 6 RX12 (some .boolean) := B
    refine V_lload_n 0 B dX12_inRange_0 0 rfl ?_
    refine V_lload_n 1 B dX12_inRange_1 1 rfl ?_
    refine V_lcmp 2 B (v := 0) dX12_inRange_2 (by decide +kernel) ?_
    refine V_if_lt_f 3 B 17 dX12_inRange_3 (by decide) (by decide +kernel) ?_
    refine V_lload_n 6 B dX12_inRange_6 0 rfl ?_
    refine V_lload 7 B dX12_inRange_7 2 rfl ?_
    refine V_lcmp 9 B (v := 0) dX12_inRange_9 (by decide +kernel) ?_
    refine V_if_gt_f 10 B 17 dX12_inRange_10 (by decide) (by decide +kernel) ?_
    refine V_iconst 13 B (v := 1) dX12_inRange_13 (by decide +kernel) ?_
    refine V_goto 14 B 18 dX12_inRange_14 (by decide) ?_
    exact V_zret 18 B rfl dX12_inRange_18 () rfl rfl)
set_option maxRecDepth 100000 in
set_option maxHeartbeats 4000000 in
theorem mX12_truncateInput_2 (l : Launch) (D : va_G) (Y : Nat → ClassId) (h0 : Nat) (g0 : Nat) (g1 : Nat) (g2 : Nat) (g3 : Nat) (g4 : Nat) (g5 : Nat) (sz : Nat) : Met l yX12_truncateInput (WSm yX12_truncateInput cX12_truncateInput 2 (some .int)) (mkR 1 0 0 25) (PreC D Y [.ref h0, .int 0] [(h0, oC 13 [.ref g0, .ref g1, .int 0, .ref g2, .ref g3, .int 0, .int 0, .int 0, .int (-1), .int 0, .int 0, .int 0, .long 0, .ref g4, .ref g5, .int 0, .int 0])] sz) (QI D (fun (r : Int32) (u : Unit) => 0 = r) (fun (_ : Unit) => [(h0, oC 13 [.ref g0, .ref g1, .int 0, .ref g2, .ref g3, .int 0, .int 0, .int 0, .int (-1), .int 0, .int 0, .int 0, .long 0, .ref g4, .ref g5, .int 0, .int 0])]) (va_A [(h0, oC 13 [.ref g0, .ref g1, .int 0, .ref g2, .ref g3, .int 0, .int 0, .int 0, .int (-1), .int 0, .int 0, .int 0, .long 0, .ref g4, .ref g5, .int 0, .int 0])] sz)) 0 0 (va_A [(h0, oC 13 [.ref g0, .ref g1, .int 0, .ref g2, .ref g3, .int 0, .int 0, .int 0, .int (-1), .int 0, .int 0, .int 0, .long 0, .ref g4, .ref g5, .int 0, .int 0])] sz) :=
  met_of (by decide +kernel) (Nat.le_of_ble_eq_true rfl) (fun p e s m args below meth c B hin hsz => by
    have B : VB p s m args meth c D Y (va_A [(h0, oC 13 [.ref g0, .ref g1, .int 0, .ref g2, .ref g3, .int 0, .int 0, .int 0, .int (-1), .int 0, .int 0, .int 0, .long 0, .ref g4, .ref g5, .int 0, .int 0])] sz) cX12_truncateInput 2 RX12 (some .int) := B
    refine V_aload_n 0 B dX12_truncateInput_0 0 rfl ?_
    refine V_iconst 1 B (v := 0) dX12_truncateInput_1 (by decide +kernel) ?_
    refine V_put 2 B gp_RX12_38 0 rfl (Nat.le_of_ble_eq_true rfl) rfl rfl dX12_truncateInput_2 [(h0, oC 13 [.ref g0, .ref g1, .int 0, .ref g2, .ref g3, .int 0, .int 0, .int 0, .int (-1), .int 0, .int 0, .int 0, .long 0, .ref g4, .ref g5, .int 0, .int 0])] rfl ?_
    refine V_iload_n 5 B dX12_truncateInput_5 1 rfl ?_
    refine V_i2l 6 B (v := 0) dX12_truncateInput_6 (by decide +kernel) ?_
    refine V_lconst 7 B (v := 0) dX12_truncateInput_7 (by decide +kernel) ?_
    refine V_aload_n 8 B dX12_truncateInput_8 0 rfl ?_
    refine V_get 9 B gf_RX12_240 0 rfl rfl dX12_truncateInput_9 ?_
    refine V_i2l 12 B (v := 0) dX12_truncateInput_12 (by decide +kernel) ?_
    refine V_csi 13 B (st := []) (As := [.long 0, .long 0, .long 0]) (fun sz => mX12_inRange_1 l D Y  sz) glS_RX12_41 ⟨rfl, rfl⟩ ⟨(Nat.le_of_ble_eq_true rfl), (Nat.le_of_ble_eq_true rfl)⟩ ⟨(Nat.le_of_ble_eq_true rfl), (Nat.le_of_ble_eq_true rfl)⟩ [] rfl rfl (Nat.le_of_ble_eq_true rfl) rfl (fun _ _ _ => rfl) dX12_truncateInput_13 (fun r0 u0 w0 => ?_)
    obtain rfl := w0
    refine V_ws [(h0, oC 13 [.ref g0, .ref g1, .int 0, .ref g2, .ref g3, .int 0, .int 0, .int 0, .int (-1), .int 0, .int 0, .int 0, .long 0, .ref g4, .ref g5, .int 0, .int 0])] rfl ?_
    refine V_if_ne_t 16 B 21 dX12_truncateInput_16 (by decide) (by decide +kernel) ?_
    refine V_aload_n 21 B dX12_truncateInput_21 0 rfl ?_
    refine V_iload_n 22 B dX12_truncateInput_22 1 rfl ?_
    refine V_put 23 B gp_RX12_240 0 rfl (Nat.le_of_ble_eq_true rfl) rfl rfl dX12_truncateInput_23 [(h0, oC 13 [.ref g0, .ref g1, .int 0, .ref g2, .ref g3, .int 0, .int 0, .int 0, .int (-1), .int 0, .int 0, .int 0, .long 0, .ref g4, .ref g5, .int 0, .int 0])] rfl ?_
    refine V_iload_n 26 B dX12_truncateInput_26 1 rfl ?_
    exact V_iret 27 B dX12_truncateInput_27 () rfl rfl)
theorem dL_law_385 : decode cL_law 385 = .ok (.aload_n 1, 1) := by decide +kernel
theorem dL_law_386 : decode cL_law 386 = .ok (.aload_n 0, 1) := by decide +kernel
theorem dL_law_387 : decode cL_law 387 = .ok (.iload 4, 2) := by decide +kernel
theorem dL_law_389 : decode cL_law 389 = .ok (.iconst 1, 1) := by decide +kernel
theorem dL_law_390 : decode cL_law 390 = .ok (.iadd, 1) := by decide +kernel
theorem dL_law_391 : decode cL_law 391 = .ok (.iaload, 1) := by decide +kernel
theorem dL_law_392 : decode cL_law 392 = .ok (.invokevirtual 155, 3) := by decide +kernel
theorem glV_RL_155 : GLV RL 155 yX11_truncateInput RX11 cX11_truncateInput 2 (some .int) 1 := ⟨⟨(mT2 167 rfl rfl), (mT2 168 rfl rfl), (mT2 169 rfl rfl), (mT1 1 rfl rfl), (mT2 170 rfl rfl)⟩, by decide +kernel⟩
theorem dL_law_395 : decode cL_law 395 = .ok (.aload_n 2, 1) := by decide +kernel
theorem dL_law_396 : decode cL_law 396 = .ok (.aload_n 0, 1) := by decide +kernel
theorem dL_law_397 : decode cL_law 397 = .ok (.iload 4, 2) := by decide +kernel
theorem dL_law_399 : decode cL_law 399 = .ok (.iconst 1, 1) := by decide +kernel
theorem dL_law_400 : decode cL_law 400 = .ok (.iadd, 1) := by decide +kernel
theorem dL_law_401 : decode cL_law 401 = .ok (.iaload, 1) := by decide +kernel
theorem dL_law_402 : decode cL_law 402 = .ok (.invokevirtual 158, 3) := by decide +kernel
theorem glV_RL_158 : GLV RL 158 yX12_truncateInput RX12 cX12_truncateInput 2 (some .int) 1 := ⟨⟨(mT9 181 rfl rfl), (mT9 182 rfl rfl), (mT9 183 rfl rfl), (mT1 13 rfl rfl), (mT9 184 rfl rfl)⟩, by decide +kernel⟩
theorem dL_law_405 : decode cL_law 405 = .ok (.if_icmp .eq 2927, 3) := by decide +kernel
set_option maxRecDepth 100000 in
set_option maxHeartbeats 4000000 in
theorem law_c1 {p : Program} {l : Launch} {e : Env} {s : State} {m : MethodId} {below : List Frame} {meth : Method} {c : Code} {b : Nat} {xs : Nat → Int32} {D : va_G} {Y : Nat → ClassId} (B : VB p s m #[Value.ref b] meth c D Y (fun q => s.heap.size ≤ q) cL_law 8 RL ret) (EB : EX (fun q => s.heap.size ≤ q) s s.heap) (hl9 : l.stackTraces = false) (hX : va_X b 6 xs s s.heap) (hbl : b < s.heap.size) (hbA : ¬ (fun q => s.heap.size ≤ q) b) (x0 x1 x30 x59 x88 x117 x126 x127 x129 x132 x128 m0 m1 m2 m3 m4 m5 m6 o0 : Nat) (p1 : Int32) (e1 : xs 1 = p1) : V p l e room_1 s m #[Value.ref b] below meth c D (fun q => s.heap.size ≤ q) 8 149 10574 (lw_Z below #[Value.ref b] s) 385 [(4, .int 0), (3, .ref o0), (2, .ref m0), (1, .ref x0), (0, .ref b)] [] [(x0, oC 12 [.ref x1, .ref x30, .ref x59, .ref x88, .ref x117, .ref x126, .ref x127, .ref x129, .ref x132, .long 0]), (x127, oC 8 [.ref x128, .int 0, .int 0, .int 0, .int 0, .int 0, .long 0, .int 0, .int (-1)]), (m0, oC 13 [.ref m1, .ref m2, .int 0, .ref m3, .ref m4, .int 0, .int 0, .int 0, .int (-1), .int 0, .int 0, .int 0, .long 0, .ref m5, .ref m6, .int 0, .int 0])] := by
  refine V_aload_n 385 B dL_law_385 3 rfl ?_
  refine V_aload_n 386 B dL_law_386 4 rfl ?_
  refine V_iload 387 B dL_law_387 0 rfl ?_
  refine V_iconst 389 B (v := 1) dL_law_389 (by decide +kernel) ?_
  refine V_iadd 390 B (v := 1) dL_law_390 (by decide +kernel) ?_
  refine V_sld 391 B hX hbl hbA (v := p1) (vpin _ _ (by decide +kernel)) dL_law_391 e1 ?_
  refine V_cvi 392 B (st := []) (As := [.int p1]) (fun sz => mX11_truncateInput_1 l D Y (x0) (x1) (x30) (x59) (x88) (x117) (x126) (x127) (x129) (x132) (x128) (p1) sz) glV_RL_155 ⟨rfl, rfl⟩ ⟨(Nat.le_of_ble_eq_true rfl), (Nat.le_of_ble_eq_true rfl)⟩ ⟨(Nat.le_of_ble_eq_true rfl), (Nat.le_of_ble_eq_true rfl)⟩ [0, 0] rfl 12 0 rfl rfl rfl rfl (Nat.le_of_ble_eq_true rfl) rfl (fun _ _ _ => rfl) dL_law_392 (fun r0 u0 w0 => ?_)
  rcases w0 with ⟨k1, rfl⟩ | ⟨k2, rfl⟩ | ⟨k3, k4, rfl⟩
  ·
    refine V_ws [(x0, oC 12 [.ref x1, .ref x30, .ref x59, .ref x88, .ref x117, .ref x126, .ref x127, .ref x129, .ref x132, .long 0]), (x127, oC 8 [.ref x128, .int 0, .int 0, .int 0, .int 0, .int 0, .long 0, .int 0, .int (-1)]), (m0, oC 13 [.ref m1, .ref m2, .int 0, .ref m3, .ref m4, .int 0, .int 0, .int 0, .int (-1), .int 0, .int 0, .int 0, .long 0, .ref m5, .ref m6, .int 0, .int 0])] rfl ?_
    refine V_aload_n 395 B dL_law_395 2 rfl ?_
    refine V_aload_n 396 B dL_law_396 4 rfl ?_
    refine V_iload 397 B dL_law_397 0 rfl ?_
    refine V_iconst 399 B (v := 1) dL_law_399 (by decide +kernel) ?_
    refine V_iadd 400 B (v := 1) dL_law_400 (by decide +kernel) ?_
    refine V_sld 401 B hX hbl hbA (v := p1) (vpin _ _ (by decide +kernel)) dL_law_401 e1 ?_
    refine V_cvi 402 B (st := [.int (-1)]) (As := [.int p1]) (fun sz => mX12_truncateInput_1 l D Y (m0) (m1) (m2) (m3) (m4) (m5) (m6) (p1) sz) glV_RL_158 ⟨rfl, rfl⟩ ⟨(Nat.le_of_ble_eq_true rfl), (Nat.le_of_ble_eq_true rfl)⟩ ⟨(Nat.le_of_ble_eq_true rfl), (Nat.le_of_ble_eq_true rfl)⟩ [2] rfl 13 0 rfl rfl rfl rfl (Nat.le_of_ble_eq_true rfl) rfl (fun _ _ _ => rfl) dL_law_402 (fun r5 u5 w5 => ?_)
    rcases w5 with ⟨k6, rfl⟩ | ⟨k7, rfl⟩ | ⟨k8, rfl⟩
    ·
      refine V_ws [(x0, oC 12 [.ref x1, .ref x30, .ref x59, .ref x88, .ref x117, .ref x126, .ref x127, .ref x129, .ref x132, .long 0]), (x127, oC 8 [.ref x128, .int 0, .int 0, .int 0, .int 0, .int 0, .long 0, .int 0, .int (-1)]), (m0, oC 13 [.ref m1, .ref m2, .int 0, .ref m3, .ref m4, .int 0, .int 0, .int 0, .int (-1), .int 0, .int 0, .int 0, .long 0, .ref m5, .ref m6, .int 0, .int 0])] rfl ?_
      exact absurd k6 (q_neh (b_lt k1 (n := (-1)) (by decide +kernel)) (by decide +kernel))
    ·
      refine V_ws [(x0, oC 12 [.ref x1, .ref x30, .ref x59, .ref x88, .ref x117, .ref x126, .ref x127, .ref x129, .ref x132, .long 0]), (x127, oC 8 [.ref x128, .int 0, .int 0, .int 0, .int 0, .int 0, .long 0, .int 0, .int (-1)]), (m0, oC 13 [.ref m1, .ref m2, .int 0, .ref m3, .ref m4, .int 0, .int 0, .int 0, .int (-1), .int 0, .int 0, .int 0, .long 0, .ref m5, .ref m6, .int 0, .int 0])] rfl ?_
      refine V_icmp_eq_t 405 B 3332 dL_law_405 (by decide) (by decide +kernel) ?_
      refine V_iinc 3332 B (v := 6) (lv2 := [(4, .int 6), (3, .ref o0), (2, .ref m0), (1, .ref x0), (0, .ref b)]) dL_law_3332 0 rfl (by decide +kernel) (by decide) rfl ?_
      refine V_goto 3335 B 23 dL_law_3335 (by decide) ?_
      refine V_iload 23 B dL_law_23 0 rfl ?_
      refine V_aload_n 25 B dL_law_25 4 rfl ?_
      refine V_slen 26 B hX hbl hbA (v := 6) (by decide +kernel) dL_law_26 ?_
      refine V_bipush 27 B (v := 6) dL_law_27 (by decide +kernel) ?_
      refine V_isub 29 B (v := 0) dL_law_29 (by decide +kernel) ?_
      refine V_icmp_gt_t 30 B 3338 dL_law_30 (by decide) (by decide +kernel) ?_
      exact law_end B (Nat.le_of_ble_eq_true rfl) (Nat.le_of_ble_eq_true rfl) dL_law_3338 dL_law_3339
    ·
      refine V_ws [(x0, oC 12 [.ref x1, .ref x30, .ref x59, .ref x88, .ref x117, .ref x126, .ref x127, .ref x129, .ref x132, .long 0]), (x127, oC 8 [.ref x128, .int 0, .int 0, .int 0, .int 0, .int 0, .long 0, .int 0, .int (-1)]), (m0, oC 13 [.ref m1, .ref m2, .int 0, .ref m3, .ref m4, .int 0, .int 0, .int 0, .int (-1), .int 0, .int 0, .int 0, .long 0, .ref m5, .ref m6, .int 0, .int 0])] rfl ?_
      exact (q_abs (b_gt k8 (n := 1) (by decide +kernel)) (b_lt k1 (n := (-1)) (by decide +kernel)) (by decide +kernel)).elim
  ·
    refine V_ws [(x0, oC 12 [.ref x1, .ref x30, .ref x59, .ref x88, .ref x117, .ref x126, .ref x127, .ref x129, .ref x132, .long 0]), (x127, oC 8 [.ref x128, .int 0, .int 0, .int 0, .int 0, .int 0, .long 0, .int 0, .int (-1)]), (m0, oC 13 [.ref m1, .ref m2, .int 0, .ref m3, .ref m4, .int 0, .int 0, .int 0, .int (-1), .int 0, .int 0, .int 0, .long 0, .ref m5, .ref m6, .int 0, .int 0])] rfl ?_
    obtain rfl : p1 = 0 := k2
    refine V_aload_n 395 B dL_law_395 2 rfl ?_
    refine V_aload_n 396 B dL_law_396 4 rfl ?_
    refine V_iload 397 B dL_law_397 0 rfl ?_
    refine V_iconst 399 B (v := 1) dL_law_399 (by decide +kernel) ?_
    refine V_iadd 400 B (v := 1) dL_law_400 (by decide +kernel) ?_
    refine V_sld 401 B hX hbl hbA (v := 0) (vpin _ _ (by decide +kernel)) dL_law_401 e1 ?_
    refine V_cvi 402 B (st := [.int 0]) (As := [.int 0]) (fun sz => mX12_truncateInput_2 l D Y (m0) (m1) (m2) (m3) (m4) (m5) (m6) sz) glV_RL_158 ⟨rfl, rfl⟩ ⟨(Nat.le_of_ble_eq_true rfl), (Nat.le_of_ble_eq_true rfl)⟩ ⟨(Nat.le_of_ble_eq_true rfl), (Nat.le_of_ble_eq_true rfl)⟩ [2] rfl 13 0 rfl rfl rfl rfl (Nat.le_of_ble_eq_true rfl) rfl (fun _ _ _ => rfl) dL_law_402 (fun r9 u9 w9 => ?_)
    obtain rfl := w9
    refine V_ws [(x0, oC 12 [.ref x1, .ref x30, .ref x59, .ref x88, .ref x117, .ref x126, .ref x127, .ref x129, .ref x132, .long 0]), (x127, oC 8 [.ref x128, .int 0, .int 0, .int 0, .int 0, .int 0, .long 0, .int 0, .int (-1)]), (m0, oC 13 [.ref m1, .ref m2, .int 0, .ref m3, .ref m4, .int 0, .int 0, .int 0, .int (-1), .int 0, .int 0, .int 0, .long 0, .ref m5, .ref m6, .int 0, .int 0])] rfl ?_
    refine V_icmp_eq_t 405 B 3332 dL_law_405 (by decide) (by decide +kernel) ?_
    refine V_iinc 3332 B (v := 6) (lv2 := [(4, .int 6), (3, .ref o0), (2, .ref m0), (1, .ref x0), (0, .ref b)]) dL_law_3332 0 rfl (by decide +kernel) (by decide) rfl ?_
    refine V_goto 3335 B 23 dL_law_3335 (by decide) ?_
    refine V_iload 23 B dL_law_23 0 rfl ?_
    refine V_aload_n 25 B dL_law_25 4 rfl ?_
    refine V_slen 26 B hX hbl hbA (v := 6) (by decide +kernel) dL_law_26 ?_
    refine V_bipush 27 B (v := 6) dL_law_27 (by decide +kernel) ?_
    refine V_isub 29 B (v := 0) dL_law_29 (by decide +kernel) ?_
    refine V_icmp_gt_t 30 B 3338 dL_law_30 (by decide) (by decide +kernel) ?_
    exact law_end B (Nat.le_of_ble_eq_true rfl) (Nat.le_of_ble_eq_true rfl) dL_law_3338 dL_law_3339
  ·
    refine V_ws [(x0, oC 12 [.ref x1, .ref x30, .ref x59, .ref x88, .ref x117, .ref x126, .ref x127, .ref x129, .ref x132, .long 0]), (x127, oC 8 [.ref x128, .int 0, .int 0, .int 0, .int 0, .int 0, .long 0, .int 0, .int (-1)]), (m0, oC 13 [.ref m1, .ref m2, .int 0, .ref m3, .ref m4, .int 0, .int 0, .int 0, .int (-1), .int 0, .int 0, .int 0, .long 0, .ref m5, .ref m6, .int 0, .int 0])] rfl ?_
    refine V_aload_n 395 B dL_law_395 2 rfl ?_
    refine V_aload_n 396 B dL_law_396 4 rfl ?_
    refine V_iload 397 B dL_law_397 0 rfl ?_
    refine V_iconst 399 B (v := 1) dL_law_399 (by decide +kernel) ?_
    refine V_iadd 400 B (v := 1) dL_law_400 (by decide +kernel) ?_
    refine V_sld 401 B hX hbl hbA (v := p1) (vpin _ _ (by decide +kernel)) dL_law_401 e1 ?_
    refine V_cvi 402 B (st := [.int (-1)]) (As := [.int p1]) (fun sz => mX12_truncateInput_1 l D Y (m0) (m1) (m2) (m3) (m4) (m5) (m6) (p1) sz) glV_RL_158 ⟨rfl, rfl⟩ ⟨(Nat.le_of_ble_eq_true rfl), (Nat.le_of_ble_eq_true rfl)⟩ ⟨(Nat.le_of_ble_eq_true rfl), (Nat.le_of_ble_eq_true rfl)⟩ [2] rfl 13 0 rfl rfl rfl rfl (Nat.le_of_ble_eq_true rfl) rfl (fun _ _ _ => rfl) dL_law_402 (fun r10 u10 w10 => ?_)
    rcases w10 with ⟨k11, rfl⟩ | ⟨k12, rfl⟩ | ⟨k13, rfl⟩
    ·
      refine V_ws [(x0, oC 12 [.ref x1, .ref x30, .ref x59, .ref x88, .ref x117, .ref x126, .ref x127, .ref x129, .ref x132, .long 0]), (x127, oC 8 [.ref x128, .int 0, .int 0, .int 0, .int 0, .int 0, .long 0, .int 0, .int (-1)]), (m0, oC 13 [.ref m1, .ref m2, .int 0, .ref m3, .ref m4, .int 0, .int 0, .int 0, .int (-1), .int 0, .int 0, .int 0, .long 0, .ref m5, .ref m6, .int 0, .int 0])] rfl ?_
      exact absurd k11 (q_nel (b_nle k4 (n := 1) (by decide +kernel)) (by decide +kernel))
    ·
      refine V_ws [(x0, oC 12 [.ref x1, .ref x30, .ref x59, .ref x88, .ref x117, .ref x126, .ref x127, .ref x129, .ref x132, .long 0]), (x127, oC 8 [.ref x128, .int 0, .int 0, .int 0, .int 0, .int 0, .long 0, .int 0, .int (-1)]), (m0, oC 13 [.ref m1, .ref m2, .int 0, .ref m3, .ref m4, .int 0, .int 0, .int 0, .int (-1), .int 0, .int 0, .int 0, .long 0, .ref m5, .ref m6, .int 0, .int 0])] rfl ?_
      exact (q_abs (b_nle k4 (n := 1) (by decide +kernel)) (b_lt k12 (n := (-1)) (by decide +kernel)) (by decide +kernel)).elim
    ·
      refine V_ws [(x0, oC 12 [.ref x1, .ref x30, .ref x59, .ref x88, .ref x117, .ref x126, .ref x127, .ref x129, .ref x132, .long 0]), (x127, oC 8 [.ref x128, .int 0, .int 0, .int 0, .int 0, .int 0, .long 0, .int 0, .int (-1)]), (m0, oC 13 [.ref m1, .ref m2, .int 0, .ref m3, .ref m4, .int 0, .int 0, .int 0, .int (-1), .int 0, .int 0, .int 0, .long 0, .ref m5, .ref m6, .int 0, .int 0])] rfl ?_
      refine V_icmp_eq_t 405 B 3332 dL_law_405 (by decide) (by decide +kernel) ?_
      refine V_iinc 3332 B (v := 6) (lv2 := [(4, .int 6), (3, .ref o0), (2, .ref m0), (1, .ref x0), (0, .ref b)]) dL_law_3332 0 rfl (by decide +kernel) (by decide) rfl ?_
      refine V_goto 3335 B 23 dL_law_3335 (by decide) ?_
      refine V_iload 23 B dL_law_23 0 rfl ?_
      refine V_aload_n 25 B dL_law_25 4 rfl ?_
      refine V_slen 26 B hX hbl hbA (v := 6) (by decide +kernel) dL_law_26 ?_
      refine V_bipush 27 B (v := 6) dL_law_27 (by decide +kernel) ?_
      refine V_isub 29 B (v := 0) dL_law_29 (by decide +kernel) ?_
      refine V_icmp_gt_t 30 B 3338 dL_law_30 (by decide) (by decide +kernel) ?_
      exact law_end B (Nat.le_of_ble_eq_true rfl) (Nat.le_of_ble_eq_true rfl) dL_law_3338 dL_law_3339
theorem dL_law_410 : decode cL_law 410 = .ok (.aload_n 1, 1) := by decide +kernel
theorem dL_law_411 : decode cL_law 411 = .ok (.invokevirtual 159, 3) := by decide +kernel
theorem glV_RL_159 : GLV RL 159 yX11_load RX11 cX11_load 2 (some .int) 0 := ⟨⟨(mT2 171 rfl rfl), (mT2 172 rfl rfl), (mT2 173 rfl rfl), (mT1 1 rfl rfl), (mT2 174 rfl rfl)⟩, by decide +kernel⟩
theorem dL_law_414 : decode cL_law 414 = .ok (.aload_n 2, 1) := by decide +kernel
theorem dL_law_415 : decode cL_law 415 = .ok (.invokevirtual 163, 3) := by decide +kernel
theorem glV_RL_163 : GLV RL 163 yX12_load RX12 cX12_load 2 (some .int) 0 := ⟨⟨(mT9 193 rfl rfl), (mT9 194 rfl rfl), (mT9 195 rfl rfl), (mT1 13 rfl rfl), (mT9 196 rfl rfl)⟩, by decide +kernel⟩
theorem dL_law_418 : decode cL_law 418 = .ok (.if_icmp .eq 2914, 3) := by decide +kernel
set_option maxRecDepth 100000 in
set_option maxHeartbeats 4000000 in
theorem law_c2 {p : Program} {l : Launch} {e : Env} {s : State} {m : MethodId} {below : List Frame} {meth : Method} {c : Code} {b : Nat} {xs : Nat → Int32} {D : va_G} {Y : Nat → ClassId} (B : VB p s m #[Value.ref b] meth c D Y (fun q => s.heap.size ≤ q) cL_law 8 RL ret) (EB : EX (fun q => s.heap.size ≤ q) s s.heap) (hl9 : l.stackTraces = false) (hX : va_X b 6 xs s s.heap) (hbl : b < s.heap.size) (hbA : ¬ (fun q => s.heap.size ≤ q) b) (x0 x1 x30 x59 x88 x117 x126 x127 x129 x132 x2 x4 x6 x8 x10 x12 x14 x16 x18 x20 x27 x3 x5 x7 x9 x11 x13 x15 x17 x19 x21 x23 x25 x22 x24 x26 x28 x29 x31 x33 x35 x37 x39 x41 x43 x45 x47 x49 x56 x32 x34 x36 x38 x40 x42 x44 x46 x48 x50 x52 x54 x51 x53 x55 x57 x58 x60 x62 x64 x66 x68 x70 x72 x74 x76 x78 x85 x89 x91 x93 x95 x97 x99 x101 x103 x105 x107 x114 x128 x130 m0 m1 m2 m3 m4 m5 m6 o0 : Nat) : V p l e room_1 s m #[Value.ref b] below meth c D (fun q => s.heap.size ≤ q) 8 149 10574 (lw_Z below #[Value.ref b] s) 410 [(4, .int 0), (3, .ref o0), (2, .ref m0), (1, .ref x0), (0, .ref b)] [] [(x0, oC 12 [.ref x1, .ref x30, .ref x59, .ref x88, .ref x117, .ref x126, .ref x127, .ref x129, .ref x132, .long 0]), (x1, oC 2 [.ref x2, .ref x4, .ref x6, .ref x8, .ref x10, .ref x12, .ref x14, .ref x16, .ref x18, .ref x20, .ref x27, .int 0]), (x2, oC 3 [.ref x3, .int 1]), (x3, aI Y 6 (upd (fun _ => 0) 0 (-1))), (x4, oC 3 [.ref x5, .int 0]), (x5, aI Y 40 (fun _ => 0)), (x6, oC 3 [.ref x7, .int 0]), (x7, aI Y 40 (fun _ => 0)), (x8, oC 3 [.ref x9, .int 0]), (x9, aI Y 40 (fun _ => 0)), (x10, oC 7 [.ref x11, .int 0]), (x11, aJ Y 6 (fun _ => 0)), (x12, oC 3 [.ref x13, .int 0]), (x13, aI Y 80 (fun _ => 0)), (x14, oC 3 [.ref x15, .int 0]), (x15, aI Y 80 (fun _ => 0)), (x16, oC 7 [.ref x17, .int 0]), (x17, aJ Y 80 (fun _ => 0)), (x18, oC 7 [.ref x19, .int 0]), (x19, aJ Y 10 (fun _ => 0)), (x20, oC 4 [.ref x21, .ref x23, .ref x25, .int 0]), (x21, oC 3 [.ref x22, .int 0]), (x22, aI Y 4 (fun _ => 0)), (x23, oC 3 [.ref x24, .int 0]), (x24, aI Y 4 (fun _ => 0)), (x25, oC 3 [.ref x26, .int 0]), (x26, aI Y 104 (fun _ => 0)), (x27, oC 9 [.ref x28, .int 0, .long 0, .int (-1), .int 0, .int 0, .int 0, .int 0, .int 0]), (x28, oC 3 [.ref x29, .int 0]), (x29, aI Y 8 (fun _ => 0)), (x30, oC 2 [.ref x31, .ref x33, .ref x35, .ref x37, .ref x39, .ref x41, .ref x43, .ref x45, .ref x47, .ref x49, .ref x56, .int 0]), (x31, oC 3 [.ref x32, .int 1]), (x32, aI Y 6 (upd (fun _ => 0) 0 (-1))), (x33, oC 3 [.ref x34, .int 0]), (x34, aI Y 40 (fun _ => 0)), (x35, oC 3 [.ref x36, .int 0]), (x36, aI Y 40 (fun _ => 0)), (x37, oC 3 [.ref x38, .int 0]), (x38, aI Y 40 (fun _ => 0)), (x39, oC 7 [.ref x40, .int 0]), (x40, aJ Y 6 (fun _ => 0)), (x41, oC 3 [.ref x42, .int 0]), (x42, aI Y 80 (fun _ => 0)), (x43, oC 3 [.ref x44, .int 0]), (x44, aI Y 80 (fun _ => 0)), (x45, oC 7 [.ref x46, .int 0]), (x46, aJ Y 80 (fun _ => 0)), (x47, oC 7 [.ref x48, .int 0]), (x48, aJ Y 10 (fun _ => 0)), (x49, oC 4 [.ref x50, .ref x52, .ref x54, .int 0]), (x50, oC 3 [.ref x51, .int 0]), (x51, aI Y 4 (fun _ => 0)), (x52, oC 3 [.ref x53, .int 0]), (x53, aI Y 4 (fun _ => 0)), (x54, oC 3 [.ref x55, .int 0]), (x55, aI Y 104 (fun _ => 0)), (x56, oC 9 [.ref x57, .int 0, .long 0, .int (-1), .int 0, .int 0, .int 0, .int 0, .int 0]), (x57, oC 3 [.ref x58, .int 0]), (x58, aI Y 8 (fun _ => 0)), (x59, oC 2 [.ref x60, .ref x62, .ref x64, .ref x66, .ref x68, .ref x70, .ref x72, .ref x74, .ref x76, .ref x78, .ref x85, .int 0]), (x88, oC 2 [.ref x89, .ref x91, .ref x93, .ref x95, .ref x97, .ref x99, .ref x101, .ref x103, .ref x105, .ref x107, .ref x114, .int 0]), (x127, oC 8 [.ref x128, .int 0, .int 0, .int 0, .int 0, .int 0, .long 0, .int 0, .int (-1)]), (x129, oC 5 [.ref x127, .ref x30, .ref x130]), (m0, oC 13 [.ref m1, .ref m2, .int 0, .ref m3, .ref m4, .int 0, .int 0, .int 0, .int (-1), .int 0, .int 0, .int 0, .long 0, .ref m5, .ref m6, .int 0, .int 0]), (m1, aI Y 3640 (clB 0 (fun _ => 0))), (m2, aZ Y 2 (fun _ => 0))] := by
  refine V_aload_n 410 B dL_law_410 3 rfl ?_
  refine V_cvi 411 B (st := []) (As := []) (fun sz => mX11_load_1 l D Y (x0) (x1) (x30) (x59) (x88) (x117) (x126) (x127) (x129) (x132) (x2) (x4) (x6) (x8) (x10) (x12) (x14) (x16) (x18) (x20) (x27) (x3) (x5) (x7) (x9) (x11) (x13) (x15) (x17) (x19) (x21) (x23) (x25) (x22) (x24) (x26) (x28) (x29) (x31) (x33) (x35) (x37) (x39) (x41) (x43) (x45) (x47) (x49) (x56) (x32) (x34) (x36) (x38) (x40) (x42) (x44) (x46) (x48) (x50) (x52) (x54) (x51) (x53) (x55) (x57) (x58) (x60) (x62) (x64) (x66) (x68) (x70) (x72) (x74) (x76) (x78) (x85) (x89) (x91) (x93) (x95) (x97) (x99) (x101) (x103) (x105) (x107) (x114) (x128) (x130) sz) glV_RL_159 ⟨rfl, rfl⟩ ⟨(Nat.le_of_ble_eq_true rfl), (Nat.le_of_ble_eq_true rfl)⟩ ⟨(Nat.le_of_ble_eq_true rfl), (Nat.le_of_ble_eq_true rfl)⟩ [0, 0, 0, 0, 0, 0, 0, 0, 0, 0, 0, 0, 0, 0, 0, 0, 0, 0, 0, 0, 0, 0, 0, 0, 0, 0, 0, 0, 0, 0, 0, 0, 0, 0, 0, 0, 0, 0, 0, 0, 0, 0, 0, 0, 0, 0, 0, 0, 0, 0, 0, 0, 0, 0, 0, 0, 0, 0, 0, 0, 0, 0, 0] rfl 12 0 rfl rfl rfl rfl (Nat.le_of_ble_eq_true rfl) rfl (fun _ _ _ => rfl) dL_law_411 (fun r0 u0 w0 => ?_)
  obtain rfl := w0
  refine V_ws [(x0, oC 12 [.ref x1, .ref x30, .ref x59, .ref x88, .ref x117, .ref x126, .ref x127, .ref x129, .ref x132, .long 0]), (x1, oC 2 [.ref x2, .ref x4, .ref x6, .ref x8, .ref x10, .ref x12, .ref x14, .ref x16, .ref x18, .ref x20, .ref x27, .int 0]), (x2, oC 3 [.ref x3, .int 1]), (x3, aI Y 6 (upd (upd (fun _ => 0) 0 (-1)) 0 (-1))), (x4, oC 3 [.ref x5, .int 0]), (x5, aI Y 40 (fun _ => 0)), (x6, oC 3 [.ref x7, .int 0]), (x7, aI Y 40 (fun _ => 0)), (x8, oC 3 [.ref x9, .int 0]), (x9, aI Y 40 (fun _ => 0)), (x10, oC 7 [.ref x11, .int 0]), (x11, aJ Y 6 (fun _ => 0)), (x12, oC 3 [.ref x13, .int 0]), (x13, aI Y 80 (fun _ => 0)), (x14, oC 3 [.ref x15, .int 0]), (x15, aI Y 80 (fun _ => 0)), (x16, oC 7 [.ref x17, .int 0]), (x17, aJ Y 80 (fun _ => 0)), (x18, oC 7 [.ref x19, .int 0]), (x19, aJ Y 10 (fun _ => 0)), (x20, oC 4 [.ref x21, .ref x23, .ref x25, .int 0]), (x21, oC 3 [.ref x22, .int 0]), (x22, aI Y 4 (fun _ => 0)), (x23, oC 3 [.ref x24, .int 0]), (x24, aI Y 4 (fun _ => 0)), (x25, oC 3 [.ref x26, .int 0]), (x26, aI Y 104 (fun _ => 0)), (x27, oC 9 [.ref x28, .int 0, .long 0, .int (-1), .int 0, .int 0, .int 0, .int 0, .int 0]), (x28, oC 3 [.ref x29, .int 0]), (x29, aI Y 8 (fun _ => 0)), (x30, oC 2 [.ref x31, .ref x33, .ref x35, .ref x37, .ref x39, .ref x41, .ref x43, .ref x45, .ref x47, .ref x49, .ref x56, .int 0]), (x31, oC 3 [.ref x32, .int 1]), (x32, aI Y 6 (upd (upd (fun _ => 0) 0 (-1)) 0 (-1))), (x33, oC 3 [.ref x34, .int 0]), (x34, aI Y 40 (fun _ => 0)), (x35, oC 3 [.ref x36, .int 0]), (x36, aI Y 40 (fun _ => 0)), (x37, oC 3 [.ref x38, .int 0]), (x38, aI Y 40 (fun _ => 0)), (x39, oC 7 [.ref x40, .int 0]), (x40, aJ Y 6 (fun _ => 0)), (x41, oC 3 [.ref x42, .int 0]), (x42, aI Y 80 (fun _ => 0)), (x43, oC 3 [.ref x44, .int 0]), (x44, aI Y 80 (fun _ => 0)), (x45, oC 7 [.ref x46, .int 0]), (x46, aJ Y 80 (fun _ => 0)), (x47, oC 7 [.ref x48, .int 0]), (x48, aJ Y 10 (fun _ => 0)), (x49, oC 4 [.ref x50, .ref x52, .ref x54, .int 0]), (x50, oC 3 [.ref x51, .int 0]), (x51, aI Y 4 (fun _ => 0)), (x52, oC 3 [.ref x53, .int 0]), (x53, aI Y 4 (fun _ => 0)), (x54, oC 3 [.ref x55, .int 0]), (x55, aI Y 104 (fun _ => 0)), (x56, oC 9 [.ref x57, .int 0, .long 0, .int (-1), .int 0, .int 0, .int 0, .int 0, .int 0]), (x57, oC 3 [.ref x58, .int 0]), (x58, aI Y 8 (fun _ => 0)), (x59, oC 2 [.ref x60, .ref x62, .ref x64, .ref x66, .ref x68, .ref x70, .ref x72, .ref x74, .ref x76, .ref x78, .ref x85, .int 0]), (x88, oC 2 [.ref x89, .ref x91, .ref x93, .ref x95, .ref x97, .ref x99, .ref x101, .ref x103, .ref x105, .ref x107, .ref x114, .int 0]), (x127, oC 8 [.ref x128, .int 0, .int 0, .int 0, .int 0, .int 0, .long 0, .int 0, .int (-1)]), (x129, oC 5 [.ref x127, .ref x30, .ref x130]), (m0, oC 13 [.ref m1, .ref m2, .int 0, .ref m3, .ref m4, .int 0, .int 0, .int 0, .int (-1), .int 0, .int 0, .int 0, .long 0, .ref m5, .ref m6, .int 0, .int 0]), (m1, aI Y 3640 (clB 0 (fun _ => 0))), (m2, aZ Y 2 (fun _ => 0))] rfl ?_
  refine V_aload_n 414 B dL_law_414 2 rfl ?_
  refine V_cvi 415 B (st := [.int 0]) (As := []) (fun sz => mX12_load_1 l D Y (m0) (m1) (m2) (m3) (m4) (m5) (m6) sz) glV_RL_163 ⟨rfl, rfl⟩ ⟨(Nat.le_of_ble_eq_true rfl), (Nat.le_of_ble_eq_true rfl)⟩ ⟨(Nat.le_of_ble_eq_true rfl), (Nat.le_of_ble_eq_true rfl)⟩ [63, 0, 0] rfl 13 0 rfl rfl rfl rfl (Nat.le_of_ble_eq_true rfl) rfl (fun _ _ _ => rfl) dL_law_415 (fun r1 u1 w1 => ?_)
  obtain rfl := w1
  refine V_ws [(x0, oC 12 [.ref x1, .ref x30, .ref x59, .ref x88, .ref x117, .ref x126, .ref x127, .ref x129, .ref x132, .long 0]), (x1, oC 2 [.ref x2, .ref x4, .ref x6, .ref x8, .ref x10, .ref x12, .ref x14, .ref x16, .ref x18, .ref x20, .ref x27, .int 0]), (x2, oC 3 [.ref x3, .int 1]), (x3, aI Y 6 (upd (upd (fun _ => 0) 0 (-1)) 0 (-1))), (x4, oC 3 [.ref x5, .int 0]), (x5, aI Y 40 (fun _ => 0)), (x6, oC 3 [.ref x7, .int 0]), (x7, aI Y 40 (fun _ => 0)), (x8, oC 3 [.ref x9, .int 0]), (x9, aI Y 40 (fun _ => 0)), (x10, oC 7 [.ref x11, .int 0]), (x11, aJ Y 6 (fun _ => 0)), (x12, oC 3 [.ref x13, .int 0]), (x13, aI Y 80 (fun _ => 0)), (x14, oC 3 [.ref x15, .int 0]), (x15, aI Y 80 (fun _ => 0)), (x16, oC 7 [.ref x17, .int 0]), (x17, aJ Y 80 (fun _ => 0)), (x18, oC 7 [.ref x19, .int 0]), (x19, aJ Y 10 (fun _ => 0)), (x20, oC 4 [.ref x21, .ref x23, .ref x25, .int 0]), (x21, oC 3 [.ref x22, .int 0]), (x22, aI Y 4 (fun _ => 0)), (x23, oC 3 [.ref x24, .int 0]), (x24, aI Y 4 (fun _ => 0)), (x25, oC 3 [.ref x26, .int 0]), (x26, aI Y 104 (fun _ => 0)), (x27, oC 9 [.ref x28, .int 0, .long 0, .int (-1), .int 0, .int 0, .int 0, .int 0, .int 0]), (x28, oC 3 [.ref x29, .int 0]), (x29, aI Y 8 (fun _ => 0)), (x30, oC 2 [.ref x31, .ref x33, .ref x35, .ref x37, .ref x39, .ref x41, .ref x43, .ref x45, .ref x47, .ref x49, .ref x56, .int 0]), (x31, oC 3 [.ref x32, .int 1]), (x32, aI Y 6 (upd (upd (fun _ => 0) 0 (-1)) 0 (-1))), (x33, oC 3 [.ref x34, .int 0]), (x34, aI Y 40 (fun _ => 0)), (x35, oC 3 [.ref x36, .int 0]), (x36, aI Y 40 (fun _ => 0)), (x37, oC 3 [.ref x38, .int 0]), (x38, aI Y 40 (fun _ => 0)), (x39, oC 7 [.ref x40, .int 0]), (x40, aJ Y 6 (fun _ => 0)), (x41, oC 3 [.ref x42, .int 0]), (x42, aI Y 80 (fun _ => 0)), (x43, oC 3 [.ref x44, .int 0]), (x44, aI Y 80 (fun _ => 0)), (x45, oC 7 [.ref x46, .int 0]), (x46, aJ Y 80 (fun _ => 0)), (x47, oC 7 [.ref x48, .int 0]), (x48, aJ Y 10 (fun _ => 0)), (x49, oC 4 [.ref x50, .ref x52, .ref x54, .int 0]), (x50, oC 3 [.ref x51, .int 0]), (x51, aI Y 4 (fun _ => 0)), (x52, oC 3 [.ref x53, .int 0]), (x53, aI Y 4 (fun _ => 0)), (x54, oC 3 [.ref x55, .int 0]), (x55, aI Y 104 (fun _ => 0)), (x56, oC 9 [.ref x57, .int 0, .long 0, .int (-1), .int 0, .int 0, .int 0, .int 0, .int 0]), (x57, oC 3 [.ref x58, .int 0]), (x58, aI Y 8 (fun _ => 0)), (x59, oC 2 [.ref x60, .ref x62, .ref x64, .ref x66, .ref x68, .ref x70, .ref x72, .ref x74, .ref x76, .ref x78, .ref x85, .int 0]), (x88, oC 2 [.ref x89, .ref x91, .ref x93, .ref x95, .ref x97, .ref x99, .ref x101, .ref x103, .ref x105, .ref x107, .ref x114, .int 0]), (x127, oC 8 [.ref x128, .int 0, .int 0, .int 0, .int 0, .int 0, .long 0, .int 0, .int (-1)]), (x129, oC 5 [.ref x127, .ref x30, .ref x130]), (m0, oC 13 [.ref m1, .ref m2, .int 0, .ref m3, .ref m4, .int 0, .int 0, .int 0, .int (-1), .int 0, .int 0, .int 0, .long 0, .ref m5, .ref m6, .int 0, .int 0]), (m1, aI Y 3640 (cpB 3 0 906 (clB 3 (clB 0 (fun _ => 0))))), (m2, aZ Y 2 (upd (upd (fun _ => 0) 0 (vp_nar .boolean 0)) 1 (vp_nar .boolean 0)))] rfl ?_
  refine V_icmp_eq_t 418 B 3332 dL_law_418 (by decide) (by decide +kernel) ?_
  refine V_iinc 3332 B (v := 6) (lv2 := [(4, .int 6), (3, .ref o0), (2, .ref m0), (1, .ref x0), (0, .ref b)]) dL_law_3332 0 rfl (by decide +kernel) (by decide) rfl ?_
  refine V_goto 3335 B 23 dL_law_3335 (by decide) ?_
  refine V_iload 23 B dL_law_23 0 rfl ?_
  refine V_aload_n 25 B dL_law_25 4 rfl ?_
  refine V_slen 26 B hX hbl hbA (v := 6) (by decide +kernel) dL_law_26 ?_
  refine V_bipush 27 B (v := 6) dL_law_27 (by decide +kernel) ?_
  refine V_isub 29 B (v := 0) dL_law_29 (by decide +kernel) ?_
  refine V_icmp_gt_t 30 B 3338 dL_law_30 (by decide) (by decide +kernel) ?_
  exact law_end B (Nat.le_of_ble_eq_true rfl) (Nat.le_of_ble_eq_true rfl) dL_law_3338 dL_law_3339
theorem dL_law_423 : decode cL_law 423 = .ok (.aload_n 1, 1) := by decide +kernel
theorem dL_law_424 : decode cL_law 424 = .ok (.invokevirtual 164, 3) := by decide +kernel
theorem glV_RL_164 : GLV RL 164 yX11_errorCode RX11 cX11_errorCode 1 (some .int) 0 := ⟨⟨(mT3 207 rfl rfl), (mT3 208 rfl rfl), (mT3 209 rfl rfl), (mT1 1 rfl rfl), (mT3 210 rfl rfl)⟩, by decide +kernel⟩
theorem dL_law_427 : decode cL_law 427 = .ok (.aload_n 2, 1) := by decide +kernel
theorem dL_law_428 : decode cL_law 428 = .ok (.invokevirtual 167, 3) := by decide +kernel
theorem glV_RL_167 : GLV RL 167 yX12_errorCode RX12 cX12_errorCode 1 (some .int) 0 := ⟨⟨(mT9 185 rfl rfl), (mT9 186 rfl rfl), (mT9 187 rfl rfl), (mT1 13 rfl rfl), (mT9 188 rfl rfl)⟩, by decide +kernel⟩
theorem dL_law_431 : decode cL_law 431 = .ok (.if_icmp .eq 2901, 3) := by decide +kernel
set_option maxRecDepth 100000 in
set_option maxHeartbeats 4000000 in
theorem law_c3 {p : Program} {l : Launch} {e : Env} {s : State} {m : MethodId} {below : List Frame} {meth : Method} {c : Code} {b : Nat} {xs : Nat → Int32} {D : va_G} {Y : Nat → ClassId} (B : VB p s m #[Value.ref b] meth c D Y (fun q => s.heap.size ≤ q) cL_law 8 RL ret) (EB : EX (fun q => s.heap.size ≤ q) s s.heap) (hl9 : l.stackTraces = false) (hX : va_X b 6 xs s s.heap) (hbl : b < s.heap.size) (hbA : ¬ (fun q => s.heap.size ≤ q) b) (x0 x1 x30 x59 x88 x117 x126 x127 x129 x132 x128 m0 m1 m2 m3 m4 m5 m6 o0 : Nat) : V p l e room_1 s m #[Value.ref b] below meth c D (fun q => s.heap.size ≤ q) 8 149 10574 (lw_Z below #[Value.ref b] s) 423 [(4, .int 0), (3, .ref o0), (2, .ref m0), (1, .ref x0), (0, .ref b)] [] [(x0, oC 12 [.ref x1, .ref x30, .ref x59, .ref x88, .ref x117, .ref x126, .ref x127, .ref x129, .ref x132, .long 0]), (x127, oC 8 [.ref x128, .int 0, .int 0, .int 0, .int 0, .int 0, .long 0, .int 0, .int (-1)]), (m0, oC 13 [.ref m1, .ref m2, .int 0, .ref m3, .ref m4, .int 0, .int 0, .int 0, .int (-1), .int 0, .int 0, .int 0, .long 0, .ref m5, .ref m6, .int 0, .int 0])] := by
  refine V_aload_n 423 B dL_law_423 3 rfl ?_
  refine V_cvi 424 B (st := []) (As := []) (fun sz => mX11_errorCode_1 l D Y (x0) (x1) (x30) (x59) (x88) (x117) (x126) (x127) (x129) (x132) (x128) sz) glV_RL_164 ⟨rfl, rfl⟩ ⟨(Nat.le_of_ble_eq_true rfl), (Nat.le_of_ble_eq_true rfl)⟩ ⟨(Nat.le_of_ble_eq_true rfl), (Nat.le_of_ble_eq_true rfl)⟩ [0, 0] rfl 12 0 rfl rfl rfl rfl (Nat.le_of_ble_eq_true rfl) rfl (fun _ _ _ => rfl) dL_law_424 (fun r0 u0 w0 => ?_)
  obtain rfl := w0
  refine V_ws [(x0, oC 12 [.ref x1, .ref x30, .ref x59, .ref x88, .ref x117, .ref x126, .ref x127, .ref x129, .ref x132, .long 0]), (x127, oC 8 [.ref x128, .int 0, .int 0, .int 0, .int 0, .int 0, .long 0, .int 0, .int (-1)]), (m0, oC 13 [.ref m1, .ref m2, .int 0, .ref m3, .ref m4, .int 0, .int 0, .int 0, .int (-1), .int 0, .int 0, .int 0, .long 0, .ref m5, .ref m6, .int 0, .int 0])] rfl ?_
  refine V_aload_n 427 B dL_law_427 2 rfl ?_
  refine V_cvi 428 B (st := [.int 0]) (As := []) (fun sz => mX12_errorCode_1 l D Y (m0) (m1) (m2) (m3) (m4) (m5) (m6) sz) glV_RL_167 ⟨rfl, rfl⟩ ⟨(Nat.le_of_ble_eq_true rfl), (Nat.le_of_ble_eq_true rfl)⟩ ⟨(Nat.le_of_ble_eq_true rfl), (Nat.le_of_ble_eq_true rfl)⟩ [2] rfl 13 0 rfl rfl rfl rfl (Nat.le_of_ble_eq_true rfl) rfl (fun _ _ _ => rfl) dL_law_428 (fun r1 u1 w1 => ?_)
  obtain rfl := w1
  refine V_ws [(x0, oC 12 [.ref x1, .ref x30, .ref x59, .ref x88, .ref x117, .ref x126, .ref x127, .ref x129, .ref x132, .long 0]), (x127, oC 8 [.ref x128, .int 0, .int 0, .int 0, .int 0, .int 0, .long 0, .int 0, .int (-1)]), (m0, oC 13 [.ref m1, .ref m2, .int 0, .ref m3, .ref m4, .int 0, .int 0, .int 0, .int (-1), .int 0, .int 0, .int 0, .long 0, .ref m5, .ref m6, .int 0, .int 0])] rfl ?_
  refine V_icmp_eq_t 431 B 3332 dL_law_431 (by decide) (by decide +kernel) ?_
  refine V_iinc 3332 B (v := 6) (lv2 := [(4, .int 6), (3, .ref o0), (2, .ref m0), (1, .ref x0), (0, .ref b)]) dL_law_3332 0 rfl (by decide +kernel) (by decide) rfl ?_
  refine V_goto 3335 B 23 dL_law_3335 (by decide) ?_
  refine V_iload 23 B dL_law_23 0 rfl ?_
  refine V_aload_n 25 B dL_law_25 4 rfl ?_
  refine V_slen 26 B hX hbl hbA (v := 6) (by decide +kernel) dL_law_26 ?_
  refine V_bipush 27 B (v := 6) dL_law_27 (by decide +kernel) ?_
  refine V_isub 29 B (v := 0) dL_law_29 (by decide +kernel) ?_
  refine V_icmp_gt_t 30 B 3338 dL_law_30 (by decide) (by decide +kernel) ?_
  exact law_end B (Nat.le_of_ble_eq_true rfl) (Nat.le_of_ble_eq_true rfl) dL_law_3338 dL_law_3339
theorem dL_law_436 : decode cL_law 436 = .ok (.aload_n 1, 1) := by decide +kernel
theorem dL_law_437 : decode cL_law 437 = .ok (.invokevirtual 168, 3) := by decide +kernel
theorem glV_RL_168 : GLV RL 168 yX11_errorPosition RX11 cX11_errorPosition 1 (some .int) 0 := ⟨⟨(mT3 211 rfl rfl), (mT3 212 rfl rfl), (mT3 213 rfl rfl), (mT1 1 rfl rfl), (mT3 214 rfl rfl)⟩, by decide +kernel⟩
theorem dL_law_440 : decode cL_law 440 = .ok (.aload_n 2, 1) := by decide +kernel
theorem dL_law_441 : decode cL_law 441 = .ok (.invokevirtual 171, 3) := by decide +kernel
theorem glV_RL_171 : GLV RL 171 yX12_errorPosition RX12 cX12_errorPosition 1 (some .int) 0 := ⟨⟨(mT9 189 rfl rfl), (mT9 190 rfl rfl), (mT9 191 rfl rfl), (mT1 13 rfl rfl), (mT9 192 rfl rfl)⟩, by decide +kernel⟩
theorem dL_law_444 : decode cL_law 444 = .ok (.if_icmp .eq 2888, 3) := by decide +kernel
set_option maxRecDepth 100000 in
set_option maxHeartbeats 4000000 in
theorem law_c4 {p : Program} {l : Launch} {e : Env} {s : State} {m : MethodId} {below : List Frame} {meth : Method} {c : Code} {b : Nat} {xs : Nat → Int32} {D : va_G} {Y : Nat → ClassId} (B : VB p s m #[Value.ref b] meth c D Y (fun q => s.heap.size ≤ q) cL_law 8 RL ret) (EB : EX (fun q => s.heap.size ≤ q) s s.heap) (hl9 : l.stackTraces = false) (hX : va_X b 6 xs s s.heap) (hbl : b < s.heap.size) (hbA : ¬ (fun q => s.heap.size ≤ q) b) (x0 x1 x30 x59 x88 x117 x126 x127 x129 x132 x128 m0 m1 m2 m3 m4 m5 m6 o0 : Nat) : V p l e room_1 s m #[Value.ref b] below meth c D (fun q => s.heap.size ≤ q) 8 149 10574 (lw_Z below #[Value.ref b] s) 436 [(4, .int 0), (3, .ref o0), (2, .ref m0), (1, .ref x0), (0, .ref b)] [] [(x0, oC 12 [.ref x1, .ref x30, .ref x59, .ref x88, .ref x117, .ref x126, .ref x127, .ref x129, .ref x132, .long 0]), (x127, oC 8 [.ref x128, .int 0, .int 0, .int 0, .int 0, .int 0, .long 0, .int 0, .int (-1)]), (m0, oC 13 [.ref m1, .ref m2, .int 0, .ref m3, .ref m4, .int 0, .int 0, .int 0, .int (-1), .int 0, .int 0, .int 0, .long 0, .ref m5, .ref m6, .int 0, .int 0])] := by
  refine V_aload_n 436 B dL_law_436 3 rfl ?_
  refine V_cvi 437 B (st := []) (As := []) (fun sz => mX11_errorPosition_1 l D Y (x0) (x1) (x30) (x59) (x88) (x117) (x126) (x127) (x129) (x132) (x128) sz) glV_RL_168 ⟨rfl, rfl⟩ ⟨(Nat.le_of_ble_eq_true rfl), (Nat.le_of_ble_eq_true rfl)⟩ ⟨(Nat.le_of_ble_eq_true rfl), (Nat.le_of_ble_eq_true rfl)⟩ [0, 0] rfl 12 0 rfl rfl rfl rfl (Nat.le_of_ble_eq_true rfl) rfl (fun _ _ _ => rfl) dL_law_437 (fun r0 u0 w0 => ?_)
  obtain rfl := w0
  refine V_ws [(x0, oC 12 [.ref x1, .ref x30, .ref x59, .ref x88, .ref x117, .ref x126, .ref x127, .ref x129, .ref x132, .long 0]), (x127, oC 8 [.ref x128, .int 0, .int 0, .int 0, .int 0, .int 0, .long 0, .int 0, .int (-1)]), (m0, oC 13 [.ref m1, .ref m2, .int 0, .ref m3, .ref m4, .int 0, .int 0, .int 0, .int (-1), .int 0, .int 0, .int 0, .long 0, .ref m5, .ref m6, .int 0, .int 0])] rfl ?_
  refine V_aload_n 440 B dL_law_440 2 rfl ?_
  refine V_cvi 441 B (st := [.int (-1)]) (As := []) (fun sz => mX12_errorPosition_1 l D Y (m0) (m1) (m2) (m3) (m4) (m5) (m6) sz) glV_RL_171 ⟨rfl, rfl⟩ ⟨(Nat.le_of_ble_eq_true rfl), (Nat.le_of_ble_eq_true rfl)⟩ ⟨(Nat.le_of_ble_eq_true rfl), (Nat.le_of_ble_eq_true rfl)⟩ [2] rfl 13 0 rfl rfl rfl rfl (Nat.le_of_ble_eq_true rfl) rfl (fun _ _ _ => rfl) dL_law_441 (fun r1 u1 w1 => ?_)
  obtain rfl := w1
  refine V_ws [(x0, oC 12 [.ref x1, .ref x30, .ref x59, .ref x88, .ref x117, .ref x126, .ref x127, .ref x129, .ref x132, .long 0]), (x127, oC 8 [.ref x128, .int 0, .int 0, .int 0, .int 0, .int 0, .long 0, .int 0, .int (-1)]), (m0, oC 13 [.ref m1, .ref m2, .int 0, .ref m3, .ref m4, .int 0, .int 0, .int 0, .int (-1), .int 0, .int 0, .int 0, .long 0, .ref m5, .ref m6, .int 0, .int 0])] rfl ?_
  refine V_icmp_eq_t 444 B 3332 dL_law_444 (by decide) (by decide +kernel) ?_
  refine V_iinc 3332 B (v := 6) (lv2 := [(4, .int 6), (3, .ref o0), (2, .ref m0), (1, .ref x0), (0, .ref b)]) dL_law_3332 0 rfl (by decide +kernel) (by decide) rfl ?_
  refine V_goto 3335 B 23 dL_law_3335 (by decide) ?_
  refine V_iload 23 B dL_law_23 0 rfl ?_
  refine V_aload_n 25 B dL_law_25 4 rfl ?_
  refine V_slen 26 B hX hbl hbA (v := 6) (by decide +kernel) dL_law_26 ?_
  refine V_bipush 27 B (v := 6) dL_law_27 (by decide +kernel) ?_
  refine V_isub 29 B (v := 0) dL_law_29 (by decide +kernel) ?_
  refine V_icmp_gt_t 30 B 3338 dL_law_30 (by decide) (by decide +kernel) ?_
  exact law_end B (Nat.le_of_ble_eq_true rfl) (Nat.le_of_ble_eq_true rfl) dL_law_3338 dL_law_3339
set_option maxRecDepth 100000 in
set_option maxHeartbeats 4000000 in
theorem mX12_count_2 (l : Launch) (D : va_G) (Y : Nat → ClassId) (h0 : Nat) (h1 : Nat) (g0 : Nat) (g1 : Nat) (g2 : Nat) (g3 : Nat) (g4 : Nat) (sz : Nat) : Met l yX12_count (WSm yX12_count cX12_count 2 (some .int)) (mkR 0 0 0 0) (PreC D Y [.ref h0, .int 0] [(h0, oC 13 [.ref h1, .ref g0, .int 0, .ref g1, .ref g2, .int 0, .int 0, .int 0, .int (-1), .int 0, .int 0, .int 0, .long 0, .ref g3, .ref g4, .int 0, .int 0]), (h1, aI Y 3640 (clB 0 (fun _ => 0)))] sz) (QI D (fun (r : Int32) (u : Unit) => 1 = r) (fun (_ : Unit) => [(h0, oC 13 [.ref h1, .ref g0, .int 0, .ref g1, .ref g2, .int 0, .int 0, .int 0, .int (-1), .int 0, .int 0, .int 0, .long 0, .ref g3, .ref g4, .int 0, .int 0]), (h1, aI Y 3640 (clB 0 (fun _ => 0)))]) (va_A [(h0, oC 13 [.ref h1, .ref g0, .int 0, .ref g1, .ref g2, .int 0, .int 0, .int 0, .int (-1), .int 0, .int 0, .int 0, .long 0, .ref g3, .ref g4, .int 0, .int 0]), (h1, aI Y 3640 (clB 0 (fun _ => 0)))] sz)) 0 0 (va_A [(h0, oC 13 [.ref h1, .ref g0, .int 0, .ref g1, .ref g2, .int 0, .int 0, .int 0, .int (-1), .int 0, .int 0, .int 0, .long 0, .ref g3, .ref g4, .int 0, .int 0]), (h1, aI Y 3640 (clB 0 (fun _ => 0)))] sz) :=
  met_of (by decide +kernel) (Nat.le_of_ble_eq_true rfl) (fun p e s m args below meth c B hin hsz => by
    have B : VB p s m args meth c D Y (va_A [(h0, oC 13 [.ref h1, .ref g0, .int 0, .ref g1, .ref g2, .int 0, .int 0, .int 0, .int (-1), .int 0, .int 0, .int 0, .long 0, .ref g3, .ref g4, .int 0, .int 0]), (h1, aI Y 3640 (clB 0 (fun _ => 0)))] sz) cX12_count 2 RX12 (some .int) := B
    refine V_aload_n 0 B dX12_count_0 0 rfl ?_
    refine V_iconst 1 B (v := 0) dX12_count_1 (by decide +kernel) ?_
    refine V_put 2 B gp_RX12_38 0 rfl (Nat.le_of_ble_eq_true rfl) rfl rfl dX12_count_2 [(h0, oC 13 [.ref h1, .ref g0, .int 0, .ref g1, .ref g2, .int 0, .int 0, .int 0, .int (-1), .int 0, .int 0, .int 0, .long 0, .ref g3, .ref g4, .int 0, .int 0]), (h1, aI Y 3640 (clB 0 (fun _ => 0)))] rfl ?_
    refine V_iload_n 5 B dX12_count_5 1 rfl ?_
    refine V_tableIn 6 B 64 dX12_count_6 (by decide +kernel) (by decide +kernel) (off := 58) (by decide +kernel) (by decide) ?_
    refine V_aload_n 64 B dX12_count_64 0 rfl ?_
    refine V_get 65 B gf_RX12_9 0 rfl rfl dX12_count_65 ?_
    refine V_iconst 68 B (v := 0) dX12_count_68 (by decide +kernel) ?_
    refine V_iald 69 B (v := 1) 1 rfl (vpin _ _ (by decide +kernel)) dX12_count_69 rfl ?_
    exact V_iret 70 B dX12_count_70 () rfl rfl)
set_option maxRecDepth 100000 in
set_option maxHeartbeats 4000000 in
theorem mX12_count_3 (l : Launch) (D : va_G) (Y : Nat → ClassId) (h0 : Nat) (h1 : Nat) (g0 : Nat) (g1 : Nat) (g2 : Nat) (g3 : Nat) (g4 : Nat) (sz : Nat) : Met l yX12_count (WSm yX12_count cX12_count 2 (some .int)) (mkR 0 0 0 0) (PreC D Y [.ref h0, .int 1] [(h0, oC 13 [.ref h1, .ref g0, .int 0, .ref g1, .ref g2, .int 0, .int 0, .int 0, .int (-1), .int 0, .int 0, .int 0, .long 0, .ref g3, .ref g4, .int 0, .int 0]), (h1, aI Y 3640 (clB 0 (fun _ => 0)))] sz) (QI D (fun (r : Int32) (u : Unit) => 0 = r) (fun (_ : Unit) => [(h0, oC 13 [.ref h1, .ref g0, .int 0, .ref g1, .ref g2, .int 0, .int 0, .int 0, .int (-1), .int 0, .int 0, .int 0, .long 0, .ref g3, .ref g4, .int 0, .int 0]), (h1, aI Y 3640 (clB 0 (fun _ => 0)))]) (va_A [(h0, oC 13 [.ref h1, .ref g0, .int 0, .ref g1, .ref g2, .int 0, .int 0, .int 0, .int (-1), .int 0, .int 0, .int 0, .long 0, .ref g3, .ref g4, .int 0, .int 0]), (h1, aI Y 3640 (clB 0 (fun _ => 0)))] sz)) 0 0 (va_A [(h0, oC 13 [.ref h1, .ref g0, .int 0, .ref g1, .ref g2, .int 0, .int 0, .int 0, .int (-1), .int 0, .int 0, .int 0, .long 0, .ref g3, .ref g4, .int 0, .int 0]), (h1, aI Y 3640 (clB 0 (fun _ => 0)))] sz) :=
  met_of (by decide +kernel) (Nat.le_of_ble_eq_true rfl) (fun p e s m args below meth c B hin hsz => by
    have B : VB p s m args meth c D Y (va_A [(h0, oC 13 [.ref h1, .ref g0, .int 0, .ref g1, .ref g2, .int 0, .int 0, .int 0, .int (-1), .int 0, .int 0, .int 0, .long 0, .ref g3, .ref g4, .int 0, .int 0]), (h1, aI Y 3640 (clB 0 (fun _ => 0)))] sz) cX12_count 2 RX12 (some .int) := B
    refine V_aload_n 0 B dX12_count_0 0 rfl ?_
    refine V_iconst 1 B (v := 0) dX12_count_1 (by decide +kernel) ?_
    refine V_put 2 B gp_RX12_38 0 rfl (Nat.le_of_ble_eq_true rfl) rfl rfl dX12_count_2 [(h0, oC 13 [.ref h1, .ref g0, .int 0, .ref g1, .ref g2, .int 0, .int 0, .int 0, .int (-1), .int 0, .int 0, .int 0, .long 0, .ref g3, .ref g4, .int 0, .int 0]), (h1, aI Y 3640 (clB 0 (fun _ => 0)))] rfl ?_
    refine V_iload_n 5 B dX12_count_5 1 rfl ?_
    refine V_tableIn 6 B 71 dX12_count_6 (by decide +kernel) (by decide +kernel) (off := 65) (by decide +kernel) (by decide) ?_
    refine V_aload_n 71 B dX12_count_71 0 rfl ?_
    refine V_get 72 B gf_RX12_9 0 rfl rfl dX12_count_72 ?_
    refine V_iconst 75 B (v := 4) dX12_count_75 (by decide +kernel) ?_
    refine V_iald 76 B (v := 0) 1 rfl (vpin _ _ (by decide +kernel)) dX12_count_76 rfl ?_
    exact V_iret 77 B dX12_count_77 () rfl rfl)
set_option maxRecDepth 100000 in
set_option maxHeartbeats 4000000 in
theorem mX12_count_4 (l : Launch) (D : va_G) (Y : Nat → ClassId) (h0 : Nat) (h1 : Nat) (g0 : Nat) (g1 : Nat) (g2 : Nat) (g3 : Nat) (g4 : Nat) (sz : Nat) : Met l yX12_count (WSm yX12_count cX12_count 2 (some .int)) (mkR 0 0 0 0) (PreC D Y [.ref h0, .int 2] [(h0, oC 13 [.ref h1, .ref g0, .int 0, .ref g1, .ref g2, .int 0, .int 0, .int 0, .int (-1), .int 0, .int 0, .int 0, .long 0, .ref g3, .ref g4, .int 0, .int 0]), (h1, aI Y 3640 (clB 0 (fun _ => 0)))] sz) (QI D (fun (r : Int32) (u : Unit) => 0 = r) (fun (_ : Unit) => [(h0, oC 13 [.ref h1, .ref g0, .int 0, .ref g1, .ref g2, .int 0, .int 0, .int 0, .int (-1), .int 0, .int 0, .int 0, .long 0, .ref g3, .ref g4, .int 0, .int 0]), (h1, aI Y 3640 (clB 0 (fun _ => 0)))]) (va_A [(h0, oC 13 [.ref h1, .ref g0, .int 0, .ref g1, .ref g2, .int 0, .int 0, .int 0, .int (-1), .int 0, .int 0, .int 0, .long 0, .ref g3, .ref g4, .int 0, .int 0]), (h1, aI Y 3640 (clB 0 (fun _ => 0)))] sz)) 0 0 (va_A [(h0, oC 13 [.ref h1, .ref g0, .int 0, .ref g1, .ref g2, .int 0, .int 0, .int 0, .int (-1), .int 0, .int 0, .int 0, .long 0, .ref g3, .ref g4, .int 0, .int 0]), (h1, aI Y 3640 (clB 0 (fun _ => 0)))] sz) :=
  met_of (by decide +kernel) (Nat.le_of_ble_eq_true rfl) (fun p e s m args below meth c B hin hsz => by
    have B : VB p s m args meth c D Y (va_A [(h0, oC 13 [.ref h1, .ref g0, .int 0, .ref g1, .ref g2, .int 0, .int 0, .int 0, .int (-1), .int 0, .int 0, .int 0, .long 0, .ref g3, .ref g4, .int 0, .int 0]), (h1, aI Y 3640 (clB 0 (fun _ => 0)))] sz) cX12_count 2 RX12 (some .int) := B
    refine V_aload_n 0 B dX12_count_0 0 rfl ?_
    refine V_iconst 1 B (v := 0) dX12_count_1 (by decide +kernel) ?_
    refine V_put 2 B gp_RX12_38 0 rfl (Nat.le_of_ble_eq_true rfl) rfl rfl dX12_count_2 [(h0, oC 13 [.ref h1, .ref g0, .int 0, .ref g1, .ref g2, .int 0, .int 0, .int 0, .int (-1), .int 0, .int 0, .int 0, .long 0, .ref g3, .ref g4, .int 0, .int 0]), (h1, aI Y 3640 (clB 0 (fun _ => 0)))] rfl ?_
    refine V_iload_n 5 B dX12_count_5 1 rfl ?_
    refine V_tableIn 6 B 78 dX12_count_6 (by decide +kernel) (by decide +kernel) (off := 72) (by decide +kernel) (by decide) ?_
    refine V_aload_n 78 B dX12_count_78 0 rfl ?_
    refine V_get 79 B gf_RX12_9 0 rfl rfl dX12_count_79 ?_
    refine V_iconst 82 B (v := 1) dX12_count_82 (by decide +kernel) ?_
    refine V_iald 83 B (v := 0) 1 rfl (vpin _ _ (by decide +kernel)) dX12_count_83 rfl ?_
    exact V_iret 84 B dX12_count_84 () rfl rfl)
set_option maxRecDepth 100000 in
set_option maxHeartbeats 4000000 in
theorem mX12_count_5 (l : Launch) (D : va_G) (Y : Nat → ClassId) (h0 : Nat) (h1 : Nat) (g0 : Nat) (g1 : Nat) (g2 : Nat) (g3 : Nat) (g4 : Nat) (sz : Nat) : Met l yX12_count (WSm yX12_count cX12_count 2 (some .int)) (mkR 0 0 0 0) (PreC D Y [.ref h0, .int 3] [(h0, oC 13 [.ref h1, .ref g0, .int 0, .ref g1, .ref g2, .int 0, .int 0, .int 0, .int (-1), .int 0, .int 0, .int 0, .long 0, .ref g3, .ref g4, .int 0, .int 0]), (h1, aI Y 3640 (clB 0 (fun _ => 0)))] sz) (QI D (fun (r : Int32) (u : Unit) => 0 = r) (fun (_ : Unit) => [(h0, oC 13 [.ref h1, .ref g0, .int 0, .ref g1, .ref g2, .int 0, .int 0, .int 0, .int (-1), .int 0, .int 0, .int 0, .long 0, .ref g3, .ref g4, .int 0, .int 0]), (h1, aI Y 3640 (clB 0 (fun _ => 0)))]) (va_A [(h0, oC 13 [.ref h1, .ref g0, .int 0, .ref g1, .ref g2, .int 0, .int 0, .int 0, .int (-1), .int 0, .int 0, .int 0, .long 0, .ref g3, .ref g4, .int 0, .int 0]), (h1, aI Y 3640 (clB 0 (fun _ => 0)))] sz)) 0 0 (va_A [(h0, oC 13 [.ref h1, .ref g0, .int 0, .ref g1, .ref g2, .int 0, .int 0, .int 0, .int (-1), .int 0, .int 0, .int 0, .long 0, .ref g3, .ref g4, .int 0, .int 0]), (h1, aI Y 3640 (clB 0 (fun _ => 0)))] sz) :=
  met_of (by decide +kernel) (Nat.le_of_ble_eq_true rfl) (fun p e s m args below meth c B hin hsz => by
    have B : VB p s m args meth c D Y (va_A [(h0, oC 13 [.ref h1, .ref g0, .int 0, .ref g1, .ref g2, .int 0, .int 0, .int 0, .int (-1), .int 0, .int 0, .int 0, .long 0, .ref g3, .ref g4, .int 0, .int 0]), (h1, aI Y 3640 (clB 0 (fun _ => 0)))] sz) cX12_count 2 RX12 (some .int) := B
    refine V_aload_n 0 B dX12_count_0 0 rfl ?_
    refine V_iconst 1 B (v := 0) dX12_count_1 (by decide +kernel) ?_
    refine V_put 2 B gp_RX12_38 0 rfl (Nat.le_of_ble_eq_true rfl) rfl rfl dX12_count_2 [(h0, oC 13 [.ref h1, .ref g0, .int 0, .ref g1, .ref g2, .int 0, .int 0, .int 0, .int (-1), .int 0, .int 0, .int 0, .long 0, .ref g3, .ref g4, .int 0, .int 0]), (h1, aI Y 3640 (clB 0 (fun _ => 0)))] rfl ?_
    refine V_iload_n 5 B dX12_count_5 1 rfl ?_
    refine V_tableIn 6 B 85 dX12_count_6 (by decide +kernel) (by decide +kernel) (off := 79) (by decide +kernel) (by decide) ?_
    refine V_aload_n 85 B dX12_count_85 0 rfl ?_
    refine V_get 86 B gf_RX12_9 0 rfl rfl dX12_count_86 ?_
    refine V_iconst 89 B (v := 3) dX12_count_89 (by decide +kernel) ?_
    refine V_iald 90 B (v := 0) 1 rfl (vpin _ _ (by decide +kernel)) dX12_count_90 rfl ?_
    exact V_iret 91 B dX12_count_91 () rfl rfl)
set_option maxRecDepth 100000 in
set_option maxHeartbeats 4000000 in
theorem mX12_count_6 (l : Launch) (D : va_G) (Y : Nat → ClassId) (h0 : Nat) (h1 : Nat) (g0 : Nat) (g1 : Nat) (g2 : Nat) (g3 : Nat) (g4 : Nat) (sz : Nat) : Met l yX12_count (WSm yX12_count cX12_count 2 (some .int)) (mkR 0 0 0 0) (PreC D Y [.ref h0, .int 4] [(h0, oC 13 [.ref h1, .ref g0, .int 0, .ref g1, .ref g2, .int 0, .int 0, .int 0, .int (-1), .int 0, .int 0, .int 0, .long 0, .ref g3, .ref g4, .int 0, .int 0]), (h1, aI Y 3640 (clB 0 (fun _ => 0)))] sz) (QI D (fun (r : Int32) (u : Unit) => 0 = r) (fun (_ : Unit) => [(h0, oC 13 [.ref h1, .ref g0, .int 0, .ref g1, .ref g2, .int 0, .int 0, .int 0, .int (-1), .int 0, .int 0, .int 0, .long 0, .ref g3, .ref g4, .int 0, .int 0]), (h1, aI Y 3640 (clB 0 (fun _ => 0)))]) (va_A [(h0, oC 13 [.ref h1, .ref g0, .int 0, .ref g1, .ref g2, .int 0, .int 0, .int 0, .int (-1), .int 0, .int 0, .int 0, .long 0, .ref g3, .ref g4, .int 0, .int 0]), (h1, aI Y 3640 (clB 0 (fun _ => 0)))] sz)) 0 0 (va_A [(h0, oC 13 [.ref h1, .ref g0, .int 0, .ref g1, .ref g2, .int 0, .int 0, .int 0, .int (-1), .int 0, .int 0, .int 0, .long 0, .ref g3, .ref g4, .int 0, .int 0]), (h1, aI Y 3640 (clB 0 (fun _ => 0)))] sz) :=
  met_of (by decide +kernel) (Nat.le_of_ble_eq_true rfl) (fun p e s m args below meth c B hin hsz => by
    have B : VB p s m args meth c D Y (va_A [(h0, oC 13 [.ref h1, .ref g0, .int 0, .ref g1, .ref g2, .int 0, .int 0, .int 0, .int (-1), .int 0, .int 0, .int 0, .long 0, .ref g3, .ref g4, .int 0, .int 0]), (h1, aI Y 3640 (clB 0 (fun _ => 0)))] sz) cX12_count 2 RX12 (some .int) := B
    refine V_aload_n 0 B dX12_count_0 0 rfl ?_
    refine V_iconst 1 B (v := 0) dX12_count_1 (by decide +kernel) ?_
    refine V_put 2 B gp_RX12_38 0 rfl (Nat.le_of_ble_eq_true rfl) rfl rfl dX12_count_2 [(h0, oC 13 [.ref h1, .ref g0, .int 0, .ref g1, .ref g2, .int 0, .int 0, .int 0, .int (-1), .int 0, .int 0, .int 0, .long 0, .ref g3, .ref g4, .int 0, .int 0]), (h1, aI Y 3640 (clB 0 (fun _ => 0)))] rfl ?_
    refine V_iload_n 5 B dX12_count_5 1 rfl ?_
    refine V_tableIn 6 B 92 dX12_count_6 (by decide +kernel) (by decide +kernel) (off := 86) (by decide +kernel) (by decide) ?_
    refine V_aload_n 92 B dX12_count_92 0 rfl ?_
    refine V_get 93 B gf_RX12_9 0 rfl rfl dX12_count_93 ?_
    refine V_iconst 96 B (v := 2) dX12_count_96 (by decide +kernel) ?_
    refine V_iald 97 B (v := 0) 1 rfl (vpin _ _ (by decide +kernel)) dX12_count_97 rfl ?_
    exact V_iret 98 B dX12_count_98 () rfl rfl)
set_option maxRecDepth 100000 in
set_option maxHeartbeats 4000000 in
theorem mX12_count_7 (l : Launch) (D : va_G) (Y : Nat → ClassId) (h0 : Nat) (h1 : Nat) (g0 : Nat) (g1 : Nat) (g2 : Nat) (g3 : Nat) (g4 : Nat) (sz : Nat) : Met l yX12_count (WSm yX12_count cX12_count 2 (some .int)) (mkR 0 0 0 0) (PreC D Y [.ref h0, .int 5] [(h0, oC 13 [.ref h1, .ref g0, .int 0, .ref g1, .ref g2, .int 0, .int 0, .int 0, .int (-1), .int 0, .int 0, .int 0, .long 0, .ref g3, .ref g4, .int 0, .int 0]), (h1, aI Y 3640 (clB 0 (fun _ => 0)))] sz) (QI D (fun (r : Int32) (u : Unit) => 0 = r) (fun (_ : Unit) => [(h0, oC 13 [.ref h1, .ref g0, .int 0, .ref g1, .ref g2, .int 0, .int 0, .int 0, .int (-1), .int 0, .int 0, .int 0, .long 0, .ref g3, .ref g4, .int 0, .int 0]), (h1, aI Y 3640 (clB 0 (fun _ => 0)))]) (va_A [(h0, oC 13 [.ref h1, .ref g0, .int 0, .ref g1, .ref g2, .int 0, .int 0, .int 0, .int (-1), .int 0, .int 0, .int 0, .long 0, .ref g3, .ref g4, .int 0, .int 0]), (h1, aI Y 3640 (clB 0 (fun _ => 0)))] sz)) 0 0 (va_A [(h0, oC 13 [.ref h1, .ref g0, .int 0, .ref g1, .ref g2, .int 0, .int 0, .int 0, .int (-1), .int 0, .int 0, .int 0, .long 0, .ref g3, .ref g4, .int 0, .int 0]), (h1, aI Y 3640 (clB 0 (fun _ => 0)))] sz) :=
  met_of (by decide +kernel) (Nat.le_of_ble_eq_true rfl) (fun p e s m args below meth c B hin hsz => by
    have B : VB p s m args meth c D Y (va_A [(h0, oC 13 [.ref h1, .ref g0, .int 0, .ref g1, .ref g2, .int 0, .int 0, .int 0, .int (-1), .int 0, .int 0, .int 0, .long 0, .ref g3, .ref g4, .int 0, .int 0]), (h1, aI Y 3640 (clB 0 (fun _ => 0)))] sz) cX12_count 2 RX12 (some .int) := B
    refine V_aload_n 0 B dX12_count_0 0 rfl ?_
    refine V_iconst 1 B (v := 0) dX12_count_1 (by decide +kernel) ?_
    refine V_put 2 B gp_RX12_38 0 rfl (Nat.le_of_ble_eq_true rfl) rfl rfl dX12_count_2 [(h0, oC 13 [.ref h1, .ref g0, .int 0, .ref g1, .ref g2, .int 0, .int 0, .int 0, .int (-1), .int 0, .int 0, .int 0, .long 0, .ref g3, .ref g4, .int 0, .int 0]), (h1, aI Y 3640 (clB 0 (fun _ => 0)))] rfl ?_
    refine V_iload_n 5 B dX12_count_5 1 rfl ?_
    refine V_tableIn 6 B 99 dX12_count_6 (by decide +kernel) (by decide +kernel) (off := 93) (by decide +kernel) (by decide) ?_
    refine V_aload_n 99 B dX12_count_99 0 rfl ?_
    refine V_get 100 B gf_RX12_9 0 rfl rfl dX12_count_100 ?_
    refine V_bipush 103 B (v := 8) dX12_count_103 (by decide +kernel) ?_
    refine V_iald 105 B (v := 0) 1 rfl (vpin _ _ (by decide +kernel)) dX12_count_105 rfl ?_
    exact V_iret 106 B dX12_count_106 () rfl rfl)
set_option maxRecDepth 100000 in
set_option maxHeartbeats 4000000 in
theorem mX12_count_8 (l : Launch) (D : va_G) (Y : Nat → ClassId) (h0 : Nat) (h1 : Nat) (g0 : Nat) (g1 : Nat) (g2 : Nat) (g3 : Nat) (g4 : Nat) (sz : Nat) : Met l yX12_count (WSm yX12_count cX12_count 2 (some .int)) (mkR 0 0 0 0) (PreC D Y [.ref h0, .int 6] [(h0, oC 13 [.ref h1, .ref g0, .int 0, .ref g1, .ref g2, .int 0, .int 0, .int 0, .int (-1), .int 0, .int 0, .int 0, .long 0, .ref g3, .ref g4, .int 0, .int 0]), (h1, aI Y 3640 (clB 0 (fun _ => 0)))] sz) (QI D (fun (r : Int32) (u : Unit) => 0 = r) (fun (_ : Unit) => [(h0, oC 13 [.ref h1, .ref g0, .int 0, .ref g1, .ref g2, .int 0, .int 0, .int 0, .int (-1), .int 0, .int 0, .int 0, .long 0, .ref g3, .ref g4, .int 0, .int 0]), (h1, aI Y 3640 (clB 0 (fun _ => 0)))]) (va_A [(h0, oC 13 [.ref h1, .ref g0, .int 0, .ref g1, .ref g2, .int 0, .int 0, .int 0, .int (-1), .int 0, .int 0, .int 0, .long 0, .ref g3, .ref g4, .int 0, .int 0]), (h1, aI Y 3640 (clB 0 (fun _ => 0)))] sz)) 0 0 (va_A [(h0, oC 13 [.ref h1, .ref g0, .int 0, .ref g1, .ref g2, .int 0, .int 0, .int 0, .int (-1), .int 0, .int 0, .int 0, .long 0, .ref g3, .ref g4, .int 0, .int 0]), (h1, aI Y 3640 (clB 0 (fun _ => 0)))] sz) :=
  met_of (by decide +kernel) (Nat.le_of_ble_eq_true rfl) (fun p e s m args below meth c B hin hsz => by
    have B : VB p s m args meth c D Y (va_A [(h0, oC 13 [.ref h1, .ref g0, .int 0, .ref g1, .ref g2, .int 0, .int 0, .int 0, .int (-1), .int 0, .int 0, .int 0, .long 0, .ref g3, .ref g4, .int 0, .int 0]), (h1, aI Y 3640 (clB 0 (fun _ => 0)))] sz) cX12_count 2 RX12 (some .int) := B
    refine V_aload_n 0 B dX12_count_0 0 rfl ?_
    refine V_iconst 1 B (v := 0) dX12_count_1 (by decide +kernel) ?_
    refine V_put 2 B gp_RX12_38 0 rfl (Nat.le_of_ble_eq_true rfl) rfl rfl dX12_count_2 [(h0, oC 13 [.ref h1, .ref g0, .int 0, .ref g1, .ref g2, .int 0, .int 0, .int 0, .int (-1), .int 0, .int 0, .int 0, .long 0, .ref g3, .ref g4, .int 0, .int 0]), (h1, aI Y 3640 (clB 0 (fun _ => 0)))] rfl ?_
    refine V_iload_n 5 B dX12_count_5 1 rfl ?_
    refine V_tableIn 6 B 107 dX12_count_6 (by decide +kernel) (by decide +kernel) (off := 101) (by decide +kernel) (by decide) ?_
    refine V_aload_n 107 B dX12_count_107 0 rfl ?_
    refine V_get 108 B gf_RX12_9 0 rfl rfl dX12_count_108 ?_
    refine V_bipush 111 B (v := 9) dX12_count_111 (by decide +kernel) ?_
    refine V_iald 113 B (v := 0) 1 rfl (vpin _ _ (by decide +kernel)) dX12_count_113 rfl ?_
    exact V_iret 114 B dX12_count_114 () rfl rfl)
set_option maxRecDepth 100000 in
set_option maxHeartbeats 4000000 in
theorem mX12_count_9 (l : Launch) (D : va_G) (Y : Nat → ClassId) (h0 : Nat) (h1 : Nat) (g0 : Nat) (g1 : Nat) (g2 : Nat) (g3 : Nat) (g4 : Nat) (sz : Nat) : Met l yX12_count (WSm yX12_count cX12_count 2 (some .int)) (mkR 0 0 0 0) (PreC D Y [.ref h0, .int 7] [(h0, oC 13 [.ref h1, .ref g0, .int 0, .ref g1, .ref g2, .int 0, .int 0, .int 0, .int (-1), .int 0, .int 0, .int 0, .long 0, .ref g3, .ref g4, .int 0, .int 0]), (h1, aI Y 3640 (clB 0 (fun _ => 0)))] sz) (QI D (fun (r : Int32) (u : Unit) => 0 = r) (fun (_ : Unit) => [(h0, oC 13 [.ref h1, .ref g0, .int 0, .ref g1, .ref g2, .int 0, .int 0, .int 0, .int (-1), .int 0, .int 0, .int 0, .long 0, .ref g3, .ref g4, .int 0, .int 0]), (h1, aI Y 3640 (clB 0 (fun _ => 0)))]) (va_A [(h0, oC 13 [.ref h1, .ref g0, .int 0, .ref g1, .ref g2, .int 0, .int 0, .int 0, .int (-1), .int 0, .int 0, .int 0, .long 0, .ref g3, .ref g4, .int 0, .int 0]), (h1, aI Y 3640 (clB 0 (fun _ => 0)))] sz)) 0 0 (va_A [(h0, oC 13 [.ref h1, .ref g0, .int 0, .ref g1, .ref g2, .int 0, .int 0, .int 0, .int (-1), .int 0, .int 0, .int 0, .long 0, .ref g3, .ref g4, .int 0, .int 0]), (h1, aI Y 3640 (clB 0 (fun _ => 0)))] sz) :=
  met_of (by decide +kernel) (Nat.le_of_ble_eq_true rfl) (fun p e s m args below meth c B hin hsz => by
    have B : VB p s m args meth c D Y (va_A [(h0, oC 13 [.ref h1, .ref g0, .int 0, .ref g1, .ref g2, .int 0, .int 0, .int 0, .int (-1), .int 0, .int 0, .int 0, .long 0, .ref g3, .ref g4, .int 0, .int 0]), (h1, aI Y 3640 (clB 0 (fun _ => 0)))] sz) cX12_count 2 RX12 (some .int) := B
    refine V_aload_n 0 B dX12_count_0 0 rfl ?_
    refine V_iconst 1 B (v := 0) dX12_count_1 (by decide +kernel) ?_
    refine V_put 2 B gp_RX12_38 0 rfl (Nat.le_of_ble_eq_true rfl) rfl rfl dX12_count_2 [(h0, oC 13 [.ref h1, .ref g0, .int 0, .ref g1, .ref g2, .int 0, .int 0, .int 0, .int (-1), .int 0, .int 0, .int 0, .long 0, .ref g3, .ref g4, .int 0, .int 0]), (h1, aI Y 3640 (clB 0 (fun _ => 0)))] rfl ?_
    refine V_iload_n 5 B dX12_count_5 1 rfl ?_
    refine V_tableIn 6 B 115 dX12_count_6 (by decide +kernel) (by decide +kernel) (off := 109) (by decide +kernel) (by decide) ?_
    refine V_aload_n 115 B dX12_count_115 0 rfl ?_
    refine V_get 116 B gf_RX12_9 0 rfl rfl dX12_count_116 ?_
    refine V_bipush 119 B (v := 7) dX12_count_119 (by decide +kernel) ?_
    refine V_iald 121 B (v := 0) 1 rfl (vpin _ _ (by decide +kernel)) dX12_count_121 rfl ?_
    exact V_iret 122 B dX12_count_122 () rfl rfl)
set_option maxRecDepth 100000 in
set_option maxHeartbeats 4000000 in
theorem mX12_count_10 (l : Launch) (D : va_G) (Y : Nat → ClassId) (h0 : Nat) (h1 : Nat) (g0 : Nat) (g1 : Nat) (g2 : Nat) (g3 : Nat) (g4 : Nat) (sz : Nat) : Met l yX12_count (WSm yX12_count cX12_count 2 (some .int)) (mkR 0 0 0 0) (PreC D Y [.ref h0, .int 8] [(h0, oC 13 [.ref h1, .ref g0, .int 0, .ref g1, .ref g2, .int 0, .int 0, .int 0, .int (-1), .int 0, .int 0, .int 0, .long 0, .ref g3, .ref g4, .int 0, .int 0]), (h1, aI Y 3640 (clB 0 (fun _ => 0)))] sz) (QI D (fun (r : Int32) (u : Unit) => 0 = r) (fun (_ : Unit) => [(h0, oC 13 [.ref h1, .ref g0, .int 0, .ref g1, .ref g2, .int 0, .int 0, .int 0, .int (-1), .int 0, .int 0, .int 0, .long 0, .ref g3, .ref g4, .int 0, .int 0]), (h1, aI Y 3640 (clB 0 (fun _ => 0)))]) (va_A [(h0, oC 13 [.ref h1, .ref g0, .int 0, .ref g1, .ref g2, .int 0, .int 0, .int 0, .int (-1), .int 0, .int 0, .int 0, .long 0, .ref g3, .ref g4, .int 0, .int 0]), (h1, aI Y 3640 (clB 0 (fun _ => 0)))] sz)) 0 0 (va_A [(h0, oC 13 [.ref h1, .ref g0, .int 0, .ref g1, .ref g2, .int 0, .int 0, .int 0, .int (-1), .int 0, .int 0, .int 0, .long 0, .ref g3, .ref g4, .int 0, .int 0]), (h1, aI Y 3640 (clB 0 (fun _ => 0)))] sz) :=
  met_of (by decide +kernel) (Nat.le_of_ble_eq_true rfl) (fun p e s m args below meth c B hin hsz => by
    have B : VB p s m args meth c D Y (va_A [(h0, oC 13 [.ref h1, .ref g0, .int 0, .ref g1, .ref g2, .int 0, .int 0, .int 0, .int (-1), .int 0, .int 0, .int 0, .long 0, .ref g3, .ref g4, .int 0, .int 0]), (h1, aI Y 3640 (clB 0 (fun _ => 0)))] sz) cX12_count 2 RX12 (some .int) := B
    refine V_aload_n 0 B dX12_count_0 0 rfl ?_
    refine V_iconst 1 B (v := 0) dX12_count_1 (by decide +kernel) ?_
    refine V_put 2 B gp_RX12_38 0 rfl (Nat.le_of_ble_eq_true rfl) rfl rfl dX12_count_2 [(h0, oC 13 [.ref h1, .ref g0, .int 0, .ref g1, .ref g2, .int 0, .int 0, .int 0, .int (-1), .int 0, .int 0, .int 0, .long 0, .ref g3, .ref g4, .int 0, .int 0]), (h1, aI Y 3640 (clB 0 (fun _ => 0)))] rfl ?_
    refine V_iload_n 5 B dX12_count_5 1 rfl ?_
    refine V_tableIn 6 B 123 dX12_count_6 (by decide +kernel) (by decide +kernel) (off := 117) (by decide +kernel) (by decide) ?_
    refine V_aload_n 123 B dX12_count_123 0 rfl ?_
    refine V_get 124 B gf_RX12_9 0 rfl rfl dX12_count_124 ?_
    refine V_bipush 127 B (v := 15) dX12_count_127 (by decide +kernel) ?_
    refine V_iald 129 B (v := 0) 1 rfl (vpin _ _ (by decide +kernel)) dX12_count_129 rfl ?_
    exact V_iret 130 B dX12_count_130 () rfl rfl)
set_option maxRecDepth 100000 in
set_option maxHeartbeats 4000000 in
theorem mX12_count_11 (l : Launch) (D : va_G) (Y : Nat → ClassId) (h0 : Nat) (h1 : Nat) (g0 : Nat) (g1 : Nat) (g2 : Nat) (g3 : Nat) (g4 : Nat) (sz : Nat) : Met l yX12_count (WSm yX12_count cX12_count 2 (some .int)) (mkR 0 0 0 0) (PreC D Y [.ref h0, .int 9] [(h0, oC 13 [.ref h1, .ref g0, .int 0, .ref g1, .ref g2, .int 0, .int 0, .int 0, .int (-1), .int 0, .int 0, .int 0, .long 0, .ref g3, .ref g4, .int 0, .int 0]), (h1, aI Y 3640 (clB 0 (fun _ => 0)))] sz) (QI D (fun (r : Int32) (u : Unit) => 0 = r) (fun (_ : Unit) => [(h0, oC 13 [.ref h1, .ref g0, .int 0, .ref g1, .ref g2, .int 0, .int 0, .int 0, .int (-1), .int 0, .int 0, .int 0, .long 0, .ref g3, .ref g4, .int 0, .int 0]), (h1, aI Y 3640 (clB 0 (fun _ => 0)))]) (va_A [(h0, oC 13 [.ref h1, .ref g0, .int 0, .ref g1, .ref g2, .int 0, .int 0, .int 0, .int (-1), .int 0, .int 0, .int 0, .long 0, .ref g3, .ref g4, .int 0, .int 0]), (h1, aI Y 3640 (clB 0 (fun _ => 0)))] sz)) 0 0 (va_A [(h0, oC 13 [.ref h1, .ref g0, .int 0, .ref g1, .ref g2, .int 0, .int 0, .int 0, .int (-1), .int 0, .int 0, .int 0, .long 0, .ref g3, .ref g4, .int 0, .int 0]), (h1, aI Y 3640 (clB 0 (fun _ => 0)))] sz) :=
  met_of (by decide +kernel) (Nat.le_of_ble_eq_true rfl) (fun p e s m args below meth c B hin hsz => by
    have B : VB p s m args meth c D Y (va_A [(h0, oC 13 [.ref h1, .ref g0, .int 0, .ref g1, .ref g2, .int 0, .int 0, .int 0, .int (-1), .int 0, .int 0, .int 0, .long 0, .ref g3, .ref g4, .int 0, .int 0]), (h1, aI Y 3640 (clB 0 (fun _ => 0)))] sz) cX12_count 2 RX12 (some .int) := B
    refine V_aload_n 0 B dX12_count_0 0 rfl ?_
    refine V_iconst 1 B (v := 0) dX12_count_1 (by decide +kernel) ?_
    refine V_put 2 B gp_RX12_38 0 rfl (Nat.le_of_ble_eq_true rfl) rfl rfl dX12_count_2 [(h0, oC 13 [.ref h1, .ref g0, .int 0, .ref g1, .ref g2, .int 0, .int 0, .int 0, .int (-1), .int 0, .int 0, .int 0, .long 0, .ref g3, .ref g4, .int 0, .int 0]), (h1, aI Y 3640 (clB 0 (fun _ => 0)))] rfl ?_
    refine V_iload_n 5 B dX12_count_5 1 rfl ?_
    refine V_tableIn 6 B 131 dX12_count_6 (by decide +kernel) (by decide +kernel) (off := 125) (by decide +kernel) (by decide) ?_
    refine V_aload_n 131 B dX12_count_131 0 rfl ?_
    refine V_get 132 B gf_RX12_9 0 rfl rfl dX12_count_132 ?_
    refine V_iconst 135 B (v := 5) dX12_count_135 (by decide +kernel) ?_
    refine V_iald 136 B (v := 0) 1 rfl (vpin _ _ (by decide +kernel)) dX12_count_136 rfl ?_
    exact V_iret 137 B dX12_count_137 () rfl rfl)
set_option maxRecDepth 100000 in
set_option maxHeartbeats 4000000 in
theorem mX12_count_12 (l : Launch) (D : va_G) (Y : Nat → ClassId) (h0 : Nat) (h1 : Nat) (g0 : Nat) (g1 : Nat) (g2 : Nat) (g3 : Nat) (g4 : Nat) (sz : Nat) : Met l yX12_count (WSm yX12_count cX12_count 2 (some .int)) (mkR 0 0 0 0) (PreC D Y [.ref h0, .int 10] [(h0, oC 13 [.ref h1, .ref g0, .int 0, .ref g1, .ref g2, .int 0, .int 0, .int 0, .int (-1), .int 0, .int 0, .int 0, .long 0, .ref g3, .ref g4, .int 0, .int 0]), (h1, aI Y 3640 (clB 0 (fun _ => 0)))] sz) (QI D (fun (r : Int32) (u : Unit) => 0 = r) (fun (_ : Unit) => [(h0, oC 13 [.ref h1, .ref g0, .int 0, .ref g1, .ref g2, .int 0, .int 0, .int 0, .int (-1), .int 0, .int 0, .int 0, .long 0, .ref g3, .ref g4, .int 0, .int 0]), (h1, aI Y 3640 (clB 0 (fun _ => 0)))]) (va_A [(h0, oC 13 [.ref h1, .ref g0, .int 0, .ref g1, .ref g2, .int 0, .int 0, .int 0, .int (-1), .int 0, .int 0, .int 0, .long 0, .ref g3, .ref g4, .int 0, .int 0]), (h1, aI Y 3640 (clB 0 (fun _ => 0)))] sz)) 0 0 (va_A [(h0, oC 13 [.ref h1, .ref g0, .int 0, .ref g1, .ref g2, .int 0, .int 0, .int 0, .int (-1), .int 0, .int 0, .int 0, .long 0, .ref g3, .ref g4, .int 0, .int 0]), (h1, aI Y 3640 (clB 0 (fun _ => 0)))] sz) :=
  met_of (by decide +kernel) (Nat.le_of_ble_eq_true rfl) (fun p e s m args below meth c B hin hsz => by
    have B : VB p s m args meth c D Y (va_A [(h0, oC 13 [.ref h1, .ref g0, .int 0, .ref g1, .ref g2, .int 0, .int 0, .int 0, .int (-1), .int 0, .int 0, .int 0, .long 0, .ref g3, .ref g4, .int 0, .int 0]), (h1, aI Y 3640 (clB 0 (fun _ => 0)))] sz) cX12_count 2 RX12 (some .int) := B
    refine V_aload_n 0 B dX12_count_0 0 rfl ?_
    refine V_iconst 1 B (v := 0) dX12_count_1 (by decide +kernel) ?_
    refine V_put 2 B gp_RX12_38 0 rfl (Nat.le_of_ble_eq_true rfl) rfl rfl dX12_count_2 [(h0, oC 13 [.ref h1, .ref g0, .int 0, .ref g1, .ref g2, .int 0, .int 0, .int 0, .int (-1), .int 0, .int 0, .int 0, .long 0, .ref g3, .ref g4, .int 0, .int 0]), (h1, aI Y 3640 (clB 0 (fun _ => 0)))] rfl ?_
    refine V_iload_n 5 B dX12_count_5 1 rfl ?_
    refine V_tableIn 6 B 138 dX12_count_6 (by decide +kernel) (by decide +kernel) (off := 132) (by decide +kernel) (by decide) ?_
    refine V_aload_n 138 B dX12_count_138 0 rfl ?_
    refine V_get 139 B gf_RX12_9 0 rfl rfl dX12_count_139 ?_
    refine V_sipush 142 B (v := 3624) dX12_count_142 (by decide +kernel) ?_
    refine V_iald 145 B (v := 0) 1 rfl (vpin _ _ (by decide +kernel)) dX12_count_145 rfl ?_
    exact V_iret 146 B dX12_count_146 () rfl rfl)
theorem dL_law_449 : decode cL_law 449 = .ok (.aload_n 1, 1) := by decide +kernel
theorem dL_law_450 : decode cL_law 450 = .ok (.aload_n 0, 1) := by decide +kernel
theorem dL_law_451 : decode cL_law 451 = .ok (.iload 4, 2) := by decide +kernel
theorem dL_law_453 : decode cL_law 453 = .ok (.iconst 1, 1) := by decide +kernel
theorem dL_law_454 : decode cL_law 454 = .ok (.iadd, 1) := by decide +kernel
theorem dL_law_455 : decode cL_law 455 = .ok (.iaload, 1) := by decide +kernel
theorem dL_law_456 : decode cL_law 456 = .ok (.invokevirtual 172, 3) := by decide +kernel
theorem glV_RL_172 : GLV RL 172 yX11_count RX11 cX11_count 2 (some .int) 1 := ⟨⟨(mT3 215 rfl rfl), (mT3 216 rfl rfl), (mT3 217 rfl rfl), (mT1 1 rfl rfl), (mT3 218 rfl rfl)⟩, by decide +kernel⟩
theorem dL_law_459 : decode cL_law 459 = .ok (.aload_n 2, 1) := by decide +kernel
theorem dL_law_460 : decode cL_law 460 = .ok (.aload_n 0, 1) := by decide +kernel
theorem dL_law_461 : decode cL_law 461 = .ok (.iload 4, 2) := by decide +kernel
theorem dL_law_463 : decode cL_law 463 = .ok (.iconst 1, 1) := by decide +kernel
theorem dL_law_464 : decode cL_law 464 = .ok (.iadd, 1) := by decide +kernel
theorem dL_law_465 : decode cL_law 465 = .ok (.iaload, 1) := by decide +kernel
theorem dL_law_466 : decode cL_law 466 = .ok (.invokevirtual 175, 3) := by decide +kernel
theorem glV_RL_175 : GLV RL 175 yX12_count RX12 cX12_count 2 (some .int) 1 := ⟨⟨(mT8 25 rfl rfl), (mT8 26 rfl rfl), (mT8 27 rfl rfl), (mT1 13 rfl rfl), (mT8 28 rfl rfl)⟩, by decide +kernel⟩
theorem dL_law_469 : decode cL_law 469 = .ok (.if_icmp .eq 2863, 3) := by decide +kernel
set_option maxRecDepth 100000 in
set_option maxHeartbeats 4000000 in
theorem law_c5 {p : Program} {l : Launch} {e : Env} {s : State} {m : MethodId} {below : List Frame} {meth : Method} {c : Code} {b : Nat} {xs : Nat → Int32} {D : va_G} {Y : Nat → ClassId} (B : VB p s m #[Value.ref b] meth c D Y (fun q => s.heap.size ≤ q) cL_law 8 RL ret) (EB : EX (fun q => s.heap.size ≤ q) s s.heap) (hl9 : l.stackTraces = false) (hX : va_X b 6 xs s s.heap) (hbl : b < s.heap.size) (hbA : ¬ (fun q => s.heap.size ≤ q) b) (x0 x1 x30 x59 x88 x117 x126 x127 x129 x132 x2 x4 x6 x8 x10 x12 x14 x16 x18 x20 x27 x3 x5 x11 x13 x19 x21 x23 x25 x22 x28 x29 m0 m1 m2 m3 m4 m5 m6 o0 : Nat) (p1 : Int32) (e1 : xs 1 = p1) : V p l e room_1 s m #[Value.ref b] below meth c D (fun q => s.heap.size ≤ q) 8 149 10574 (lw_Z below #[Value.ref b] s) 449 [(4, .int 0), (3, .ref o0), (2, .ref m0), (1, .ref x0), (0, .ref b)] [] [(x0, oC 12 [.ref x1, .ref x30, .ref x59, .ref x88, .ref x117, .ref x126, .ref x127, .ref x129, .ref x132, .long 0]), (x1, oC 2 [.ref x2, .ref x4, .ref x6, .ref x8, .ref x10, .ref x12, .ref x14, .ref x16, .ref x18, .ref x20, .ref x27, .int 0]), (x2, oC 3 [.ref x3, .int 1]), (x4, oC 3 [.ref x5, .int 0]), (x10, oC 7 [.ref x11, .int 0]), (x12, oC 3 [.ref x13, .int 0]), (x18, oC 7 [.ref x19, .int 0]), (x20, oC 4 [.ref x21, .ref x23, .ref x25, .int 0]), (x21, oC 3 [.ref x22, .int 0]), (x27, oC 9 [.ref x28, .int 0, .long 0, .int (-1), .int 0, .int 0, .int 0, .int 0, .int 0]), (x28, oC 3 [.ref x29, .int 0]), (m0, oC 13 [.ref m1, .ref m2, .int 0, .ref m3, .ref m4, .int 0, .int 0, .int 0, .int (-1), .int 0, .int 0, .int 0, .long 0, .ref m5, .ref m6, .int 0, .int 0]), (m1, aI Y 3640 (clB 0 (fun _ => 0)))] := by
  refine V_aload_n 449 B dL_law_449 3 rfl ?_
  refine V_aload_n 450 B dL_law_450 4 rfl ?_
  refine V_iload 451 B dL_law_451 0 rfl ?_
  refine V_iconst 453 B (v := 1) dL_law_453 (by decide +kernel) ?_
  refine V_iadd 454 B (v := 1) dL_law_454 (by decide +kernel) ?_
  refine V_sld 455 B hX hbl hbA (v := p1) (vpin _ _ (by decide +kernel)) dL_law_455 e1 ?_
  refine V_cvi 456 B (st := []) (As := [.int p1]) (fun sz => mX11_count_1 l D Y (x0) (x1) (x30) (x59) (x88) (x117) (x126) (x127) (x129) (x132) (x2) (x4) (x6) (x8) (x10) (x12) (x14) (x16) (x18) (x20) (x27) (x3) (x5) (x11) (x13) (x19) (x21) (x23) (x25) (x22) (x28) (x29) (p1) sz) glV_RL_172 ⟨rfl, rfl⟩ ⟨(Nat.le_of_ble_eq_true rfl), (Nat.le_of_ble_eq_true rfl)⟩ ⟨(Nat.le_of_ble_eq_true rfl), (Nat.le_of_ble_eq_true rfl)⟩ [0, 0, 0, 0, 0, 0, 0, 0, 0, 0, 0] rfl 12 0 rfl rfl rfl rfl (Nat.le_of_ble_eq_true rfl) rfl (fun _ _ _ => rfl) dL_law_456 (fun r0 u0 w0 => ?_)
  rcases w0 with ⟨k1, rfl⟩ | ⟨k2, rfl⟩ | ⟨k3, rfl⟩ | ⟨k4, rfl⟩ | ⟨k5, rfl⟩ | ⟨k6, rfl⟩ | ⟨k7, rfl⟩ | ⟨k8, rfl⟩ | ⟨k9, rfl⟩ | ⟨k10, rfl⟩ | ⟨k11, rfl⟩ | ⟨k12, k13, k14, k15, k16, k17, k18, k19, k20, k21, k22, rfl⟩
  ·
    refine V_ws [(x0, oC 12 [.ref x1, .ref x30, .ref x59, .ref x88, .ref x117, .ref x126, .ref x127, .ref x129, .ref x132, .long 0]), (x1, oC 2 [.ref x2, .ref x4, .ref x6, .ref x8, .ref x10, .ref x12, .ref x14, .ref x16, .ref x18, .ref x20, .ref x27, .int 0]), (x2, oC 3 [.ref x3, .int 1]), (x4, oC 3 [.ref x5, .int 0]), (x10, oC 7 [.ref x11, .int 0]), (x12, oC 3 [.ref x13, .int 0]), (x18, oC 7 [.ref x19, .int 0]), (x20, oC 4 [.ref x21, .ref x23, .ref x25, .int 0]), (x21, oC 3 [.ref x22, .int 0]), (x27, oC 9 [.ref x28, .int 0, .long 0, .int (-1), .int 0, .int 0, .int 0, .int 0, .int 0]), (x28, oC 3 [.ref x29, .int 0]), (m0, oC 13 [.ref m1, .ref m2, .int 0, .ref m3, .ref m4, .int 0, .int 0, .int 0, .int (-1), .int 0, .int 0, .int 0, .long 0, .ref m5, .ref m6, .int 0, .int 0]), (m1, aI Y 3640 (clB 0 (fun _ => 0)))] rfl ?_
    obtain rfl : p1 = 0 := k1
    refine V_aload_n 459 B dL_law_459 2 rfl ?_
    refine V_aload_n 460 B dL_law_460 4 rfl ?_
    refine V_iload 461 B dL_law_461 0 rfl ?_
    refine V_iconst 463 B (v := 1) dL_law_463 (by decide +kernel) ?_
    refine V_iadd 464 B (v := 1) dL_law_464 (by decide +kernel) ?_
    refine V_sld 465 B hX hbl hbA (v := 0) (vpin _ _ (by decide +kernel)) dL_law_465 e1 ?_
    refine V_cvi 466 B (st := [.int 1]) (As := [.int 0]) (fun sz => mX12_count_2 l D Y (m0) (m1) (m2) (m3) (m4) (m5) (m6) sz) glV_RL_175 ⟨rfl, rfl⟩ ⟨(Nat.le_of_ble_eq_true rfl), (Nat.le_of_ble_eq_true rfl)⟩ ⟨(Nat.le_of_ble_eq_true rfl), (Nat.le_of_ble_eq_true rfl)⟩ [11, 0] rfl 13 0 rfl rfl rfl rfl (Nat.le_of_ble_eq_true rfl) rfl (fun _ _ _ => rfl) dL_law_466 (fun r23 u23 w23 => ?_)
    obtain rfl := w23
    refine V_ws [(x0, oC 12 [.ref x1, .ref x30, .ref x59, .ref x88, .ref x117, .ref x126, .ref x127, .ref x129, .ref x132, .long 0]), (x1, oC 2 [.ref x2, .ref x4, .ref x6, .ref x8, .ref x10, .ref x12, .ref x14, .ref x16, .ref x18, .ref x20, .ref x27, .int 0]), (x2, oC 3 [.ref x3, .int 1]), (x4, oC 3 [.ref x5, .int 0]), (x10, oC 7 [.ref x11, .int 0]), (x12, oC 3 [.ref x13, .int 0]), (x18, oC 7 [.ref x19, .int 0]), (x20, oC 4 [.ref x21, .ref x23, .ref x25, .int 0]), (x21, oC 3 [.ref x22, .int 0]), (x27, oC 9 [.ref x28, .int 0, .long 0, .int (-1), .int 0, .int 0, .int 0, .int 0, .int 0]), (x28, oC 3 [.ref x29, .int 0]), (m0, oC 13 [.ref m1, .ref m2, .int 0, .ref m3, .ref m4, .int 0, .int 0, .int 0, .int (-1), .int 0, .int 0, .int 0, .long 0, .ref m5, .ref m6, .int 0, .int 0]), (m1, aI Y 3640 (clB 0 (fun _ => 0)))] rfl ?_
    refine V_icmp_eq_t 469 B 3332 dL_law_469 (by decide) (by decide +kernel) ?_
    refine V_iinc 3332 B (v := 6) (lv2 := [(4, .int 6), (3, .ref o0), (2, .ref m0), (1, .ref x0), (0, .ref b)]) dL_law_3332 0 rfl (by decide +kernel) (by decide) rfl ?_
    refine V_goto 3335 B 23 dL_law_3335 (by decide) ?_
    refine V_iload 23 B dL_law_23 0 rfl ?_
    refine V_aload_n 25 B dL_law_25 4 rfl ?_
    refine V_slen 26 B hX hbl hbA (v := 6) (by decide +kernel) dL_law_26 ?_
    refine V_bipush 27 B (v := 6) dL_law_27 (by decide +kernel) ?_
    refine V_isub 29 B (v := 0) dL_law_29 (by decide +kernel) ?_
    refine V_icmp_gt_t 30 B 3338 dL_law_30 (by decide) (by decide +kernel) ?_
    exact law_end B (Nat.le_of_ble_eq_true rfl) (Nat.le_of_ble_eq_true rfl) dL_law_3338 dL_law_3339
  ·
    refine V_ws [(x0, oC 12 [.ref x1, .ref x30, .ref x59, .ref x88, .ref x117, .ref x126, .ref x127, .ref x129, .ref x132, .long 0]), (x1, oC 2 [.ref x2, .ref x4, .ref x6, .ref x8, .ref x10, .ref x12, .ref x14, .ref x16, .ref x18, .ref x20, .ref x27, .int 0]), (x2, oC 3 [.ref x3, .int 1]), (x4, oC 3 [.ref x5, .int 0]), (x10, oC 7 [.ref x11, .int 0]), (x12, oC 3 [.ref x13, .int 0]), (x18, oC 7 [.ref x19, .int 0]), (x20, oC 4 [.ref x21, .ref x23, .ref x25, .int 0]), (x21, oC 3 [.ref x22, .int 0]), (x27, oC 9 [.ref x28, .int 0, .long 0, .int (-1), .int 0, .int 0, .int 0, .int 0, .int 0]), (x28, oC 3 [.ref x29, .int 0]), (m0, oC 13 [.ref m1, .ref m2, .int 0, .ref m3, .ref m4, .int 0, .int 0, .int 0, .int (-1), .int 0, .int 0, .int 0, .long 0, .ref m5, .ref m6, .int 0, .int 0]), (m1, aI Y 3640 (clB 0 (fun _ => 0)))] rfl ?_
    obtain rfl : p1 = 1 := k2
    refine V_aload_n 459 B dL_law_459 2 rfl ?_
    refine V_aload_n 460 B dL_law_460 4 rfl ?_
    refine V_iload 461 B dL_law_461 0 rfl ?_
    refine V_iconst 463 B (v := 1) dL_law_463 (by decide +kernel) ?_
    refine V_iadd 464 B (v := 1) dL_law_464 (by decide +kernel) ?_
    refine V_sld 465 B hX hbl hbA (v := 1) (vpin _ _ (by decide +kernel)) dL_law_465 e1 ?_
    refine V_cvi 466 B (st := [.int 0]) (As := [.int 1]) (fun sz => mX12_count_3 l D Y (m0) (m1) (m2) (m3) (m4) (m5) (m6) sz) glV_RL_175 ⟨rfl, rfl⟩ ⟨(Nat.le_of_ble_eq_true rfl), (Nat.le_of_ble_eq_true rfl)⟩ ⟨(Nat.le_of_ble_eq_true rfl), (Nat.le_of_ble_eq_true rfl)⟩ [11, 0] rfl 13 0 rfl rfl rfl rfl (Nat.le_of_ble_eq_true rfl) rfl (fun _ _ _ => rfl) dL_law_466 (fun r24 u24 w24 => ?_)
    obtain rfl := w24
    refine V_ws [(x0, oC 12 [.ref x1, .ref x30, .ref x59, .ref x88, .ref x117, .ref x126, .ref x127, .ref x129, .ref x132, .long 0]), (x1, oC 2 [.ref x2, .ref x4, .ref x6, .ref x8, .ref x10, .ref x12, .ref x14, .ref x16, .ref x18, .ref x20, .ref x27, .int 0]), (x2, oC 3 [.ref x3, .int 1]), (x4, oC 3 [.ref x5, .int 0]), (x10, oC 7 [.ref x11, .int 0]), (x12, oC 3 [.ref x13, .int 0]), (x18, oC 7 [.ref x19, .int 0]), (x20, oC 4 [.ref x21, .ref x23, .ref x25, .int 0]), (x21, oC 3 [.ref x22, .int 0]), (x27, oC 9 [.ref x28, .int 0, .long 0, .int (-1), .int 0, .int 0, .int 0, .int 0, .int 0]), (x28, oC 3 [.ref x29, .int 0]), (m0, oC 13 [.ref m1, .ref m2, .int 0, .ref m3, .ref m4, .int 0, .int 0, .int 0, .int (-1), .int 0, .int 0, .int 0, .long 0, .ref m5, .ref m6, .int 0, .int 0]), (m1, aI Y 3640 (clB 0 (fun _ => 0)))] rfl ?_
    refine V_icmp_eq_t 469 B 3332 dL_law_469 (by decide) (by decide +kernel) ?_
    refine V_iinc 3332 B (v := 6) (lv2 := [(4, .int 6), (3, .ref o0), (2, .ref m0), (1, .ref x0), (0, .ref b)]) dL_law_3332 0 rfl (by decide +kernel) (by decide) rfl ?_
    refine V_goto 3335 B 23 dL_law_3335 (by decide) ?_
    refine V_iload 23 B dL_law_23 0 rfl ?_
    refine V_aload_n 25 B dL_law_25 4 rfl ?_
    refine V_slen 26 B hX hbl hbA (v := 6) (by decide +kernel) dL_law_26 ?_
    refine V_bipush 27 B (v := 6) dL_law_27 (by decide +kernel) ?_
    refine V_isub 29 B (v := 0) dL_law_29 (by decide +kernel) ?_
    refine V_icmp_gt_t 30 B 3338 dL_law_30 (by decide) (by decide +kernel) ?_
    exact law_end B (Nat.le_of_ble_eq_true rfl) (Nat.le_of_ble_eq_true rfl) dL_law_3338 dL_law_3339
  ·
    refine V_ws [(x0, oC 12 [.ref x1, .ref x30, .ref x59, .ref x88, .ref x117, .ref x126, .ref x127, .ref x129, .ref x132, .long 0]), (x1, oC 2 [.ref x2, .ref x4, .ref x6, .ref x8, .ref x10, .ref x12, .ref x14, .ref x16, .ref x18, .ref x20, .ref x27, .int 0]), (x2, oC 3 [.ref x3, .int 1]), (x4, oC 3 [.ref x5, .int 0]), (x10, oC 7 [.ref x11, .int 0]), (x12, oC 3 [.ref x13, .int 0]), (x18, oC 7 [.ref x19, .int 0]), (x20, oC 4 [.ref x21, .ref x23, .ref x25, .int 0]), (x21, oC 3 [.ref x22, .int 0]), (x27, oC 9 [.ref x28, .int 0, .long 0, .int (-1), .int 0, .int 0, .int 0, .int 0, .int 0]), (x28, oC 3 [.ref x29, .int 0]), (m0, oC 13 [.ref m1, .ref m2, .int 0, .ref m3, .ref m4, .int 0, .int 0, .int 0, .int (-1), .int 0, .int 0, .int 0, .long 0, .ref m5, .ref m6, .int 0, .int 0]), (m1, aI Y 3640 (clB 0 (fun _ => 0)))] rfl ?_
    obtain rfl : p1 = 2 := k3
    refine V_aload_n 459 B dL_law_459 2 rfl ?_
    refine V_aload_n 460 B dL_law_460 4 rfl ?_
    refine V_iload 461 B dL_law_461 0 rfl ?_
    refine V_iconst 463 B (v := 1) dL_law_463 (by decide +kernel) ?_
    refine V_iadd 464 B (v := 1) dL_law_464 (by decide +kernel) ?_
    refine V_sld 465 B hX hbl hbA (v := 2) (vpin _ _ (by decide +kernel)) dL_law_465 e1 ?_
    refine V_cvi 466 B (st := [.int 0]) (As := [.int 2]) (fun sz => mX12_count_4 l D Y (m0) (m1) (m2) (m3) (m4) (m5) (m6) sz) glV_RL_175 ⟨rfl, rfl⟩ ⟨(Nat.le_of_ble_eq_true rfl), (Nat.le_of_ble_eq_true rfl)⟩ ⟨(Nat.le_of_ble_eq_true rfl), (Nat.le_of_ble_eq_true rfl)⟩ [11, 0] rfl 13 0 rfl rfl rfl rfl (Nat.le_of_ble_eq_true rfl) rfl (fun _ _ _ => rfl) dL_law_466 (fun r25 u25 w25 => ?_)
    obtain rfl := w25
    refine V_ws [(x0, oC 12 [.ref x1, .ref x30, .ref x59, .ref x88, .ref x117, .ref x126, .ref x127, .ref x129, .ref x132, .long 0]), (x1, oC 2 [.ref x2, .ref x4, .ref x6, .ref x8, .ref x10, .ref x12, .ref x14, .ref x16, .ref x18, .ref x20, .ref x27, .int 0]), (x2, oC 3 [.ref x3, .int 1]), (x4, oC 3 [.ref x5, .int 0]), (x10, oC 7 [.ref x11, .int 0]), (x12, oC 3 [.ref x13, .int 0]), (x18, oC 7 [.ref x19, .int 0]), (x20, oC 4 [.ref x21, .ref x23, .ref x25, .int 0]), (x21, oC 3 [.ref x22, .int 0]), (x27, oC 9 [.ref x28, .int 0, .long 0, .int (-1), .int 0, .int 0, .int 0, .int 0, .int 0]), (x28, oC 3 [.ref x29, .int 0]), (m0, oC 13 [.ref m1, .ref m2, .int 0, .ref m3, .ref m4, .int 0, .int 0, .int 0, .int (-1), .int 0, .int 0, .int 0, .long 0, .ref m5, .ref m6, .int 0, .int 0]), (m1, aI Y 3640 (clB 0 (fun _ => 0)))] rfl ?_
    refine V_icmp_eq_t 469 B 3332 dL_law_469 (by decide) (by decide +kernel) ?_
    refine V_iinc 3332 B (v := 6) (lv2 := [(4, .int 6), (3, .ref o0), (2, .ref m0), (1, .ref x0), (0, .ref b)]) dL_law_3332 0 rfl (by decide +kernel) (by decide) rfl ?_
    refine V_goto 3335 B 23 dL_law_3335 (by decide) ?_
    refine V_iload 23 B dL_law_23 0 rfl ?_
    refine V_aload_n 25 B dL_law_25 4 rfl ?_
    refine V_slen 26 B hX hbl hbA (v := 6) (by decide +kernel) dL_law_26 ?_
    refine V_bipush 27 B (v := 6) dL_law_27 (by decide +kernel) ?_
    refine V_isub 29 B (v := 0) dL_law_29 (by decide +kernel) ?_
    refine V_icmp_gt_t 30 B 3338 dL_law_30 (by decide) (by decide +kernel) ?_
    exact law_end B (Nat.le_of_ble_eq_true rfl) (Nat.le_of_ble_eq_true rfl) dL_law_3338 dL_law_3339
  ·
    refine V_ws [(x0, oC 12 [.ref x1, .ref x30, .ref x59, .ref x88, .ref x117, .ref x126, .ref x127, .ref x129, .ref x132, .long 0]), (x1, oC 2 [.ref x2, .ref x4, .ref x6, .ref x8, .ref x10, .ref x12, .ref x14, .ref x16, .ref x18, .ref x20, .ref x27, .int 0]), (x2, oC 3 [.ref x3, .int 1]), (x4, oC 3 [.ref x5, .int 0]), (x10, oC 7 [.ref x11, .int 0]), (x12, oC 3 [.ref x13, .int 0]), (x18, oC 7 [.ref x19, .int 0]), (x20, oC 4 [.ref x21, .ref x23, .ref x25, .int 0]), (x21, oC 3 [.ref x22, .int 0]), (x27, oC 9 [.ref x28, .int 0, .long 0, .int (-1), .int 0, .int 0, .int 0, .int 0, .int 0]), (x28, oC 3 [.ref x29, .int 0]), (m0, oC 13 [.ref m1, .ref m2, .int 0, .ref m3, .ref m4, .int 0, .int 0, .int 0, .int (-1), .int 0, .int 0, .int 0, .long 0, .ref m5, .ref m6, .int 0, .int 0]), (m1, aI Y 3640 (clB 0 (fun _ => 0)))] rfl ?_
    obtain rfl : p1 = 3 := k4
    refine V_aload_n 459 B dL_law_459 2 rfl ?_
    refine V_aload_n 460 B dL_law_460 4 rfl ?_
    refine V_iload 461 B dL_law_461 0 rfl ?_
    refine V_iconst 463 B (v := 1) dL_law_463 (by decide +kernel) ?_
    refine V_iadd 464 B (v := 1) dL_law_464 (by decide +kernel) ?_
    refine V_sld 465 B hX hbl hbA (v := 3) (vpin _ _ (by decide +kernel)) dL_law_465 e1 ?_
    refine V_cvi 466 B (st := [.int 0]) (As := [.int 3]) (fun sz => mX12_count_5 l D Y (m0) (m1) (m2) (m3) (m4) (m5) (m6) sz) glV_RL_175 ⟨rfl, rfl⟩ ⟨(Nat.le_of_ble_eq_true rfl), (Nat.le_of_ble_eq_true rfl)⟩ ⟨(Nat.le_of_ble_eq_true rfl), (Nat.le_of_ble_eq_true rfl)⟩ [11, 0] rfl 13 0 rfl rfl rfl rfl (Nat.le_of_ble_eq_true rfl) rfl (fun _ _ _ => rfl) dL_law_466 (fun r26 u26 w26 => ?_)
    obtain rfl := w26
    refine V_ws [(x0, oC 12 [.ref x1, .ref x30, .ref x59, .ref x88, .ref x117, .ref x126, .ref x127, .ref x129, .ref x132, .long 0]), (x1, oC 2 [.ref x2, .ref x4, .ref x6, .ref x8, .ref x10, .ref x12, .ref x14, .ref x16, .ref x18, .ref x20, .ref x27, .int 0]), (x2, oC 3 [.ref x3, .int 1]), (x4, oC 3 [.ref x5, .int 0]), (x10, oC 7 [.ref x11, .int 0]), (x12, oC 3 [.ref x13, .int 0]), (x18, oC 7 [.ref x19, .int 0]), (x20, oC 4 [.ref x21, .ref x23, .ref x25, .int 0]), (x21, oC 3 [.ref x22, .int 0]), (x27, oC 9 [.ref x28, .int 0, .long 0, .int (-1), .int 0, .int 0, .int 0, .int 0, .int 0]), (x28, oC 3 [.ref x29, .int 0]), (m0, oC 13 [.ref m1, .ref m2, .int 0, .ref m3, .ref m4, .int 0, .int 0, .int 0, .int (-1), .int 0, .int 0, .int 0, .long 0, .ref m5, .ref m6, .int 0, .int 0]), (m1, aI Y 3640 (clB 0 (fun _ => 0)))] rfl ?_
    refine V_icmp_eq_t 469 B 3332 dL_law_469 (by decide) (by decide +kernel) ?_
    refine V_iinc 3332 B (v := 6) (lv2 := [(4, .int 6), (3, .ref o0), (2, .ref m0), (1, .ref x0), (0, .ref b)]) dL_law_3332 0 rfl (by decide +kernel) (by decide) rfl ?_
    refine V_goto 3335 B 23 dL_law_3335 (by decide) ?_
    refine V_iload 23 B dL_law_23 0 rfl ?_
    refine V_aload_n 25 B dL_law_25 4 rfl ?_
    refine V_slen 26 B hX hbl hbA (v := 6) (by decide +kernel) dL_law_26 ?_
    refine V_bipush 27 B (v := 6) dL_law_27 (by decide +kernel) ?_
    refine V_isub 29 B (v := 0) dL_law_29 (by decide +kernel) ?_
    refine V_icmp_gt_t 30 B 3338 dL_law_30 (by decide) (by decide +kernel) ?_
    exact law_end B (Nat.le_of_ble_eq_true rfl) (Nat.le_of_ble_eq_true rfl) dL_law_3338 dL_law_3339
  ·
    refine V_ws [(x0, oC 12 [.ref x1, .ref x30, .ref x59, .ref x88, .ref x117, .ref x126, .ref x127, .ref x129, .ref x132, .long 0]), (x1, oC 2 [.ref x2, .ref x4, .ref x6, .ref x8, .ref x10, .ref x12, .ref x14, .ref x16, .ref x18, .ref x20, .ref x27, .int 0]), (x2, oC 3 [.ref x3, .int 1]), (x4, oC 3 [.ref x5, .int 0]), (x10, oC 7 [.ref x11, .int 0]), (x12, oC 3 [.ref x13, .int 0]), (x18, oC 7 [.ref x19, .int 0]), (x20, oC 4 [.ref x21, .ref x23, .ref x25, .int 0]), (x21, oC 3 [.ref x22, .int 0]), (x27, oC 9 [.ref x28, .int 0, .long 0, .int (-1), .int 0, .int 0, .int 0, .int 0, .int 0]), (x28, oC 3 [.ref x29, .int 0]), (m0, oC 13 [.ref m1, .ref m2, .int 0, .ref m3, .ref m4, .int 0, .int 0, .int 0, .int (-1), .int 0, .int 0, .int 0, .long 0, .ref m5, .ref m6, .int 0, .int 0]), (m1, aI Y 3640 (clB 0 (fun _ => 0)))] rfl ?_
    obtain rfl : p1 = 4 := k5
    refine V_aload_n 459 B dL_law_459 2 rfl ?_
    refine V_aload_n 460 B dL_law_460 4 rfl ?_
    refine V_iload 461 B dL_law_461 0 rfl ?_
    refine V_iconst 463 B (v := 1) dL_law_463 (by decide +kernel) ?_
    refine V_iadd 464 B (v := 1) dL_law_464 (by decide +kernel) ?_
    refine V_sld 465 B hX hbl hbA (v := 4) (vpin _ _ (by decide +kernel)) dL_law_465 e1 ?_
    refine V_cvi 466 B (st := [.int 0]) (As := [.int 4]) (fun sz => mX12_count_6 l D Y (m0) (m1) (m2) (m3) (m4) (m5) (m6) sz) glV_RL_175 ⟨rfl, rfl⟩ ⟨(Nat.le_of_ble_eq_true rfl), (Nat.le_of_ble_eq_true rfl)⟩ ⟨(Nat.le_of_ble_eq_true rfl), (Nat.le_of_ble_eq_true rfl)⟩ [11, 0] rfl 13 0 rfl rfl rfl rfl (Nat.le_of_ble_eq_true rfl) rfl (fun _ _ _ => rfl) dL_law_466 (fun r27 u27 w27 => ?_)
    obtain rfl := w27
    refine V_ws [(x0, oC 12 [.ref x1, .ref x30, .ref x59, .ref x88, .ref x117, .ref x126, .ref x127, .ref x129, .ref x132, .long 0]), (x1, oC 2 [.ref x2, .ref x4, .ref x6, .ref x8, .ref x10, .ref x12, .ref x14, .ref x16, .ref x18, .ref x20, .ref x27, .int 0]), (x2, oC 3 [.ref x3, .int 1]), (x4, oC 3 [.ref x5, .int 0]), (x10, oC 7 [.ref x11, .int 0]), (x12, oC 3 [.ref x13, .int 0]), (x18, oC 7 [.ref x19, .int 0]), (x20, oC 4 [.ref x21, .ref x23, .ref x25, .int 0]), (x21, oC 3 [.ref x22, .int 0]), (x27, oC 9 [.ref x28, .int 0, .long 0, .int (-1), .int 0, .int 0, .int 0, .int 0, .int 0]), (x28, oC 3 [.ref x29, .int 0]), (m0, oC 13 [.ref m1, .ref m2, .int 0, .ref m3, .ref m4, .int 0, .int 0, .int 0, .int (-1), .int 0, .int 0, .int 0, .long 0, .ref m5, .ref m6, .int 0, .int 0]), (m1, aI Y 3640 (clB 0 (fun _ => 0)))] rfl ?_
    refine V_icmp_eq_t 469 B 3332 dL_law_469 (by decide) (by decide +kernel) ?_
    refine V_iinc 3332 B (v := 6) (lv2 := [(4, .int 6), (3, .ref o0), (2, .ref m0), (1, .ref x0), (0, .ref b)]) dL_law_3332 0 rfl (by decide +kernel) (by decide) rfl ?_
    refine V_goto 3335 B 23 dL_law_3335 (by decide) ?_
    refine V_iload 23 B dL_law_23 0 rfl ?_
    refine V_aload_n 25 B dL_law_25 4 rfl ?_
    refine V_slen 26 B hX hbl hbA (v := 6) (by decide +kernel) dL_law_26 ?_
    refine V_bipush 27 B (v := 6) dL_law_27 (by decide +kernel) ?_
    refine V_isub 29 B (v := 0) dL_law_29 (by decide +kernel) ?_
    refine V_icmp_gt_t 30 B 3338 dL_law_30 (by decide) (by decide +kernel) ?_
    exact law_end B (Nat.le_of_ble_eq_true rfl) (Nat.le_of_ble_eq_true rfl) dL_law_3338 dL_law_3339
  ·
    refine V_ws [(x0, oC 12 [.ref x1, .ref x30, .ref x59, .ref x88, .ref x117, .ref x126, .ref x127, .ref x129, .ref x132, .long 0]), (x1, oC 2 [.ref x2, .ref x4, .ref x6, .ref x8, .ref x10, .ref x12, .ref x14, .ref x16, .ref x18, .ref x20, .ref x27, .int 0]), (x2, oC 3 [.ref x3, .int 1]), (x4, oC 3 [.ref x5, .int 0]), (x10, oC 7 [.ref x11, .int 0]), (x12, oC 3 [.ref x13, .int 0]), (x18, oC 7 [.ref x19, .int 0]), (x20, oC 4 [.ref x21, .ref x23, .ref x25, .int 0]), (x21, oC 3 [.ref x22, .int 0]), (x27, oC 9 [.ref x28, .int 0, .long 0, .int (-1), .int 0, .int 0, .int 0, .int 0, .int 0]), (x28, oC 3 [.ref x29, .int 0]), (m0, oC 13 [.ref m1, .ref m2, .int 0, .ref m3, .ref m4, .int 0, .int 0, .int 0, .int (-1), .int 0, .int 0, .int 0, .long 0, .ref m5, .ref m6, .int 0, .int 0]), (m1, aI Y 3640 (clB 0 (fun _ => 0)))] rfl ?_
    obtain rfl : p1 = 5 := k6
    refine V_aload_n 459 B dL_law_459 2 rfl ?_
    refine V_aload_n 460 B dL_law_460 4 rfl ?_
    refine V_iload 461 B dL_law_461 0 rfl ?_
    refine V_iconst 463 B (v := 1) dL_law_463 (by decide +kernel) ?_
    refine V_iadd 464 B (v := 1) dL_law_464 (by decide +kernel) ?_
    refine V_sld 465 B hX hbl hbA (v := 5) (vpin _ _ (by decide +kernel)) dL_law_465 e1 ?_
    refine V_cvi 466 B (st := [.int 0]) (As := [.int 5]) (fun sz => mX12_count_7 l D Y (m0) (m1) (m2) (m3) (m4) (m5) (m6) sz) glV_RL_175 ⟨rfl, rfl⟩ ⟨(Nat.le_of_ble_eq_true rfl), (Nat.le_of_ble_eq_true rfl)⟩ ⟨(Nat.le_of_ble_eq_true rfl), (Nat.le_of_ble_eq_true rfl)⟩ [11, 0] rfl 13 0 rfl rfl rfl rfl (Nat.le_of_ble_eq_true rfl) rfl (fun _ _ _ => rfl) dL_law_466 (fun r28 u28 w28 => ?_)
    obtain rfl := w28
    refine V_ws [(x0, oC 12 [.ref x1, .ref x30, .ref x59, .ref x88, .ref x117, .ref x126, .ref x127, .ref x129, .ref x132, .long 0]), (x1, oC 2 [.ref x2, .ref x4, .ref x6, .ref x8, .ref x10, .ref x12, .ref x14, .ref x16, .ref x18, .ref x20, .ref x27, .int 0]), (x2, oC 3 [.ref x3, .int 1]), (x4, oC 3 [.ref x5, .int 0]), (x10, oC 7 [.ref x11, .int 0]), (x12, oC 3 [.ref x13, .int 0]), (x18, oC 7 [.ref x19, .int 0]), (x20, oC 4 [.ref x21, .ref x23, .ref x25, .int 0]), (x21, oC 3 [.ref x22, .int 0]), (x27, oC 9 [.ref x28, .int 0, .long 0, .int (-1), .int 0, .int 0, .int 0, .int 0, .int 0]), (x28, oC 3 [.ref x29, .int 0]), (m0, oC 13 [.ref m1, .ref m2, .int 0, .ref m3, .ref m4, .int 0, .int 0, .int 0, .int (-1), .int 0, .int 0, .int 0, .long 0, .ref m5, .ref m6, .int 0, .int 0]), (m1, aI Y 3640 (clB 0 (fun _ => 0)))] rfl ?_
    refine V_icmp_eq_t 469 B 3332 dL_law_469 (by decide) (by decide +kernel) ?_
    refine V_iinc 3332 B (v := 6) (lv2 := [(4, .int 6), (3, .ref o0), (2, .ref m0), (1, .ref x0), (0, .ref b)]) dL_law_3332 0 rfl (by decide +kernel) (by decide) rfl ?_
    refine V_goto 3335 B 23 dL_law_3335 (by decide) ?_
    refine V_iload 23 B dL_law_23 0 rfl ?_
    refine V_aload_n 25 B dL_law_25 4 rfl ?_
    refine V_slen 26 B hX hbl hbA (v := 6) (by decide +kernel) dL_law_26 ?_
    refine V_bipush 27 B (v := 6) dL_law_27 (by decide +kernel) ?_
    refine V_isub 29 B (v := 0) dL_law_29 (by decide +kernel) ?_
    refine V_icmp_gt_t 30 B 3338 dL_law_30 (by decide) (by decide +kernel) ?_
    exact law_end B (Nat.le_of_ble_eq_true rfl) (Nat.le_of_ble_eq_true rfl) dL_law_3338 dL_law_3339
  ·
    refine V_ws [(x0, oC 12 [.ref x1, .ref x30, .ref x59, .ref x88, .ref x117, .ref x126, .ref x127, .ref x129, .ref x132, .long 0]), (x1, oC 2 [.ref x2, .ref x4, .ref x6, .ref x8, .ref x10, .ref x12, .ref x14, .ref x16, .ref x18, .ref x20, .ref x27, .int 0]), (x2, oC 3 [.ref x3, .int 1]), (x4, oC 3 [.ref x5, .int 0]), (x10, oC 7 [.ref x11, .int 0]), (x12, oC 3 [.ref x13, .int 0]), (x18, oC 7 [.ref x19, .int 0]), (x20, oC 4 [.ref x21, .ref x23, .ref x25, .int 0]), (x21, oC 3 [.ref x22, .int 0]), (x27, oC 9 [.ref x28, .int 0, .long 0, .int (-1), .int 0, .int 0, .int 0, .int 0, .int 0]), (x28, oC 3 [.ref x29, .int 0]), (m0, oC 13 [.ref m1, .ref m2, .int 0, .ref m3, .ref m4, .int 0, .int 0, .int 0, .int (-1), .int 0, .int 0, .int 0, .long 0, .ref m5, .ref m6, .int 0, .int 0]), (m1, aI Y 3640 (clB 0 (fun _ => 0)))] rfl ?_
    obtain rfl : p1 = 6 := k7
    refine V_aload_n 459 B dL_law_459 2 rfl ?_
    refine V_aload_n 460 B dL_law_460 4 rfl ?_
    refine V_iload 461 B dL_law_461 0 rfl ?_
    refine V_iconst 463 B (v := 1) dL_law_463 (by decide +kernel) ?_
    refine V_iadd 464 B (v := 1) dL_law_464 (by decide +kernel) ?_
    refine V_sld 465 B hX hbl hbA (v := 6) (vpin _ _ (by decide +kernel)) dL_law_465 e1 ?_
    refine V_cvi 466 B (st := [.int 0]) (As := [.int 6]) (fun sz => mX12_count_8 l D Y (m0) (m1) (m2) (m3) (m4) (m5) (m6) sz) glV_RL_175 ⟨rfl, rfl⟩ ⟨(Nat.le_of_ble_eq_true rfl), (Nat.le_of_ble_eq_true rfl)⟩ ⟨(Nat.le_of_ble_eq_true rfl), (Nat.le_of_ble_eq_true rfl)⟩ [11, 0] rfl 13 0 rfl rfl rfl rfl (Nat.le_of_ble_eq_true rfl) rfl (fun _ _ _ => rfl) dL_law_466 (fun r29 u29 w29 => ?_)
    obtain rfl := w29
    refine V_ws [(x0, oC 12 [.ref x1, .ref x30, .ref x59, .ref x88, .ref x117, .ref x126, .ref x127, .ref x129, .ref x132, .long 0]), (x1, oC 2 [.ref x2, .ref x4, .ref x6, .ref x8, .ref x10, .ref x12, .ref x14, .ref x16, .ref x18, .ref x20, .ref x27, .int 0]), (x2, oC 3 [.ref x3, .int 1]), (x4, oC 3 [.ref x5, .int 0]), (x10, oC 7 [.ref x11, .int 0]), (x12, oC 3 [.ref x13, .int 0]), (x18, oC 7 [.ref x19, .int 0]), (x20, oC 4 [.ref x21, .ref x23, .ref x25, .int 0]), (x21, oC 3 [.ref x22, .int 0]), (x27, oC 9 [.ref x28, .int 0, .long 0, .int (-1), .int 0, .int 0, .int 0, .int 0, .int 0]), (x28, oC 3 [.ref x29, .int 0]), (m0, oC 13 [.ref m1, .ref m2, .int 0, .ref m3, .ref m4, .int 0, .int 0, .int 0, .int (-1), .int 0, .int 0, .int 0, .long 0, .ref m5, .ref m6, .int 0, .int 0]), (m1, aI Y 3640 (clB 0 (fun _ => 0)))] rfl ?_
    refine V_icmp_eq_t 469 B 3332 dL_law_469 (by decide) (by decide +kernel) ?_
    refine V_iinc 3332 B (v := 6) (lv2 := [(4, .int 6), (3, .ref o0), (2, .ref m0), (1, .ref x0), (0, .ref b)]) dL_law_3332 0 rfl (by decide +kernel) (by decide) rfl ?_
    refine V_goto 3335 B 23 dL_law_3335 (by decide) ?_
    refine V_iload 23 B dL_law_23 0 rfl ?_
    refine V_aload_n 25 B dL_law_25 4 rfl ?_
    refine V_slen 26 B hX hbl hbA (v := 6) (by decide +kernel) dL_law_26 ?_
    refine V_bipush 27 B (v := 6) dL_law_27 (by decide +kernel) ?_
    refine V_isub 29 B (v := 0) dL_law_29 (by decide +kernel) ?_
    refine V_icmp_gt_t 30 B 3338 dL_law_30 (by decide) (by decide +kernel) ?_
    exact law_end B (Nat.le_of_ble_eq_true rfl) (Nat.le_of_ble_eq_true rfl) dL_law_3338 dL_law_3339
  ·
    refine V_ws [(x0, oC 12 [.ref x1, .ref x30, .ref x59, .ref x88, .ref x117, .ref x126, .ref x127, .ref x129, .ref x132, .long 0]), (x1, oC 2 [.ref x2, .ref x4, .ref x6, .ref x8, .ref x10, .ref x12, .ref x14, .ref x16, .ref x18, .ref x20, .ref x27, .int 0]), (x2, oC 3 [.ref x3, .int 1]), (x4, oC 3 [.ref x5, .int 0]), (x10, oC 7 [.ref x11, .int 0]), (x12, oC 3 [.ref x13, .int 0]), (x18, oC 7 [.ref x19, .int 0]), (x20, oC 4 [.ref x21, .ref x23, .ref x25, .int 0]), (x21, oC 3 [.ref x22, .int 0]), (x27, oC 9 [.ref x28, .int 0, .long 0, .int (-1), .int 0, .int 0, .int 0, .int 0, .int 0]), (x28, oC 3 [.ref x29, .int 0]), (m0, oC 13 [.ref m1, .ref m2, .int 0, .ref m3, .ref m4, .int 0, .int 0, .int 0, .int (-1), .int 0, .int 0, .int 0, .long 0, .ref m5, .ref m6, .int 0, .int 0]), (m1, aI Y 3640 (clB 0 (fun _ => 0)))] rfl ?_
    obtain rfl : p1 = 7 := k8
    refine V_aload_n 459 B dL_law_459 2 rfl ?_
    refine V_aload_n 460 B dL_law_460 4 rfl ?_
    refine V_iload 461 B dL_law_461 0 rfl ?_
    refine V_iconst 463 B (v := 1) dL_law_463 (by decide +kernel) ?_
    refine V_iadd 464 B (v := 1) dL_law_464 (by decide +kernel) ?_
    refine V_sld 465 B hX hbl hbA (v := 7) (vpin _ _ (by decide +kernel)) dL_law_465 e1 ?_
    refine V_cvi 466 B (st := [.int 0]) (As := [.int 7]) (fun sz => mX12_count_9 l D Y (m0) (m1) (m2) (m3) (m4) (m5) (m6) sz) glV_RL_175 ⟨rfl, rfl⟩ ⟨(Nat.le_of_ble_eq_true rfl), (Nat.le_of_ble_eq_true rfl)⟩ ⟨(Nat.le_of_ble_eq_true rfl), (Nat.le_of_ble_eq_true rfl)⟩ [11, 0] rfl 13 0 rfl rfl rfl rfl (Nat.le_of_ble_eq_true rfl) rfl (fun _ _ _ => rfl) dL_law_466 (fun r30 u30 w30 => ?_)
    obtain rfl := w30
    refine V_ws [(x0, oC 12 [.ref x1, .ref x30, .ref x59, .ref x88, .ref x117, .ref x126, .ref x127, .ref x129, .ref x132, .long 0]), (x1, oC 2 [.ref x2, .ref x4, .ref x6, .ref x8, .ref x10, .ref x12, .ref x14, .ref x16, .ref x18, .ref x20, .ref x27, .int 0]), (x2, oC 3 [.ref x3, .int 1]), (x4, oC 3 [.ref x5, .int 0]), (x10, oC 7 [.ref x11, .int 0]), (x12, oC 3 [.ref x13, .int 0]), (x18, oC 7 [.ref x19, .int 0]), (x20, oC 4 [.ref x21, .ref x23, .ref x25, .int 0]), (x21, oC 3 [.ref x22, .int 0]), (x27, oC 9 [.ref x28, .int 0, .long 0, .int (-1), .int 0, .int 0, .int 0, .int 0, .int 0]), (x28, oC 3 [.ref x29, .int 0]), (m0, oC 13 [.ref m1, .ref m2, .int 0, .ref m3, .ref m4, .int 0, .int 0, .int 0, .int (-1), .int 0, .int 0, .int 0, .long 0, .ref m5, .ref m6, .int 0, .int 0]), (m1, aI Y 3640 (clB 0 (fun _ => 0)))] rfl ?_
    refine V_icmp_eq_t 469 B 3332 dL_law_469 (by decide) (by decide +kernel) ?_
    refine V_iinc 3332 B (v := 6) (lv2 := [(4, .int 6), (3, .ref o0), (2, .ref m0), (1, .ref x0), (0, .ref b)]) dL_law_3332 0 rfl (by decide +kernel) (by decide) rfl ?_
    refine V_goto 3335 B 23 dL_law_3335 (by decide) ?_
    refine V_iload 23 B dL_law_23 0 rfl ?_
    refine V_aload_n 25 B dL_law_25 4 rfl ?_
    refine V_slen 26 B hX hbl hbA (v := 6) (by decide +kernel) dL_law_26 ?_
    refine V_bipush 27 B (v := 6) dL_law_27 (by decide +kernel) ?_
    refine V_isub 29 B (v := 0) dL_law_29 (by decide +kernel) ?_
    refine V_icmp_gt_t 30 B 3338 dL_law_30 (by decide) (by decide +kernel) ?_
    exact law_end B (Nat.le_of_ble_eq_true rfl) (Nat.le_of_ble_eq_true rfl) dL_law_3338 dL_law_3339
  ·
    refine V_ws [(x0, oC 12 [.ref x1, .ref x30, .ref x59, .ref x88, .ref x117, .ref x126, .ref x127, .ref x129, .ref x132, .long 0]), (x1, oC 2 [.ref x2, .ref x4, .ref x6, .ref x8, .ref x10, .ref x12, .ref x14, .ref x16, .ref x18, .ref x20, .ref x27, .int 0]), (x2, oC 3 [.ref x3, .int 1]), (x4, oC 3 [.ref x5, .int 0]), (x10, oC 7 [.ref x11, .int 0]), (x12, oC 3 [.ref x13, .int 0]), (x18, oC 7 [.ref x19, .int 0]), (x20, oC 4 [.ref x21, .ref x23, .ref x25, .int 0]), (x21, oC 3 [.ref x22, .int 0]), (x27, oC 9 [.ref x28, .int 0, .long 0, .int (-1), .int 0, .int 0, .int 0, .int 0, .int 0]), (x28, oC 3 [.ref x29, .int 0]), (m0, oC 13 [.ref m1, .ref m2, .int 0, .ref m3, .ref m4, .int 0, .int 0, .int 0, .int (-1), .int 0, .int 0, .int 0, .long 0, .ref m5, .ref m6, .int 0, .int 0]), (m1, aI Y 3640 (clB 0 (fun _ => 0)))] rfl ?_
    obtain rfl : p1 = 8 := k9
    refine V_aload_n 459 B dL_law_459 2 rfl ?_
    refine V_aload_n 460 B dL_law_460 4 rfl ?_
    refine V_iload 461 B dL_law_461 0 rfl ?_
    refine V_iconst 463 B (v := 1) dL_law_463 (by decide +kernel) ?_
    refine V_iadd 464 B (v := 1) dL_law_464 (by decide +kernel) ?_
    refine V_sld 465 B hX hbl hbA (v := 8) (vpin _ _ (by decide +kernel)) dL_law_465 e1 ?_
    refine V_cvi 466 B (st := [.int 0]) (As := [.int 8]) (fun sz => mX12_count_10 l D Y (m0) (m1) (m2) (m3) (m4) (m5) (m6) sz) glV_RL_175 ⟨rfl, rfl⟩ ⟨(Nat.le_of_ble_eq_true rfl), (Nat.le_of_ble_eq_true rfl)⟩ ⟨(Nat.le_of_ble_eq_true rfl), (Nat.le_of_ble_eq_true rfl)⟩ [11, 0] rfl 13 0 rfl rfl rfl rfl (Nat.le_of_ble_eq_true rfl) rfl (fun _ _ _ => rfl) dL_law_466 (fun r31 u31 w31 => ?_)
    obtain rfl := w31
    refine V_ws [(x0, oC 12 [.ref x1, .ref x30, .ref x59, .ref x88, .ref x117, .ref x126, .ref x127, .ref x129, .ref x132, .long 0]), (x1, oC 2 [.ref x2, .ref x4, .ref x6, .ref x8, .ref x10, .ref x12, .ref x14, .ref x16, .ref x18, .ref x20, .ref x27, .int 0]), (x2, oC 3 [.ref x3, .int 1]), (x4, oC 3 [.ref x5, .int 0]), (x10, oC 7 [.ref x11, .int 0]), (x12, oC 3 [.ref x13, .int 0]), (x18, oC 7 [.ref x19, .int 0]), (x20, oC 4 [.ref x21, .ref x23, .ref x25, .int 0]), (x21, oC 3 [.ref x22, .int 0]), (x27, oC 9 [.ref x28, .int 0, .long 0, .int (-1), .int 0, .int 0, .int 0, .int 0, .int 0]), (x28, oC 3 [.ref x29, .int 0]), (m0, oC 13 [.ref m1, .ref m2, .int 0, .ref m3, .ref m4, .int 0, .int 0, .int 0, .int (-1), .int 0, .int 0, .int 0, .long 0, .ref m5, .ref m6, .int 0, .int 0]), (m1, aI Y 3640 (clB 0 (fun _ => 0)))] rfl ?_
    refine V_icmp_eq_t 469 B 3332 dL_law_469 (by decide) (by decide +kernel) ?_
    refine V_iinc 3332 B (v := 6) (lv2 := [(4, .int 6), (3, .ref o0), (2, .ref m0), (1, .ref x0), (0, .ref b)]) dL_law_3332 0 rfl (by decide +kernel) (by decide) rfl ?_
    refine V_goto 3335 B 23 dL_law_3335 (by decide) ?_
    refine V_iload 23 B dL_law_23 0 rfl ?_
    refine V_aload_n 25 B dL_law_25 4 rfl ?_
    refine V_slen 26 B hX hbl hbA (v := 6) (by decide +kernel) dL_law_26 ?_
    refine V_bipush 27 B (v := 6) dL_law_27 (by decide +kernel) ?_
    refine V_isub 29 B (v := 0) dL_law_29 (by decide +kernel) ?_
    refine V_icmp_gt_t 30 B 3338 dL_law_30 (by decide) (by decide +kernel) ?_
    exact law_end B (Nat.le_of_ble_eq_true rfl) (Nat.le_of_ble_eq_true rfl) dL_law_3338 dL_law_3339
  ·
    refine V_ws [(x0, oC 12 [.ref x1, .ref x30, .ref x59, .ref x88, .ref x117, .ref x126, .ref x127, .ref x129, .ref x132, .long 0]), (x1, oC 2 [.ref x2, .ref x4, .ref x6, .ref x8, .ref x10, .ref x12, .ref x14, .ref x16, .ref x18, .ref x20, .ref x27, .int 0]), (x2, oC 3 [.ref x3, .int 1]), (x4, oC 3 [.ref x5, .int 0]), (x10, oC 7 [.ref x11, .int 0]), (x12, oC 3 [.ref x13, .int 0]), (x18, oC 7 [.ref x19, .int 0]), (x20, oC 4 [.ref x21, .ref x23, .ref x25, .int 0]), (x21, oC 3 [.ref x22, .int 0]), (x27, oC 9 [.ref x28, .int 0, .long 0, .int (-1), .int 0, .int 0, .int 0, .int 0, .int 0]), (x28, oC 3 [.ref x29, .int 0]), (m0, oC 13 [.ref m1, .ref m2, .int 0, .ref m3, .ref m4, .int 0, .int 0, .int 0, .int (-1), .int 0, .int 0, .int 0, .long 0, .ref m5, .ref m6, .int 0, .int 0]), (m1, aI Y 3640 (clB 0 (fun _ => 0)))] rfl ?_
    obtain rfl : p1 = 9 := k10
    refine V_aload_n 459 B dL_law_459 2 rfl ?_
    refine V_aload_n 460 B dL_law_460 4 rfl ?_
    refine V_iload 461 B dL_law_461 0 rfl ?_
    refine V_iconst 463 B (v := 1) dL_law_463 (by decide +kernel) ?_
    refine V_iadd 464 B (v := 1) dL_law_464 (by decide +kernel) ?_
    refine V_sld 465 B hX hbl hbA (v := 9) (vpin _ _ (by decide +kernel)) dL_law_465 e1 ?_
    refine V_cvi 466 B (st := [.int 0]) (As := [.int 9]) (fun sz => mX12_count_11 l D Y (m0) (m1) (m2) (m3) (m4) (m5) (m6) sz) glV_RL_175 ⟨rfl, rfl⟩ ⟨(Nat.le_of_ble_eq_true rfl), (Nat.le_of_ble_eq_true rfl)⟩ ⟨(Nat.le_of_ble_eq_true rfl), (Nat.le_of_ble_eq_true rfl)⟩ [11, 0] rfl 13 0 rfl rfl rfl rfl (Nat.le_of_ble_eq_true rfl) rfl (fun _ _ _ => rfl) dL_law_466 (fun r32 u32 w32 => ?_)
    obtain rfl := w32
    refine V_ws [(x0, oC 12 [.ref x1, .ref x30, .ref x59, .ref x88, .ref x117, .ref x126, .ref x127, .ref x129, .ref x132, .long 0]), (x1, oC 2 [.ref x2, .ref x4, .ref x6, .ref x8, .ref x10, .ref x12, .ref x14, .ref x16, .ref x18, .ref x20, .ref x27, .int 0]), (x2, oC 3 [.ref x3, .int 1]), (x4, oC 3 [.ref x5, .int 0]), (x10, oC 7 [.ref x11, .int 0]), (x12, oC 3 [.ref x13, .int 0]), (x18, oC 7 [.ref x19, .int 0]), (x20, oC 4 [.ref x21, .ref x23, .ref x25, .int 0]), (x21, oC 3 [.ref x22, .int 0]), (x27, oC 9 [.ref x28, .int 0, .long 0, .int (-1), .int 0, .int 0, .int 0, .int 0, .int 0]), (x28, oC 3 [.ref x29, .int 0]), (m0, oC 13 [.ref m1, .ref m2, .int 0, .ref m3, .ref m4, .int 0, .int 0, .int 0, .int (-1), .int 0, .int 0, .int 0, .long 0, .ref m5, .ref m6, .int 0, .int 0]), (m1, aI Y 3640 (clB 0 (fun _ => 0)))] rfl ?_
    refine V_icmp_eq_t 469 B 3332 dL_law_469 (by decide) (by decide +kernel) ?_
    refine V_iinc 3332 B (v := 6) (lv2 := [(4, .int 6), (3, .ref o0), (2, .ref m0), (1, .ref x0), (0, .ref b)]) dL_law_3332 0 rfl (by decide +kernel) (by decide) rfl ?_
    refine V_goto 3335 B 23 dL_law_3335 (by decide) ?_
    refine V_iload 23 B dL_law_23 0 rfl ?_
    refine V_aload_n 25 B dL_law_25 4 rfl ?_
    refine V_slen 26 B hX hbl hbA (v := 6) (by decide +kernel) dL_law_26 ?_
    refine V_bipush 27 B (v := 6) dL_law_27 (by decide +kernel) ?_
    refine V_isub 29 B (v := 0) dL_law_29 (by decide +kernel) ?_
    refine V_icmp_gt_t 30 B 3338 dL_law_30 (by decide) (by decide +kernel) ?_
    exact law_end B (Nat.le_of_ble_eq_true rfl) (Nat.le_of_ble_eq_true rfl) dL_law_3338 dL_law_3339
  ·
    refine V_ws [(x0, oC 12 [.ref x1, .ref x30, .ref x59, .ref x88, .ref x117, .ref x126, .ref x127, .ref x129, .ref x132, .long 0]), (x1, oC 2 [.ref x2, .ref x4, .ref x6, .ref x8, .ref x10, .ref x12, .ref x14, .ref x16, .ref x18, .ref x20, .ref x27, .int 0]), (x2, oC 3 [.ref x3, .int 1]), (x4, oC 3 [.ref x5, .int 0]), (x10, oC 7 [.ref x11, .int 0]), (x12, oC 3 [.ref x13, .int 0]), (x18, oC 7 [.ref x19, .int 0]), (x20, oC 4 [.ref x21, .ref x23, .ref x25, .int 0]), (x21, oC 3 [.ref x22, .int 0]), (x27, oC 9 [.ref x28, .int 0, .long 0, .int (-1), .int 0, .int 0, .int 0, .int 0, .int 0]), (x28, oC 3 [.ref x29, .int 0]), (m0, oC 13 [.ref m1, .ref m2, .int 0, .ref m3, .ref m4, .int 0, .int 0, .int 0, .int (-1), .int 0, .int 0, .int 0, .long 0, .ref m5, .ref m6, .int 0, .int 0]), (m1, aI Y 3640 (clB 0 (fun _ => 0)))] rfl ?_
    obtain rfl : p1 = 10 := k11
    refine V_aload_n 459 B dL_law_459 2 rfl ?_
    refine V_aload_n 460 B dL_law_460 4 rfl ?_
    refine V_iload 461 B dL_law_461 0 rfl ?_
    refine V_iconst 463 B (v := 1) dL_law_463 (by decide +kernel) ?_
    refine V_iadd 464 B (v := 1) dL_law_464 (by decide +kernel) ?_
    refine V_sld 465 B hX hbl hbA (v := 10) (vpin _ _ (by decide +kernel)) dL_law_465 e1 ?_
    refine V_cvi 466 B (st := [.int 0]) (As := [.int 10]) (fun sz => mX12_count_12 l D Y (m0) (m1) (m2) (m3) (m4) (m5) (m6) sz) glV_RL_175 ⟨rfl, rfl⟩ ⟨(Nat.le_of_ble_eq_true rfl), (Nat.le_of_ble_eq_true rfl)⟩ ⟨(Nat.le_of_ble_eq_true rfl), (Nat.le_of_ble_eq_true rfl)⟩ [11, 0] rfl 13 0 rfl rfl rfl rfl (Nat.le_of_ble_eq_true rfl) rfl (fun _ _ _ => rfl) dL_law_466 (fun r33 u33 w33 => ?_)
    obtain rfl := w33
    refine V_ws [(x0, oC 12 [.ref x1, .ref x30, .ref x59, .ref x88, .ref x117, .ref x126, .ref x127, .ref x129, .ref x132, .long 0]), (x1, oC 2 [.ref x2, .ref x4, .ref x6, .ref x8, .ref x10, .ref x12, .ref x14, .ref x16, .ref x18, .ref x20, .ref x27, .int 0]), (x2, oC 3 [.ref x3, .int 1]), (x4, oC 3 [.ref x5, .int 0]), (x10, oC 7 [.ref x11, .int 0]), (x12, oC 3 [.ref x13, .int 0]), (x18, oC 7 [.ref x19, .int 0]), (x20, oC 4 [.ref x21, .ref x23, .ref x25, .int 0]), (x21, oC 3 [.ref x22, .int 0]), (x27, oC 9 [.ref x28, .int 0, .long 0, .int (-1), .int 0, .int 0, .int 0, .int 0, .int 0]), (x28, oC 3 [.ref x29, .int 0]), (m0, oC 13 [.ref m1, .ref m2, .int 0, .ref m3, .ref m4, .int 0, .int 0, .int 0, .int (-1), .int 0, .int 0, .int 0, .long 0, .ref m5, .ref m6, .int 0, .int 0]), (m1, aI Y 3640 (clB 0 (fun _ => 0)))] rfl ?_
    refine V_icmp_eq_t 469 B 3332 dL_law_469 (by decide) (by decide +kernel) ?_
    refine V_iinc 3332 B (v := 6) (lv2 := [(4, .int 6), (3, .ref o0), (2, .ref m0), (1, .ref x0), (0, .ref b)]) dL_law_3332 0 rfl (by decide +kernel) (by decide) rfl ?_
    refine V_goto 3335 B 23 dL_law_3335 (by decide) ?_
    refine V_iload 23 B dL_law_23 0 rfl ?_
    refine V_aload_n 25 B dL_law_25 4 rfl ?_
    refine V_slen 26 B hX hbl hbA (v := 6) (by decide +kernel) dL_law_26 ?_
    refine V_bipush 27 B (v := 6) dL_law_27 (by decide +kernel) ?_
    refine V_isub 29 B (v := 0) dL_law_29 (by decide +kernel) ?_
    refine V_icmp_gt_t 30 B 3338 dL_law_30 (by decide) (by decide +kernel) ?_
    exact law_end B (Nat.le_of_ble_eq_true rfl) (Nat.le_of_ble_eq_true rfl) dL_law_3338 dL_law_3339
  ·
    refine V_ws [(x0, oC 12 [.ref x1, .ref x30, .ref x59, .ref x88, .ref x117, .ref x126, .ref x127, .ref x129, .ref x132, .long 0]), (x1, oC 2 [.ref x2, .ref x4, .ref x6, .ref x8, .ref x10, .ref x12, .ref x14, .ref x16, .ref x18, .ref x20, .ref x27, .int 0]), (x2, oC 3 [.ref x3, .int 1]), (x4, oC 3 [.ref x5, .int 0]), (x10, oC 7 [.ref x11, .int 0]), (x12, oC 3 [.ref x13, .int 0]), (x18, oC 7 [.ref x19, .int 0]), (x20, oC 4 [.ref x21, .ref x23, .ref x25, .int 0]), (x21, oC 3 [.ref x22, .int 0]), (x27, oC 9 [.ref x28, .int 0, .long 0, .int (-1), .int 0, .int 0, .int 0, .int 0, .int 0]), (x28, oC 3 [.ref x29, .int 0]), (m0, oC 13 [.ref m1, .ref m2, .int 0, .ref m3, .ref m4, .int 0, .int 0, .int 0, .int (-1), .int 0, .int 0, .int 0, .long 0, .ref m5, .ref m6, .int 0, .int 0]), (m1, aI Y 3640 (clB 0 (fun _ => 0)))] rfl ?_
    refine V_aload_n 459 B dL_law_459 2 rfl ?_
    refine V_aload_n 460 B dL_law_460 4 rfl ?_
    refine V_iload 461 B dL_law_461 0 rfl ?_
    refine V_iconst 463 B (v := 1) dL_law_463 (by decide +kernel) ?_
    refine V_iadd 464 B (v := 1) dL_law_464 (by decide +kernel) ?_
    refine V_sld 465 B hX hbl hbA (v := p1) (vpin _ _ (by decide +kernel)) dL_law_465 e1 ?_
    refine V_cvi 466 B (st := [.int (-1)]) (As := [.int p1]) (fun sz => mX12_count_1 l D Y (m0) (m1) (m2) (m3) (m4) (m5) (m6) (p1) sz) glV_RL_175 ⟨rfl, rfl⟩ ⟨(Nat.le_of_ble_eq_true rfl), (Nat.le_of_ble_eq_true rfl)⟩ ⟨(Nat.le_of_ble_eq_true rfl), (Nat.le_of_ble_eq_true rfl)⟩ [11, 0] rfl 13 0 rfl rfl rfl rfl (Nat.le_of_ble_eq_true rfl) rfl (fun _ _ _ => rfl) dL_law_466 (fun r34 u34 w34 => ?_)
    rcases w34 with ⟨k35, rfl⟩ | ⟨k36, rfl⟩ | ⟨k37, rfl⟩ | ⟨k38, rfl⟩ | ⟨k39, rfl⟩ | ⟨k40, rfl⟩ | ⟨k41, rfl⟩ | ⟨k42, rfl⟩ | ⟨k43, rfl⟩ | ⟨k44, rfl⟩ | ⟨k45, rfl⟩ | ⟨k46, k47, k48, k49, k50, k51, k52, k53, k54, k55, k56, rfl⟩
    ·
      refine V_ws [(x0, oC 12 [.ref x1, .ref x30, .ref x59, .ref x88, .ref x117, .ref x126, .ref x127, .ref x129, .ref x132, .long 0]), (x1, oC 2 [.ref x2, .ref x4, .ref x6, .ref x8, .ref x10, .ref x12, .ref x14, .ref x16, .ref x18, .ref x20, .ref x27, .int 0]), (x2, oC 3 [.ref x3, .int 1]), (x4, oC 3 [.ref x5, .int 0]), (x10, oC 7 [.ref x11, .int 0]), (x12, oC 3 [.ref x13, .int 0]), (x18, oC 7 [.ref x19, .int 0]), (x20, oC 4 [.ref x21, .ref x23, .ref x25, .int 0]), (x21, oC 3 [.ref x22, .int 0]), (x27, oC 9 [.ref x28, .int 0, .long 0, .int (-1), .int 0, .int 0, .int 0, .int 0, .int 0]), (x28, oC 3 [.ref x29, .int 0]), (m0, oC 13 [.ref m1, .ref m2, .int 0, .ref m3, .ref m4, .int 0, .int 0, .int 0, .int (-1), .int 0, .int 0, .int 0, .long 0, .ref m5, .ref m6, .int 0, .int 0]), (m1, aI Y 3640 (clB 0 (fun _ => 0)))] rfl ?_
      exact absurd k35 k12
    ·
      refine V_ws [(x0, oC 12 [.ref x1, .ref x30, .ref x59, .ref x88, .ref x117, .ref x126, .ref x127, .ref x129, .ref x132, .long 0]), (x1, oC 2 [.ref x2, .ref x4, .ref x6, .ref x8, .ref x10, .ref x12, .ref x14, .ref x16, .ref x18, .ref x20, .ref x27, .int 0]), (x2, oC 3 [.ref x3, .int 1]), (x4, oC 3 [.ref x5, .int 0]), (x10, oC 7 [.ref x11, .int 0]), (x12, oC 3 [.ref x13, .int 0]), (x18, oC 7 [.ref x19, .int 0]), (x20, oC 4 [.ref x21, .ref x23, .ref x25, .int 0]), (x21, oC 3 [.ref x22, .int 0]), (x27, oC 9 [.ref x28, .int 0, .long 0, .int (-1), .int 0, .int 0, .int 0, .int 0, .int 0]), (x28, oC 3 [.ref x29, .int 0]), (m0, oC 13 [.ref m1, .ref m2, .int 0, .ref m3, .ref m4, .int 0, .int 0, .int 0, .int (-1), .int 0, .int 0, .int 0, .long 0, .ref m5, .ref m6, .int 0, .int 0]), (m1, aI Y 3640 (clB 0 (fun _ => 0)))] rfl ?_
      exact absurd k36 k13
    ·
      refine V_ws [(x0, oC 12 [.ref x1, .ref x30, .ref x59, .ref x88, .ref x117, .ref x126, .ref x127, .ref x129, .ref x132, .long 0]), (x1, oC 2 [.ref x2, .ref x4, .ref x6, .ref x8, .ref x10, .ref x12, .ref x14, .ref x16, .ref x18, .ref x20, .ref x27, .int 0]), (x2, oC 3 [.ref x3, .int 1]), (x4, oC 3 [.ref x5, .int 0]), (x10, oC 7 [.ref x11, .int 0]), (x12, oC 3 [.ref x13, .int 0]), (x18, oC 7 [.ref x19, .int 0]), (x20, oC 4 [.ref x21, .ref x23, .ref x25, .int 0]), (x21, oC 3 [.ref x22, .int 0]), (x27, oC 9 [.ref x28, .int 0, .long 0, .int (-1), .int 0, .int 0, .int 0, .int 0, .int 0]), (x28, oC 3 [.ref x29, .int 0]), (m0, oC 13 [.ref m1, .ref m2, .int 0, .ref m3, .ref m4, .int 0, .int 0, .int 0, .int (-1), .int 0, .int 0, .int 0, .long 0, .ref m5, .ref m6, .int 0, .int 0]), (m1, aI Y 3640 (clB 0 (fun _ => 0)))] rfl ?_
      exact absurd k37 k14
    ·
      refine V_ws [(x0, oC 12 [.ref x1, .ref x30, .ref x59, .ref x88, .ref x117, .ref x126, .ref x127, .ref x129, .ref x132, .long 0]), (x1, oC 2 [.ref x2, .ref x4, .ref x6, .ref x8, .ref x10, .ref x12, .ref x14, .ref x16, .ref x18, .ref x20, .ref x27, .int 0]), (x2, oC 3 [.ref x3, .int 1]), (x4, oC 3 [.ref x5, .int 0]), (x10, oC 7 [.ref x11, .int 0]), (x12, oC 3 [.ref x13, .int 0]), (x18, oC 7 [.ref x19, .int 0]), (x20, oC 4 [.ref x21, .ref x23, .ref x25, .int 0]), (x21, oC 3 [.ref x22, .int 0]), (x27, oC 9 [.ref x28, .int 0, .long 0, .int (-1), .int 0, .int 0, .int 0, .int 0, .int 0]), (x28, oC 3 [.ref x29, .int 0]), (m0, oC 13 [.ref m1, .ref m2, .int 0, .ref m3, .ref m4, .int 0, .int 0, .int 0, .int (-1), .int 0, .int 0, .int 0, .long 0, .ref m5, .ref m6, .int 0, .int 0]), (m1, aI Y 3640 (clB 0 (fun _ => 0)))] rfl ?_
      exact absurd k38 k15
    ·
      refine V_ws [(x0, oC 12 [.ref x1, .ref x30, .ref x59, .ref x88, .ref x117, .ref x126, .ref x127, .ref x129, .ref x132, .long 0]), (x1, oC 2 [.ref x2, .ref x4, .ref x6, .ref x8, .ref x10, .ref x12, .ref x14, .ref x16, .ref x18, .ref x20, .ref x27, .int 0]), (x2, oC 3 [.ref x3, .int 1]), (x4, oC 3 [.ref x5, .int 0]), (x10, oC 7 [.ref x11, .int 0]), (x12, oC 3 [.ref x13, .int 0]), (x18, oC 7 [.ref x19, .int 0]), (x20, oC 4 [.ref x21, .ref x23, .ref x25, .int 0]), (x21, oC 3 [.ref x22, .int 0]), (x27, oC 9 [.ref x28, .int 0, .long 0, .int (-1), .int 0, .int 0, .int 0, .int 0, .int 0]), (x28, oC 3 [.ref x29, .int 0]), (m0, oC 13 [.ref m1, .ref m2, .int 0, .ref m3, .ref m4, .int 0, .int 0, .int 0, .int (-1), .int 0, .int 0, .int 0, .long 0, .ref m5, .ref m6, .int 0, .int 0]), (m1, aI Y 3640 (clB 0 (fun _ => 0)))] rfl ?_
      exact absurd k39 k16
    ·
      refine V_ws [(x0, oC 12 [.ref x1, .ref x30, .ref x59, .ref x88, .ref x117, .ref x126, .ref x127, .ref x129, .ref x132, .long 0]), (x1, oC 2 [.ref x2, .ref x4, .ref x6, .ref x8, .ref x10, .ref x12, .ref x14, .ref x16, .ref x18, .ref x20, .ref x27, .int 0]), (x2, oC 3 [.ref x3, .int 1]), (x4, oC 3 [.ref x5, .int 0]), (x10, oC 7 [.ref x11, .int 0]), (x12, oC 3 [.ref x13, .int 0]), (x18, oC 7 [.ref x19, .int 0]), (x20, oC 4 [.ref x21, .ref x23, .ref x25, .int 0]), (x21, oC 3 [.ref x22, .int 0]), (x27, oC 9 [.ref x28, .int 0, .long 0, .int (-1), .int 0, .int 0, .int 0, .int 0, .int 0]), (x28, oC 3 [.ref x29, .int 0]), (m0, oC 13 [.ref m1, .ref m2, .int 0, .ref m3, .ref m4, .int 0, .int 0, .int 0, .int (-1), .int 0, .int 0, .int 0, .long 0, .ref m5, .ref m6, .int 0, .int 0]), (m1, aI Y 3640 (clB 0 (fun _ => 0)))] rfl ?_
      exact absurd k40 k17
    ·
      refine V_ws [(x0, oC 12 [.ref x1, .ref x30, .ref x59, .ref x88, .ref x117, .ref x126, .ref x127, .ref x129, .ref x132, .long 0]), (x1, oC 2 [.ref x2, .ref x4, .ref x6, .ref x8, .ref x10, .ref x12, .ref x14, .ref x16, .ref x18, .ref x20, .ref x27, .int 0]), (x2, oC 3 [.ref x3, .int 1]), (x4, oC 3 [.ref x5, .int 0]), (x10, oC 7 [.ref x11, .int 0]), (x12, oC 3 [.ref x13, .int 0]), (x18, oC 7 [.ref x19, .int 0]), (x20, oC 4 [.ref x21, .ref x23, .ref x25, .int 0]), (x21, oC 3 [.ref x22, .int 0]), (x27, oC 9 [.ref x28, .int 0, .long 0, .int (-1), .int 0, .int 0, .int 0, .int 0, .int 0]), (x28, oC 3 [.ref x29, .int 0]), (m0, oC 13 [.ref m1, .ref m2, .int 0, .ref m3, .ref m4, .int 0, .int 0, .int 0, .int (-1), .int 0, .int 0, .int 0, .long 0, .ref m5, .ref m6, .int 0, .int 0]), (m1, aI Y 3640 (clB 0 (fun _ => 0)))] rfl ?_
      exact absurd k41 k18
    ·
      refine V_ws [(x0, oC 12 [.ref x1, .ref x30, .ref x59, .ref x88, .ref x117, .ref x126, .ref x127, .ref x129, .ref x132, .long 0]), (x1, oC 2 [.ref x2, .ref x4, .ref x6, .ref x8, .ref x10, .ref x12, .ref x14, .ref x16, .ref x18, .ref x20, .ref x27, .int 0]), (x2, oC 3 [.ref x3, .int 1]), (x4, oC 3 [.ref x5, .int 0]), (x10, oC 7 [.ref x11, .int 0]), (x12, oC 3 [.ref x13, .int 0]), (x18, oC 7 [.ref x19, .int 0]), (x20, oC 4 [.ref x21, .ref x23, .ref x25, .int 0]), (x21, oC 3 [.ref x22, .int 0]), (x27, oC 9 [.ref x28, .int 0, .long 0, .int (-1), .int 0, .int 0, .int 0, .int 0, .int 0]), (x28, oC 3 [.ref x29, .int 0]), (m0, oC 13 [.ref m1, .ref m2, .int 0, .ref m3, .ref m4, .int 0, .int 0, .int 0, .int (-1), .int 0, .int 0, .int 0, .long 0, .ref m5, .ref m6, .int 0, .int 0]), (m1, aI Y 3640 (clB 0 (fun _ => 0)))] rfl ?_
      exact absurd k42 k19
    ·
      refine V_ws [(x0, oC 12 [.ref x1, .ref x30, .ref x59, .ref x88, .ref x117, .ref x126, .ref x127, .ref x129, .ref x132, .long 0]), (x1, oC 2 [.ref x2, .ref x4, .ref x6, .ref x8, .ref x10, .ref x12, .ref x14, .ref x16, .ref x18, .ref x20, .ref x27, .int 0]), (x2, oC 3 [.ref x3, .int 1]), (x4, oC 3 [.ref x5, .int 0]), (x10, oC 7 [.ref x11, .int 0]), (x12, oC 3 [.ref x13, .int 0]), (x18, oC 7 [.ref x19, .int 0]), (x20, oC 4 [.ref x21, .ref x23, .ref x25, .int 0]), (x21, oC 3 [.ref x22, .int 0]), (x27, oC 9 [.ref x28, .int 0, .long 0, .int (-1), .int 0, .int 0, .int 0, .int 0, .int 0]), (x28, oC 3 [.ref x29, .int 0]), (m0, oC 13 [.ref m1, .ref m2, .int 0, .ref m3, .ref m4, .int 0, .int 0, .int 0, .int (-1), .int 0, .int 0, .int 0, .long 0, .ref m5, .ref m6, .int 0, .int 0]), (m1, aI Y 3640 (clB 0 (fun _ => 0)))] rfl ?_
      exact absurd k43 k20
    ·
      refine V_ws [(x0, oC 12 [.ref x1, .ref x30, .ref x59, .ref x88, .ref x117, .ref x126, .ref x127, .ref x129, .ref x132, .long 0]), (x1, oC 2 [.ref x2, .ref x4, .ref x6, .ref x8, .ref x10, .ref x12, .ref x14, .ref x16, .ref x18, .ref x20, .ref x27, .int 0]), (x2, oC 3 [.ref x3, .int 1]), (x4, oC 3 [.ref x5, .int 0]), (x10, oC 7 [.ref x11, .int 0]), (x12, oC 3 [.ref x13, .int 0]), (x18, oC 7 [.ref x19, .int 0]), (x20, oC 4 [.ref x21, .ref x23, .ref x25, .int 0]), (x21, oC 3 [.ref x22, .int 0]), (x27, oC 9 [.ref x28, .int 0, .long 0, .int (-1), .int 0, .int 0, .int 0, .int 0, .int 0]), (x28, oC 3 [.ref x29, .int 0]), (m0, oC 13 [.ref m1, .ref m2, .int 0, .ref m3, .ref m4, .int 0, .int 0, .int 0, .int (-1), .int 0, .int 0, .int 0, .long 0, .ref m5, .ref m6, .int 0, .int 0]), (m1, aI Y 3640 (clB 0 (fun _ => 0)))] rfl ?_
      exact absurd k44 k21
    ·
      refine V_ws [(x0, oC 12 [.ref x1, .ref x30, .ref x59, .ref x88, .ref x117, .ref x126, .ref x127, .ref x129, .ref x132, .long 0]), (x1, oC 2 [.ref x2, .ref x4, .ref x6, .ref x8, .ref x10, .ref x12, .ref x14, .ref x16, .ref x18, .ref x20, .ref x27, .int 0]), (x2, oC 3 [.ref x3, .int 1]), (x4, oC 3 [.ref x5, .int 0]), (x10, oC 7 [.ref x11, .int 0]), (x12, oC 3 [.ref x13, .int 0]), (x18, oC 7 [.ref x19, .int 0]), (x20, oC 4 [.ref x21, .ref x23, .ref x25, .int 0]), (x21, oC 3 [.ref x22, .int 0]), (x27, oC 9 [.ref x28, .int 0, .long 0, .int (-1), .int 0, .int 0, .int 0, .int 0, .int 0]), (x28, oC 3 [.ref x29, .int 0]), (m0, oC 13 [.ref m1, .ref m2, .int 0, .ref m3, .ref m4, .int 0, .int 0, .int 0, .int (-1), .int 0, .int 0, .int 0, .long 0, .ref m5, .ref m6, .int 0, .int 0]), (m1, aI Y 3640 (clB 0 (fun _ => 0)))] rfl ?_
      exact absurd k45 k22
    ·
      refine V_ws [(x0, oC 12 [.ref x1, .ref x30, .ref x59, .ref x88, .ref x117, .ref x126, .ref x127, .ref x129, .ref x132, .long 0]), (x1, oC 2 [.ref x2, .ref x4, .ref x6, .ref x8, .ref x10, .ref x12, .ref x14, .ref x16, .ref x18, .ref x20, .ref x27, .int 0]), (x2, oC 3 [.ref x3, .int 1]), (x4, oC 3 [.ref x5, .int 0]), (x10, oC 7 [.ref x11, .int 0]), (x12, oC 3 [.ref x13, .int 0]), (x18, oC 7 [.ref x19, .int 0]), (x20, oC 4 [.ref x21, .ref x23, .ref x25, .int 0]), (x21, oC 3 [.ref x22, .int 0]), (x27, oC 9 [.ref x28, .int 0, .long 0, .int (-1), .int 0, .int 0, .int 0, .int 0, .int 0]), (x28, oC 3 [.ref x29, .int 0]), (m0, oC 13 [.ref m1, .ref m2, .int 0, .ref m3, .ref m4, .int 0, .int 0, .int 0, .int (-1), .int 0, .int 0, .int 0, .long 0, .ref m5, .ref m6, .int 0, .int 0]), (m1, aI Y 3640 (clB 0 (fun _ => 0)))] rfl ?_
      refine V_icmp_eq_t 469 B 3332 dL_law_469 (by decide) (by decide +kernel) ?_
      refine V_iinc 3332 B (v := 6) (lv2 := [(4, .int 6), (3, .ref o0), (2, .ref m0), (1, .ref x0), (0, .ref b)]) dL_law_3332 0 rfl (by decide +kernel) (by decide) rfl ?_
      refine V_goto 3335 B 23 dL_law_3335 (by decide) ?_
      refine V_iload 23 B dL_law_23 0 rfl ?_
      refine V_aload_n 25 B dL_law_25 4 rfl ?_
      refine V_slen 26 B hX hbl hbA (v := 6) (by decide +kernel) dL_law_26 ?_
      refine V_bipush 27 B (v := 6) dL_law_27 (by decide +kernel) ?_
      refine V_isub 29 B (v := 0) dL_law_29 (by decide +kernel) ?_
      refine V_icmp_gt_t 30 B 3338 dL_law_30 (by decide) (by decide +kernel) ?_
      exact law_end B (Nat.le_of_ble_eq_true rfl) (Nat.le_of_ble_eq_true rfl) dL_law_3338 dL_law_3339
