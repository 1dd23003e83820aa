set_option maxRecDepth 100000 in
set_option maxHeartbeats 4000000 in
theorem mX12_clashIn_2 (l : Launch) (D : va_G) (Y : Nat → ClassId) (h0 : Nat) (h1 : Nat) (g0 : Nat) (g1 : Nat) (g2 : Nat) (g3 : Nat) (g4 : Nat) (sz : Nat) : Met l yX12_clashIn (WSm yX12_clashIn cX12_clashIn 5 (some .int)) (mkR 0 0 0 0) (PreC D Y [.ref h0, .int 0, .int 3629, .int (-1)] [(h0, oC 13 [.ref h1, .ref g0, .int 0, .ref g1, .ref g2, .int 0, .int 0, .int 0, .int (-1), .int 0, .int 0, .int 0, .long 0, .ref g3, .ref g4, .int 0, .int 0]), (h1, aI Y 3640 (upd (upd (upd (upd (upd (clB 0 (fun _ => 0)) 3629 1) 3630 0) 3631 0) 3630 0) 3631 0))] sz) (QI D (fun (r : Int32) (u : Unit) => (-1) = r) (fun (_ : Unit) => [(h0, oC 13 [.ref h1, .ref g0, .int 0, .ref g1, .ref g2, .int 0, .int 0, .int 0, .int (-1), .int 0, .int 0, .int 0, .long 0, .ref g3, .ref g4, .int 0, .int 0]), (h1, aI Y 3640 (upd (upd (upd (upd (upd (clB 0 (fun _ => 0)) 3629 1) 3630 0) 3631 0) 3630 0) 3631 0))]) (va_A [(h0, oC 13 [.ref h1, .ref g0, .int 0, .ref g1, .ref g2, .int 0, .int 0, .int 0, .int (-1), .int 0, .int 0, .int 0, .long 0, .ref g3, .ref g4, .int 0, .int 0]), (h1, aI Y 3640 (upd (upd (upd (upd (upd (clB 0 (fun _ => 0)) 3629 1) 3630 0) 3631 0) 3630 0) 3631 0))] sz)) 0 0 (va_A [(h0, oC 13 [.ref h1, .ref g0, .int 0, .ref g1, .ref g2, .int 0, .int 0, .int 0, .int (-1), .int 0, .int 0, .int 0, .long 0, .ref g3, .ref g4, .int 0, .int 0]), (h1, aI Y 3640 (upd (upd (upd (upd (upd (clB 0 (fun _ => 0)) 3629 1) 3630 0) 3631 0) 3630 0) 3631 0))] sz) :=
  met_of (by decide +kernel) (Nat.le_of_ble_eq_true rfl) (fun p e s m args below meth c B hin hsz => by
    have B : VB p s m args meth c D Y (va_A [(h0, oC 13 [.ref h1, .ref g0, .int 0, .ref g1, .ref g2, .int 0, .int 0, .int 0, .int (-1), .int 0, .int 0, .int 0, .long 0, .ref g3, .ref g4, .int 0, .int 0]), (h1, aI Y 3640 (upd (upd (upd (upd (upd (clB 0 (fun _ => 0)) 3629 1) 3630 0) 3631 0) 3630 0) 3631 0))] sz) cX12_clashIn 5 RX12 (some .int) := B
    refine V_iconst 0 B (v := 0) dX12_clashIn_0 (by decide +kernel) ?_
    refine V_istore 1 B (lv2 := [(4, .int 0), (0, .ref h0), (1, .int 0), (2, .int 3629), (3, .int (-1))]) dX12_clashIn_1 (by decide) rfl ?_
    refine V_iload 3 B dX12_clashIn_3 0 rfl ?_
    refine V_aload_n 5 B dX12_clashIn_5 1 rfl ?_
    refine V_get 6 B gf_RX12_9 0 rfl rfl dX12_clashIn_6 ?_
    refine V_iconst 9 B (v := 3) dX12_clashIn_9 (by decide +kernel) ?_
    refine V_iald 10 B (v := 0) 1 rfl (vpin _ _ (by decide +kernel)) dX12_clashIn_10 rfl ?_
    refine V_icmp_ge_t 11 B 57 dX12_clashIn_11 (by decide) (by decide +kernel) ?_
    refine V_iconst 57 B (v := (-1)) dX12_clashIn_57 (by decide +kernel) ?_
    exact V_iret 58 B dX12_clashIn_58 () rfl rfl)
set_option maxRecDepth 100000 in
set_option maxHeartbeats 4000000 in
theorem mX12_canBind_2 (l : Launch) (D : va_G) (Y : Nat → ClassId) (h0 : Nat) (h1 : Nat) (g0 : Nat) (g1 : Nat) (g2 : Nat) (g3 : Nat) (g4 : Nat) (sz : Nat) : Met l yX12_canBind (WSm yX12_canBind cX12_canBind 3 (some .boolean)) (mkR 1 0 0 24) (PreC D Y [.ref h0, .int 0, .int 3629] [(h0, oC 13 [.ref h1, .ref g0, .int 0, .ref g1, .ref g2, .int 0, .int 0, .int 0, .int (-1), .int 0, .int 0, .int 0, .long 0, .ref g3, .ref g4, .int 0, .int 0]), (h1, aI Y 3640 (upd (upd (upd (upd (upd (clB 0 (fun _ => 0)) 3629 1) 3630 0) 3631 0) 3630 0) 3631 0))] sz) (QI D (fun (r : Int32) (u : Unit) => 1 = r) (fun (_ : Unit) => [(h0, oC 13 [.ref h1, .ref g0, .int 0, .ref g1, .ref g2, .int 0, .int 0, .int 0, .int (-1), .int 0, .int 0, .int 0, .long 0, .ref g3, .ref g4, .int 0, .int 0]), (h1, aI Y 3640 (upd (upd (upd (upd (upd (clB 0 (fun _ => 0)) 3629 1) 3630 0) 3631 0) 3630 0) 3631 0))]) (va_A [(h0, oC 13 [.ref h1, .ref g0, .int 0, .ref g1, .ref g2, .int 0, .int 0, .int 0, .int (-1), .int 0, .int 0, .int 0, .long 0, .ref g3, .ref g4, .int 0, .int 0]), (h1, aI Y 3640 (upd (upd (upd (upd (upd (clB 0 (fun _ => 0)) 3629 1) 3630 0) 3631 0) 3630 0) 3631 0))] sz)) 0 0 (va_A [(h0, oC 13 [.ref h1, .ref g0, .int 0, .ref g1, .ref g2, .int 0, .int 0, .int 0, .int (-1), .int 0, .int 0, .int 0, .long 0, .ref g3, .ref g4, .int 0, .int 0]), (h1, aI Y 3640 (upd (upd (upd (upd (upd (clB 0 (fun _ => 0)) 3629 1) 3630 0) 3631 0) 3630 0) 3631 0))] sz) :=
  met_of (by decide +kernel) (Nat.le_of_ble_eq_true rfl) (fun p e s m args below meth c B hin hsz => by
    have B : VB p s m args meth c D Y (va_A [(h0, oC 13 [.ref h1, .ref g0, .int 0, .ref g1, .ref g2, .int 0, .int 0, .int 0, .int (-1), .int 0, .int 0, .int 0, .long 0, .ref g3, .ref g4, .int 0, .int 0]), (h1, aI Y 3640 (upd (upd (upd (upd (upd (clB 0 (fun _ => 0)) 3629 1) 3630 0) 3631 0) 3630 0) 3631 0))] sz) cX12_canBind 3 RX12 (some .boolean) := B
    refine V_aload_n 0 B dX12_canBind_0 0 rfl ?_
    refine V_iload_n 1 B dX12_canBind_1 2 rfl ?_
    refine V_cvi 2 B (st := []) (As := [.int 3629]) (fun sz => mX12_clashesReserved_2 l D Y (h0) (h1) (g0) (g1) (g2) (g3) (g4) sz) glV_RX12_118 ⟨rfl, rfl⟩ ⟨(Nat.le_of_ble_eq_true rfl), (Nat.le_of_ble_eq_true rfl)⟩ ⟨(Nat.le_of_ble_eq_true rfl), (Nat.le_of_ble_eq_true rfl)⟩ [0, 0] rfl 13 0 rfl rfl rfl rfl (Nat.le_of_ble_eq_true rfl) rfl (fun _ _ _ => rfl) dX12_canBind_2 (fun r0 u0 w0 => ?_)
    obtain rfl := w0
    refine V_ws [(h0, oC 13 [.ref h1, .ref g0, .int 0, .ref g1, .ref g2, .int 0, .int 0, .int 0, .int (-1), .int 0, .int 0, .int 0, .long 0, .ref g3, .ref g4, .int 0, .int 0]), (h1, aI Y 3640 (upd (upd (upd (upd (upd (clB 0 (fun _ => 0)) 3629 1) 3630 0) 3631 0) 3630 0) 3631 0))] rfl ?_
    refine V_if_ne_f 5 B 23 dX12_canBind_5 (by decide) (by decide +kernel) ?_
    refine V_aload_n 8 B dX12_canBind_8 0 rfl ?_
    refine V_iload_n 9 B dX12_canBind_9 1 rfl ?_
    refine V_iload_n 10 B dX12_canBind_10 2 rfl ?_
    refine V_iconst 11 B (v := (-1)) dX12_canBind_11 (by decide +kernel) ?_
    refine V_cvi 12 B (st := []) (As := [.int 0, .int 3629, .int (-1)]) (fun sz => mX12_clashIn_2 l D Y (h0) (h1) (g0) (g1) (g2) (g3) (g4) sz) glV_RX12_121 ⟨rfl, rfl⟩ ⟨(Nat.le_of_ble_eq_true rfl), (Nat.le_of_ble_eq_true rfl)⟩ ⟨(Nat.le_of_ble_eq_true rfl), (Nat.le_of_ble_eq_true rfl)⟩ [0, 0] rfl 13 0 rfl rfl rfl rfl (Nat.le_of_ble_eq_true rfl) rfl (fun _ _ _ => rfl) dX12_canBind_12 (fun r1 u1 w1 => ?_)
    obtain rfl := w1
    refine V_ws [(h0, oC 13 [.ref h1, .ref g0, .int 0, .ref g1, .ref g2, .int 0, .int 0, .int 0, .int (-1), .int 0, .int 0, .int 0, .long 0, .ref g3, .ref g4, .int 0, .int 0]), (h1, aI Y 3640 (upd (upd (upd (upd (upd (clB 0 (fun _ => 0)) 3629 1) 3630 0) 3631 0) 3630 0) 3631 0))] rfl ?_
    refine V_iconst 15 B (v := (-1)) dX12_canBind_15 (by decide +kernel) ?_
    refine V_icmp_ne_f 16 B 23 dX12_canBind_16 (by decide) (by decide +kernel) ?_
    refine V_iconst 19 B (v := 1) dX12_canBind_19 (by decide +kernel) ?_
    refine V_goto 20 B 24 dX12_canBind_20 (by decide) ?_
    exact V_zret 24 B rfl dX12_canBind_24 () rfl rfl)
theorem dX12_isFreeHere_0 : decode cX12_isFreeHere 0 = .ok (.aload_n 0, 1) := by decide +kernel
theorem dX12_isFreeHere_1 : decode cX12_isFreeHere 1 = .ok (.iload_n 1, 1) := by decide +kernel
theorem dX12_isFreeHere_2 : decode cX12_isFreeHere 2 = .ok (.sipush 3629, 3) := by decide +kernel
theorem dX12_isFreeHere_5 : decode cX12_isFreeHere 5 = .ok (.invokevirtual 129, 3) := by decide +kernel
theorem dX12_isFreeHere_8 : decode cX12_isFreeHere 8 = .ok (.ifCond .ne 5, 3) := by decide +kernel
theorem dX12_isFreeHere_13 : decode cX12_isFreeHere 13 = .ok (.iconst 1, 1) := by decide +kernel
theorem dX12_isFreeHere_14 : decode cX12_isFreeHere 14 = .ok (.istore_n 3, 1) := by decide +kernel
theorem dX12_isFreeHere_15 : decode cX12_isFreeHere 15 = .ok (.iconst 0, 1) := by decide +kernel
theorem dX12_isFreeHere_16 : decode cX12_isFreeHere 16 = .ok (.istore 4, 2) := by decide +kernel
theorem dX12_isFreeHere_18 : decode cX12_isFreeHere 18 = .ok (.iload 4, 2) := by decide +kernel
theorem dX12_isFreeHere_20 : decode cX12_isFreeHere 20 = .ok (.aload_n 0, 1) := by decide +kernel
theorem dX12_isFreeHere_21 : decode cX12_isFreeHere 21 = .ok (.getfield 9, 3) := by decide +kernel
theorem dX12_isFreeHere_24 : decode cX12_isFreeHere 24 = .ok (.iconst 3, 1) := by decide +kernel
theorem dX12_isFreeHere_25 : decode cX12_isFreeHere 25 = .ok (.iaload, 1) := by decide +kernel
theorem dX12_isFreeHere_26 : decode cX12_isFreeHere 26 = .ok (.if_icmp .ge 46, 3) := by decide +kernel
theorem dX12_isFreeHere_72 : decode cX12_isFreeHere 72 = .ok (.iload_n 3, 1) := by decide +kernel
theorem dX12_isFreeHere_73 : decode cX12_isFreeHere 73 = .ok (.ireturn, 1) := by decide +kernel
set_option maxRecDepth 100000 in
set_option maxHeartbeats 4000000 in
theorem mX12_isFreeHere_1 (l : Launch) (D : va_G) (Y : Nat → ClassId) (h0 : Nat) (h1 : Nat) (g0 : Nat) (g1 : Nat) (g2 : Nat) (g3 : Nat) (g4 : Nat) (p0 : Int32) (sz : Nat) : Met l yX12_isFreeHere (WSm yX12_isFreeHere cX12_isFreeHere 5 (some .boolean)) (mkR 2 0 0 46) (PreC D Y [.ref h0, .int 0, .int p0] [(h0, oC 13 [.ref h1, .ref g0, .int 0, .ref g1, .ref g2, .int 0, .int 0, .int 0, .int (-1), .int 0, .int 0, .int 0, .long 0, .ref g3, .ref g4, .int 0, .int 0]), (h1, aI Y 3640 (upd (upd (upd (upd (upd (clB 0 (fun _ => 0)) 3629 1) 3630 0) 3631 0) 3630 0) 3631 0))] sz) (QI D (fun (r : Int32) (u : Unit) => 1 = r) (fun (_ : Unit) => [(h0, oC 13 [.ref h1, .ref g0, .int 0, .ref g1, .ref g2, .int 0, .int 0, .int 0, .int (-1), .int 0, .int 0, .int 0, .long 0, .ref g3, .ref g4, .int 0, .int 0]), (h1, aI Y 3640 (upd (upd (upd (upd (upd (clB 0 (fun _ => 0)) 3629 1) 3630 0) 3631 0) 3630 0) 3631 0))]) (va_A [(h0, oC 13 [.ref h1, .ref g0, .int 0, .ref g1, .ref g2, .int 0, .int 0, .int 0, .int (-1), .int 0, .int 0, .int 0, .long 0, .ref g3, .ref g4, .int 0, .int 0]), (h1, aI Y 3640 (upd (upd (upd (upd (upd (clB 0 (fun _ => 0)) 3629 1) 3630 0) 3631 0) 3630 0) 3631 0))] sz)) 0 0 (va_A [(h0, oC 13 [.ref h1, .ref g0, .int 0, .ref g1, .ref g2, .int 0, .int 0, .int 0, .int (-1), .int 0, .int 0, .int 0, .long 0, .ref g3, .ref g4, .int 0, .int 0]), (h1, aI Y 3640 (upd (upd (upd (upd (upd (clB 0 (fun _ => 0)) 3629 1) 3630 0) 3631 0) 3630 0) 3631 0))] sz) :=
  met_of (by decide +kernel) (Nat.le_of_ble_eq_true rfl) (fun p e s m args below meth c B hin hsz => by
    have B : VB p s m args meth c D Y (va_A [(h0, oC 13 [.ref h1, .ref g0, .int 0, .ref g1, .ref g2, .int 0, .int 0, .int 0, .int (-1), .int 0, .int 0, .int 0, .long 0, .ref g3, .ref g4, .int 0, .int 0]), (h1, aI Y 3640 (upd (upd (upd (upd (upd (clB 0 (fun _ => 0)) 3629 1) 3630 0) 3631 0) 3630 0) 3631 0))] sz) cX12_isFreeHere 5 RX12 (some .boolean) := B
    refine V_aload_n 0 B dX12_isFreeHere_0 0 rfl ?_
    refine V_iload_n 1 B dX12_isFreeHere_1 1 rfl ?_
    refine V_sipush 2 B (v := 3629) dX12_isFreeHere_2 (by decide +kernel) ?_
    refine V_cvi 5 B (st := []) (As := [.int 0, .int 3629]) (fun sz => mX12_canBind_2 l D Y (h0) (h1) (g0) (g1) (g2) (g3) (g4) sz) glV_RX12_129 ⟨rfl, rfl⟩ ⟨(Nat.le_of_ble_eq_true rfl), (Nat.le_of_ble_eq_true rfl)⟩ ⟨(Nat.le_of_ble_eq_true rfl), (Nat.le_of_ble_eq_true rfl)⟩ [0, 0] rfl 13 0 rfl rfl rfl rfl (Nat.le_of_ble_eq_true rfl) rfl (fun _ _ _ => rfl) dX12_isFreeHere_5 (fun r0 u0 w0 => ?_)
    obtain rfl := w0
    refine V_ws [(h0, oC 13 [.ref h1, .ref g0, .int 0, .ref g1, .ref g2, .int 0, .int 0, .int 0, .int (-1), .int 0, .int 0, .int 0, .long 0, .ref g3, .ref g4, .int 0, .int 0]), (h1, aI Y 3640 (upd (upd (upd (upd (upd (clB 0 (fun _ => 0)) 3629 1) 3630 0) 3631 0) 3630 0) 3631 0))] rfl ?_
    refine V_if_ne_t 8 B 13 dX12_isFreeHere_8 (by decide) (by decide +kernel) ?_
    refine V_iconst 13 B (v := 1) dX12_isFreeHere_13 (by decide +kernel) ?_
    refine V_istore_n 14 B (lv2 := [(3, .int 1), (0, .ref h0), (1, .int 0), (2, .int p0)]) dX12_isFreeHere_14 (by decide) rfl ?_
    refine V_iconst 15 B (v := 0) dX12_isFreeHere_15 (by decide +kernel) ?_
    refine V_istore 16 B (lv2 := [(4, .int 0), (3, .int 1), (0, .ref h0), (1, .int 0), (2, .int p0)]) dX12_isFreeHere_16 (by decide) rfl ?_
    refine V_iload 18 B dX12_isFreeHere_18 0 rfl ?_
    refine V_aload_n 20 B dX12_isFreeHere_20 2 rfl ?_
    refine V_get 21 B gf_RX12_9 0 rfl rfl dX12_isFreeHere_21 ?_
    refine V_iconst 24 B (v := 3) dX12_isFreeHere_24 (by decide +kernel) ?_
    refine V_iald 25 B (v := 0) 1 rfl (vpin _ _ (by decide +kernel)) dX12_isFreeHere_25 rfl ?_
    refine V_icmp_ge_t 26 B 72 dX12_isFreeHere_26 (by decide) (by decide +kernel) ?_
    refine V_iload_n 72 B dX12_isFreeHere_72 1 rfl ?_
    exact V_zret 73 B rfl dX12_isFreeHere_73 () rfl rfl)
set_option maxRecDepth 100000 in
set_option maxHeartbeats 4000000 in
theorem mX12_costOf_s18 (l : Launch) (D : va_G) (Y : Nat → ClassId) (h0 : Nat) (h1 : Nat) (g0 : Nat) (g1 : Nat) (g2 : Nat) (g3 : Nat) (g4 : Nat) (p1 : Int32) (p0 : Int32) (hs0 : (((((p0 / 32) / 2) / 2) / 2) / 2) = 0) (sz : Nat) : Met l yX12_costOf (WSm yX12_costOf cX12_costOf 4 (some .int)) (mkR 2 0 0 42) (PreC D Y [.ref h0, .int 3629] [(h0, oC 13 [.ref h1, .ref g0, .int 0, .ref g1, .ref g2, .int 0, .int 0, .int 0, .int (-1), .int 0, .int 0, .int 0, .long 0, .ref g3, .ref g4, .int 0, .int 0]), (h1, aI Y 3640 (upd (upd (upd (upd (upd (clB 0 (fun _ => 0)) 3629 1) 3630 p1) 3631 0) 3630 p0) 3631 0))] sz) (QI D (fun (r : Int32) (u : Unit) => (scoF p0) = r) (fun (_ : Unit) => [(h0, oC 13 [.ref h1, .ref g0, .int 0, .ref g1, .ref g2, .int 0, .int 0, .int 0, .int (-1), .int 0, .int 0, .int 0, .long 0, .ref g3, .ref g4, .int 0, .int 0]), (h1, aI Y 3640 (upd (upd (upd (upd (upd (clB 0 (fun _ => 0)) 3629 1) 3630 p1) 3631 0) 3630 p0) 3631 0))]) (va_A [(h0, oC 13 [.ref h1, .ref g0, .int 0, .ref g1, .ref g2, .int 0, .int 0, .int 0, .int (-1), .int 0, .int 0, .int 0, .long 0, .ref g3, .ref g4, .int 0, .int 0]), (h1, aI Y 3640 (upd (upd (upd (upd (upd (clB 0 (fun _ => 0)) 3629 1) 3630 p1) 3631 0) 3630 p0) 3631 0))] sz)) 0 0 (va_A [(h0, oC 13 [.ref h1, .ref g0, .int 0, .ref g1, .ref g2, .int 0, .int 0, .int 0, .int (-1), .int 0, .int 0, .int 0, .long 0, .ref g3, .ref g4, .int 0, .int 0]), (h1, aI Y 3640 (upd (upd (upd (upd (upd (clB 0 (fun _ => 0)) 3629 1) 3630 p1) 3631 0) 3630 p0) 3631 0))] sz) :=
  met_of (by decide +kernel) (Nat.le_of_ble_eq_true rfl) (fun p e s m args below meth c B hin hsz => by
    have B : VB p s m args meth c D Y (va_A [(h0, oC 13 [.ref h1, .ref g0, .int 0, .ref g1, .ref g2, .int 0, .int 0, .int 0, .int (-1), .int 0, .int 0, .int 0, .long 0, .ref g3, .ref g4, .int 0, .int 0]), (h1, aI Y 3640 (upd (upd (upd (upd (upd (clB 0 (fun _ => 0)) 3629 1) 3630 p1) 3631 0) 3630 p0) 3631 0))] sz) cX12_costOf 4 RX12 (some .int) := B
    refine V_iconst 0 B (v := 0) dX12_costOf_0 (by decide +kernel) ?_
    refine V_istore_n 1 B (lv2 := [(2, .int 0), (0, .ref h0), (1, .int 3629)]) dX12_costOf_1 (by decide) rfl ?_
    refine V_iconst 2 B (v := 1) dX12_costOf_2 (by decide +kernel) ?_
    refine V_istore_n 3 B (lv2 := [(3, .int 1), (2, .int 0), (0, .ref h0), (1, .int 3629)]) dX12_costOf_3 (by decide) rfl ?_
    refine V_iload_n 4 B dX12_costOf_4 0 rfl ?_
    refine V_aload_n 5 B dX12_costOf_5 2 rfl ?_
    refine V_get 6 B gf_RX12_9 0 rfl rfl dX12_costOf_6 ?_
    refine V_iload_n 9 B dX12_costOf_9 3 rfl ?_
    refine V_iald 10 B (v := 1) 1 rfl (vpin _ _ (by decide +kernel)) dX12_costOf_10 rfl ?_
    refine V_icmp_gt_f 11 B 34 dX12_costOf_11 (by decide) (by decide +kernel) ?_
    refine V_iload_n 14 B dX12_costOf_14 1 rfl ?_
    refine V_aload_n 15 B dX12_costOf_15 2 rfl ?_
    refine V_get 16 B gf_RX12_9 0 rfl rfl dX12_costOf_16 ?_
    refine V_iload_n 19 B dX12_costOf_19 3 rfl ?_
    refine V_iload_n 20 B dX12_costOf_20 0 rfl ?_
    refine V_iadd 21 B (v := 3630) dX12_costOf_21 (by decide +kernel) ?_
    refine V_iald 22 B (v := p0) 1 rfl (vpin _ _ (by decide +kernel)) dX12_costOf_22 rfl ?_
    refine V_csi 23 B (st := [.int 0]) (As := [.int p0]) (fun sz => mX12_strokeCost_scoF l D Y (p0) (hs0) sz) glS_RX12_55 ⟨rfl, rfl⟩ ⟨(Nat.le_of_ble_eq_true rfl), (Nat.le_of_ble_eq_true rfl)⟩ ⟨(Nat.le_of_ble_eq_true rfl), (Nat.le_of_ble_eq_true rfl)⟩ [] rfl rfl (Nat.le_of_ble_eq_true rfl) rfl (fun _ _ _ => rfl) dX12_costOf_23 (fun r0 u0 w0 => ?_)
    obtain rfl := w0
    refine V_ws [(h0, oC 13 [.ref h1, .ref g0, .int 0, .ref g1, .ref g2, .int 0, .int 0, .int 0, .int (-1), .int 0, .int 0, .int 0, .long 0, .ref g3, .ref g4, .int 0, .int 0]), (h1, aI Y 3640 (upd (upd (upd (upd (upd (clB 0 (fun _ => 0)) 3629 1) 3630 p1) 3631 0) 3630 p0) 3631 0))] rfl ?_
    refine V_iadd 26 B dX12_costOf_26 (Int32.zero_add _) ?_
    refine V_istore_n 27 B (lv2 := [(2, .int (scoF p0)), (3, .int 1), (0, .ref h0), (1, .int 3629)]) dX12_costOf_27 (by decide) rfl ?_
    refine V_iinc 28 B (v := 2) (lv2 := [(3, .int 2), (2, .int (scoF p0)), (0, .ref h0), (1, .int 3629)]) dX12_costOf_28 1 rfl (by decide +kernel) (by decide) rfl ?_
    refine V_goto 31 B 4 dX12_costOf_31 (by decide) ?_
    refine V_iload_n 4 B dX12_costOf_4 0 rfl ?_
    refine V_aload_n 5 B dX12_costOf_5 2 rfl ?_
    refine V_get 6 B gf_RX12_9 0 rfl rfl dX12_costOf_6 ?_
    refine V_iload_n 9 B dX12_costOf_9 3 rfl ?_
    refine V_iald 10 B (v := 1) 1 rfl (vpin _ _ (by decide +kernel)) dX12_costOf_10 rfl ?_
    refine V_icmp_gt_t 11 B 34 dX12_costOf_11 (by decide) (by decide +kernel) ?_
    refine V_iload_n 34 B dX12_costOf_34 1 rfl ?_
    exact V_iret 35 B dX12_costOf_35 () rfl rfl)
set_option maxRecDepth 100000 in
set_option maxHeartbeats 4000000 in
theorem mX12_costOf_3 (l : Launch) (D : va_G) (Y : Nat → ClassId) (h0 : Nat) (h1 : Nat) (g0 : Nat) (g1 : Nat) (g2 : Nat) (g3 : Nat) (g4 : Nat) (sz : Nat) : Met l yX12_costOf (WSm yX12_costOf cX12_costOf 4 (some .int)) (mkR 2 0 0 42) (PreC D Y [.ref h0, .int 3629] [(h0, oC 13 [.ref h1, .ref g0, .int 0, .ref g1, .ref g2, .int 0, .int 0, .int 0, .int (-1), .int 0, .int 0, .int 0, .long 0, .ref g3, .ref g4, .int 0, .int 0]), (h1, aI Y 3640 (upd (upd (upd (upd (upd (clB 0 (fun _ => 0)) 3629 2) 3630 0) 3631 0) 3630 0) 3631 0))] sz) (QI D (fun (r : Int32) (u : Unit) => 2 = r) (fun (_ : Unit) => [(h0, oC 13 [.ref h1, .ref g0, .int 0, .ref g1, .ref g2, .int 0, .int 0, .int 0, .int (-1), .int 0, .int 0, .int 0, .long 0, .ref g3, .ref g4, .int 0, .int 0]), (h1, aI Y 3640 (upd (upd (upd (upd (upd (clB 0 (fun _ => 0)) 3629 2) 3630 0) 3631 0) 3630 0) 3631 0))]) (va_A [(h0, oC 13 [.ref h1, .ref g0, .int 0, .ref g1, .ref g2, .int 0, .int 0, .int 0, .int (-1), .int 0, .int 0, .int 0, .long 0, .ref g3, .ref g4, .int 0, .int 0]), (h1, aI Y 3640 (upd (upd (upd (upd (upd (clB 0 (fun _ => 0)) 3629 2) 3630 0) 3631 0) 3630 0) 3631 0))] sz)) 0 0 (va_A [(h0, oC 13 [.ref h1, .ref g0, .int 0, .ref g1, .ref g2, .int 0, .int 0, .int 0, .int (-1), .int 0, .int 0, .int 0, .long 0, .ref g3, .ref g4, .int 0, .int 0]), (h1, aI Y 3640 (upd (upd (upd (upd (upd (clB 0 (fun _ => 0)) 3629 2) 3630 0) 3631 0) 3630 0) 3631 0))] sz) :=
  met_of (by decide +kernel) (Nat.le_of_ble_eq_true rfl) (fun p e s m args below meth c B hin hsz => by
    have B : VB p s m args meth c D Y (va_A [(h0, oC 13 [.ref h1, .ref g0, .int 0, .ref g1, .ref g2, .int 0, .int 0, .int 0, .int (-1), .int 0, .int 0, .int 0, .long 0, .ref g3, .ref g4, .int 0, .int 0]), (h1, aI Y 3640 (upd (upd (upd (upd (upd (clB 0 (fun _ => 0)) 3629 2) 3630 0) 3631 0) 3630 0) 3631 0))] sz) cX12_costOf 4 RX12 (some .int) := B
    refine V_iconst 0 B (v := 0) dX12_costOf_0 (by decide +kernel) ?_
    refine V_istore_n 1 B (lv2 := [(2, .int 0), (0, .ref h0), (1, .int 3629)]) dX12_costOf_1 (by decide) rfl ?_
    refine V_iconst 2 B (v := 1) dX12_costOf_2 (by decide +kernel) ?_
    refine V_istore_n 3 B (lv2 := [(3, .int 1), (2, .int 0), (0, .ref h0), (1, .int 3629)]) dX12_costOf_3 (by decide) rfl ?_
    refine V_iload_n 4 B dX12_costOf_4 0 rfl ?_
    refine V_aload_n 5 B dX12_costOf_5 2 rfl ?_
    refine V_get 6 B gf_RX12_9 0 rfl rfl dX12_costOf_6 ?_
    refine V_iload_n 9 B dX12_costOf_9 3 rfl ?_
    refine V_iald 10 B (v := 2) 1 rfl (vpin _ _ (by decide +kernel)) dX12_costOf_10 rfl ?_
    refine V_icmp_gt_f 11 B 34 dX12_costOf_11 (by decide) (by decide +kernel) ?_
    refine V_iload_n 14 B dX12_costOf_14 1 rfl ?_
    refine V_aload_n 15 B dX12_costOf_15 2 rfl ?_
    refine V_get 16 B gf_RX12_9 0 rfl rfl dX12_costOf_16 ?_
    refine V_iload_n 19 B dX12_costOf_19 3 rfl ?_
    refine V_iload_n 20 B dX12_costOf_20 0 rfl ?_
    refine V_iadd 21 B (v := 3630) dX12_costOf_21 (by decide +kernel) ?_
    refine V_iald 22 B (v := 0) 1 rfl (vpin _ _ (by decide +kernel)) dX12_costOf_22 rfl ?_
    refine V_csi 23 B (st := [.int 0]) (As := [.int 0]) (fun sz => mX12_strokeCost_1 l D Y  sz) glS_RX12_55 ⟨rfl, rfl⟩ ⟨(Nat.le_of_ble_eq_true rfl), (Nat.le_of_ble_eq_true rfl)⟩ ⟨(Nat.le_of_ble_eq_true rfl), (Nat.le_of_ble_eq_true rfl)⟩ [] rfl rfl (Nat.le_of_ble_eq_true rfl) rfl (fun _ _ _ => rfl) dX12_costOf_23 (fun r0 u0 w0 => ?_)
    obtain rfl := w0
    refine V_ws [(h0, oC 13 [.ref h1, .ref g0, .int 0, .ref g1, .ref g2, .int 0, .int 0, .int 0, .int (-1), .int 0, .int 0, .int 0, .long 0, .ref g3, .ref g4, .int 0, .int 0]), (h1, aI Y 3640 (upd (upd (upd (upd (upd (clB 0 (fun _ => 0)) 3629 2) 3630 0) 3631 0) 3630 0) 3631 0))] rfl ?_
    refine V_iadd 26 B (v := 1) dX12_costOf_26 (by decide +kernel) ?_
    refine V_istore_n 27 B (lv2 := [(2, .int 1), (3, .int 1), (0, .ref h0), (1, .int 3629)]) dX12_costOf_27 (by decide) rfl ?_
    refine V_iinc 28 B (v := 2) (lv2 := [(3, .int 2), (2, .int 1), (0, .ref h0), (1, .int 3629)]) dX12_costOf_28 1 rfl (by decide +kernel) (by decide) rfl ?_
    refine V_goto 31 B 4 dX12_costOf_31 (by decide) ?_
    refine V_iload_n 4 B dX12_costOf_4 0 rfl ?_
    refine V_aload_n 5 B dX12_costOf_5 2 rfl ?_
    refine V_get 6 B gf_RX12_9 0 rfl rfl dX12_costOf_6 ?_
    refine V_iload_n 9 B dX12_costOf_9 3 rfl ?_
    refine V_iald 10 B (v := 2) 1 rfl (vpin _ _ (by decide +kernel)) dX12_costOf_10 rfl ?_
    refine V_icmp_gt_f 11 B 34 dX12_costOf_11 (by decide) (by decide +kernel) ?_
    refine V_iload_n 14 B dX12_costOf_14 1 rfl ?_
    refine V_aload_n 15 B dX12_costOf_15 2 rfl ?_
    refine V_get 16 B gf_RX12_9 0 rfl rfl dX12_costOf_16 ?_
    refine V_iload_n 19 B dX12_costOf_19 3 rfl ?_
    refine V_iload_n 20 B dX12_costOf_20 0 rfl ?_
    refine V_iadd 21 B (v := 3631) dX12_costOf_21 (by decide +kernel) ?_
    refine V_iald 22 B (v := 0) 1 rfl (vpin _ _ (by decide +kernel)) dX12_costOf_22 rfl ?_
    refine V_csi 23 B (st := [.int 1]) (As := [.int 0]) (fun sz => mX12_strokeCost_1 l D Y  sz) glS_RX12_55 ⟨rfl, rfl⟩ ⟨(Nat.le_of_ble_eq_true rfl), (Nat.le_of_ble_eq_true rfl)⟩ ⟨(Nat.le_of_ble_eq_true rfl), (Nat.le_of_ble_eq_true rfl)⟩ [] rfl rfl (Nat.le_of_ble_eq_true rfl) rfl (fun _ _ _ => rfl) dX12_costOf_23 (fun r1 u1 w1 => ?_)
    obtain rfl := w1
    refine V_ws [(h0, oC 13 [.ref h1, .ref g0, .int 0, .ref g1, .ref g2, .int 0, .int 0, .int 0, .int (-1), .int 0, .int 0, .int 0, .long 0, .ref g3, .ref g4, .int 0, .int 0]), (h1, aI Y 3640 (upd (upd (upd (upd (upd (clB 0 (fun _ => 0)) 3629 2) 3630 0) 3631 0) 3630 0) 3631 0))] rfl ?_
    refine V_iadd 26 B (v := 2) dX12_costOf_26 (by decide +kernel) ?_
    refine V_istore_n 27 B (lv2 := [(2, .int 2), (3, .int 2), (0, .ref h0), (1, .int 3629)]) dX12_costOf_27 (by decide) rfl ?_
    refine V_iinc 28 B (v := 3) (lv2 := [(3, .int 3), (2, .int 2), (0, .ref h0), (1, .int 3629)]) dX12_costOf_28 1 rfl (by decide +kernel) (by decide) rfl ?_
    refine V_goto 31 B 4 dX12_costOf_31 (by decide) ?_
    refine V_iload_n 4 B dX12_costOf_4 0 rfl ?_
    refine V_aload_n 5 B dX12_costOf_5 2 rfl ?_
    refine V_get 6 B gf_RX12_9 0 rfl rfl dX12_costOf_6 ?_
    refine V_iload_n 9 B dX12_costOf_9 3 rfl ?_
    refine V_iald 10 B (v := 2) 1 rfl (vpin _ _ (by decide +kernel)) dX12_costOf_10 rfl ?_
    refine V_icmp_gt_t 11 B 34 dX12_costOf_11 (by decide) (by decide +kernel) ?_
    refine V_iload_n 34 B dX12_costOf_34 1 rfl ?_
    exact V_iret 35 B dX12_costOf_35 () rfl rfl)
set_option maxRecDepth 100000 in
set_option maxHeartbeats 4000000 in
theorem mX12_clashesReserved_3 (l : Launch) (D : va_G) (Y : Nat → ClassId) (h0 : Nat) (h1 : Nat) (g0 : Nat) (g1 : Nat) (g2 : Nat) (g3 : Nat) (g4 : Nat) (sz : Nat) : Met l yX12_clashesReserved (WSm yX12_clashesReserved cX12_clashesReserved 4 (some .boolean)) (mkR 0 0 0 0) (PreC D Y [.ref h0, .int 3629] [(h0, oC 13 [.ref h1, .ref g0, .int 0, .ref g1, .ref g2, .int 0, .int 0, .int 0, .int (-1), .int 0, .int 0, .int 0, .long 0, .ref g3, .ref g4, .int 0, .int 0]), (h1, aI Y 3640 (upd (upd (upd (upd (upd (clB 0 (fun _ => 0)) 3629 2) 3630 0) 3631 0) 3630 0) 3631 0))] sz) (QI D (fun (r : Int32) (u : Unit) => 0 = r) (fun (_ : Unit) => [(h0, oC 13 [.ref h1, .ref g0, .int 0, .ref g1, .ref g2, .int 0, .int 0, .int 0, .int (-1), .int 0, .int 0, .int 0, .long 0, .ref g3, .ref g4, .int 0, .int 0]), (h1, aI Y 3640 (upd (upd (upd (upd (upd (clB 0 (fun _ => 0)) 3629 2) 3630 0) 3631 0) 3630 0) 3631 0))]) (va_A [(h0, oC 13 [.ref h1, .ref g0, .int 0, .ref g1, .ref g2, .int 0, .int 0, .int 0, .int (-1), .int 0, .int 0, .int 0, .long 0, .ref g3, .ref g4, .int 0, .int 0]), (h1, aI Y 3640 (upd (upd (upd (upd (upd (clB 0 (fun _ => 0)) 3629 2) 3630 0) 3631 0) 3630 0) 3631 0))] sz)) 0 0 (va_A [(h0, oC 13 [.ref h1, .ref g0, .int 0, .ref g1, .ref g2, .int 0, .int 0, .int 0, .int (-1), .int 0, .int 0, .int 0, .long 0, .ref g3, .ref g4, .int 0, .int 0]), (h1, aI Y 3640 (upd (upd (upd (upd (upd (clB 0 (fun _ => 0)) 3629 2) 3630 0) 3631 0) 3630 0) 3631 0))] sz) :=
  met_of (by decide +kernel) (Nat.le_of_ble_eq_true rfl) (fun p e s m args below meth c B hin hsz => by
    have B : VB p s m args meth c D Y (va_A [(h0, oC 13 [.ref h1, .ref g0, .int 0, .ref g1, .ref g2, .int 0, .int 0, .int 0, .int (-1), .int 0, .int 0, .int 0, .long 0, .ref g3, .ref g4, .int 0, .int 0]), (h1, aI Y 3640 (upd (upd (upd (upd (upd (clB 0 (fun _ => 0)) 3629 2) 3630 0) 3631 0) 3630 0) 3631 0))] sz) cX12_clashesReserved 4 RX12 (some .boolean) := B
    refine V_iconst 0 B (v := 0) dX12_clashesReserved_0 (by decide +kernel) ?_
    refine V_istore_n 1 B (lv2 := [(2, .int 0), (0, .ref h0), (1, .int 3629)]) dX12_clashesReserved_1 (by decide) rfl ?_
    refine V_iconst 2 B (v := 0) dX12_clashesReserved_2 (by decide +kernel) ?_
    refine V_istore_n 3 B (lv2 := [(3, .int 0), (2, .int 0), (0, .ref h0), (1, .int 3629)]) dX12_clashesReserved_3 (by decide) rfl ?_
    refine V_iload_n 4 B dX12_clashesReserved_4 0 rfl ?_
    refine V_aload_n 5 B dX12_clashesReserved_5 2 rfl ?_
    refine V_get 6 B gf_RX12_9 0 rfl rfl dX12_clashesReserved_6 ?_
    refine V_iconst 9 B (v := 2) dX12_clashesReserved_9 (by decide +kernel) ?_
    refine V_iald 10 B (v := 0) 1 rfl (vpin _ _ (by decide +kernel)) dX12_clashesReserved_10 rfl ?_
    refine V_icmp_ge_t 11 B 32 dX12_clashesReserved_11 (by decide) (by decide +kernel) ?_
    refine V_iload_n 32 B dX12_clashesReserved_32 1 rfl ?_
    exact V_zret 33 B rfl dX12_clashesReserved_33 () rfl rfl)
set_option maxRecDepth 100000 in
set_option maxHeartbeats 4000000 in
theorem mX12_clashIn_3 (l : Launch) (D : va_G) (Y : Nat → ClassId) (h0 : Nat) (h1 : Nat) (g0 : Nat) (g1 : Nat) (g2 : Nat) (g3 : Nat) (g4 : Nat) (sz : Nat) : Met l yX12_clashIn (WSm yX12_clashIn cX12_clashIn 5 (some .int)) (mkR 0 0 0 0) (PreC D Y [.ref h0, .int 0, .int 3629, .int (-1)] [(h0, oC 13 [.ref h1, .ref g0, .int 0, .ref g1, .ref g2, .int 0, .int 0, .int 0, .int (-1), .int 0, .int 0, .int 0, .long 0, .ref g3, .ref g4, .int 0, .int 0]), (h1, aI Y 3640 (upd (upd (upd (upd (upd (clB 0 (fun _ => 0)) 3629 2) 3630 0) 3631 0) 3630 0) 3631 0))] sz) (QI D (fun (r : Int32) (u : Unit) => (-1) = r) (fun (_ : Unit) => [(h0, oC 13 [.ref h1, .ref g0, .int 0, .ref g1, .ref g2, .int 0, .int 0, .int 0, .int (-1), .int 0, .int 0, .int 0, .long 0, .ref g3, .ref g4, .int 0, .int 0]), (h1, aI Y 3640 (upd (upd (upd (upd (upd (clB 0 (fun _ => 0)) 3629 2) 3630 0) 3631 0) 3630 0) 3631 0))]) (va_A [(h0, oC 13 [.ref h1, .ref g0, .int 0, .ref g1, .ref g2, .int 0, .int 0, .int 0, .int (-1), .int 0, .int 0, .int 0, .long 0, .ref g3, .ref g4, .int 0, .int 0]), (h1, aI Y 3640 (upd (upd (upd (upd (upd (clB 0 (fun _ => 0)) 3629 2) 3630 0) 3631 0) 3630 0) 3631 0))] sz)) 0 0 (va_A [(h0, oC 13 [.ref h1, .ref g0, .int 0, .ref g1, .ref g2, .int 0, .int 0, .int 0, .int (-1), .int 0, .int 0, .int 0, .long 0, .ref g3, .ref g4, .int 0, .int 0]), (h1, aI Y 3640 (upd (upd (upd (upd (upd (clB 0 (fun _ => 0)) 3629 2) 3630 0) 3631 0) 3630 0) 3631 0))] sz) :=
  met_of (by decide +kernel) (Nat.le_of_ble_eq_true rfl) (fun p e s m args below meth c B hin hsz => by
    have B : VB p s m args meth c D Y (va_A [(h0, oC 13 [.ref h1, .ref g0, .int 0, .ref g1, .ref g2, .int 0, .int 0, .int 0, .int (-1), .int 0, .int 0, .int 0, .long 0, .ref g3, .ref g4, .int 0, .int 0]), (h1, aI Y 3640 (upd (upd (upd (upd (upd (clB 0 (fun _ => 0)) 3629 2) 3630 0) 3631 0) 3630 0) 3631 0))] sz) cX12_clashIn 5 RX12 (some .int) := B
    refine V_iconst 0 B (v := 0) dX12_clashIn_0 (by decide +kernel) ?_
    refine V_istore 1 B (lv2 := [(4, .int 0), (0, .ref h0), (1, .int 0), (2, .int 3629), (3, .int (-1))]) dX12_clashIn_1 (by decide) rfl ?_
    refine V_iload 3 B dX12_clashIn_3 0 rfl ?_
    refine V_aload_n 5 B dX12_clashIn_5 1 rfl ?_
    refine V_get 6 B gf_RX12_9 0 rfl rfl dX12_clashIn_6 ?_
    refine V_iconst 9 B (v := 3) dX12_clashIn_9 (by decide +kernel) ?_
    refine V_iald 10 B (v := 0) 1 rfl (vpin _ _ (by decide +kernel)) dX12_clashIn_10 rfl ?_
    refine V_icmp_ge_t 11 B 57 dX12_clashIn_11 (by decide) (by decide +kernel) ?_
    refine V_iconst 57 B (v := (-1)) dX12_clashIn_57 (by decide +kernel) ?_
    exact V_iret 58 B dX12_clashIn_58 () rfl rfl)
set_option maxRecDepth 100000 in
set_option maxHeartbeats 4000000 in
theorem mX12_canBind_3 (l : Launch) (D : va_G) (Y : Nat → ClassId) (h0 : Nat) (h1 : Nat) (g0 : Nat) (g1 : Nat) (g2 : Nat) (g3 : Nat) (g4 : Nat) (sz : Nat) : Met l yX12_canBind (WSm yX12_canBind cX12_canBind 3 (some .boolean)) (mkR 1 0 0 24) (PreC D Y [.ref h0, .int 0, .int 3629] [(h0, oC 13 [.ref h1, .ref g0, .int 0, .ref g1, .ref g2, .int 0, .int 0, .int 0, .int (-1), .int 0, .int 0, .int 0, .long 0, .ref g3, .ref g4, .int 0, .int 0]), (h1, aI Y 3640 (upd (upd (upd (upd (upd (clB 0 (fun _ => 0)) 3629 2) 3630 0) 3631 0) 3630 0) 3631 0))] sz) (QI D (fun (r : Int32) (u : Unit) => 1 = r) (fun (_ : Unit) => [(h0, oC 13 [.ref h1, .ref g0, .int 0, .ref g1, .ref g2, .int 0, .int 0, .int 0, .int (-1), .int 0, .int 0, .int 0, .long 0, .ref g3, .ref g4, .int 0, .int 0]), (h1, aI Y 3640 (upd (upd (upd (upd (upd (clB 0 (fun _ => 0)) 3629 2) 3630 0) 3631 0) 3630 0) 3631 0))]) (va_A [(h0, oC 13 [.ref h1, .ref g0, .int 0, .ref g1, .ref g2, .int 0, .int 0, .int 0, .int (-1), .int 0, .int 0, .int 0, .long 0, .ref g3, .ref g4, .int 0, .int 0]), (h1, aI Y 3640 (upd (upd (upd (upd (upd (clB 0 (fun _ => 0)) 3629 2) 3630 0) 3631 0) 3630 0) 3631 0))] sz)) 0 0 (va_A [(h0, oC 13 [.ref h1, .ref g0, .int 0, .ref g1, .ref g2, .int 0, .int 0, .int 0, .int (-1), .int 0, .int 0, .int 0, .long 0, .ref g3, .ref g4, .int 0, .int 0]), (h1, aI Y 3640 (upd (upd (upd (upd (upd (clB 0 (fun _ => 0)) 3629 2) 3630 0) 3631 0) 3630 0) 3631 0))] sz) :=
  met_of (by decide +kernel) (Nat.le_of_ble_eq_true rfl) (fun p e s m args below meth c B hin hsz => by
    have B : VB p s m args meth c D Y (va_A [(h0, oC 13 [.ref h1, .ref g0, .int 0, .ref g1, .ref g2, .int 0, .int 0, .int 0, .int (-1), .int 0, .int 0, .int 0, .long 0, .ref g3, .ref g4, .int 0, .int 0]), (h1, aI Y 3640 (upd (upd (upd (upd (upd (clB 0 (fun _ => 0)) 3629 2) 3630 0) 3631 0) 3630 0) 3631 0))] sz) cX12_canBind 3 RX12 (some .boolean) := B
    refine V_aload_n 0 B dX12_canBind_0 0 rfl ?_
    refine V_iload_n 1 B dX12_canBind_1 2 rfl ?_
    refine V_cvi 2 B (st := []) (As := [.int 3629]) (fun sz => mX12_clashesReserved_3 l D Y (h0) (h1) (g0) (g1) (g2) (g3) (g4) sz) glV_RX12_118 ⟨rfl, rfl⟩ ⟨(Nat.le_of_ble_eq_true rfl), (Nat.le_of_ble_eq_true rfl)⟩ ⟨(Nat.le_of_ble_eq_true rfl), (Nat.le_of_ble_eq_true rfl)⟩ [0, 0] rfl 13 0 rfl rfl rfl rfl (Nat.le_of_ble_eq_true rfl) rfl (fun _ _ _ => rfl) dX12_canBind_2 (fun r0 u0 w0 => ?_)
    obtain rfl := w0
    refine V_ws [(h0, oC 13 [.ref h1, .ref g0, .int 0, .ref g1, .ref g2, .int 0, .int 0, .int 0, .int (-1), .int 0, .int 0, .int 0, .long 0, .ref g3, .ref g4, .int 0, .int 0]), (h1, aI Y 3640 (upd (upd (upd (upd (upd (clB 0 (fun _ => 0)) 3629 2) 3630 0) 3631 0) 3630 0) 3631 0))] rfl ?_
    refine V_if_ne_f 5 B 23 dX12_canBind_5 (by decide) (by decide +kernel) ?_
    refine V_aload_n 8 B dX12_canBind_8 0 rfl ?_
    refine V_iload_n 9 B dX12_canBind_9 1 rfl ?_
    refine V_iload_n 10 B dX12_canBind_10 2 rfl ?_
    refine V_iconst 11 B (v := (-1)) dX12_canBind_11 (by decide +kernel) ?_
    refine V_cvi 12 B (st := []) (As := [.int 0, .int 3629, .int (-1)]) (fun sz => mX12_clashIn_3 l D Y (h0) (h1) (g0) (g1) (g2) (g3) (g4) sz) glV_RX12_121 ⟨rfl, rfl⟩ ⟨(Nat.le_of_ble_eq_true rfl), (Nat.le_of_ble_eq_true rfl)⟩ ⟨(Nat.le_of_ble_eq_true rfl), (Nat.le_of_ble_eq_true rfl)⟩ [0, 0] rfl 13 0 rfl rfl rfl rfl (Nat.le_of_ble_eq_true rfl) rfl (fun _ _ _ => rfl) dX12_canBind_12 (fun r1 u1 w1 => ?_)
    obtain rfl := w1
    refine V_ws [(h0, oC 13 [.ref h1, .ref g0, .int 0, .ref g1, .ref g2, .int 0, .int 0, .int 0, .int (-1), .int 0, .int 0, .int 0, .long 0, .ref g3, .ref g4, .int 0, .int 0]), (h1, aI Y 3640 (upd (upd (upd (upd (upd (clB 0 (fun _ => 0)) 3629 2) 3630 0) 3631 0) 3630 0) 3631 0))] rfl ?_
    refine V_iconst 15 B (v := (-1)) dX12_canBind_15 (by decide +kernel) ?_
    refine V_icmp_ne_f 16 B 23 dX12_canBind_16 (by decide) (by decide +kernel) ?_
    refine V_iconst 19 B (v := 1) dX12_canBind_19 (by decide +kernel) ?_
    refine V_goto 20 B 24 dX12_canBind_20 (by decide) ?_
    exact V_zret 24 B rfl dX12_canBind_24 () rfl rfl)
set_option maxRecDepth 100000 in
set_option maxHeartbeats 4000000 in
theorem mX12_isFreeHere_2 (l : Launch) (D : va_G) (Y : Nat → ClassId) (h0 : Nat) (h1 : Nat) (g0 : Nat) (g1 : Nat) (g2 : Nat) (g3 : Nat) (g4 : Nat) (p0 : Int32) (sz : Nat) : Met l yX12_isFreeHere (WSm yX12_isFreeHere cX12_isFreeHere 5 (some .boolean)) (mkR 2 0 0 46) (PreC D Y [.ref h0, .int 0, .int p0] [(h0, oC 13 [.ref h1, .ref g0, .int 0, .ref g1, .ref g2, .int 0, .int 0, .int 0, .int (-1), .int 0, .int 0, .int 0, .long 0, .ref g3, .ref g4, .int 0, .int 0]), (h1, aI Y 3640 (upd (upd (upd (upd (upd (clB 0 (fun _ => 0)) 3629 2) 3630 0) 3631 0) 3630 0) 3631 0))] sz) (QI D (fun (r : Int32) (u : Unit) => 1 = r) (fun (_ : Unit) => [(h0, oC 13 [.ref h1, .ref g0, .int 0, .ref g1, .ref g2, .int 0, .int 0, .int 0, .int (-1), .int 0, .int 0, .int 0, .long 0, .ref g3, .ref g4, .int 0, .int 0]), (h1, aI Y 3640 (upd (upd (upd (upd (upd (clB 0 (fun _ => 0)) 3629 2) 3630 0) 3631 0) 3630 0) 3631 0))]) (va_A [(h0, oC 13 [.ref h1, .ref g0, .int 0, .ref g1, .ref g2, .int 0, .int 0, .int 0, .int (-1), .int 0, .int 0, .int 0, .long 0, .ref g3, .ref g4, .int 0, .int 0]), (h1, aI Y 3640 (upd (upd (upd (upd (upd (clB 0 (fun _ => 0)) 3629 2) 3630 0) 3631 0) 3630 0) 3631 0))] sz)) 0 0 (va_A [(h0, oC 13 [.ref h1, .ref g0, .int 0, .ref g1, .ref g2, .int 0, .int 0, .int 0, .int (-1), .int 0, .int 0, .int 0, .long 0, .ref g3, .ref g4, .int 0, .int 0]), (h1, aI Y 3640 (upd (upd (upd (upd (upd (clB 0 (fun _ => 0)) 3629 2) 3630 0) 3631 0) 3630 0) 3631 0))] sz) :=
  met_of (by decide +kernel) (Nat.le_of_ble_eq_true rfl) (fun p e s m args below meth c B hin hsz => by
    have B : VB p s m args meth c D Y (va_A [(h0, oC 13 [.ref h1, .ref g0, .int 0, .ref g1, .ref g2, .int 0, .int 0, .int 0, .int (-1), .int 0, .int 0, .int 0, .long 0, .ref g3, .ref g4, .int 0, .int 0]), (h1, aI Y 3640 (upd (upd (upd (upd (upd (clB 0 (fun _ => 0)) 3629 2) 3630 0) 3631 0) 3630 0) 3631 0))] sz) cX12_isFreeHere 5 RX12 (some .boolean) := B
    refine V_aload_n 0 B dX12_isFreeHere_0 0 rfl ?_
    refine V_iload_n 1 B dX12_isFreeHere_1 1 rfl ?_
    refine V_sipush 2 B (v := 3629) dX12_isFreeHere_2 (by decide +kernel) ?_
    refine V_cvi 5 B (st := []) (As := [.int 0, .int 3629]) (fun sz => mX12_canBind_3 l D Y (h0) (h1) (g0) (g1) (g2) (g3) (g4) sz) glV_RX12_129 ⟨rfl, rfl⟩ ⟨(Nat.le_of_ble_eq_true rfl), (Nat.le_of_ble_eq_true rfl)⟩ ⟨(Nat.le_of_ble_eq_true rfl), (Nat.le_of_ble_eq_true rfl)⟩ [0, 0] rfl 13 0 rfl rfl rfl rfl (Nat.le_of_ble_eq_true rfl) rfl (fun _ _ _ => rfl) dX12_isFreeHere_5 (fun r0 u0 w0 => ?_)
    obtain rfl := w0
    refine V_ws [(h0, oC 13 [.ref h1, .ref g0, .int 0, .ref g1, .ref g2, .int 0, .int 0, .int 0, .int (-1), .int 0, .int 0, .int 0, .long 0, .ref g3, .ref g4, .int 0, .int 0]), (h1, aI Y 3640 (upd (upd (upd (upd (upd (clB 0 (fun _ => 0)) 3629 2) 3630 0) 3631 0) 3630 0) 3631 0))] rfl ?_
    refine V_if_ne_t 8 B 13 dX12_isFreeHere_8 (by decide) (by decide +kernel) ?_
    refine V_iconst 13 B (v := 1) dX12_isFreeHere_13 (by decide +kernel) ?_
    refine V_istore_n 14 B (lv2 := [(3, .int 1), (0, .ref h0), (1, .int 0), (2, .int p0)]) dX12_isFreeHere_14 (by decide) rfl ?_
    refine V_iconst 15 B (v := 0) dX12_isFreeHere_15 (by decide +kernel) ?_
    refine V_istore 16 B (lv2 := [(4, .int 0), (3, .int 1), (0, .ref h0), (1, .int 0), (2, .int p0)]) dX12_isFreeHere_16 (by decide) rfl ?_
    refine V_iload 18 B dX12_isFreeHere_18 0 rfl ?_
    refine V_aload_n 20 B dX12_isFreeHere_20 2 rfl ?_
    refine V_get 21 B gf_RX12_9 0 rfl rfl dX12_isFreeHere_21 ?_
    refine V_iconst 24 B (v := 3) dX12_isFreeHere_24 (by decide +kernel) ?_
    refine V_iald 25 B (v := 0) 1 rfl (vpin _ _ (by decide +kernel)) dX12_isFreeHere_25 rfl ?_
    refine V_icmp_ge_t 26 B 72 dX12_isFreeHere_26 (by decide) (by decide +kernel) ?_
    refine V_iload_n 72 B dX12_isFreeHere_72 1 rfl ?_
    exact V_zret 73 B rfl dX12_isFreeHere_73 () rfl rfl)
set_option maxRecDepth 100000 in
set_option maxHeartbeats 4000000 in
theorem mX12_costOf_s19 (l : Launch) (D : va_G) (Y : Nat → ClassId) (h0 : Nat) (h1 : Nat) (g0 : Nat) (g1 : Nat) (g2 : Nat) (g3 : Nat) (g4 : Nat) (p2 : Int32) (p3 : Int32) (p0 : Int32) (p1 : Int32) (hs0 : (((((p0 / 32) / 2) / 2) / 2) / 2) = 0) (hs1 : (((((p1 / 32) / 2) / 2) / 2) / 2) = 0) (sz : Nat) : Met l yX12_costOf (WSm yX12_costOf cX12_costOf 4 (some .int)) (mkR 2 0 0 42) (PreC D Y [.ref h0, .int 3629] [(h0, oC 13 [.ref h1, .ref g0, .int 0, .ref g1, .ref g2, .int 0, .int 0, .int 0, .int (-1), .int 0, .int 0, .int 0, .long 0, .ref g3, .ref g4, .int 0, .int 0]), (h1, aI Y 3640 (upd (upd (upd (upd (upd (clB 0 (fun _ => 0)) 3629 2) 3630 p2) 3631 p3) 3630 p0) 3631 p1))] sz) (QI D (fun (r : Int32) (u : Unit) => ((scoF p0) + (scoF p1)) = r) (fun (_ : Unit) => [(h0, oC 13 [.ref h1, .ref g0, .int 0, .ref g1, .ref g2, .int 0, .int 0, .int 0, .int (-1), .int 0, .int 0, .int 0, .long 0, .ref g3, .ref g4, .int 0, .int 0]), (h1, aI Y 3640 (upd (upd (upd (upd (upd (clB 0 (fun _ => 0)) 3629 2) 3630 p2) 3631 p3) 3630 p0) 3631 p1))]) (va_A [(h0, oC 13 [.ref h1, .ref g0, .int 0, .ref g1, .ref g2, .int 0, .int 0, .int 0, .int (-1), .int 0, .int 0, .int 0, .long 0, .ref g3, .ref g4, .int 0, .int 0]), (h1, aI Y 3640 (upd (upd (upd (upd (upd (clB 0 (fun _ => 0)) 3629 2) 3630 p2) 3631 p3) 3630 p0) 3631 p1))] sz)) 0 0 (va_A [(h0, oC 13 [.ref h1, .ref g0, .int 0, .ref g1, .ref g2, .int 0, .int 0, .int 0, .int (-1), .int 0, .int 0, .int 0, .long 0, .ref g3, .ref g4, .int 0, .int 0]), (h1, aI Y 3640 (upd (upd (upd (upd (upd (clB 0 (fun _ => 0)) 3629 2) 3630 p2) 3631 p3) 3630 p0) 3631 p1))] sz) :=
  met_of (by decide +kernel) (Nat.le_of_ble_eq_true rfl) (fun p e s m args below meth c B hin hsz => by
    have B : VB p s m args meth c D Y (va_A [(h0, oC 13 [.ref h1, .ref g0, .int 0, .ref g1, .ref g2, .int 0, .int 0, .int 0, .int (-1), .int 0, .int 0, .int 0, .long 0, .ref g3, .ref g4, .int 0, .int 0]), (h1, aI Y 3640 (upd (upd (upd (upd (upd (clB 0 (fun _ => 0)) 3629 2) 3630 p2) 3631 p3) 3630 p0) 3631 p1))] sz) cX12_costOf 4 RX12 (some .int) := B
    refine V_iconst 0 B (v := 0) dX12_costOf_0 (by decide +kernel) ?_
    refine V_istore_n 1 B (lv2 := [(2, .int 0), (0, .ref h0), (1, .int 3629)]) dX12_costOf_1 (by decide) rfl ?_
    refine V_iconst 2 B (v := 1) dX12_costOf_2 (by decide +kernel) ?_
    refine V_istore_n 3 B (lv2 := [(3, .int 1), (2, .int 0), (0, .ref h0), (1, .int 3629)]) dX12_costOf_3 (by decide) rfl ?_
    refine V_iload_n 4 B dX12_costOf_4 0 rfl ?_
    refine V_aload_n 5 B dX12_costOf_5 2 rfl ?_
    refine V_get 6 B gf_RX12_9 0 rfl rfl dX12_costOf_6 ?_
    refine V_iload_n 9 B dX12_costOf_9 3 rfl ?_
    refine V_iald 10 B (v := 2) 1 rfl (vpin _ _ (by decide +kernel)) dX12_costOf_10 rfl ?_
    refine V_icmp_gt_f 11 B 34 dX12_costOf_11 (by decide) (by decide +kernel) ?_
    refine V_iload_n 14 B dX12_costOf_14 1 rfl ?_
    refine V_aload_n 15 B dX12_costOf_15 2 rfl ?_
    refine V_get 16 B gf_RX12_9 0 rfl rfl dX12_costOf_16 ?_
    refine V_iload_n 19 B dX12_costOf_19 3 rfl ?_
    refine V_iload_n 20 B dX12_costOf_20 0 rfl ?_
    refine V_iadd 21 B (v := 3630) dX12_costOf_21 (by decide +kernel) ?_
    refine V_iald 22 B (v := p0) 1 rfl (vpin _ _ (by decide +kernel)) dX12_costOf_22 rfl ?_
    refine V_csi 23 B (st := [.int 0]) (As := [.int p0]) (fun sz => mX12_strokeCost_scoF l D Y (p0) (hs0) sz) glS_RX12_55 ⟨rfl, rfl⟩ ⟨(Nat.le_of_ble_eq_true rfl), (Nat.le_of_ble_eq_true rfl)⟩ ⟨(Nat.le_of_ble_eq_true rfl), (Nat.le_of_ble_eq_true rfl)⟩ [] rfl rfl (Nat.le_of_ble_eq_true rfl) rfl (fun _ _ _ => rfl) dX12_costOf_23 (fun r0 u0 w0 => ?_)
    obtain rfl := w0
    refine V_ws [(h0, oC 13 [.ref h1, .ref g0, .int 0, .ref g1, .ref g2, .int 0, .int 0, .int 0, .int (-1), .int 0, .int 0, .int 0, .long 0, .ref g3, .ref g4, .int 0, .int 0]), (h1, aI Y 3640 (upd (upd (upd (upd (upd (clB 0 (fun _ => 0)) 3629 2) 3630 p2) 3631 p3) 3630 p0) 3631 p1))] rfl ?_
    refine V_iadd 26 B dX12_costOf_26 (Int32.zero_add _) ?_
    refine V_istore_n 27 B (lv2 := [(2, .int (scoF p0)), (3, .int 1), (0, .ref h0), (1, .int 3629)]) dX12_costOf_27 (by decide) rfl ?_
    refine V_iinc 28 B (v := 2) (lv2 := [(3, .int 2), (2, .int (scoF p0)), (0, .ref h0), (1, .int 3629)]) dX12_costOf_28 1 rfl (by decide +kernel) (by decide) rfl ?_
    refine V_goto 31 B 4 dX12_costOf_31 (by decide) ?_
    refine V_iload_n 4 B dX12_costOf_4 0 rfl ?_
    refine V_aload_n 5 B dX12_costOf_5 2 rfl ?_
    refine V_get 6 B gf_RX12_9 0 rfl rfl dX12_costOf_6 ?_
    refine V_iload_n 9 B dX12_costOf_9 3 rfl ?_
    refine V_iald 10 B (v := 2) 1 rfl (vpin _ _ (by decide +kernel)) dX12_costOf_10 rfl ?_
    refine V_icmp_gt_f 11 B 34 dX12_costOf_11 (by decide) (by decide +kernel) ?_
    refine V_iload_n 14 B dX12_costOf_14 1 rfl ?_
    refine V_aload_n 15 B dX12_costOf_15 2 rfl ?_
    refine V_get 16 B gf_RX12_9 0 rfl rfl dX12_costOf_16 ?_
    refine V_iload_n 19 B dX12_costOf_19 3 rfl ?_
    refine V_iload_n 20 B dX12_costOf_20 0 rfl ?_
    refine V_iadd 21 B (v := 3631) dX12_costOf_21 (by decide +kernel) ?_
    refine V_iald 22 B (v := p1) 1 rfl (vpin _ _ (by decide +kernel)) dX12_costOf_22 rfl ?_
    refine V_csi 23 B (st := [.int (scoF p0)]) (As := [.int p1]) (fun sz => mX12_strokeCost_scoF l D Y (p1) (hs1) sz) glS_RX12_55 ⟨rfl, rfl⟩ ⟨(Nat.le_of_ble_eq_true rfl), (Nat.le_of_ble_eq_true rfl)⟩ ⟨(Nat.le_of_ble_eq_true rfl), (Nat.le_of_ble_eq_true rfl)⟩ [] rfl rfl (Nat.le_of_ble_eq_true rfl) rfl (fun _ _ _ => rfl) dX12_costOf_23 (fun r1 u1 w1 => ?_)
    obtain rfl := w1
    refine V_ws [(h0, oC 13 [.ref h1, .ref g0, .int 0, .ref g1, .ref g2, .int 0, .int 0, .int 0, .int (-1), .int 0, .int 0, .int 0, .long 0, .ref g3, .ref g4, .int 0, .int 0]), (h1, aI Y 3640 (upd (upd (upd (upd (upd (clB 0 (fun _ => 0)) 3629 2) 3630 p2) 3631 p3) 3630 p0) 3631 p1))] rfl ?_
    refine V_iadd 26 B dX12_costOf_26 rfl ?_
    refine V_istore_n 27 B (lv2 := [(2, .int ((scoF p0) + (scoF p1))), (3, .int 2), (0, .ref h0), (1, .int 3629)]) dX12_costOf_27 (by decide) rfl ?_
    refine V_iinc 28 B (v := 3) (lv2 := [(3, .int 3), (2, .int ((scoF p0) + (scoF p1))), (0, .ref h0), (1, .int 3629)]) dX12_costOf_28 1 rfl (by decide +kernel) (by decide) rfl ?_
    refine V_goto 31 B 4 dX12_costOf_31 (by decide) ?_
    refine V_iload_n 4 B dX12_costOf_4 0 rfl ?_
    refine V_aload_n 5 B dX12_costOf_5 2 rfl ?_
    refine V_get 6 B gf_RX12_9 0 rfl rfl dX12_costOf_6 ?_
    refine V_iload_n 9 B dX12_costOf_9 3 rfl ?_
    refine V_iald 10 B (v := 2) 1 rfl (vpin _ _ (by decide +kernel)) dX12_costOf_10 rfl ?_
    refine V_icmp_gt_t 11 B 34 dX12_costOf_11 (by decide) (by decide +kernel) ?_
    refine V_iload_n 34 B dX12_costOf_34 1 rfl ?_
    exact V_iret 35 B dX12_costOf_35 () rfl rfl)
theorem dX12_cheapest_0 : decode cX12_cheapest 0 = .ok (.aload_n 0, 1) := by decide +kernel
theorem dX12_cheapest_1 : decode cX12_cheapest 1 = .ok (.iconst 0, 1) := by decide +kernel
theorem dX12_cheapest_2 : decode cX12_cheapest 2 = .ok (.putfield 38, 3) := by decide +kernel
theorem dX12_cheapest_5 : decode cX12_cheapest 5 = .ok (.aload_n 0, 1) := by decide +kernel
theorem dX12_cheapest_6 : decode cX12_cheapest 6 = .ok (.aload_n 0, 1) := by decide +kernel
theorem dX12_cheapest_7 : decode cX12_cheapest 7 = .ok (.iload_n 1, 1) := by decide +kernel
theorem dX12_cheapest_8 : decode cX12_cheapest 8 = .ok (.invokevirtual 91, 3) := by decide +kernel
theorem dX12_cheapest_11 : decode cX12_cheapest 11 = .ok (.ifCond .ne 7, 3) := by decide +kernel
theorem dX12_cheapest_18 : decode cX12_cheapest 18 = .ok (.iconst 0, 1) := by decide +kernel
theorem dX12_cheapest_19 : decode cX12_cheapest 19 = .ok (.iconst 1, 1) := by decide +kernel
theorem dX12_cheapest_20 : decode cX12_cheapest 20 = .ok (.invokevirtual 69, 3) := by decide +kernel
theorem dX12_cheapest_23 : decode cX12_cheapest 23 = .ok (.ifCond .ne 28, 3) := by decide +kernel
theorem dX12_cheapest_26 : decode cX12_cheapest 26 = .ok (.aload_n 0, 1) := by decide +kernel
theorem dX12_cheapest_27 : decode cX12_cheapest 27 = .ok (.iload_n 2, 1) := by decide +kernel
theorem dX12_cheapest_28 : decode cX12_cheapest 28 = .ok (.i2l, 1) := by decide +kernel
theorem dX12_cheapest_29 : decode cX12_cheapest 29 = .ok (.lconst 1, 1) := by decide +kernel
theorem dX12_cheapest_30 : decode cX12_cheapest 30 = .ok (.ldc2_w 94, 3) := by decide +kernel
theorem dX12_cheapest_33 : decode cX12_cheapest 33 = .ok (.invokestatic 41, 3) := by decide +kernel
theorem dX12_cheapest_36 : decode cX12_cheapest 36 = .ok (.ifCond .ne 7, 3) := by decide +kernel
theorem dX12_cheapest_43 : decode cX12_cheapest 43 = .ok (.iconst 0, 1) := by decide +kernel
theorem dX12_cheapest_44 : decode cX12_cheapest 44 = .ok (.iconst 2, 1) := by decide +kernel
theorem dX12_cheapest_45 : decode cX12_cheapest 45 = .ok (.invokevirtual 69, 3) := by decide +kernel
theorem dX12_cheapest_48 : decode cX12_cheapest 48 = .ok (.ifCond .eq 5, 3) := by decide +kernel
theorem dX12_cheapest_53 : decode cX12_cheapest 53 = .ok (.iconst 0, 1) := by decide +kernel
theorem dX12_cheapest_54 : decode cX12_cheapest 54 = .ok (.istore 4, 2) := by decide +kernel
theorem dX12_cheapest_56 : decode cX12_cheapest 56 = .ok (.iload 4, 2) := by decide +kernel
theorem dX12_cheapest_58 : decode cX12_cheapest 58 = .ok (.aload_n 0, 1) := by decide +kernel
theorem dX12_cheapest_59 : decode cX12_cheapest 59 = .ok (.getfield 9, 3) := by decide +kernel
theorem dX12_cheapest_62 : decode cX12_cheapest 62 = .ok (.iconst 3, 1) := by decide +kernel
theorem dX12_cheapest_63 : decode cX12_cheapest 63 = .ok (.iaload, 1) := by decide +kernel
theorem dX12_cheapest_64 : decode cX12_cheapest 64 = .ok (.if_icmp .ge 52, 3) := by decide +kernel
theorem dX12_cheapest_116 : decode cX12_cheapest 116 = .ok (.ldc 184, 2) := by decide +kernel
theorem dX12_cheapest_118 : decode cX12_cheapest 118 = .ok (.istore 4, 2) := by decide +kernel
theorem dX12_cheapest_120 : decode cX12_cheapest 120 = .ok (.iconst 0, 1) := by decide +kernel
theorem dX12_cheapest_121 : decode cX12_cheapest 121 = .ok (.istore 5, 2) := by decide +kernel
theorem dX12_cheapest_123 : decode cX12_cheapest 123 = .ok (.iconst 0, 1) := by decide +kernel
theorem dX12_cheapest_124 : decode cX12_cheapest 124 = .ok (.istore 6, 2) := by decide +kernel
theorem dX12_cheapest_126 : decode cX12_cheapest 126 = .ok (.aload_n 0, 1) := by decide +kernel
theorem dX12_cheapest_127 : decode cX12_cheapest 127 = .ok (.getfield 9, 3) := by decide +kernel
theorem dX12_cheapest_130 : decode cX12_cheapest 130 = .ok (.sipush 3629, 3) := by decide +kernel
theorem dX12_cheapest_133 : decode cX12_cheapest 133 = .ok (.iload_n 2, 1) := by decide +kernel
theorem dX12_cheapest_134 : decode cX12_cheapest 134 = .ok (.iastore, 1) := by decide +kernel
theorem dX12_cheapest_135 : decode cX12_cheapest 135 = .ok (.iconst 0, 1) := by decide +kernel
theorem dX12_cheapest_136 : decode cX12_cheapest 136 = .ok (.istore 7, 2) := by decide +kernel
theorem dX12_cheapest_138 : decode cX12_cheapest 138 = .ok (.iload 7, 2) := by decide +kernel
theorem dX12_cheapest_140 : decode cX12_cheapest 140 = .ok (.sipush 130, 3) := by decide +kernel
theorem dX12_cheapest_143 : decode cX12_cheapest 143 = .ok (.if_icmp .ge 107, 3) := by decide +kernel
theorem dX12_cheapest_146 : decode cX12_cheapest 146 = .ok (.iconst 0, 1) := by decide +kernel
theorem dX12_cheapest_147 : decode cX12_cheapest 147 = .ok (.istore 8, 2) := by decide +kernel
theorem dX12_cheapest_149 : decode cX12_cheapest 149 = .ok (.iload 8, 2) := by decide +kernel
theorem dX12_cheapest_151 : decode cX12_cheapest 151 = .ok (.iload_n 2, 1) := by decide +kernel
theorem dX12_cheapest_152 : decode cX12_cheapest 152 = .ok (.iconst 1, 1) := by decide +kernel
theorem dX12_cheapest_153 : decode cX12_cheapest 153 = .ok (.if_icmp .ne 7, 3) := by decide +kernel
theorem dX12_cheapest_156 : decode cX12_cheapest 156 = .ok (.iconst 1, 1) := by decide +kernel
theorem dX12_cheapest_157 : decode cX12_cheapest 157 = .ok (.goto 6, 3) := by decide +kernel
theorem dX12_cheapest_163 : decode cX12_cheapest 163 = .ok (.if_icmp .ge 81, 3) := by decide +kernel
theorem dX12_cheapest_166 : decode cX12_cheapest 166 = .ok (.aload_n 0, 1) := by decide +kernel
theorem dX12_cheapest_167 : decode cX12_cheapest 167 = .ok (.getfield 9, 3) := by decide +kernel
theorem dX12_cheapest_170 : decode cX12_cheapest 170 = .ok (.sipush 3630, 3) := by decide +kernel
theorem dX12_cheapest_173 : decode cX12_cheapest 173 = .ok (.iload 7, 2) := by decide +kernel
theorem dX12_cheapest_175 : decode cX12_cheapest 175 = .ok (.invokestatic 181, 3) := by decide +kernel
theorem dX12_cheapest_178 : decode cX12_cheapest 178 = .ok (.iastore, 1) := by decide +kernel
theorem dX12_cheapest_179 : decode cX12_cheapest 179 = .ok (.aload_n 0, 1) := by decide +kernel
theorem dX12_cheapest_180 : decode cX12_cheapest 180 = .ok (.getfield 9, 3) := by decide +kernel
theorem dX12_cheapest_183 : decode cX12_cheapest 183 = .ok (.sipush 3631, 3) := by decide +kernel
theorem dX12_cheapest_186 : decode cX12_cheapest 186 = .ok (.iload 8, 2) := by decide +kernel
theorem dX12_cheapest_188 : decode cX12_cheapest 188 = .ok (.invokestatic 181, 3) := by decide +kernel
theorem dX12_cheapest_191 : decode cX12_cheapest 191 = .ok (.iastore, 1) := by decide +kernel
theorem dX12_cheapest_192 : decode cX12_cheapest 192 = .ok (.aload_n 0, 1) := by decide +kernel
theorem dX12_cheapest_193 : decode cX12_cheapest 193 = .ok (.sipush 3629, 3) := by decide +kernel
theorem dX12_cheapest_196 : decode cX12_cheapest 196 = .ok (.invokevirtual 76, 3) := by decide +kernel
theorem dX12_cheapest_199 : decode cX12_cheapest 199 = .ok (.istore 9, 2) := by decide +kernel
theorem dX12_cheapest_201 : decode cX12_cheapest 201 = .ok (.iload 9, 2) := by decide +kernel
theorem dX12_cheapest_203 : decode cX12_cheapest 203 = .ok (.iload 4, 2) := by decide +kernel
theorem dX12_cheapest_205 : decode cX12_cheapest 205 = .ok (.if_icmp .ge 33, 3) := by decide +kernel
theorem dX12_cheapest_208 : decode cX12_cheapest 208 = .ok (.aload_n 0, 1) := by decide +kernel
theorem dX12_cheapest_209 : decode cX12_cheapest 209 = .ok (.iload_n 1, 1) := by decide +kernel
theorem dX12_cheapest_210 : decode cX12_cheapest 210 = .ok (.iload_n 3, 1) := by decide +kernel
theorem dX12_cheapest_211 : decode cX12_cheapest 211 = .ok (.invokevirtual 185, 3) := by decide +kernel
theorem glV_RX12_185 : GLV RX12 185 yX12_isFreeHere RX12 cX12_isFreeHere 5 (some .boolean) 2 := ⟨⟨(mT9 30 rfl rfl), (mT9 32 rfl rfl), (mTs 60 rfl rfl), (mT1 13 rfl rfl), (mT9 33 rfl rfl)⟩, by decide +kernel⟩
theorem dX12_cheapest_214 : decode cX12_cheapest 214 = .ok (.ifCond .ne 6, 3) := by decide +kernel
theorem dX12_cheapest_220 : decode cX12_cheapest 220 = .ok (.iload 9, 2) := by decide +kernel
theorem dX12_cheapest_222 : decode cX12_cheapest 222 = .ok (.istore 4, 2) := by decide +kernel
theorem dX12_cheapest_224 : decode cX12_cheapest 224 = .ok (.iload 7, 2) := by decide +kernel
theorem dX12_cheapest_226 : decode cX12_cheapest 226 = .ok (.invokestatic 181, 3) := by decide +kernel
theorem dX12_cheapest_229 : decode cX12_cheapest 229 = .ok (.istore 5, 2) := by decide +kernel
theorem dX12_cheapest_231 : decode cX12_cheapest 231 = .ok (.iload 8, 2) := by decide +kernel
theorem dX12_cheapest_233 : decode cX12_cheapest 233 = .ok (.invokestatic 181, 3) := by decide +kernel
theorem dX12_cheapest_236 : decode cX12_cheapest 236 = .ok (.istore 6, 2) := by decide +kernel
theorem dX12_cheapest_238 : decode cX12_cheapest 238 = .ok (.iinc 8 1, 3) := by decide +kernel
theorem dX12_cheapest_241 : decode cX12_cheapest 241 = .ok (.goto (-92), 3) := by decide +kernel
theorem dX12_cheapest_244 : decode cX12_cheapest 244 = .ok (.iinc 7 1, 3) := by decide +kernel
theorem dX12_cheapest_247 : decode cX12_cheapest 247 = .ok (.goto (-109), 3) := by decide +kernel
theorem dX12_cheapest_250 : decode cX12_cheapest 250 = .ok (.iload 4, 2) := by decide +kernel
theorem dX12_cheapest_252 : decode cX12_cheapest 252 = .ok (.ldc 184, 2) := by decide +kernel
theorem dX12_cheapest_254 : decode cX12_cheapest 254 = .ok (.if_icmp .ne 5, 3) := by decide +kernel
theorem dX12_cheapest_259 : decode cX12_cheapest 259 = .ok (.aload_n 0, 1) := by decide +kernel
theorem dX12_cheapest_260 : decode cX12_cheapest 260 = .ok (.getfield 9, 3) := by decide +kernel
theorem dX12_cheapest_263 : decode cX12_cheapest 263 = .ok (.sipush 3624, 3) := by decide +kernel
theorem dX12_cheapest_266 : decode cX12_cheapest 266 = .ok (.iload_n 2, 1) := by decide +kernel
theorem dX12_cheapest_267 : decode cX12_cheapest 267 = .ok (.iastore, 1) := by decide +kernel
theorem dX12_cheapest_268 : decode cX12_cheapest 268 = .ok (.aload_n 0, 1) := by decide +kernel
theorem dX12_cheapest_269 : decode cX12_cheapest 269 = .ok (.getfield 9, 3) := by decide +kernel
theorem dX12_cheapest_272 : decode cX12_cheapest 272 = .ok (.sipush 3625, 3) := by decide +kernel
theorem dX12_cheapest_275 : decode cX12_cheapest 275 = .ok (.iload 5, 2) := by decide +kernel
theorem dX12_cheapest_277 : decode cX12_cheapest 277 = .ok (.iastore, 1) := by decide +kernel
theorem dX12_cheapest_278 : decode cX12_cheapest 278 = .ok (.aload_n 0, 1) := by decide +kernel
theorem dX12_cheapest_279 : decode cX12_cheapest 279 = .ok (.getfield 9, 3) := by decide +kernel
theorem dX12_cheapest_282 : decode cX12_cheapest 282 = .ok (.sipush 3626, 3) := by decide +kernel
theorem dX12_cheapest_285 : decode cX12_cheapest 285 = .ok (.iload 6, 2) := by decide +kernel
theorem dX12_cheapest_287 : decode cX12_cheapest 287 = .ok (.iastore, 1) := by decide +kernel
theorem dX12_cheapest_288 : decode cX12_cheapest 288 = .ok (.iload 4, 2) := by decide +kernel
theorem dX12_cheapest_290 : decode cX12_cheapest 290 = .ok (.ireturn, 1) := by decide +kernel
theorem dX12_cheapest_160 : decode cX12_cheapest 160 = .ok (.sipush 130, 3) := by decide +kernel
theorem dX12_cheapest_39 : decode cX12_cheapest 39 = .ok (.iconst 1, 1) := by decide +kernel
theorem dX12_cheapest_40 : decode cX12_cheapest 40 = .ok (.goto 4, 3) := by decide +kernel
theorem dX12_cheapest_51 : decode cX12_cheapest 51 = .ok (.iconst 0, 1) := by decide +kernel
theorem dX12_cheapest_52 : decode cX12_cheapest 52 = .ok (.ireturn, 1) := by decide +kernel
theorem dX12_cheapest_14 : decode cX12_cheapest 14 = .ok (.iconst 1, 1) := by decide +kernel
theorem dX12_cheapest_15 : decode cX12_cheapest 15 = .ok (.goto 4, 3) := by decide +kernel
set_option maxRecDepth 100000 in
set_option maxHeartbeats 4000000 in
theorem mX12_cheapest_1 (l : Launch) (D : va_G) (Y : Nat → ClassId) (h0 : Nat) (h1 : Nat) (g0 : Nat) (g1 : Nat) (g2 : Nat) (g3 : Nat) (g4 : Nat) (p0 : Int32) (p1 : Int32) (p2 : Int32) (sz : Nat) : Met l yX12_cheapest (WSm yX12_cheapest cX12_cheapest 10 (some .int)) (mkR 3 0 0 70) (PreC D Y [.ref h0, .int p0, .int p1, .int p2] [(h0, oC 13 [.ref h1, .ref g0, .int 0, .ref g1, .ref g2, .int 0, .int 0, .int 0, .int (-1), .int 0, .int 0, .int 0, .long 0, .ref g3, .ref g4, .int 0, .int 0]), (h1, aI Y 3640 (clB 0 (fun _ => 0)))] sz) (QI D (fun (r : Int32) (u : Nat) => (u = 0 ∧ p0 = 0 ∧ p1 = 1 ∧ 1 = r) ∨ (u = 1 ∧ p0 = 0 ∧ p1 = 2 ∧ 2 = r) ∨ (u = 2 ∧ p0 = 0 ∧ p1 < 1 ∧ 0 = r) ∨ (u = 3 ∧ p0 = 0 ∧ 2 < p1 ∧ 0 = r) ∨ (u = 4 ∧ p0 < 0 ∧ 0 = r) ∨ (u = 5 ∧ 0 < p0 ∧ 0 = r)) (fun (u : Nat) => match u with | 0 => [(h0, oC 13 [.ref h1, .ref g0, .int 0, .ref g1, .ref g2, .int 0, .int 0, .int 0, .int (-1), .int 0, .int 0, .int 0, .long 0, .ref g3, .ref g4, .int 0, .int 0]), (h1, aI Y 3640 (upd (upd (upd (upd (upd (upd (clB 0 (fun _ => 0)) 3629 1) 3630 281) 3631 0) 3624 1) 3625 0) 3626 0))] | 1 => [(h0, oC 13 [.ref h1, .ref g0, .int 0, .ref g1, .ref g2, .int 0, .int 0, .int 0, .int (-1), .int 0, .int 0, .int 0, .long 0, .ref g3, .ref g4, .int 0, .int 0]), (h1, aI Y 3640 (upd (upd (upd (upd (upd (upd (clB 0 (fun _ => 0)) 3629 2) 3630 281) 3631 281) 3624 2) 3625 0) 3626 0))] | 2 => [(h0, oC 13 [.ref h1, .ref g0, .int 2, .ref g1, .ref g2, .int 0, .int 0, .int 0, .int (-1), .int 0, .int 0, .int 0, .long 0, .ref g3, .ref g4, .int 0, .int 0]), (h1, aI Y 3640 (clB 0 (fun _ => 0)))] | 3 => [(h0, oC 13 [.ref h1, .ref g0, .int 2, .ref g1, .ref g2, .int 0, .int 0, .int 0, .int (-1), .int 0, .int 0, .int 0, .long 0, .ref g3, .ref g4, .int 0, .int 0]), (h1, aI Y 3640 (clB 0 (fun _ => 0)))] | 4 => [(h0, oC 13 [.ref h1, .ref g0, .int 1, .ref g1, .ref g2, .int 0, .int 0, .int 0, .int (-1), .int 0, .int 0, .int 0, .long 0, .ref g3, .ref g4, .int 0, .int 0]), (h1, aI Y 3640 (clB 0 (fun _ => 0)))] | _ => [(h0, oC 13 [.ref h1, .ref g0, .int 1, .ref g1, .ref g2, .int 0, .int 0, .int 0, .int (-1), .int 0, .int 0, .int 0, .long 0, .ref g3, .ref g4, .int 0, .int 0]), (h1, aI Y 3640 (clB 0 (fun _ => 0)))]) (va_A [(h0, oC 13 [.ref h1, .ref g0, .int 0, .ref g1, .ref g2, .int 0, .int 0, .int 0, .int (-1), .int 0, .int 0, .int 0, .long 0, .ref g3, .ref g4, .int 0, .int 0]), (h1, aI Y 3640 (clB 0 (fun _ => 0)))] sz)) 0 0 (va_A [(h0, oC 13 [.ref h1, .ref g0, .int 0, .ref g1, .ref g2, .int 0, .int 0, .int 0, .int (-1), .int 0, .int 0, .int 0, .long 0, .ref g3, .ref g4, .int 0, .int 0]), (h1, aI Y 3640 (clB 0 (fun _ => 0)))] sz) :=
  met_of (by decide +kernel) (Nat.le_of_ble_eq_true rfl) (fun p e s m args below meth c B hin hsz => by
    have B : VB p s m args meth c D Y (va_A [(h0, oC 13 [.ref h1, .ref g0, .int 0, .ref g1, .ref g2, .int 0, .int 0, .int 0, .int (-1), .int 0, .int 0, .int 0, .long 0, .ref g3, .ref g4, .int 0, .int 0]), (h1, aI Y 3640 (clB 0 (fun _ => 0)))] sz) cX12_cheapest 10 RX12 (some .int) := B
    refine V_aload_n 0 B dX12_cheapest_0 0 rfl ?_
    refine V_iconst 1 B (v := 0) dX12_cheapest_1 (by decide +kernel) ?_
    refine V_put 2 B gp_RX12_38 0 rfl (Nat.le_of_ble_eq_true rfl) rfl rfl dX12_cheapest_2 [(h0, oC 13 [.ref h1, .ref g0, .int 0, .ref g1, .ref g2, .int 0, .int 0, .int 0, .int (-1), .int 0, .int 0, .int 0, .long 0, .ref g3, .ref g4, .int 0, .int 0]), (h1, aI Y 3640 (clB 0 (fun _ => 0)))] rfl ?_
    refine V_aload_n 5 B dX12_cheapest_5 0 rfl ?_
    refine V_aload_n 6 B dX12_cheapest_6 0 rfl ?_
    refine V_iload_n 7 B dX12_cheapest_7 1 rfl ?_
    refine V_cvi 8 B (st := [.ref h0]) (As := [.int p0]) (fun sz => mX12_isMode_1 l D Y (h0) (h1) (g0) (g1) (g2) (g3) (g4) (p0) sz) glV_RX12_91 ⟨rfl, rfl⟩ ⟨(Nat.le_of_ble_eq_true rfl), (Nat.le_of_ble_eq_true rfl)⟩ ⟨(Nat.le_of_ble_eq_true rfl), (Nat.le_of_ble_eq_true rfl)⟩ [0, 0] rfl 13 0 rfl rfl rfl rfl (Nat.le_of_ble_eq_true rfl) rfl (fun _ _ _ => rfl) dX12_cheapest_8 (fun r0 u0 w0 => ?_)
    rcases w0 with ⟨k1, rfl⟩ | ⟨k2, rfl⟩ | ⟨k3, rfl⟩
    ·
      refine V_ws [(h0, oC 13 [.ref h1, .ref g0, .int 0, .ref g1, .ref g2, .int 0, .int 0, .int 0, .int (-1), .int 0, .int 0, .int 0, .long 0, .ref g3, .ref g4, .int 0, .int 0]), (h1, aI Y 3640 (clB 0 (fun _ => 0)))] rfl ?_
      obtain rfl : p0 = 0 := k1
      refine V_if_ne_t 11 B 18 dX12_cheapest_11 (by decide) (by decide +kernel) ?_
      refine V_iconst 18 B (v := 0) dX12_cheapest_18 (by decide +kernel) ?_
      refine V_iconst 19 B (v := 1) dX12_cheapest_19 (by decide +kernel) ?_
      refine V_cvi 20 B (st := []) (As := [.int 0, .int 1]) (fun sz => mX12_throwsIf_2 l D Y (h0) (h1) (g0) (g1) (g2) (g3) (g4) sz) glV_RX12_69 ⟨rfl, rfl⟩ ⟨(Nat.le_of_ble_eq_true rfl), (Nat.le_of_ble_eq_true rfl)⟩ ⟨(Nat.le_of_ble_eq_true rfl), (Nat.le_of_ble_eq_true rfl)⟩ [0] rfl 13 0 rfl rfl rfl rfl (Nat.le_of_ble_eq_true rfl) rfl (fun _ _ _ => rfl) dX12_cheapest_20 (fun r4 u4 w4 => ?_)
      obtain rfl := w4
      refine V_ws [(h0, oC 13 [.ref h1, .ref g0, .int 0, .ref g1, .ref g2, .int 0, .int 0, .int 0, .int (-1), .int 0, .int 0, .int 0, .long 0, .ref g3, .ref g4, .int 0, .int 0]), (h1, aI Y 3640 (clB 0 (fun _ => 0)))] rfl ?_
      refine V_if_ne_f 23 B 51 dX12_cheapest_23 (by decide) (by decide +kernel) ?_
      refine V_aload_n 26 B dX12_cheapest_26 0 rfl ?_
      refine V_iload_n 27 B dX12_cheapest_27 2 rfl ?_
      refine V_i2l 28 B dX12_cheapest_28 rfl ?_
      refine V_lconst 29 B (v := 1) dX12_cheapest_29 (by decide +kernel) ?_
      refine V_ldc2 30 B (v := 2) dX12_cheapest_30 (mT8 45 rfl rfl) ?_
      refine V_csi 33 B (st := [.ref h0]) (As := [.long p1.toInt64, .long 1, .long 2]) (fun sz => mX12_inRange_m l D Y (p1) (1) (2) (1) (2) (by decide +kernel) (by decide +kernel) sz) glS_RX12_41 ⟨rfl, rfl⟩ ⟨(Nat.le_of_ble_eq_true rfl), (Nat.le_of_ble_eq_true rfl)⟩ ⟨(Nat.le_of_ble_eq_true rfl), (Nat.le_of_ble_eq_true rfl)⟩ [] rfl rfl (Nat.le_of_ble_eq_true rfl) rfl (fun _ _ _ => rfl) dX12_cheapest_33 (fun r5 u5 w5 => ?_)
      rcases w5 with ⟨k6, k7, rfl⟩ | ⟨k8, rfl⟩ | ⟨k9, rfl⟩
      ·
        refine V_ws [(h0, oC 13 [.ref h1, .ref g0, .int 0, .ref g1, .ref g2, .int 0, .int 0, .int 0, .int (-1), .int 0, .int 0, .int 0, .long 0, .ref g3, .ref g4, .int 0, .int 0]), (h1, aI Y 3640 (clB 0 (fun _ => 0)))] rfl ?_
        refine V_if_ne_t 36 B 43 dX12_cheapest_36 (by decide) (by decide +kernel) ?_
        refine V_iconst 43 B (v := 0) dX12_cheapest_43 (by decide +kernel) ?_
        refine V_iconst 44 B (v := 2) dX12_cheapest_44 (by decide +kernel) ?_
        refine V_cvi 45 B (st := []) (As := [.int 0, .int 2]) (fun sz => mX12_throwsIf_3 l D Y (h0) (h1) (g0) (g1) (g2) (g3) (g4) sz) glV_RX12_69 ⟨rfl, rfl⟩ ⟨(Nat.le_of_ble_eq_true rfl), (Nat.le_of_ble_eq_true rfl)⟩ ⟨(Nat.le_of_ble_eq_true rfl), (Nat.le_of_ble_eq_true rfl)⟩ [0] rfl 13 0 rfl rfl rfl rfl (Nat.le_of_ble_eq_true rfl) rfl (fun _ _ _ => rfl) dX12_cheapest_45 (fun r10 u10 w10 => ?_)
        obtain rfl := w10
        refine V_ws [(h0, oC 13 [.ref h1, .ref g0, .int 0, .ref g1, .ref g2, .int 0, .int 0, .int 0, .int (-1), .int 0, .int 0, .int 0, .long 0, .ref g3, .ref g4, .int 0, .int 0]), (h1, aI Y 3640 (clB 0 (fun _ => 0)))] rfl ?_
        refine V_if_eq_t 48 B 53 dX12_cheapest_48 (by decide) (by decide +kernel) ?_
        refine V_iconst 53 B (v := 0) dX12_cheapest_53 (by decide +kernel) ?_
        refine V_istore 54 B (lv2 := [(4, .int 0), (0, .ref h0), (1, .int 0), (2, .int p1), (3, .int p2)]) dX12_cheapest_54 (by decide) rfl ?_
        refine V_iload 56 B dX12_cheapest_56 0 rfl ?_
        refine V_aload_n 58 B dX12_cheapest_58 1 rfl ?_
        refine V_get 59 B gf_RX12_9 0 rfl rfl dX12_cheapest_59 ?_
        refine V_iconst 62 B (v := 3) dX12_cheapest_62 (by decide +kernel) ?_
        refine V_iald 63 B (v := 0) 1 rfl (vpin _ _ (by decide +kernel)) dX12_cheapest_63 rfl ?_
        refine V_icmp_ge_t 64 B 116 dX12_cheapest_64 (by decide) (by decide +kernel) ?_
        by_cases k11 : p1 = 1
        ·
          obtain rfl : p1 = 1 := k11
          refine V_ldc 116 B (v := 1000000) dX12_cheapest_116 (mT9 29 rfl rfl) ?_
          refine V_istore 118 B (lv2 := [(4, .int 1000000), (0, .ref h0), (1, .int 0), (2, .int 1), (3, .int p2)]) dX12_cheapest_118 (by decide) rfl ?_
          refine V_iconst 120 B (v := 0) dX12_cheapest_120 (by decide +kernel) ?_
          refine V_istore 121 B (lv2 := [(5, .int 0), (4, .int 1000000), (0, .ref h0), (1, .int 0), (2, .int 1), (3, .int p2)]) dX12_cheapest_121 (by decide) rfl ?_
          refine V_iconst 123 B (v := 0) dX12_cheapest_123 (by decide +kernel) ?_
          refine V_istore 124 B (lv2 := [(6, .int 0), (5, .int 0), (4, .int 1000000), (0, .ref h0), (1, .int 0), (2, .int 1), (3, .int p2)]) dX12_cheapest_124 (by decide) rfl ?_
          refine V_aload_n 126 B dX12_cheapest_126 3 rfl ?_
          refine V_get 127 B gf_RX12_9 0 rfl rfl dX12_cheapest_127 ?_
          refine V_sipush 130 B (v := 3629) dX12_cheapest_130 (by decide +kernel) ?_
          refine V_iload_n 133 B dX12_cheapest_133 5 rfl ?_
          refine V_iast 134 B 1 rfl (vpin _ _ (by decide +kernel)) dX12_cheapest_134 [(h0, oC 13 [.ref h1, .ref g0, .int 0, .ref g1, .ref g2, .int 0, .int 0, .int 0, .int (-1), .int 0, .int 0, .int 0, .long 0, .ref g3, .ref g4, .int 0, .int 0]), (h1, aI Y 3640 (upd (clB 0 (fun _ => 0)) 3629 1))] rfl ?_
          refine V_iconst 135 B (v := 0) dX12_cheapest_135 (by decide +kernel) ?_
          refine V_istore 136 B (lv2 := [(7, .int 0), (6, .int 0), (5, .int 0), (4, .int 1000000), (0, .ref h0), (1, .int 0), (2, .int 1), (3, .int p2)]) dX12_cheapest_136 (by decide) rfl ?_
          refine V_loop (α := Unit) 130 (fun _ _ => True) (fun iA _ => [(7, .int (nI iA)), (6, .int 0), (5, .int 0), (4, .int (pick 1000000 1 iA)), (0, .ref h0), (1, .int 0), (2, .int 1), (3, .int p2)]) (fun iA _ => [(h0, oC 13 [.ref h1, .ref g0, .int 0, .ref g1, .ref g2, .int 0, .int 0, .int 0, .int (-1), .int 0, .int 0, .int 0, .long 0, .ref g3, .ref g4, .int 0, .int 0]), (h1, aI Y 3640 (upd (upd (upd (clB 0 (fun _ => 0)) 3629 1) 3630 (pickf 0 (fun j => simF (nI j)) iA)) 3631 0))]) () trivial rfl (by rw [show upd (upd (upd (clB 0 (fun _ => 0)) 3629 1) 3630 (pickf 0 (fun j => simF (nI j)) 0)) 3631 0 = (upd (clB 0 (fun _ => 0)) 3629 1) from (congrArg (fun g => upd g 3631 0) (upd_same (f := (upd (clB 0 (fun _ => 0)) 3629 1)) (k := 3630) (x := (pickf 0 (fun j => simF (nI j)) 0)) (by decide +kernel))).trans (upd_same (by decide +kernel))]) (fun iA _ hiA _ IHA => ?_) (fun _ _ => ?_)
          ·
            refine V_lv [(7, .int (nI iA)), (6, .int 0), (5, .int 0), (4, .int (pick 1000000 1 iA)), (0, .ref h0), (1, .int 0), (2, .int 1), (3, .int p2)] [0, 1, 2, 3, 4, 5, 6, 7] rfl ?_
            refine V_ws [(h0, oC 13 [.ref h1, .ref g0, .int 0, .ref g1, .ref g2, .int 0, .int 0, .int 0, .int (-1), .int 0, .int 0, .int 0, .long 0, .ref g3, .ref g4, .int 0, .int 0]), (h1, aI Y 3640 (upd (upd (upd (clB 0 (fun _ => 0)) 3629 1) 3630 (pickf 0 (fun j => simF (nI j)) iA)) 3631 0))] rfl ?_
            refine V_iload 138 B dX12_cheapest_138 0 rfl ?_
            refine V_sipush 140 B (v := 130) dX12_cheapest_140 (by decide +kernel) ?_
            refine V_icmp_ge_f 143 B 250 dX12_cheapest_143 (by decide) (q_nge (nI_hi hiA (by decide) (k := 129) (by decide +kernel)) (by decide +kernel)) ?_
            by_cases k12 : iA = 0
            ·
              obtain rfl : iA = 0 := by omega
              refine V_lv [(7, .int 0), (6, .int 0), (5, .int 0), (4, .int 1000000), (0, .ref h0), (1, .int 0), (2, .int 1), (3, .int p2)] [0, 1, 2, 3, 4, 5, 6, 7] rfl ?_
              refine V_ws [(h0, oC 13 [.ref h1, .ref g0, .int 0, .ref g1, .ref g2, .int 0, .int 0, .int 0, .int (-1), .int 0, .int 0, .int 0, .long 0, .ref g3, .ref g4, .int 0, .int 0]), (h1, aI Y 3640 (upd (upd (upd (clB 0 (fun _ => 0)) 3629 1) 3630 0) 3631 0))] rfl ?_
              refine V_iconst 146 B (v := 0) dX12_cheapest_146 (by decide +kernel) ?_
              refine V_istore 147 B (lv2 := [(8, .int 0), (7, .int 0), (6, .int 0), (5, .int 0), (4, .int 1000000), (0, .ref h0), (1, .int 0), (2, .int 1), (3, .int p2)]) dX12_cheapest_147 (by decide) rfl ?_
              refine V_iload 149 B dX12_cheapest_149 0 rfl ?_
              refine V_iload_n 151 B dX12_cheapest_151 7 rfl ?_
              refine V_iconst 152 B (v := 1) dX12_cheapest_152 (by decide +kernel) ?_
              refine V_icmp_ne_f 153 B 160 dX12_cheapest_153 (by decide) (by decide +kernel) ?_
              refine V_iconst 156 B (v := 1) dX12_cheapest_156 (by decide +kernel) ?_
              refine V_goto 157 B 163 dX12_cheapest_157 (by decide) ?_
              refine V_icmp_ge_f 163 B 244 dX12_cheapest_163 (by decide) (by decide +kernel) ?_
              refine V_aload_n 166 B dX12_cheapest_166 5 rfl ?_
              refine V_get 167 B gf_RX12_9 0 rfl rfl dX12_cheapest_167 ?_
              refine V_sipush 170 B (v := 3630) dX12_cheapest_170 (by decide +kernel) ?_
              refine V_iload 173 B dX12_cheapest_173 1 rfl ?_
              refine V_csi 175 B (st := [.int 3630, .ref h1]) (As := [.int 0]) (fun sz => mX12_simpleStroke_2 l D Y  sz) glS_RX12_181 ⟨rfl, rfl⟩ ⟨(Nat.le_of_ble_eq_true rfl), (Nat.le_of_ble_eq_true rfl)⟩ ⟨(Nat.le_of_ble_eq_true rfl), (Nat.le_of_ble_eq_true rfl)⟩ [] rfl rfl (Nat.le_of_ble_eq_true rfl) rfl (fun _ _ _ => rfl) dX12_cheapest_175 (fun r13 u13 w13 => ?_)
              obtain rfl := w13
              refine V_ws [(h0, oC 13 [.ref h1, .ref g0, .int 0, .ref g1, .ref g2, .int 0, .int 0, .int 0, .int (-1), .int 0, .int 0, .int 0, .long 0, .ref g3, .ref g4, .int 0, .int 0]), (h1, aI Y 3640 (upd (upd (upd (clB 0 (fun _ => 0)) 3629 1) 3630 0) 3631 0))] rfl ?_
              refine V_iast 178 B 1 rfl (vpin _ _ (by decide +kernel)) dX12_cheapest_178 [(h0, oC 13 [.ref h1, .ref g0, .int 0, .ref g1, .ref g2, .int 0, .int 0, .int 0, .int (-1), .int 0, .int 0, .int 0, .long 0, .ref g3, .ref g4, .int 0, .int 0]), (h1, aI Y 3640 (upd (upd (upd (upd (clB 0 (fun _ => 0)) 3629 1) 3630 0) 3631 0) 3630 0))] rfl ?_
              refine V_aload_n 179 B dX12_cheapest_179 5 rfl ?_
              refine V_get 180 B gf_RX12_9 0 rfl rfl dX12_cheapest_180 ?_
              refine V_sipush 183 B (v := 3631) dX12_cheapest_183 (by decide +kernel) ?_
              refine V_iload 186 B dX12_cheapest_186 0 rfl ?_
              refine V_csi 188 B (st := [.int 3631, .ref h1]) (As := [.int 0]) (fun sz => mX12_simpleStroke_2 l D Y  sz) glS_RX12_181 ⟨rfl, rfl⟩ ⟨(Nat.le_of_ble_eq_true rfl), (Nat.le_of_ble_eq_true rfl)⟩ ⟨(Nat.le_of_ble_eq_true rfl), (Nat.le_of_ble_eq_true rfl)⟩ [] rfl rfl (Nat.le_of_ble_eq_true rfl) rfl (fun _ _ _ => rfl) dX12_cheapest_188 (fun r14 u14 w14 => ?_)
              obtain rfl := w14
              refine V_ws [(h0, oC 13 [.ref h1, .ref g0, .int 0, .ref g1, .ref g2, .int 0, .int 0, .int 0, .int (-1), .int 0, .int 0, .int 0, .long 0, .ref g3, .ref g4, .int 0, .int 0]), (h1, aI Y 3640 (upd (upd (upd (upd (clB 0 (fun _ => 0)) 3629 1) 3630 0) 3631 0) 3630 0))] rfl ?_
              refine V_iast 191 B 1 rfl (vpin _ _ (by decide +kernel)) dX12_cheapest_191 [(h0, oC 13 [.ref h1, .ref g0, .int 0, .ref g1, .ref g2, .int 0, .int 0, .int 0, .int (-1), .int 0, .int 0, .int 0, .long 0, .ref g3, .ref g4, .int 0, .int 0]), (h1, aI Y 3640 (upd (upd (upd (upd (upd (clB 0 (fun _ => 0)) 3629 1) 3630 0) 3631 0) 3630 0) 3631 0))] rfl ?_
              refine V_aload_n 192 B dX12_cheapest_192 5 rfl ?_
              refine V_sipush 193 B (v := 3629) dX12_cheapest_193 (by decide +kernel) ?_
              refine V_cvi 196 B (st := []) (As := [.int 3629]) (fun sz => mX12_costOf_2 l D Y (h0) (h1) (g0) (g1) (g2) (g3) (g4) sz) glV_RX12_76 ⟨rfl, rfl⟩ ⟨(Nat.le_of_ble_eq_true rfl), (Nat.le_of_ble_eq_true rfl)⟩ ⟨(Nat.le_of_ble_eq_true rfl), (Nat.le_of_ble_eq_true rfl)⟩ [0, 0] rfl 13 0 rfl rfl rfl rfl (Nat.le_of_ble_eq_true rfl) rfl (fun _ _ _ => rfl) dX12_cheapest_196 (fun r15 u15 w15 => ?_)
              obtain rfl := w15
              refine V_ws [(h0, oC 13 [.ref h1, .ref g0, .int 0, .ref g1, .ref g2, .int 0, .int 0, .int 0, .int (-1), .int 0, .int 0, .int 0, .long 0, .ref g3, .ref g4, .int 0, .int 0]), (h1, aI Y 3640 (upd (upd (upd (upd (upd (clB 0 (fun _ => 0)) 3629 1) 3630 0) 3631 0) 3630 0) 3631 0))] rfl ?_
              refine V_istore 199 B (lv2 := [(9, .int 1), (8, .int 0), (7, .int 0), (6, .int 0), (5, .int 0), (4, .int 1000000), (0, .ref h0), (1, .int 0), (2, .int 1), (3, .int p2)]) dX12_cheapest_199 (by decide) rfl ?_
              refine V_iload 201 B dX12_cheapest_201 0 rfl ?_
              refine V_iload 203 B dX12_cheapest_203 5 rfl ?_
              refine V_icmp_ge_f 205 B 238 dX12_cheapest_205 (by decide) (by decide +kernel) ?_
              refine V_aload_n 208 B dX12_cheapest_208 6 rfl ?_
              refine V_iload_n 209 B dX12_cheapest_209 7 rfl ?_
              refine V_iload_n 210 B dX12_cheapest_210 9 rfl ?_
              refine V_cvi 211 B (st := []) (As := [.int 0, .int p2]) (fun sz => mX12_isFreeHere_1 l D Y (h0) (h1) (g0) (g1) (g2) (g3) (g4) (p2) sz) glV_RX12_185 ⟨rfl, rfl⟩ ⟨(Nat.le_of_ble_eq_true rfl), (Nat.le_of_ble_eq_true rfl)⟩ ⟨(Nat.le_of_ble_eq_true rfl), (Nat.le_of_ble_eq_true rfl)⟩ [0, 0] rfl 13 0 rfl rfl rfl rfl (Nat.le_of_ble_eq_true rfl) rfl (fun _ _ _ => rfl) dX12_cheapest_211 (fun r16 u16 w16 => ?_)
              obtain rfl := w16
              refine V_ws [(h0, oC 13 [.ref h1, .ref g0, .int 0, .ref g1, .ref g2, .int 0, .int 0, .int 0, .int (-1), .int 0, .int 0, .int 0, .long 0, .ref g3, .ref g4, .int 0, .int 0]), (h1, aI Y 3640 (upd (upd (upd (upd (upd (clB 0 (fun _ => 0)) 3629 1) 3630 0) 3631 0) 3630 0) 3631 0))] rfl ?_
              refine V_if_ne_t 214 B 220 dX12_cheapest_214 (by decide) (by decide +kernel) ?_
              refine V_iload 220 B dX12_cheapest_220 0 rfl ?_
              refine V_istore 222 B (lv2 := [(4, .int 1), (9, .int 1), (8, .int 0), (7, .int 0), (6, .int 0), (5, .int 0), (0, .ref h0), (1, .int 0), (2, .int 1), (3, .int p2)]) dX12_cheapest_222 (by decide) rfl ?_
              refine V_iload 224 B dX12_cheapest_224 3 rfl ?_
              refine V_csi 226 B (st := []) (As := [.int 0]) (fun sz => mX12_simpleStroke_2 l D Y  sz) glS_RX12_181 ⟨rfl, rfl⟩ ⟨(Nat.le_of_ble_eq_true rfl), (Nat.le_of_ble_eq_true rfl)⟩ ⟨(Nat.le_of_ble_eq_true rfl), (Nat.le_of_ble_eq_true rfl)⟩ [] rfl rfl (Nat.le_of_ble_eq_true rfl) rfl (fun _ _ _ => rfl) dX12_cheapest_226 (fun r17 u17 w17 => ?_)
              obtain rfl := w17
              refine V_ws [(h0, oC 13 [.ref h1, .ref g0, .int 0, .ref g1, .ref g2, .int 0, .int 0, .int 0, .int (-1), .int 0, .int 0, .int 0, .long 0, .ref g3, .ref g4, .int 0, .int 0]), (h1, aI Y 3640 (upd (upd (upd (upd (upd (clB 0 (fun _ => 0)) 3629 1) 3630 0) 3631 0) 3630 0) 3631 0))] rfl ?_
              refine V_istore 229 B (lv2 := [(5, .int 0), (4, .int 1), (9, .int 1), (8, .int 0), (7, .int 0), (6, .int 0), (0, .ref h0), (1, .int 0), (2, .int 1), (3, .int p2)]) dX12_cheapest_229 (by decide) rfl ?_
              refine V_iload 231 B dX12_cheapest_231 3 rfl ?_
              refine V_csi 233 B (st := []) (As := [.int 0]) (fun sz => mX12_simpleStroke_2 l D Y  sz) glS_RX12_181 ⟨rfl, rfl⟩ ⟨(Nat.le_of_ble_eq_true rfl), (Nat.le_of_ble_eq_true rfl)⟩ ⟨(Nat.le_of_ble_eq_true rfl), (Nat.le_of_ble_eq_true rfl)⟩ [] rfl rfl (Nat.le_of_ble_eq_true rfl) rfl (fun _ _ _ => rfl) dX12_cheapest_233 (fun r18 u18 w18 => ?_)
              obtain rfl := w18
              refine V_ws [(h0, oC 13 [.ref h1, .ref g0, .int 0, .ref g1, .ref g2, .int 0, .int 0, .int 0, .int (-1), .int 0, .int 0, .int 0, .long 0, .ref g3, .ref g4, .int 0, .int 0]), (h1, aI Y 3640 (upd (upd (upd (upd (upd (clB 0 (fun _ => 0)) 3629 1) 3630 0) 3631 0) 3630 0) 3631 0))] rfl ?_
              refine V_istore 236 B (lv2 := [(6, .int 0), (5, .int 0), (4, .int 1), (9, .int 1), (8, .int 0), (7, .int 0), (0, .ref h0), (1, .int 0), (2, .int 1), (3, .int p2)]) dX12_cheapest_236 (by decide) rfl ?_
              refine V_iinc 238 B (v := 1) (lv2 := [(8, .int 1), (6, .int 0), (5, .int 0), (4, .int 1), (9, .int 1), (7, .int 0), (0, .ref h0), (1, .int 0), (2, .int 1), (3, .int p2)]) dX12_cheapest_238 4 rfl (by decide +kernel) (by decide) rfl ?_
              refine V_goto 241 B 149 dX12_cheapest_241 (by decide) ?_
              refine V_iload 149 B dX12_cheapest_149 0 rfl ?_
              refine V_iload_n 151 B dX12_cheapest_151 8 rfl ?_
              refine V_iconst 152 B (v := 1) dX12_cheapest_152 (by decide +kernel) ?_
              refine V_icmp_ne_f 153 B 160 dX12_cheapest_153 (by decide) (by decide +kernel) ?_
              refine V_iconst 156 B (v := 1) dX12_cheapest_156 (by decide +kernel) ?_
              refine V_goto 157 B 163 dX12_cheapest_157 (by decide) ?_
              refine V_icmp_ge_t 163 B 244 dX12_cheapest_163 (by decide) (by decide +kernel) ?_
              refine V_iinc 244 B (v := 1) (lv2 := [(7, .int 1), (8, .int 1), (6, .int 0), (5, .int 0), (4, .int 1), (9, .int 1), (0, .ref h0), (1, .int 0), (2, .int 1), (3, .int p2)]) dX12_cheapest_244 5 rfl (by decide +kernel) (by decide) rfl ?_
              refine V_goto 247 B 138 dX12_cheapest_247 (by decide) ?_
              refine V_ws [(h0, oC 13 [.ref h1, .ref g0, .int 0, .ref g1, .ref g2, .int 0, .int 0, .int 0, .int (-1), .int 0, .int 0, .int 0, .long 0, .ref g3, .ref g4, .int 0, .int 0]), (h1, aI Y 3640 (upd (upd (upd (clB 0 (fun _ => 0)) 3629 1) 3630 (pickf 0 (fun j => simF (nI j)) (0 + 1))) 3631 0))] (by rw [upd4 (by decide), show (pickf 0 (fun j => simF (nI j)) (0 + 1)) = 0 from sim0]) ?_
              refine V_lv [(7, .int (nI (0 + 1))), (6, .int 0), (5, .int 0), (4, .int (pick 1000000 1 (0 + 1))), (0, .ref h0), (1, .int 0), (2, .int 1), (3, .int p2)] [0, 2, 3, 4, 6, 7, 8, 9] rfl ?_
              exact IHA () trivial
            ·
              refine V_lv [(7, .int (nI iA)), (6, .int 0), (5, .int 0), (4, .int 1), (0, .ref h0), (1, .int 0), (2, .int 1), (3, .int p2)] [0, 1, 2, 3, 4, 5, 6, 7] (by rw [show (pick 1000000 1 iA) = 1 from pick_pos k12]; rfl) ?_
              refine V_iconst 146 B (v := 0) dX12_cheapest_146 (by decide +kernel) ?_
              refine V_istore 147 B (lv2 := [(8, .int 0), (7, .int (nI iA)), (6, .int 0), (5, .int 0), (4, .int 1), (0, .ref h0), (1, .int 0), (2, .int 1), (3, .int p2)]) dX12_cheapest_147 (by decide) rfl ?_
              refine V_iload 149 B dX12_cheapest_149 0 rfl ?_
              refine V_iload_n 151 B dX12_cheapest_151 7 rfl ?_
              refine V_iconst 152 B (v := 1) dX12_cheapest_152 (by decide +kernel) ?_
              refine V_icmp_ne_f 153 B 160 dX12_cheapest_153 (by decide) (by decide +kernel) ?_
              refine V_iconst 156 B (v := 1) dX12_cheapest_156 (by decide +kernel) ?_
              refine V_goto 157 B 163 dX12_cheapest_157 (by decide) ?_
              refine V_icmp_ge_f 163 B 244 dX12_cheapest_163 (by decide) (by decide +kernel) ?_
              refine V_aload_n 166 B dX12_cheapest_166 5 rfl ?_
              refine V_get 167 B gf_RX12_9 0 rfl rfl dX12_cheapest_167 ?_
              refine V_sipush 170 B (v := 3630) dX12_cheapest_170 (by decide +kernel) ?_
              refine V_iload 173 B dX12_cheapest_173 1 rfl ?_
              refine V_csi 175 B (st := [.int 3630, .ref h1]) (As := [.int (nI iA)]) (fun sz => mX12_simpleStroke_simF l D Y ((nI iA)) sz) glS_RX12_181 ⟨rfl, rfl⟩ ⟨(Nat.le_of_ble_eq_true rfl), (Nat.le_of_ble_eq_true rfl)⟩ ⟨(Nat.le_of_ble_eq_true rfl), (Nat.le_of_ble_eq_true rfl)⟩ [] rfl rfl (Nat.le_of_ble_eq_true rfl) rfl (fun _ _ _ => rfl) dX12_cheapest_175 (fun r19 u19 w19 => ?_)
              obtain rfl := w19
              refine V_ws [(h0, oC 13 [.ref h1, .ref g0, .int 0, .ref g1, .ref g2, .int 0, .int 0, .int 0, .int (-1), .int 0, .int 0, .int 0, .long 0, .ref g3, .ref g4, .int 0, .int 0]), (h1, aI Y 3640 (upd (upd (upd (clB 0 (fun _ => 0)) 3629 1) 3630 (pickf 0 (fun j => simF (nI j)) iA)) 3631 0))] rfl ?_
              refine V_iast 178 B 1 rfl (vpin _ _ (by decide +kernel)) dX12_cheapest_178 [(h0, oC 13 [.ref h1, .ref g0, .int 0, .ref g1, .ref g2, .int 0, .int 0, .int 0, .int (-1), .int 0, .int 0, .int 0, .long 0, .ref g3, .ref g4, .int 0, .int 0]), (h1, aI Y 3640 (upd (upd (upd (upd (clB 0 (fun _ => 0)) 3629 1) 3630 (pickf 0 (fun j => simF (nI j)) iA)) 3631 0) 3630 (simF (nI iA))))] rfl ?_
              refine V_aload_n 179 B dX12_cheapest_179 5 rfl ?_
              refine V_get 180 B gf_RX12_9 0 rfl rfl dX12_cheapest_180 ?_
              refine V_sipush 183 B (v := 3631) dX12_cheapest_183 (by decide +kernel) ?_
              refine V_iload 186 B dX12_cheapest_186 0 rfl ?_
              refine V_csi 188 B (st := [.int 3631, .ref h1]) (As := [.int 0]) (fun sz => mX12_simpleStroke_2 l D Y  sz) glS_RX12_181 ⟨rfl, rfl⟩ ⟨(Nat.le_of_ble_eq_true rfl), (Nat.le_of_ble_eq_true rfl)⟩ ⟨(Nat.le_of_ble_eq_true rfl), (Nat.le_of_ble_eq_true rfl)⟩ [] rfl rfl (Nat.le_of_ble_eq_true rfl) rfl (fun _ _ _ => rfl) dX12_cheapest_188 (fun r20 u20 w20 => ?_)
              obtain rfl := w20
              refine V_ws [(h0, oC 13 [.ref h1, .ref g0, .int 0, .ref g1, .ref g2, .int 0, .int 0, .int 0, .int (-1), .int 0, .int 0, .int 0, .long 0, .ref g3, .ref g4, .int 0, .int 0]), (h1, aI Y 3640 (upd (upd (upd (upd (clB 0 (fun _ => 0)) 3629 1) 3630 (pickf 0 (fun j => simF (nI j)) iA)) 3631 0) 3630 (simF (nI iA))))] rfl ?_
              refine V_iast 191 B 1 rfl (vpin _ _ (by decide +kernel)) dX12_cheapest_191 [(h0, oC 13 [.ref h1, .ref g0, .int 0, .ref g1, .ref g2, .int 0, .int 0, .int 0, .int (-1), .int 0, .int 0, .int 0, .long 0, .ref g3, .ref g4, .int 0, .int 0]), (h1, aI Y 3640 (upd (upd (upd (upd (upd (clB 0 (fun _ => 0)) 3629 1) 3630 (pickf 0 (fun j => simF (nI j)) iA)) 3631 0) 3630 (simF (nI iA))) 3631 0))] rfl ?_
              refine V_aload_n 192 B dX12_cheapest_192 5 rfl ?_
              refine V_sipush 193 B (v := 3629) dX12_cheapest_193 (by decide +kernel) ?_
              refine V_cvi 196 B (st := []) (As := [.int 3629]) (fun sz => mX12_costOf_s18 l D Y (h0) (h1) (g0) (g1) (g2) (g3) (g4) ((pickf 0 (fun j => simF (nI j)) iA)) ((simF (nI iA))) ((h5_sim hiA)) sz) glV_RX12_76 ⟨rfl, rfl⟩ ⟨(Nat.le_of_ble_eq_true rfl), (Nat.le_of_ble_eq_true rfl)⟩ ⟨(Nat.le_of_ble_eq_true rfl), (Nat.le_of_ble_eq_true rfl)⟩ [0, 0] rfl 13 0 rfl rfl rfl rfl (Nat.le_of_ble_eq_true rfl) rfl (fun _ _ _ => rfl) dX12_cheapest_196 (fun r21 u21 w21 => ?_)
              obtain rfl := w21
              refine V_ws [(h0, oC 13 [.ref h1, .ref g0, .int 0, .ref g1, .ref g2, .int 0, .int 0, .int 0, .int (-1), .int 0, .int 0, .int 0, .long 0, .ref g3, .ref g4, .int 0, .int 0]), (h1, aI Y 3640 (upd (upd (upd (upd (upd (clB 0 (fun _ => 0)) 3629 1) 3630 (pickf 0 (fun j => simF (nI j)) iA)) 3631 0) 3630 (simF (nI iA))) 3631 0))] rfl ?_
              refine V_istore 199 B (lv2 := [(9, .int (scoF (simF (nI iA)))), (8, .int 0), (7, .int (nI iA)), (6, .int 0), (5, .int 0), (4, .int 1), (0, .ref h0), (1, .int 0), (2, .int 1), (3, .int p2)]) dX12_cheapest_199 (by decide) rfl ?_
              refine V_iload 201 B dX12_cheapest_201 0 rfl ?_
              refine V_iload 203 B dX12_cheapest_203 5 rfl ?_
              refine V_icmp_ge_t 205 B 238 dX12_cheapest_205 (by decide) (q_ge (sco1 hiA) (by decide +kernel)) ?_
              refine V_iinc 238 B (v := 1) (lv2 := [(8, .int 1), (9, .int (scoF (simF (nI iA)))), (7, .int (nI iA)), (6, .int 0), (5, .int 0), (4, .int 1), (0, .ref h0), (1, .int 0), (2, .int 1), (3, .int p2)]) dX12_cheapest_238 1 rfl (by decide +kernel) (by decide) rfl ?_
              refine V_goto 241 B 149 dX12_cheapest_241 (by decide) ?_
              refine V_iload 149 B dX12_cheapest_149 0 rfl ?_
              refine V_iload_n 151 B dX12_cheapest_151 8 rfl ?_
              refine V_iconst 152 B (v := 1) dX12_cheapest_152 (by decide +kernel) ?_
              refine V_icmp_ne_f 153 B 160 dX12_cheapest_153 (by decide) (by decide +kernel) ?_
              refine V_iconst 156 B (v := 1) dX12_cheapest_156 (by decide +kernel) ?_
              refine V_goto 157 B 163 dX12_cheapest_157 (by decide) ?_
              refine V_icmp_ge_t 163 B 244 dX12_cheapest_163 (by decide) (by decide +kernel) ?_
              refine V_iinc 244 B (v := (nI (iA + 1))) (lv2 := [(7, .int (nI (iA + 1))), (8, .int 1), (9, .int (scoF (simF (nI iA)))), (6, .int 0), (5, .int 0), (4, .int 1), (0, .ref h0), (1, .int 0), (2, .int 1), (3, .int p2)]) dX12_cheapest_244 2 rfl (nI_1 _) (by decide) rfl ?_
              refine V_goto 247 B 138 dX12_cheapest_247 (by decide) ?_
              refine V_ws [(h0, oC 13 [.ref h1, .ref g0, .int 0, .ref g1, .ref g2, .int 0, .int 0, .int 0, .int (-1), .int 0, .int 0, .int 0, .long 0, .ref g3, .ref g4, .int 0, .int 0]), (h1, aI Y 3640 (upd (upd (upd (clB 0 (fun _ => 0)) 3629 1) 3630 (pickf 0 (fun j => simF (nI j)) (iA + 1))) 3631 0))] (by rw [upd4 (by decide), show (pickf 0 (fun j => simF (nI j)) (iA + 1)) = simF (nI iA) from rfl]) ?_
              refine V_lv [(7, .int (nI (iA + 1))), (6, .int 0), (5, .int 0), (4, .int (pick 1000000 1 (iA + 1))), (0, .ref h0), (1, .int 0), (2, .int 1), (3, .int p2)] [0, 3, 4, 5, 6, 7, 8, 9] rfl ?_
              exact IHA () trivial
          ·
            refine V_lv [(7, .int 130), (6, .int 0), (5, .int 0), (4, .int 1), (0, .ref h0), (1, .int 0), (2, .int 1), (3, .int p2)] [0, 1, 2, 3, 4, 5, 6, 7] rfl ?_
            refine V_ws [(h0, oC 13 [.ref h1, .ref g0, .int 0, .ref g1, .ref g2, .int 0, .int 0, .int 0, .int (-1), .int 0, .int 0, .int 0, .long 0, .ref g3, .ref g4, .int 0, .int 0]), (h1, aI Y 3640 (upd (upd (upd (clB 0 (fun _ => 0)) 3629 1) 3630 281) 3631 0))] (by rw [show (pickf 0 (fun j => simF (nI j)) 130) = 281 from sim129]) ?_
            refine V_iload 138 B dX12_cheapest_138 0 rfl ?_
            refine V_sipush 140 B (v := 130) dX12_cheapest_140 (by decide +kernel) ?_
            refine V_icmp_ge_t 143 B 250 dX12_cheapest_143 (by decide) (by decide +kernel) ?_
            refine V_iload 250 B dX12_cheapest_250 3 rfl ?_
            refine V_ldc 252 B (v := 1000000) dX12_cheapest_252 (mT9 29 rfl rfl) ?_
            refine V_icmp_ne_t 254 B 259 dX12_cheapest_254 (by decide) (by decide +kernel) ?_
            refine V_aload_n 259 B dX12_cheapest_259 4 rfl ?_
            refine V_get 260 B gf_RX12_9 0 rfl rfl dX12_cheapest_260 ?_
            refine V_sipush 263 B (v := 3624) dX12_cheapest_263 (by decide +kernel) ?_
            refine V_iload_n 266 B dX12_cheapest_266 6 rfl ?_
            refine V_iast 267 B 1 rfl (vpin _ _ (by decide +kernel)) dX12_cheapest_267 [(h0, oC 13 [.ref h1, .ref g0, .int 0, .ref g1, .ref g2, .int 0, .int 0, .int 0, .int (-1), .int 0, .int 0, .int 0, .long 0, .ref g3, .ref g4, .int 0, .int 0]), (h1, aI Y 3640 (upd (upd (upd (upd (clB 0 (fun _ => 0)) 3629 1) 3630 281) 3631 0) 3624 1))] rfl ?_
            refine V_aload_n 268 B dX12_cheapest_268 4 rfl ?_
            refine V_get 269 B gf_RX12_9 0 rfl rfl dX12_cheapest_269 ?_
            refine V_sipush 272 B (v := 3625) dX12_cheapest_272 (by decide +kernel) ?_
            refine V_iload 275 B dX12_cheapest_275 2 rfl ?_
            refine V_iast 277 B 1 rfl (vpin _ _ (by decide +kernel)) dX12_cheapest_277 [(h0, oC 13 [.ref h1, .ref g0, .int 0, .ref g1, .ref g2, .int 0, .int 0, .int 0, .int (-1), .int 0, .int 0, .int 0, .long 0, .ref g3, .ref g4, .int 0, .int 0]), (h1, aI Y 3640 (upd (upd (upd (upd (upd (clB 0 (fun _ => 0)) 3629 1) 3630 281) 3631 0) 3624 1) 3625 0))] rfl ?_
            refine V_aload_n 278 B dX12_cheapest_278 4 rfl ?_
            refine V_get 279 B gf_RX12_9 0 rfl rfl dX12_cheapest_279 ?_
            refine V_sipush 282 B (v := 3626) dX12_cheapest_282 (by decide +kernel) ?_
            refine V_iload 285 B dX12_cheapest_285 1 rfl ?_
            refine V_iast 287 B 1 rfl (vpin _ _ (by decide +kernel)) dX12_cheapest_287 [(h0, oC 13 [.ref h1, .ref g0, .int 0, .ref g1, .ref g2, .int 0, .int 0, .int 0, .int (-1), .int 0, .int 0, .int 0, .long 0, .ref g3, .ref g4, .int 0, .int 0]), (h1, aI Y 3640 (upd (upd (upd (upd (upd (upd (clB 0 (fun _ => 0)) 3629 1) 3630 281) 3631 0) 3624 1) 3625 0) 3626 0))] rfl ?_
            refine V_iload 288 B dX12_cheapest_288 3 rfl ?_
            exact V_iret 290 B dX12_cheapest_290 0 (Or.inl ⟨rfl, rfl, rfl, rfl⟩) rfl
        ·
          obtain rfl : p1 = 2 := q_eq (q_bump (b_nlt k6 (n := 1) (by decide +kernel)) k11 (by decide +kernel) (k := 2) (by decide +kernel)) (b_ngt k7 (n := 2) (by decide +kernel)) (by decide +kernel)
          refine V_ldc 116 B (v := 1000000) dX12_cheapest_116 (mT9 29 rfl rfl) ?_
          refine V_istore 118 B (lv2 := [(4, .int 1000000), (0, .ref h0), (1, .int 0), (2, .int 2), (3, .int p2)]) dX12_cheapest_118 (by decide) rfl ?_
          refine V_iconst 120 B (v := 0) dX12_cheapest_120 (by decide +kernel) ?_
          refine V_istore 121 B (lv2 := [(5, .int 0), (4, .int 1000000), (0, .ref h0), (1, .int 0), (2, .int 2), (3, .int p2)]) dX12_cheapest_121 (by decide) rfl ?_
          refine V_iconst 123 B (v := 0) dX12_cheapest_123 (by decide +kernel) ?_
          refine V_istore 124 B (lv2 := [(6, .int 0), (5, .int 0), (4, .int 1000000), (0, .ref h0), (1, .int 0), (2, .int 2), (3, .int p2)]) dX12_cheapest_124 (by decide) rfl ?_
          refine V_aload_n 126 B dX12_cheapest_126 3 rfl ?_
          refine V_get 127 B gf_RX12_9 0 rfl rfl dX12_cheapest_127 ?_
          refine V_sipush 130 B (v := 3629) dX12_cheapest_130 (by decide +kernel) ?_
          refine V_iload_n 133 B dX12_cheapest_133 5 rfl ?_
          refine V_iast 134 B 1 rfl (vpin _ _ (by decide +kernel)) dX12_cheapest_134 [(h0, oC 13 [.ref h1, .ref g0, .int 0, .ref g1, .ref g2, .int 0, .int 0, .int 0, .int (-1), .int 0, .int 0, .int 0, .long 0, .ref g3, .ref g4, .int 0, .int 0]), (h1, aI Y 3640 (upd (clB 0 (fun _ => 0)) 3629 2))] rfl ?_
          refine V_iconst 135 B (v := 0) dX12_cheapest_135 (by decide +kernel) ?_
          refine V_istore 136 B (lv2 := [(7, .int 0), (6, .int 0), (5, .int 0), (4, .int 1000000), (0, .ref h0), (1, .int 0), (2, .int 2), (3, .int p2)]) dX12_cheapest_136 (by decide) rfl ?_
          refine V_loop (α := Unit) 130 (fun _ _ => True) (fun iA _ => [(7, .int (nI iA)), (6, .int 0), (5, .int 0), (4, .int (pick 1000000 2 (130 * iA))), (0, .ref h0), (1, .int 0), (2, .int 2), (3, .int p2)]) (fun iA _ => [(h0, oC 13 [.ref h1, .ref g0, .int 0, .ref g1, .ref g2, .int 0, .int 0, .int 0, .int (-1), .int 0, .int 0, .int 0, .long 0, .ref g3, .ref g4, .int 0, .int 0]), (h1, aI Y 3640 (upd (upd (upd (clB 0 (fun _ => 0)) 3629 2) 3630 (pickf 0 (fun j => simF (nI j)) iA)) 3631 (pick 0 281 iA)))]) () trivial rfl (by rw [show upd (upd (upd (clB 0 (fun _ => 0)) 3629 2) 3630 (pickf 0 (fun j => simF (nI j)) 0)) 3631 (pick 0 281 0) = (upd (clB 0 (fun _ => 0)) 3629 2) from (congrArg (fun g => upd g 3631 (pick 0 281 0)) (upd_same (f := (upd (clB 0 (fun _ => 0)) 3629 2)) (k := 3630) (x := (pickf 0 (fun j => simF (nI j)) 0)) (by decide +kernel))).trans (upd_same (by decide +kernel))]) (fun iA _ hiA _ IHA => ?_) (fun _ _ => ?_)
          ·
            refine V_lv [(7, .int (nI iA)), (6, .int 0), (5, .int 0), (4, .int (pick 1000000 2 (130 * iA))), (0, .ref h0), (1, .int 0), (2, .int 2), (3, .int p2)] [0, 1, 2, 3, 4, 5, 6, 7] rfl ?_
            refine V_ws [(h0, oC 13 [.ref h1, .ref g0, .int 0, .ref g1, .ref g2, .int 0, .int 0, .int 0, .int (-1), .int 0, .int 0, .int 0, .long 0, .ref g3, .ref g4, .int 0, .int 0]), (h1, aI Y 3640 (upd (upd (upd (clB 0 (fun _ => 0)) 3629 2) 3630 (pickf 0 (fun j => simF (nI j)) iA)) 3631 (pick 0 281 iA)))] rfl ?_
            refine V_iload 138 B dX12_cheapest_138 0 rfl ?_
            refine V_sipush 140 B (v := 130) dX12_cheapest_140 (by decide +kernel) ?_
            refine V_icmp_ge_f 143 B 250 dX12_cheapest_143 (by decide) (q_nge (nI_hi hiA (by decide) (k := 129) (by decide +kernel)) (by decide +kernel)) ?_
            refine V_iconst 146 B (v := 0) dX12_cheapest_146 (by decide +kernel) ?_
            refine V_istore 147 B (lv2 := [(8, .int 0), (7, .int (nI iA)), (6, .int 0), (5, .int 0), (4, .int (pick 1000000 2 (130 * iA))), (0, .ref h0), (1, .int 0), (2, .int 2), (3, .int p2)]) dX12_cheapest_147 (by decide) rfl ?_
            refine V_loop (α := Unit) 130 (fun _ _ => True) (fun iB _ => [(8, .int (nI iB)), (7, .int (nI iA)), (6, .int 0), (5, .int 0), (4, .int (pick 1000000 2 (130 * iA + iB))), (0, .ref h0), (1, .int 0), (2, .int 2), (3, .int p2)]) (fun iB _ => [(h0, oC 13 [.ref h1, .ref g0, .int 0, .ref g1, .ref g2, .int 0, .int 0, .int 0, .int (-1), .int 0, .int 0, .int 0, .long 0, .ref g3, .ref g4, .int 0, .int 0]), (h1, aI Y 3640 (upd (upd (upd (clB 0 (fun _ => 0)) 3629 2) 3630 (pick (pickf 0 (fun j => simF (nI j)) iA) (simF (nI iA)) iB)) 3631 (pickf (pick 0 281 iA) (fun j => simF (nI j)) iB)))]) () trivial rfl rfl (fun iB _ hiB _ IHB => ?_) (fun _ _ => ?_)
            ·
              refine V_lv [(8, .int (nI iB)), (7, .int (nI iA)), (6, .int 0), (5, .int 0), (4, .int (pick 1000000 2 (130 * iA + iB))), (0, .ref h0), (1, .int 0), (2, .int 2), (3, .int p2)] [0, 1, 2, 3, 4, 5, 6, 7, 8] rfl ?_
              refine V_ws [(h0, oC 13 [.ref h1, .ref g0, .int 0, .ref g1, .ref g2, .int 0, .int 0, .int 0, .int (-1), .int 0, .int 0, .int 0, .long 0, .ref g3, .ref g4, .int 0, .int 0]), (h1, aI Y 3640 (upd (upd (upd (clB 0 (fun _ => 0)) 3629 2) 3630 (pick (pickf 0 (fun j => simF (nI j)) iA) (simF (nI iA)) iB)) 3631 (pickf (pick 0 281 iA) (fun j => simF (nI j)) iB)))] rfl ?_
              refine V_iload 149 B dX12_cheapest_149 0 rfl ?_
              refine V_iload_n 151 B dX12_cheapest_151 7 rfl ?_
              refine V_iconst 152 B (v := 1) dX12_cheapest_152 (by decide +kernel) ?_
              refine V_icmp_ne_t 153 B 160 dX12_cheapest_153 (by decide) (by decide +kernel) ?_
              refine V_sipush 160 B (v := 130) dX12_cheapest_160 (by decide +kernel) ?_
              refine V_icmp_ge_f 163 B 244 dX12_cheapest_163 (by decide) (q_nge (nI_hi hiB (by decide) (k := 129) (by decide +kernel)) (by decide +kernel)) ?_
              by_cases k22 : 130 * iA + iB = 0
              ·
                obtain rfl : iA = 0 := by omega
                obtain rfl : iB = 0 := by omega
                refine V_lv [(8, .int 0), (7, .int 0), (6, .int 0), (5, .int 0), (4, .int 1000000), (0, .ref h0), (1, .int 0), (2, .int 2), (3, .int p2)] [0, 1, 2, 3, 4, 5, 6, 7, 8] rfl ?_
                refine V_ws [(h0, oC 13 [.ref h1, .ref g0, .int 0, .ref g1, .ref g2, .int 0, .int 0, .int 0, .int (-1), .int 0, .int 0, .int 0, .long 0, .ref g3, .ref g4, .int 0, .int 0]), (h1, aI Y 3640 (upd (upd (upd (clB 0 (fun _ => 0)) 3629 2) 3630 0) 3631 0))] rfl ?_
                refine V_aload_n 166 B dX12_cheapest_166 5 rfl ?_
                refine V_get 167 B gf_RX12_9 0 rfl rfl dX12_cheapest_167 ?_
                refine V_sipush 170 B (v := 3630) dX12_cheapest_170 (by decide +kernel) ?_
                refine V_iload 173 B dX12_cheapest_173 1 rfl ?_
                refine V_csi 175 B (st := [.int 3630, .ref h1]) (As := [.int 0]) (fun sz => mX12_simpleStroke_2 l D Y  sz) glS_RX12_181 ⟨rfl, rfl⟩ ⟨(Nat.le_of_ble_eq_true rfl), (Nat.le_of_ble_eq_true rfl)⟩ ⟨(Nat.le_of_ble_eq_true rfl), (Nat.le_of_ble_eq_true rfl)⟩ [] rfl rfl (Nat.le_of_ble_eq_true rfl) rfl (fun _ _ _ => rfl) dX12_cheapest_175 (fun r23 u23 w23 => ?_)
                obtain rfl := w23
                refine V_ws [(h0, oC 13 [.ref h1, .ref g0, .int 0, .ref g1, .ref g2, .int 0, .int 0, .int 0, .int (-1), .int 0, .int 0, .int 0, .long 0, .ref g3, .ref g4, .int 0, .int 0]), (h1, aI Y 3640 (upd (upd (upd (clB 0 (fun _ => 0)) 3629 2) 3630 0) 3631 0))] rfl ?_
                refine V_iast 178 B 1 rfl (vpin _ _ (by decide +kernel)) dX12_cheapest_178 [(h0, oC 13 [.ref h1, .ref g0, .int 0, .ref g1, .ref g2, .int 0, .int 0, .int 0, .int (-1), .int 0, .int 0, .int 0, .long 0, .ref g3, .ref g4, .int 0, .int 0]), (h1, aI Y 3640 (upd (upd (upd (upd (clB 0 (fun _ => 0)) 3629 2) 3630 0) 3631 0) 3630 0))] rfl ?_
                refine V_aload_n 179 B dX12_cheapest_179 5 rfl ?_
                refine V_get 180 B gf_RX12_9 0 rfl rfl dX12_cheapest_180 ?_
                refine V_sipush 183 B (v := 3631) dX12_cheapest_183 (by decide +kernel) ?_
                refine V_iload 186 B dX12_cheapest_186 0 rfl ?_
                refine V_csi 188 B (st := [.int 3631, .ref h1]) (As := [.int 0]) (fun sz => mX12_simpleStroke_2 l D Y  sz) glS_RX12_181 ⟨rfl, rfl⟩ ⟨(Nat.le_of_ble_eq_true rfl), (Nat.le_of_ble_eq_true rfl)⟩ ⟨(Nat.le_of_ble_eq_true rfl), (Nat.le_of_ble_eq_true rfl)⟩ [] rfl rfl (Nat.le_of_ble_eq_true rfl) rfl (fun _ _ _ => rfl) dX12_cheapest_188 (fun r24 u24 w24 => ?_)
                obtain rfl := w24
                refine V_ws [(h0, oC 13 [.ref h1, .ref g0, .int 0, .ref g1, .ref g2, .int 0, .int 0, .int 0, .int (-1), .int 0, .int 0, .int 0, .long 0, .ref g3, .ref g4, .int 0, .int 0]), (h1, aI Y 3640 (upd (upd (upd (upd (clB 0 (fun _ => 0)) 3629 2) 3630 0) 3631 0) 3630 0))] rfl ?_
                refine V_iast 191 B 1 rfl (vpin _ _ (by decide +kernel)) dX12_cheapest_191 [(h0, oC 13 [.ref h1, .ref g0, .int 0, .ref g1, .ref g2, .int 0, .int 0, .int 0, .int (-1), .int 0, .int 0, .int 0, .long 0, .ref g3, .ref g4, .int 0, .int 0]), (h1, aI Y 3640 (upd (upd (upd (upd (upd (clB 0 (fun _ => 0)) 3629 2) 3630 0) 3631 0) 3630 0) 3631 0))] rfl ?_
                refine V_aload_n 192 B dX12_cheapest_192 5 rfl ?_
                refine V_sipush 193 B (v := 3629) dX12_cheapest_193 (by decide +kernel) ?_
                refine V_cvi 196 B (st := []) (As := [.int 3629]) (fun sz => mX12_costOf_3 l D Y (h0) (h1) (g0) (g1) (g2) (g3) (g4) sz) glV_RX12_76 ⟨rfl, rfl⟩ ⟨(Nat.le_of_ble_eq_true rfl), (Nat.le_of_ble_eq_true rfl)⟩ ⟨(Nat.le_of_ble_eq_true rfl), (Nat.le_of_ble_eq_true rfl)⟩ [0, 0] rfl 13 0 rfl rfl rfl rfl (Nat.le_of_ble_eq_true rfl) rfl (fun _ _ _ => rfl) dX12_cheapest_196 (fun r25 u25 w25 => ?_)
                obtain rfl := w25
                refine V_ws [(h0, oC 13 [.ref h1, .ref g0, .int 0, .ref g1, .ref g2, .int 0, .int 0, .int 0, .int (-1), .int 0, .int 0, .int 0, .long 0, .ref g3, .ref g4, .int 0, .int 0]), (h1, aI Y 3640 (upd (upd (upd (upd (upd (clB 0 (fun _ => 0)) 3629 2) 3630 0) 3631 0) 3630 0) 3631 0))] rfl ?_
                refine V_istore 199 B (lv2 := [(9, .int 2), (8, .int 0), (7, .int 0), (6, .int 0), (5, .int 0), (4, .int 1000000), (0, .ref h0), (1, .int 0), (2, .int 2), (3, .int p2)]) dX12_cheapest_199 (by decide) rfl ?_
                refine V_iload 201 B dX12_cheapest_201 0 rfl ?_
                refine V_iload 203 B dX12_cheapest_203 5 rfl ?_
                refine V_icmp_ge_f 205 B 238 dX12_cheapest_205 (by decide) (by decide +kernel) ?_
                refine V_aload_n 208 B dX12_cheapest_208 6 rfl ?_
                refine V_iload_n 209 B dX12_cheapest_209 7 rfl ?_
                refine V_iload_n 210 B dX12_cheapest_210 9 rfl ?_
                refine V_cvi 211 B (st := []) (As := [.int 0, .int p2]) (fun sz => mX12_isFreeHere_2 l D Y (h0) (h1) (g0) (g1) (g2) (g3) (g4) (p2) sz) glV_RX12_185 ⟨rfl, rfl⟩ ⟨(Nat.le_of_ble_eq_true rfl), (Nat.le_of_ble_eq_true rfl)⟩ ⟨(Nat.le_of_ble_eq_true rfl), (Nat.le_of_ble_eq_true rfl)⟩ [0, 0] rfl 13 0 rfl rfl rfl rfl (Nat.le_of_ble_eq_true rfl) rfl (fun _ _ _ => rfl) dX12_cheapest_211 (fun r26 u26 w26 => ?_)
                obtain rfl := w26
                refine V_ws [(h0, oC 13 [.ref h1, .ref g0, .int 0, .ref g1, .ref g2, .int 0, .int 0, .int 0, .int (-1), .int 0, .int 0, .int 0, .long 0, .ref g3, .ref g4, .int 0, .int 0]), (h1, aI Y 3640 (upd (upd (upd (upd (upd (clB 0 (fun _ => 0)) 3629 2) 3630 0) 3631 0) 3630 0) 3631 0))] rfl ?_
                refine V_if_ne_t 214 B 220 dX12_cheapest_214 (by decide) (by decide +kernel) ?_
                refine V_iload 220 B dX12_cheapest_220 0 rfl ?_
                refine V_istore 222 B (lv2 := [(4, .int 2), (9, .int 2), (8, .int 0), (7, .int 0), (6, .int 0), (5, .int 0), (0, .ref h0), (1, .int 0), (2, .int 2), (3, .int p2)]) dX12_cheapest_222 (by decide) rfl ?_
                refine V_iload 224 B dX12_cheapest_224 3 rfl ?_
                refine V_csi 226 B (st := []) (As := [.int 0]) (fun sz => mX12_simpleStroke_2 l D Y  sz) glS_RX12_181 ⟨rfl, rfl⟩ ⟨(Nat.le_of_ble_eq_true rfl), (Nat.le_of_ble_eq_true rfl)⟩ ⟨(Nat.le_of_ble_eq_true rfl), (Nat.le_of_ble_eq_true rfl)⟩ [] rfl rfl (Nat.le_of_ble_eq_true rfl) rfl (fun _ _ _ => rfl) dX12_cheapest_226 (fun r27 u27 w27 => ?_)
                obtain rfl := w27
                refine V_ws [(h0, oC 13 [.ref h1, .ref g0, .int 0, .ref g1, .ref g2, .int 0, .int 0, .int 0, .int (-1), .int 0, .int 0, .int 0, .long 0, .ref g3, .ref g4, .int 0, .int 0]), (h1, aI Y 3640 (upd (upd (upd (upd (upd (clB 0 (fun _ => 0)) 3629 2) 3630 0) 3631 0) 3630 0) 3631 0))] rfl ?_
                refine V_istore 229 B (lv2 := [(5, .int 0), (4, .int 2), (9, .int 2), (8, .int 0), (7, .int 0), (6, .int 0), (0, .ref h0), (1, .int 0), (2, .int 2), (3, .int p2)]) dX12_cheapest_229 (by decide) rfl ?_
                refine V_iload 231 B dX12_cheapest_231 3 rfl ?_
                refine V_csi 233 B (st := []) (As := [.int 0]) (fun sz => mX12_simpleStroke_2 l D Y  sz) glS_RX12_181 ⟨rfl, rfl⟩ ⟨(Nat.le_of_ble_eq_true rfl), (Nat.le_of_ble_eq_true rfl)⟩ ⟨(Nat.le_of_ble_eq_true rfl), (Nat.le_of_ble_eq_true rfl)⟩ [] rfl rfl (Nat.le_of_ble_eq_true rfl) rfl (fun _ _ _ => rfl) dX12_cheapest_233 (fun r28 u28 w28 => ?_)
                obtain rfl := w28
                refine V_ws [(h0, oC 13 [.ref h1, .ref g0, .int 0, .ref g1, .ref g2, .int 0, .int 0, .int 0, .int (-1), .int 0, .int 0, .int 0, .long 0, .ref g3, .ref g4, .int 0, .int 0]), (h1, aI Y 3640 (upd (upd (upd (upd (upd (clB 0 (fun _ => 0)) 3629 2) 3630 0) 3631 0) 3630 0) 3631 0))] rfl ?_
                refine V_istore 236 B (lv2 := [(6, .int 0), (5, .int 0), (4, .int 2), (9, .int 2), (8, .int 0), (7, .int 0), (0, .ref h0), (1, .int 0), (2, .int 2), (3, .int p2)]) dX12_cheapest_236 (by decide) rfl ?_
                refine V_iinc 238 B (v := 1) (lv2 := [(8, .int 1), (6, .int 0), (5, .int 0), (4, .int 2), (9, .int 2), (7, .int 0), (0, .ref h0), (1, .int 0), (2, .int 2), (3, .int p2)]) dX12_cheapest_238 4 rfl (by decide +kernel) (by decide) rfl ?_
                refine V_goto 241 B 149 dX12_cheapest_241 (by decide) ?_
                refine V_ws [(h0, oC 13 [.ref h1, .ref g0, .int 0, .ref g1, .ref g2, .int 0, .int 0, .int 0, .int (-1), .int 0, .int 0, .int 0, .long 0, .ref g3, .ref g4, .int 0, .int 0]), (h1, aI Y 3640 (upd (upd (upd (clB 0 (fun _ => 0)) 3629 2) 3630 (pick (pickf 0 (fun j => simF (nI j)) 0) (simF (nI 0)) (0 + 1))) 3631 (pickf (pick 0 281 0) (fun j => simF (nI j)) (0 + 1))))] (by rw [upd4 (by decide), show (pick (pickf 0 (fun j => simF (nI j)) 0) (simF (nI 0)) (0 + 1)) = 0 from sim0, show (pickf (pick 0 281 0) (fun j => simF (nI j)) (0 + 1)) = 0 from sim0]) ?_
                refine V_lv [(8, .int (nI (0 + 1))), (7, .int (nI 0)), (6, .int 0), (5, .int 0), (4, .int (pick 1000000 2 (130 * 0 + (0 + 1)))), (0, .ref h0), (1, .int 0), (2, .int 2), (3, .int p2)] [0, 5, 1, 2, 3, 6, 7, 8, 9] rfl ?_
                exact IHB () trivial
              ·
                refine V_lv [(8, .int (nI iB)), (7, .int (nI iA)), (6, .int 0), (5, .int 0), (4, .int 2), (0, .ref h0), (1, .int 0), (2, .int 2), (3, .int p2)] [0, 1, 2, 3, 4, 5, 6, 7, 8] (by rw [show (pick 1000000 2 (130 * iA + iB)) = 2 from pick_pos k22]; rfl) ?_
                refine V_aload_n 166 B dX12_cheapest_166 5 rfl ?_
                refine V_get 167 B gf_RX12_9 0 rfl rfl dX12_cheapest_167 ?_
                refine V_sipush 170 B (v := 3630) dX12_cheapest_170 (by decide +kernel) ?_
                refine V_iload 173 B dX12_cheapest_173 1 rfl ?_
                refine V_csi 175 B (st := [.int 3630, .ref h1]) (As := [.int (nI iA)]) (fun sz => mX12_simpleStroke_simF l D Y ((nI iA)) sz) glS_RX12_181 ⟨rfl, rfl⟩ ⟨(Nat.le_of_ble_eq_true rfl), (Nat.le_of_ble_eq_true rfl)⟩ ⟨(Nat.le_of_ble_eq_true rfl), (Nat.le_of_ble_eq_true rfl)⟩ [] rfl rfl (Nat.le_of_ble_eq_true rfl) rfl (fun _ _ _ => rfl) dX12_cheapest_175 (fun r29 u29 w29 => ?_)
                obtain rfl := w29
                refine V_ws [(h0, oC 13 [.ref h1, .ref g0, .int 0, .ref g1, .ref g2, .int 0, .int 0, .int 0, .int (-1), .int 0, .int 0, .int 0, .long 0, .ref g3, .ref g4, .int 0, .int 0]), (h1, aI Y 3640 (upd (upd (upd (clB 0 (fun _ => 0)) 3629 2) 3630 (pick (pickf 0 (fun j => simF (nI j)) iA) (simF (nI iA)) iB)) 3631 (pickf (pick 0 281 iA) (fun j => simF (nI j)) iB)))] rfl ?_
                refine V_iast 178 B 1 rfl (vpin _ _ (by decide +kernel)) dX12_cheapest_178 [(h0, oC 13 [.ref h1, .ref g0, .int 0, .ref g1, .ref g2, .int 0, .int 0, .int 0, .int (-1), .int 0, .int 0, .int 0, .long 0, .ref g3, .ref g4, .int 0, .int 0]), (h1, aI Y 3640 (upd (upd (upd (upd (clB 0 (fun _ => 0)) 3629 2) 3630 (pick (pickf 0 (fun j => simF (nI j)) iA) (simF (nI iA)) iB)) 3631 (pickf (pick 0 281 iA) (fun j => simF (nI j)) iB)) 3630 (simF (nI iA))))] rfl ?_
                refine V_aload_n 179 B dX12_cheapest_179 5 rfl ?_
                refine V_get 180 B gf_RX12_9 0 rfl rfl dX12_cheapest_180 ?_
                refine V_sipush 183 B (v := 3631) dX12_cheapest_183 (by decide +kernel) ?_
                refine V_iload 186 B dX12_cheapest_186 0 rfl ?_
                refine V_csi 188 B (st := [.int 3631, .ref h1]) (As := [.int (nI iB)]) (fun sz => mX12_simpleStroke_simF l D Y ((nI iB)) sz) glS_RX12_181 ⟨rfl, rfl⟩ ⟨(Nat.le_of_ble_eq_true rfl), (Nat.le_of_ble_eq_true rfl)⟩ ⟨(Nat.le_of_ble_eq_true rfl), (Nat.le_of_ble_eq_true rfl)⟩ [] rfl rfl (Nat.le_of_ble_eq_true rfl) rfl (fun _ _ _ => rfl) dX12_cheapest_188 (fun r30 u30 w30 => ?_)
                obtain rfl := w30
                refine V_ws [(h0, oC 13 [.ref h1, .ref g0, .int 0, .ref g1, .ref g2, .int 0, .int 0, .int 0, .int (-1), .int 0, .int 0, .int 0, .long 0, .ref g3, .ref g4, .int 0, .int 0]), (h1, aI Y 3640 (upd (upd (upd (upd (clB 0 (fun _ => 0)) 3629 2) 3630 (pick (pickf 0 (fun j => simF (nI j)) iA) (simF (nI iA)) iB)) 3631 (pickf (pick 0 281 iA) (fun j => simF (nI j)) iB)) 3630 (simF (nI iA))))] rfl ?_
                refine V_iast 191 B 1 rfl (vpin _ _ (by decide +kernel)) dX12_cheapest_191 [(h0, oC 13 [.ref h1, .ref g0, .int 0, .ref g1, .ref g2, .int 0, .int 0, .int 0, .int (-1), .int 0, .int 0, .int 0, .long 0, .ref g3, .ref g4, .int 0, .int 0]), (h1, aI Y 3640 (upd (upd (upd (upd (upd (clB 0 (fun _ => 0)) 3629 2) 3630 (pick (pickf 0 (fun j => simF (nI j)) iA) (simF (nI iA)) iB)) 3631 (pickf (pick 0 281 iA) (fun j => simF (nI j)) iB)) 3630 (simF (nI iA))) 3631 (simF (nI iB))))] rfl ?_
                refine V_aload_n 192 B dX12_cheapest_192 5 rfl ?_
                refine V_sipush 193 B (v := 3629) dX12_cheapest_193 (by decide +kernel) ?_
                refine V_cvi 196 B (st := []) (As := [.int 3629]) (fun sz => mX12_costOf_s19 l D Y (h0) (h1) (g0) (g1) (g2) (g3) (g4) ((pick (pickf 0 (fun j => simF (nI j)) iA) (simF (nI iA)) iB)) ((pickf (pick 0 281 iA) (fun j => simF (nI j)) iB)) ((simF (nI iA))) ((simF (nI iB))) ((h5_sim hiA)) ((h5_sim hiB)) sz) glV_RX12_76 ⟨rfl, rfl⟩ ⟨(Nat.le_of_ble_eq_true rfl), (Nat.le_of_ble_eq_true rfl)⟩ ⟨(Nat.le_of_ble_eq_true rfl), (Nat.le_of_ble_eq_true rfl)⟩ [0, 0] rfl 13 0 rfl rfl rfl rfl (Nat.le_of_ble_eq_true rfl) rfl (fun _ _ _ => rfl) dX12_cheapest_196 (fun r31 u31 w31 => ?_)
                obtain rfl := w31
                refine V_ws [(h0, oC 13 [.ref h1, .ref g0, .int 0, .ref g1, .ref g2, .int 0, .int 0, .int 0, .int (-1), .int 0, .int 0, .int 0, .long 0, .ref g3, .ref g4, .int 0, .int 0]), (h1, aI Y 3640 (upd (upd (upd (upd (upd (clB 0 (fun _ => 0)) 3629 2) 3630 (pick (pickf 0 (fun j => simF (nI j)) iA) (simF (nI iA)) iB)) 3631 (pickf (pick 0 281 iA) (fun j => simF (nI j)) iB)) 3630 (simF (nI iA))) 3631 (simF (nI iB))))] rfl ?_
                refine V_istore 199 B (lv2 := [(9, .int ((scoF (simF (nI iA))) + (scoF (simF (nI iB))))), (8, .int (nI iB)), (7, .int (nI iA)), (6, .int 0), (5, .int 0), (4, .int 2), (0, .ref h0), (1, .int 0), (2, .int 2), (3, .int p2)]) dX12_cheapest_199 (by decide) rfl ?_
                refine V_iload 201 B dX12_cheapest_201 0 rfl ?_
                refine V_iload 203 B dX12_cheapest_203 5 rfl ?_
                refine V_icmp_ge_t 205 B 238 dX12_cheapest_205 (by decide) (q_ge (sco2 hiA hiB) (by decide +kernel)) ?_
                refine V_iinc 238 B (v := (nI (iB + 1))) (lv2 := [(8, .int (nI (iB + 1))), (9, .int ((scoF (simF (nI iA))) + (scoF (simF (nI iB))))), (7, .int (nI iA)), (6, .int 0), (5, .int 0), (4, .int 2), (0, .ref h0), (1, .int 0), (2, .int 2), (3, .int p2)]) dX12_cheapest_238 1 rfl (nI_1 _) (by decide) rfl ?_
                refine V_goto 241 B 149 dX12_cheapest_241 (by decide) ?_
                refine V_ws [(h0, oC 13 [.ref h1, .ref g0, .int 0, .ref g1, .ref g2, .int 0, .int 0, .int 0, .int (-1), .int 0, .int 0, .int 0, .long 0, .ref g3, .ref g4, .int 0, .int 0]), (h1, aI Y 3640 (upd (upd (upd (clB 0 (fun _ => 0)) 3629 2) 3630 (pick (pickf 0 (fun j => simF (nI j)) iA) (simF (nI iA)) (iB + 1))) 3631 (pickf (pick 0 281 iA) (fun j => simF (nI j)) (iB + 1))))] (by rw [upd4 (by decide), show (pick (pickf 0 (fun j => simF (nI j)) iA) (simF (nI iA)) (iB + 1)) = simF (nI iA) from rfl, show (pickf (pick 0 281 iA) (fun j => simF (nI j)) (iB + 1)) = simF (nI iB) from rfl]) ?_
                refine V_lv [(8, .int (nI (iB + 1))), (7, .int (nI iA)), (6, .int 0), (5, .int 0), (4, .int (pick 1000000 2 (130 * iA + (iB + 1)))), (0, .ref h0), (1, .int 0), (2, .int 2), (3, .int p2)] [0, 2, 3, 4, 5, 6, 7, 8, 9] rfl ?_
                exact IHB () trivial
            ·
              refine V_lv [(8, .int 130), (7, .int (nI iA)), (6, .int 0), (5, .int 0), (4, .int (pick 1000000 2 (130 * iA + 130))), (0, .ref h0), (1, .int 0), (2, .int 2), (3, .int p2)] [0, 1, 2, 3, 4, 5, 6, 7, 8] rfl ?_
              refine V_ws [(h0, oC 13 [.ref h1, .ref g0, .int 0, .ref g1, .ref g2, .int 0, .int 0, .int 0, .int (-1), .int 0, .int 0, .int 0, .long 0, .ref g3, .ref g4, .int 0, .int 0]), (h1, aI Y 3640 (upd (upd (upd (clB 0 (fun _ => 0)) 3629 2) 3630 (simF (nI iA))) 3631 281))] (by rw [show (pickf (pick 0 281 iA) (fun j => simF (nI j)) 130) = 281 from sim129]; rfl) ?_
              refine V_iload 149 B dX12_cheapest_149 0 rfl ?_
              refine V_iload_n 151 B dX12_cheapest_151 7 rfl ?_
              refine V_iconst 152 B (v := 1) dX12_cheapest_152 (by decide +kernel) ?_
              refine V_icmp_ne_t 153 B 160 dX12_cheapest_153 (by decide) (by decide +kernel) ?_
              refine V_sipush 160 B (v := 130) dX12_cheapest_160 (by decide +kernel) ?_
              refine V_icmp_ge_t 163 B 244 dX12_cheapest_163 (by decide) (by decide +kernel) ?_
              refine V_iinc 244 B (v := (nI (iA + 1))) (lv2 := [(7, .int (nI (iA + 1))), (8, .int 130), (6, .int 0), (5, .int 0), (4, .int (pick 1000000 2 (130 * iA + 130))), (0, .ref h0), (1, .int 0), (2, .int 2), (3, .int p2)]) dX12_cheapest_244 1 rfl (nI_1 _) (by decide) rfl ?_
              refine V_goto 247 B 138 dX12_cheapest_247 (by decide) ?_
              refine V_ws [(h0, oC 13 [.ref h1, .ref g0, .int 0, .ref g1, .ref g2, .int 0, .int 0, .int 0, .int (-1), .int 0, .int 0, .int 0, .long 0, .ref g3, .ref g4, .int 0, .int 0]), (h1, aI Y 3640 (upd (upd (upd (clB 0 (fun _ => 0)) 3629 2) 3630 (pickf 0 (fun j => simF (nI j)) (iA + 1))) 3631 (pick 0 281 (iA + 1))))] rfl ?_
              refine V_lv [(7, .int (nI (iA + 1))), (6, .int 0), (5, .int 0), (4, .int (pick 1000000 2 (130 * (iA + 1)))), (0, .ref h0), (1, .int 0), (2, .int 2), (3, .int p2)] [0, 2, 3, 4, 5, 6, 7, 8] rfl ?_
              exact IHA () trivial
          ·
            refine V_lv [(7, .int 130), (6, .int 0), (5, .int 0), (4, .int 2), (0, .ref h0), (1, .int 0), (2, .int 2), (3, .int p2)] [0, 1, 2, 3, 4, 5, 6, 7] rfl ?_
            refine V_ws [(h0, oC 13 [.ref h1, .ref g0, .int 0, .ref g1, .ref g2, .int 0, .int 0, .int 0, .int (-1), .int 0, .int 0, .int 0, .long 0, .ref g3, .ref g4, .int 0, .int 0]), (h1, aI Y 3640 (upd (upd (upd (clB 0 (fun _ => 0)) 3629 2) 3630 281) 3631 281))] (by rw [show (pickf 0 (fun j => simF (nI j)) 130) = 281 from sim129, show (pick 0 281 130) = 281 from rfl]) ?_
            refine V_iload 138 B dX12_cheapest_138 0 rfl ?_
            refine V_sipush 140 B (v := 130) dX12_cheapest_140 (by decide +kernel) ?_
            refine V_icmp_ge_t 143 B 250 dX12_cheapest_143 (by decide) (by decide +kernel) ?_
            refine V_iload 250 B dX12_cheapest_250 3 rfl ?_
            refine V_ldc 252 B (v := 1000000) dX12_cheapest_252 (mT9 29 rfl rfl) ?_
            refine V_icmp_ne_t 254 B 259 dX12_cheapest_254 (by decide) (by decide +kernel) ?_
            refine V_aload_n 259 B dX12_cheapest_259 4 rfl ?_
            refine V_get 260 B gf_RX12_9 0 rfl rfl dX12_cheapest_260 ?_
            refine V_sipush 263 B (v := 3624) dX12_cheapest_263 (by decide +kernel) ?_
            refine V_iload_n 266 B dX12_cheapest_266 6 rfl ?_
            refine V_iast 267 B 1 rfl (vpin _ _ (by decide +kernel)) dX12_cheapest_267 [(h0, oC 13 [.ref h1, .ref g0, .int 0, .ref g1, .ref g2, .int 0, .int 0, .int 0, .int (-1), .int 0, .int 0, .int 0, .long 0, .ref g3, .ref g4, .int 0, .int 0]), (h1, aI Y 3640 (upd (upd (upd (upd (clB 0 (fun _ => 0)) 3629 2) 3630 281) 3631 281) 3624 2))] rfl ?_
            refine V_aload_n 268 B dX12_cheapest_268 4 rfl ?_
            refine V_get 269 B gf_RX12_9 0 rfl rfl dX12_cheapest_269 ?_
            refine V_sipush 272 B (v := 3625) dX12_cheapest_272 (by decide +kernel) ?_
            refine V_iload 275 B dX12_cheapest_275 2 rfl ?_
            refine V_iast 277 B 1 rfl (vpin _ _ (by decide +kernel)) dX12_cheapest_277 [(h0, oC 13 [.ref h1, .ref g0, .int 0, .ref g1, .ref g2, .int 0, .int 0, .int 0, .int (-1), .int 0, .int 0, .int 0, .long 0, .ref g3, .ref g4, .int 0, .int 0]), (h1, aI Y 3640 (upd (upd (upd (upd (upd (clB 0 (fun _ => 0)) 3629 2) 3630 281) 3631 281) 3624 2) 3625 0))] rfl ?_
            refine V_aload_n 278 B dX12_cheapest_278 4 rfl ?_
            refine V_get 279 B gf_RX12_9 0 rfl rfl dX12_cheapest_279 ?_
            refine V_sipush 282 B (v := 3626) dX12_cheapest_282 (by decide +kernel) ?_
            refine V_iload 285 B dX12_cheapest_285 1 rfl ?_
            refine V_iast 287 B 1 rfl (vpin _ _ (by decide +kernel)) dX12_cheapest_287 [(h0, oC 13 [.ref h1, .ref g0, .int 0, .ref g1, .ref g2, .int 0, .int 0, .int 0, .int (-1), .int 0, .int 0, .int 0, .long 0, .ref g3, .ref g4, .int 0, .int 0]), (h1, aI Y 3640 (upd (upd (upd (upd (upd (upd (clB 0 (fun _ => 0)) 3629 2) 3630 281) 3631 281) 3624 2) 3625 0) 3626 0))] rfl ?_
            refine V_iload 288 B dX12_cheapest_288 3 rfl ?_
            exact V_iret 290 B dX12_cheapest_290 1 (Or.inr (Or.inl ⟨rfl, rfl, rfl, rfl⟩)) rfl
      ·
        refine V_ws [(h0, oC 13 [.ref h1, .ref g0, .int 0, .ref g1, .ref g2, .int 0, .int 0, .int 0, .int (-1), .int 0, .int 0, .int 0, .long 0, .ref g3, .ref g4, .int 0, .int 0]), (h1, aI Y 3640 (clB 0 (fun _ => 0)))] rfl ?_
        refine V_if_ne_f 36 B 43 dX12_cheapest_36 (by decide) (by decide +kernel) ?_
        refine V_iconst 39 B (v := 1) dX12_cheapest_39 (by decide +kernel) ?_
        refine V_goto 40 B 44 dX12_cheapest_40 (by decide) ?_
        refine V_iconst 44 B (v := 2) dX12_cheapest_44 (by decide +kernel) ?_
        refine V_cvi 45 B (st := []) (As := [.int 1, .int 2]) (fun sz => mX12_throwsIf_4 l D Y (h0) (h1) (g0) (g1) (g2) (g3) (g4) sz) glV_RX12_69 ⟨rfl, rfl⟩ ⟨(Nat.le_of_ble_eq_true rfl), (Nat.le_of_ble_eq_true rfl)⟩ ⟨(Nat.le_of_ble_eq_true rfl), (Nat.le_of_ble_eq_true rfl)⟩ [0] rfl 13 0 rfl rfl rfl rfl (Nat.le_of_ble_eq_true rfl) rfl (fun _ _ _ => rfl) dX12_cheapest_45 (fun r32 u32 w32 => ?_)
        obtain rfl := w32
        refine V_ws [(h0, oC 13 [.ref h1, .ref g0, .int 2, .ref g1, .ref g2, .int 0, .int 0, .int 0, .int (-1), .int 0, .int 0, .int 0, .long 0, .ref g3, .ref g4, .int 0, .int 0]), (h1, aI Y 3640 (clB 0 (fun _ => 0)))] rfl ?_
        refine V_if_eq_f 48 B 53 dX12_cheapest_48 (by decide) (by decide +kernel) ?_
        refine V_iconst 51 B (v := 0) dX12_cheapest_51 (by decide +kernel) ?_
        exact V_iret 52 B dX12_cheapest_52 2 (Or.inr (Or.inr (Or.inl ⟨rfl, rfl, k8, rfl⟩))) rfl
      ·
        refine V_ws [(h0, oC 13 [.ref h1, .ref g0, .int 0, .ref g1, .ref g2, .int 0, .int 0, .int 0, .int (-1), .int 0, .int 0, .int 0, .long 0, .ref g3, .ref g4, .int 0, .int 0]), (h1, aI Y 3640 (clB 0 (fun _ => 0)))] rfl ?_
        refine V_if_ne_f 36 B 43 dX12_cheapest_36 (by decide) (by decide +kernel) ?_
        refine V_iconst 39 B (v := 1) dX12_cheapest_39 (by decide +kernel) ?_
        refine V_goto 40 B 44 dX12_cheapest_40 (by decide) ?_
        refine V_iconst 44 B (v := 2) dX12_cheapest_44 (by decide +kernel) ?_
        refine V_cvi 45 B (st := []) (As := [.int 1, .int 2]) (fun sz => mX12_throwsIf_4 l D Y (h0) (h1) (g0) (g1) (g2) (g3) (g4) sz) glV_RX12_69 ⟨rfl, rfl⟩ ⟨(Nat.le_of_ble_eq_true rfl), (Nat.le_of_ble_eq_true rfl)⟩ ⟨(Nat.le_of_ble_eq_true rfl), (Nat.le_of_ble_eq_true rfl)⟩ [0] rfl 13 0 rfl rfl rfl rfl (Nat.le_of_ble_eq_true rfl) rfl (fun _ _ _ => rfl) dX12_cheapest_45 (fun r33 u33 w33 => ?_)
        obtain rfl := w33
        refine V_ws [(h0, oC 13 [.ref h1, .ref g0, .int 2, .ref g1, .ref g2, .int 0, .int 0, .int 0, .int (-1), .int 0, .int 0, .int 0, .long 0, .ref g3, .ref g4, .int 0, .int 0]), (h1, aI Y 3640 (clB 0 (fun _ => 0)))] rfl ?_
        refine V_if_eq_f 48 B 53 dX12_cheapest_48 (by decide) (by decide +kernel) ?_
        refine V_iconst 51 B (v := 0) dX12_cheapest_51 (by decide +kernel) ?_
        exact V_iret 52 B dX12_cheapest_52 3 (Or.inr (Or.inr (Or.inr (Or.inl ⟨rfl, rfl, k9, rfl⟩)))) rfl
    ·
      refine V_ws [(h0, oC 13 [.ref h1, .ref g0, .int 0, .ref g1, .ref g2, .int 0, .int 0, .int 0, .int (-1), .int 0, .int 0, .int 0, .long 0, .ref g3, .ref g4, .int 0, .int 0]), (h1, aI Y 3640 (clB 0 (fun _ => 0)))] rfl ?_
      refine V_if_ne_f 11 B 18 dX12_cheapest_11 (by decide) (by decide +kernel) ?_
      refine V_iconst 14 B (v := 1) dX12_cheapest_14 (by decide +kernel) ?_
      refine V_goto 15 B 19 dX12_cheapest_15 (by decide) ?_
      refine V_iconst 19 B (v := 1) dX12_cheapest_19 (by decide +kernel) ?_
      refine V_cvi 20 B (st := []) (As := [.int 1, .int 1]) (fun sz => mX12_throwsIf_1 l D Y (h0) (h1) (g0) (g1) (g2) (g3) (g4) sz) glV_RX12_69 ⟨rfl, rfl⟩ ⟨(Nat.le_of_ble_eq_true rfl), (Nat.le_of_ble_eq_true rfl)⟩ ⟨(Nat.le_of_ble_eq_true rfl), (Nat.le_of_ble_eq_true rfl)⟩ [0] rfl 13 0 rfl rfl rfl rfl (Nat.le_of_ble_eq_true rfl) rfl (fun _ _ _ => rfl) dX12_cheapest_20 (fun r34 u34 w34 => ?_)
      obtain rfl := w34
      refine V_ws [(h0, oC 13 [.ref h1, .ref g0, .int 1, .ref g1, .ref g2, .int 0, .int 0, .int 0, .int (-1), .int 0, .int 0, .int 0, .long 0, .ref g3, .ref g4, .int 0, .int 0]), (h1, aI Y 3640 (clB 0 (fun _ => 0)))] rfl ?_
      refine V_if_ne_t 23 B 51 dX12_cheapest_23 (by decide) (by decide +kernel) ?_
      refine V_iconst 51 B (v := 0) dX12_cheapest_51 (by decide +kernel) ?_
      exact V_iret 52 B dX12_cheapest_52 4 (Or.inr (Or.inr (Or.inr (Or.inr (Or.inl ⟨rfl, k2, rfl⟩))))) rfl
    ·
      refine V_ws [(h0, oC 13 [.ref h1, .ref g0, .int 0, .ref g1, .ref g2, .int 0, .int 0, .int 0, .int (-1), .int 0, .int 0, .int 0, .long 0, .ref g3, .ref g4, .int 0, .int 0]), (h1, aI Y 3640 (clB 0 (fun _ => 0)))] rfl ?_
      refine V_if_ne_f 11 B 18 dX12_cheapest_11 (by decide) (by decide +kernel) ?_
      refine V_iconst 14 B (v := 1) dX12_cheapest_14 (by decide +kernel) ?_
      refine V_goto 15 B 19 dX12_cheapest_15 (by decide) ?_
      refine V_iconst 19 B (v := 1) dX12_cheapest_19 (by decide +kernel) ?_
      refine V_cvi 20 B (st := []) (As := [.int 1, .int 1]) (fun sz => mX12_throwsIf_1 l D Y (h0) (h1) (g0) (g1) (g2) (g3) (g4) sz) glV_RX12_69 ⟨rfl, rfl⟩ ⟨(Nat.le_of_ble_eq_true rfl), (Nat.le_of_ble_eq_true rfl)⟩ ⟨(Nat.le_of_ble_eq_true rfl), (Nat.le_of_ble_eq_true rfl)⟩ [0] rfl 13 0 rfl rfl rfl rfl (Nat.le_of_ble_eq_true rfl) rfl (fun _ _ _ => rfl) dX12_cheapest_20 (fun r35 u35 w35 => ?_)
      obtain rfl := w35
      refine V_ws [(h0, oC 13 [.ref h1, .ref g0, .int 1, .ref g1, .ref g2, .int 0, .int 0, .int 0, .int (-1), .int 0, .int 0, .int 0, .long 0, .ref g3, .ref g4, .int 0, .int 0]), (h1, aI Y 3640 (clB 0 (fun _ => 0)))] rfl ?_
      refine V_if_ne_t 23 B 51 dX12_cheapest_23 (by decide) (by decide +kernel) ?_
      refine V_iconst 51 B (v := 0) dX12_cheapest_51 (by decide +kernel) ?_
      exact V_iret 52 B dX12_cheapest_52 5 (Or.inr (Or.inr (Or.inr (Or.inr (Or.inr ⟨rfl, k3, rfl⟩))))) rfl)
set_option maxRecDepth 100000 in
set_option maxHeartbeats 4000000 in
theorem mX10_barFor_3 (l : Launch) (D : va_G) (Y : Nat → ClassId) (h6 : Nat) (h0 : Nat) (h1 : Nat) (g0 : Nat) (g1 : Nat) (g2 : Nat) (h3 : Nat) (h5 : Nat) (g3 : Nat) (g4 : Nat) (g5 : Nat) (g6 : Nat) (g7 : Nat) (h2 : Nat) (h4 : Nat) (g8 : Nat) (g9 : Nat) (g10 : Nat) (h7 : Nat) (g11 : Nat) (h8 : Nat) (sz : Nat) : Met l yX10_barFor (WSm yX10_barFor cX10_barFor 5 none) (mkR 2 0 0 36) (PreC D Y [.ref h6, .int 0, .int 0] [(h0, oC 2 [.ref h1, .ref g0, .ref g1, .ref g2, .ref h3, .ref h5, .ref g3, .ref g4, .ref g5, .ref g6, .ref g7, .int 0]), (h1, oC 3 [.ref h2, .int 1]), (h2, aI Y 6 (upd (fun _ => 0) 0 (-1))), (h3, oC 7 [.ref h4, .int 0]), (h4, aJ Y 6 (fun _ => 0)), (h5, oC 3 [.ref g8, .int 0]), (h6, oC 11 [.ref h0, .ref g9, .ref g10, .ref h7, .ref g11]), (h7, oC 7 [.ref h8, .int 0]), (h8, aJ Y 86 (fun _ => 0))] sz) (QV D (fun (u : Unit) => True) (fun (_ : Unit) => [(h0, oC 2 [.ref h1, .ref g0, .ref g1, .ref g2, .ref h3, .ref h5, .ref g3, .ref g4, .ref g5, .ref g6, .ref g7, .int 0]), (h1, oC 3 [.ref h2, .int 1]), (h2, aI Y 6 (upd (fun _ => 0) 0 (-1))), (h3, oC 7 [.ref h4, .int 0]), (h4, aJ Y 6 (fun _ => 0)), (h5, oC 3 [.ref g8, .int 0]), (h6, oC 11 [.ref h0, .ref g9, .ref g10, .ref h7, .ref g11]), (h7, oC 7 [.ref h8, .int 0]), (h8, aJ Y 86 (fun _ => 0))]) (va_A [(h0, oC 2 [.ref h1, .ref g0, .ref g1, .ref g2, .ref h3, .ref h5, .ref g3, .ref g4, .ref g5, .ref g6, .ref g7, .int 0]), (h1, oC 3 [.ref h2, .int 1]), (h2, aI Y 6 (upd (fun _ => 0) 0 (-1))), (h3, oC 7 [.ref h4, .int 0]), (h4, aJ Y 6 (fun _ => 0)), (h5, oC 3 [.ref g8, .int 0]), (h6, oC 11 [.ref h0, .ref g9, .ref g10, .ref h7, .ref g11]), (h7, oC 7 [.ref h8, .int 0]), (h8, aJ Y 86 (fun _ => 0))] sz)) 0 0 (va_A [(h0, oC 2 [.ref h1, .ref g0, .ref g1, .ref g2, .ref h3, .ref h5, .ref g3, .ref g4, .ref g5, .ref g6, .ref g7, .int 0]), (h1, oC 3 [.ref h2, .int 1]), (h2, aI Y 6 (upd (fun _ => 0) 0 (-1))), (h3, oC 7 [.ref h4, .int 0]), (h4, aJ Y 6 (fun _ => 0)), (h5, oC 3 [.ref g8, .int 0]), (h6, oC 11 [.ref h0, .ref g9, .ref g10, .ref h7, .ref g11]), (h7, oC 7 [.ref h8, .int 0]), (h8, aJ Y 86 (fun _ => 0))] sz) :=
  met_of (by decide +kernel) (Nat.le_of_ble_eq_true rfl) (fun p e s m args below meth c B hin hsz => by
    have B : VB p s m args meth c D Y (va_A [(h0, oC 2 [.ref h1, .ref g0, .ref g1, .ref g2, .ref h3, .ref h5, .ref g3, .ref g4, .ref g5, .ref g6, .ref g7, .int 0]), (h1, oC 3 [.ref h2, .int 1]), (h2, aI Y 6 (upd (fun _ => 0) 0 (-1))), (h3, oC 7 [.ref h4, .int 0]), (h4, aJ Y 6 (fun _ => 0)), (h5, oC 3 [.ref g8, .int 0]), (h6, oC 11 [.ref h0, .ref g9, .ref g10, .ref h7, .ref g11]), (h7, oC 7 [.ref h8, .int 0]), (h8, aJ Y 86 (fun _ => 0))] sz) cX10_barFor 5 RX10 none := B
    refine V_aload_n 0 B dX10_barFor_0 0 rfl ?_
    refine V_get 1 B gf_RX10_30 6 rfl rfl dX10_barFor_1 ?_
    refine V_aload_n 4 B dX10_barFor_4 0 rfl ?_
    refine V_get 5 B gf_RX10_9 6 rfl rfl dX10_barFor_5 ?_
    refine V_get 8 B gf_RX10_102 0 rfl rfl dX10_barFor_8 ?_
    refine V_cvv 11 B (st := []) (As := [.ref h3]) (fun sz => mX5_copyFrom_7 l D Y (h7) (h3) (h4) (h8) sz) glV_RX10_105 ⟨rfl, rfl⟩ ⟨(Nat.le_of_ble_eq_true rfl), (Nat.le_of_ble_eq_true rfl)⟩ ⟨(Nat.le_of_ble_eq_true rfl), (Nat.le_of_ble_eq_true rfl)⟩ [3, 0, 2, 0] rfl 7 2 rfl rfl rfl rfl (Nat.le_of_ble_eq_true rfl) rfl (fun _ _ => rfl) dX10_barFor_11 (fun u0 w0 => ?_)
    refine V_ws [(h0, oC 2 [.ref h1, .ref g0, .ref g1, .ref g2, .ref h3, .ref h5, .ref g3, .ref g4, .ref g5, .ref g6, .ref g7, .int 0]), (h1, oC 3 [.ref h2, .int 1]), (h2, aI Y 6 (upd (fun _ => 0) 0 (-1))), (h3, oC 7 [.ref h4, .int 0]), (h4, aJ Y 6 (fun _ => 0)), (h5, oC 3 [.ref g8, .int 0]), (h6, oC 11 [.ref h0, .ref g9, .ref g10, .ref h7, .ref g11]), (h7, oC 7 [.ref h8, .int 0]), (h8, aJ Y 86 (fun _ => 0))] rfl ?_
    refine V_iconst 14 B (v := 0) dX10_barFor_14 (by decide +kernel) ?_
    refine V_istore_n 15 B (lv2 := [(3, .int 0), (0, .ref h6), (1, .int 0), (2, .int 0)]) dX10_barFor_15 (by decide) rfl ?_
    refine V_iload_n 16 B dX10_barFor_16 0 rfl ?_
    refine V_aload_n 17 B dX10_barFor_17 1 rfl ?_
    refine V_get 18 B gf_RX10_9 6 rfl rfl dX10_barFor_18 ?_
    refine V_get 21 B gf_RX10_53 0 rfl rfl dX10_barFor_21 ?_
    refine V_cvi 24 B (st := [.int 0]) (As := []) (fun sz => mX1_size_1 l D Y (h5) (g8) sz) glV_RX10_62 ⟨rfl, rfl⟩ ⟨(Nat.le_of_ble_eq_true rfl), (Nat.le_of_ble_eq_true rfl)⟩ ⟨(Nat.le_of_ble_eq_true rfl), (Nat.le_of_ble_eq_true rfl)⟩ [5] rfl 3 0 rfl rfl rfl rfl (Nat.le_of_ble_eq_true rfl) rfl (fun _ _ _ => rfl) dX10_barFor_24 (fun r1 u1 w1 => ?_)
    obtain rfl := w1
    refine V_ws [(h0, oC 2 [.ref h1, .ref g0, .ref g1, .ref g2, .ref h3, .ref h5, .ref g3, .ref g4, .ref g5, .ref g6, .ref g7, .int 0]), (h1, oC 3 [.ref h2, .int 1]), (h2, aI Y 6 (upd (fun _ => 0) 0 (-1))), (h3, oC 7 [.ref h4, .int 0]), (h4, aJ Y 6 (fun _ => 0)), (h5, oC 3 [.ref g8, .int 0]), (h6, oC 11 [.ref h0, .ref g9, .ref g10, .ref h7, .ref g11]), (h7, oC 7 [.ref h8, .int 0]), (h8, aJ Y 86 (fun _ => 0))] rfl ?_
    refine V_icmp_ge_t 27 B 70 dX10_barFor_27 (by decide) (by decide +kernel) ?_
    refine V_aload_n 70 B dX10_barFor_70 1 rfl ?_
    refine V_get 71 B gf_RX10_9 6 rfl rfl dX10_barFor_71 ?_
    refine V_get 74 B gf_RX10_44 0 rfl rfl dX10_barFor_74 ?_
    refine V_iload_n 77 B dX10_barFor_77 2 rfl ?_
    refine V_cvi 78 B (st := []) (As := [.int 0]) (fun sz => mX1_at_1 l D Y (h1) (h2) sz) glV_RX10_49 ⟨rfl, rfl⟩ ⟨(Nat.le_of_ble_eq_true rfl), (Nat.le_of_ble_eq_true rfl)⟩ ⟨(Nat.le_of_ble_eq_true rfl), (Nat.le_of_ble_eq_true rfl)⟩ [1, 0] rfl 3 0 rfl rfl rfl rfl (Nat.le_of_ble_eq_true rfl) rfl (fun _ _ _ => rfl) dX10_barFor_78 (fun r2 u2 w2 => ?_)
    obtain rfl := w2
    refine V_ws [(h0, oC 2 [.ref h1, .ref g0, .ref g1, .ref g2, .ref h3, .ref h5, .ref g3, .ref g4, .ref g5, .ref g6, .ref g7, .int 0]), (h1, oC 3 [.ref h2, .int 1]), (h2, aI Y 6 (upd (fun _ => 0) 0 (-1))), (h3, oC 7 [.ref h4, .int 0]), (h4, aJ Y 6 (fun _ => 0)), (h5, oC 3 [.ref g8, .int 0]), (h6, oC 11 [.ref h0, .ref g9, .ref g10, .ref h7, .ref g11]), (h7, oC 7 [.ref h8, .int 0]), (h8, aJ Y 86 (fun _ => 0))] rfl ?_
    refine V_istore_n 81 B (lv2 := [(3, .int (-1)), (0, .ref h6), (1, .int 0), (2, .int 0)]) dX10_barFor_81 (by decide) rfl ?_
    refine V_iload_n 82 B dX10_barFor_82 3 rfl ?_
    refine V_if_ne_f 83 B 91 dX10_barFor_83 (by decide) (by decide +kernel) ?_
    refine V_iload_n 86 B dX10_barFor_86 0 rfl ?_
    refine V_iconst 87 B (v := (-1)) dX10_barFor_87 (by decide +kernel) ?_
    refine V_icmp_ne_f 88 B 92 dX10_barFor_88 (by decide) (by decide +kernel) ?_
    exact V_vret 91 B dX10_barFor_91 () trivial rfl)
set_option maxRecDepth 100000 in
set_option maxHeartbeats 4000000 in
theorem mX11_cheapest_2 (l : Launch) (hl9 : l.stackTraces = false) (D : va_G) (Y : Nat → ClassId) (h0 : Nat) (h1 : Nat) (g0 : Nat) (g1 : Nat) (g2 : Nat) (h7 : Nat) (g3 : Nat) (g4 : Nat) (g5 : Nat) (g6 : Nat) (h2 : Nat) (g7 : Nat) (g8 : Nat) (g9 : Nat) (h4 : Nat) (h6 : Nat) (g10 : Nat) (g11 : Nat) (g12 : Nat) (g13 : Nat) (g14 : Nat) (h3 : Nat) (h5 : Nat) (g15 : Nat) (g16 : Nat) (g17 : Nat) (h8 : Nat) (g18 : Nat) (h9 : Nat) (p0 : Int32) (p1 : Int32) (sz : Nat) : vx_Met l yX11_cheapest (WSm yX11_cheapest cX11_cheapest 6 (some .int)) (mkR 7 2 12 146) (PreX D Y [.ref h0, .int p0, .int p1, .int 0] [(h0, oC 12 [.ref h1, .ref g0, .ref g1, .ref g2, .ref h7, .ref g3, .ref g4, .ref g5, .ref g6, .long 0]), (h1, oC 2 [.ref h2, .ref g7, .ref g8, .ref g9, .ref h4, .ref h6, .ref g10, .ref g11, .ref g12, .ref g13, .ref g14, .int 0]), (h2, oC 3 [.ref h3, .int 1]), (h3, aI Y 6 (upd (fun _ => 0) 0 (-1))), (h4, oC 7 [.ref h5, .int 0]), (h5, aJ Y 6 (fun _ => 0)), (h6, oC 3 [.ref g15, .int 0]), (h7, oC 11 [.ref h1, .ref g16, .ref g17, .ref h8, .ref g18]), (h8, oC 7 [.ref h9, .int 0]), (h9, aJ Y 86 (fun _ => 0))] sz) (QI D (fun (r : Int32) (u : Nat) => (u = 0 ∧ p0 = 0 ∧ ¬ p1 < 1 ∧ p1 ≤ 2 ∧ ¬ p1 = 1 ∧ 2 = r) ∨ (u = 1 ∧ p0 = 0 ∧ p1 = 1 ∧ 1 = r)) (fun (u : Nat) => match u with | 0 => [(h0, oC 12 [.ref h1, .ref g0, .ref g1, .ref g2, .ref h7, .ref g3, .ref g4, .ref g5, .ref g6, .long 134479872]), (h1, oC 2 [.ref h2, .ref g7, .ref g8, .ref g9, .ref h4, .ref h6, .ref g10, .ref g11, .ref g12, .ref g13, .ref g14, .int 0]), (h2, oC 3 [.ref h3, .int 1]), (h3, aI Y 6 (upd (fun _ => 0) 0 (-1))), (h4, oC 7 [.ref h5, .int 0]), (h5, aJ Y 6 (fun _ => 0)), (h6, oC 3 [.ref g15, .int 0]), (h7, oC 11 [.ref h1, .ref g16, .ref g17, .ref h8, .ref g18]), (h8, oC 7 [.ref h9, .int 0]), (h9, aJ Y 86 (fun _ => 0))] | _ => [(h0, oC 12 [.ref h1, .ref g0, .ref g1, .ref g2, .ref h7, .ref g3, .ref g4, .ref g5, .ref g6, .long 134217728]), (h1, oC 2 [.ref h2, .ref g7, .ref g8, .ref g9, .ref h4, .ref h6, .ref g10, .ref g11, .ref g12, .ref g13, .ref g14, .int 0]), (h2, oC 3 [.ref h3, .int 1]), (h3, aI Y 6 (upd (fun _ => 0) 0 (-1))), (h4, oC 7 [.ref h5, .int 0]), (h5, aJ Y 6 (fun _ => 0)), (h6, oC 3 [.ref g15, .int 0]), (h7, oC 11 [.ref h1, .ref g16, .ref g17, .ref h8, .ref g18]), (h8, oC 7 [.ref h9, .int 0]), (h9, aJ Y 86 (fun _ => 0))]) (va_A [(h0, oC 12 [.ref h1, .ref g0, .ref g1, .ref g2, .ref h7, .ref g3, .ref g4, .ref g5, .ref g6, .long 0]), (h1, oC 2 [.ref h2, .ref g7, .ref g8, .ref g9, .ref h4, .ref h6, .ref g10, .ref g11, .ref g12, .ref g13, .ref g14, .int 0]), (h2, oC 3 [.ref h3, .int 1]), (h3, aI Y 6 (upd (fun _ => 0) 0 (-1))), (h4, oC 7 [.ref h5, .int 0]), (h5, aJ Y 6 (fun _ => 0)), (h6, oC 3 [.ref g15, .int 0]), (h7, oC 11 [.ref h1, .ref g16, .ref g17, .ref h8, .ref g18]), (h8, oC 7 [.ref h9, .int 0]), (h9, aJ Y 86 (fun _ => 0))] sz)) (XW D (fun (E : String) (u : Unit) => (E = "java/lang/IndexOutOfBoundsException" ∧ p0 < 0) ∨ (E = "java/lang/IndexOutOfBoundsException" ∧ ¬ p0 < 0 ∧ 1 ≤ p0) ∨ (E = "java/lang/IllegalArgumentException" ∧ p0 = 0 ∧ p1 < 1) ∨ (E = "java/lang/IllegalArgumentException" ∧ p0 = 0 ∧ ¬ p1 < 1 ∧ ¬ p1 ≤ 2)) (fun (_ : Unit) => [(h0, oC 12 [.ref h1, .ref g0, .ref g1, .ref g2, .ref h7, .ref g3, .ref g4, .ref g5, .ref g6, .long 0]), (h1, oC 2 [.ref h2, .ref g7, .ref g8, .ref g9, .ref h4, .ref h6, .ref g10, .ref g11, .ref g12, .ref g13, .ref g14, .int 0]), (h2, oC 3 [.ref h3, .int 1]), (h3, aI Y 6 (upd (fun _ => 0) 0 (-1))), (h4, oC 7 [.ref h5, .int 0]), (h5, aJ Y 6 (fun _ => 0)), (h6, oC 3 [.ref g15, .int 0]), (h7, oC 11 [.ref h1, .ref g16, .ref g17, .ref h8, .ref g18]), (h8, oC 7 [.ref h9, .int 0]), (h9, aJ Y 86 (fun _ => 0))]) (va_A [(h0, oC 12 [.ref h1, .ref g0, .ref g1, .ref g2, .ref h7, .ref g3, .ref g4, .ref g5, .ref g6, .long 0]), (h1, oC 2 [.ref h2, .ref g7, .ref g8, .ref g9, .ref h4, .ref h6, .ref g10, .ref g11, .ref g12, .ref g13, .ref g14, .int 0]), (h2, oC 3 [.ref h3, .int 1]), (h3, aI Y 6 (upd (fun _ => 0) 0 (-1))), (h4, oC 7 [.ref h5, .int 0]), (h5, aJ Y 6 (fun _ => 0)), (h6, oC 3 [.ref g15, .int 0]), (h7, oC 11 [.ref h1, .ref g16, .ref g17, .ref h8, .ref g18]), (h8, oC 7 [.ref h9, .int 0]), (h9, aJ Y 86 (fun _ => 0))] sz)) 2 12 (va_A [(h0, oC 12 [.ref h1, .ref g0, .ref g1, .ref g2, .ref h7, .ref g3, .ref g4, .ref g5, .ref g6, .long 0]), (h1, oC 2 [.ref h2, .ref g7, .ref g8, .ref g9, .ref h4, .ref h6, .ref g10, .ref g11, .ref g12, .ref g13, .ref g14, .int 0]), (h2, oC 3 [.ref h3, .int 1]), (h3, aI Y 6 (upd (fun _ => 0) 0 (-1))), (h4, oC 7 [.ref h5, .int 0]), (h5, aJ Y 6 (fun _ => 0)), (h6, oC 3 [.ref g15, .int 0]), (h7, oC 11 [.ref h1, .ref g16, .ref g17, .ref h8, .ref g18]), (h8, oC 7 [.ref h9, .int 0]), (h9, aJ Y 86 (fun _ => 0))] sz) :=
  xmet_of (by decide +kernel) (Nat.le_of_ble_eq_true rfl) (fun p e s m args below meth c B EB hout hsz => by
    have B : VB p s m args meth c D Y (va_A [(h0, oC 12 [.ref h1, .ref g0, .ref g1, .ref g2, .ref h7, .ref g3, .ref g4, .ref g5, .ref g6, .long 0]), (h1, oC 2 [.ref h2, .ref g7, .ref g8, .ref g9, .ref h4, .ref h6, .ref g10, .ref g11, .ref g12, .ref g13, .ref g14, .int 0]), (h2, oC 3 [.ref h3, .int 1]), (h3, aI Y 6 (upd (fun _ => 0) 0 (-1))), (h4, oC 7 [.ref h5, .int 0]), (h5, aJ Y 6 (fun _ => 0)), (h6, oC 3 [.ref g15, .int 0]), (h7, oC 11 [.ref h1, .ref g16, .ref g17, .ref h8, .ref g18]), (h8, oC 7 [.ref h9, .int 0]), (h9, aJ Y 86 (fun _ => 0))] sz) cX11_cheapest 6 RX11 (some .int) := B
    refine V_aload_n 0 B dX11_cheapest_0 0 rfl ?_
    refine V_iload_n 1 B dX11_cheapest_1 1 rfl ?_
    refine V_xvv 2 B EB (st := []) (As := [.int p0]) (fun sz => mX11_needMode_1 l hl9 D Y (h0) (h1) (g0) (g1) (g2) (h7) (g3) (g4) (g5) (g6) (h2) (g7) (g8) (g9) (h4) (h6) (g10) (g11) (g12) (g13) (g14) (h3) (p0) sz) glV_RX11_180 ⟨rfl, rfl⟩ ⟨(Nat.le_of_ble_eq_true rfl), (Nat.le_of_ble_eq_true rfl)⟩ ⟨(Nat.le_of_ble_eq_true rfl), (Nat.le_of_ble_eq_true rfl)⟩ [0, 0, 0] rfl 12 0 rfl rfl rfl rfl (Nat.le_of_ble_eq_true rfl) rfl (fun _ _ => rfl) (fun _ _ _ => rfl) dX11_cheapest_2 (fun E u0 w0 => ?_) (fun u0 w0 => ?_)
    ·
      rcases w0 with ⟨rfl, k1⟩ | ⟨rfl, k2, k3⟩
      ·
        exact VX_out 2 B hout () (Or.inl ⟨rfl, k1⟩) rfl (Nat.le_of_ble_eq_true rfl) (Nat.le_of_ble_eq_true rfl)
      ·
        exact VX_out 2 B hout () (Or.inr (Or.inl ⟨rfl, k2, k3⟩)) rfl (Nat.le_of_ble_eq_true rfl) (Nat.le_of_ble_eq_true rfl)
    ·
      have k4 := w0
      refine V_ws [(h0, oC 12 [.ref h1, .ref g0, .ref g1, .ref g2, .ref h7, .ref g3, .ref g4, .ref g5, .ref g6, .long 0]), (h1, oC 2 [.ref h2, .ref g7, .ref g8, .ref g9, .ref h4, .ref h6, .ref g10, .ref g11, .ref g12, .ref g13, .ref g14, .int 0]), (h2, oC 3 [.ref h3, .int 1]), (h3, aI Y 6 (upd (fun _ => 0) 0 (-1))), (h4, oC 7 [.ref h5, .int 0]), (h5, aJ Y 6 (fun _ => 0)), (h6, oC 3 [.ref g15, .int 0]), (h7, oC 11 [.ref h1, .ref g16, .ref g17, .ref h8, .ref g18]), (h8, oC 7 [.ref h9, .int 0]), (h9, aJ Y 86 (fun _ => 0))] rfl ?_
      obtain rfl : p0 = 0 := k4
      refine V_iload_n 5 B dX11_cheapest_5 2 rfl ?_
      refine V_iconst 6 B (v := 1) dX11_cheapest_6 (by decide +kernel) ?_
      refine V_icmp_lt 7 B 15 dX11_cheapest_7 (by decide) (fun k5 => ?_) (fun k5 => ?_)
      ·
        exact V_throwSW 15 B EB hl9 gt_RX11_190_308_194 hout dX11_cheapest_15 dX11_cheapest_18 dX11_cheapest_19 dX11_cheapest_22 dX11_cheapest_25 (Nat.le_of_ble_eq_true rfl) (Nat.le_of_ble_eq_true rfl) (Nat.le_of_ble_eq_true rfl) (Nat.le_of_ble_eq_true rfl) (Nat.le_of_ble_eq_true rfl) (Nat.le_of_ble_eq_true rfl) () (Or.inr (Or.inr (Or.inl ⟨rfl, rfl, k5⟩))) rfl
      ·
        refine V_iload_n 10 B dX11_cheapest_10 2 rfl ?_
        refine V_iconst 11 B (v := 2) dX11_cheapest_11 (by decide +kernel) ?_
        refine V_icmp_le 12 B 26 dX11_cheapest_12 (by decide) (fun k6 => ?_) (fun k6 => ?_)
        ·
          refine V_aload_n 26 B dX11_cheapest_26 0 rfl ?_
          refine V_get 27 B gf_RX11_30 0 rfl rfl dX11_cheapest_27 ?_
          refine V_iload_n 30 B dX11_cheapest_30 1 rfl ?_
          refine V_iload_n 31 B dX11_cheapest_31 3 rfl ?_
          refine V_cvv 32 B (st := []) (As := [.int 0, .int 0]) (fun sz => mX10_barFor_3 l D Y (h7) (h1) (h2) (g7) (g8) (g9) (h4) (h6) (g10) (g11) (g12) (g13) (g14) (h3) (h5) (g15) (g16) (g17) (h8) (g18) (h9) sz) glV_RX11_301 ⟨rfl, rfl⟩ ⟨(Nat.le_of_ble_eq_true rfl), (Nat.le_of_ble_eq_true rfl)⟩ ⟨(Nat.le_of_ble_eq_true rfl), (Nat.le_of_ble_eq_true rfl)⟩ [1, 0, 0, 0, 0, 0, 0, 0, 0] rfl 11 6 rfl rfl rfl rfl (Nat.le_of_ble_eq_true rfl) rfl (fun _ _ => rfl) dX11_cheapest_32 (fun u7 w7 => ?_)
          refine V_ws [(h0, oC 12 [.ref h1, .ref g0, .ref g1, .ref g2, .ref h7, .ref g3, .ref g4, .ref g5, .ref g6, .long 0]), (h1, oC 2 [.ref h2, .ref g7, .ref g8, .ref g9, .ref h4, .ref h6, .ref g10, .ref g11, .ref g12, .ref g13, .ref g14, .int 0]), (h2, oC 3 [.ref h3, .int 1]), (h3, aI Y 6 (upd (fun _ => 0) 0 (-1))), (h4, oC 7 [.ref h5, .int 0]), (h5, aJ Y 6 (fun _ => 0)), (h6, oC 3 [.ref g15, .int 0]), (h7, oC 11 [.ref h1, .ref g16, .ref g17, .ref h8, .ref g18]), (h8, oC 7 [.ref h9, .int 0]), (h9, aJ Y 86 (fun _ => 0))] rfl ?_
          refine V_iload_n 35 B dX11_cheapest_35 2 rfl ?_
          refine V_iconst 36 B (v := 1) dX11_cheapest_36 (by decide +kernel) ?_
          refine V_icmp_ne 37 B 50 dX11_cheapest_37 (by decide) (fun k8 => ?_) (fun k8 => ?_)
          ·
            refine V_aload_n 50 B dX11_cheapest_50 0 rfl ?_
            refine V_get 51 B gf_RX11_30 0 rfl rfl dX11_cheapest_51 ?_
            refine V_kvl 54 B EB (st := []) (As := []) (fun sz => mX10_cheapestPair_1 l D Y (h7) (h1) (g16) (g17) (h8) (g18) (h9) sz) glV_RX11_314 ⟨rfl, rfl⟩ ⟨(Nat.le_of_ble_eq_true rfl), (Nat.le_of_ble_eq_true rfl)⟩ ⟨(Nat.le_of_ble_eq_true rfl), (Nat.le_of_ble_eq_true rfl)⟩ [7, 0] rfl 11 0 rfl rfl rfl rfl (Nat.le_of_ble_eq_true rfl) rfl (fun _ _ _ => rfl) dX11_cheapest_54 (fun r9 u9 w9 => ?_)
            obtain rfl := w9
            refine V_ws [(h0, oC 12 [.ref h1, .ref g0, .ref g1, .ref g2, .ref h7, .ref g3, .ref g4, .ref g5, .ref g6, .long 0]), (h1, oC 2 [.ref h2, .ref g7, .ref g8, .ref g9, .ref h4, .ref h6, .ref g10, .ref g11, .ref g12, .ref g13, .ref g14, .int 0]), (h2, oC 3 [.ref h3, .int 1]), (h3, aI Y 6 (upd (fun _ => 0) 0 (-1))), (h4, oC 7 [.ref h5, .int 0]), (h5, aJ Y 6 (fun _ => 0)), (h6, oC 3 [.ref g15, .int 0]), (h7, oC 11 [.ref h1, .ref g16, .ref g17, .ref h8, .ref g18]), (h8, oC 7 [.ref h9, .int 0]), (h9, aJ Y 86 (fun _ => 0))] rfl ?_
            refine V_lstore 57 B (lv2 := [(4, .long 134479872), (0, .ref h0), (1, .int 0), (2, .int p1), (3, .int 0)]) dX11_cheapest_57 (by decide) rfl ?_
            refine V_lload 59 B dX11_cheapest_59 0 rfl ?_
            refine V_lconst 61 B (v := 0) dX11_cheapest_61 (by decide +kernel) ?_
            refine V_lcmp 62 B (v := 1) dX11_cheapest_62 (by decide +kernel) ?_
            refine V_if_ne_t 63 B 68 dX11_cheapest_63 (by decide) (by decide +kernel) ?_
            refine V_aload_n 68 B dX11_cheapest_68 1 rfl ?_
            refine V_lload 69 B dX11_cheapest_69 0 rfl ?_
            refine V_put 71 B gp_RX11_68 0 rfl (Nat.le_of_ble_eq_true rfl) rfl rfl dX11_cheapest_71 [(h0, oC 12 [.ref h1, .ref g0, .ref g1, .ref g2, .ref h7, .ref g3, .ref g4, .ref g5, .ref g6, .long 134479872]), (h1, oC 2 [.ref h2, .ref g7, .ref g8, .ref g9, .ref h4, .ref h6, .ref g10, .ref g11, .ref g12, .ref g13, .ref g14, .int 0]), (h2, oC 3 [.ref h3, .int 1]), (h3, aI Y 6 (upd (fun _ => 0) 0 (-1))), (h4, oC 7 [.ref h5, .int 0]), (h5, aJ Y 6 (fun _ => 0)), (h6, oC 3 [.ref g15, .int 0]), (h7, oC 11 [.ref h1, .ref g16, .ref g17, .ref h8, .ref g18]), (h8, oC 7 [.ref h9, .int 0]), (h9, aJ Y 86 (fun _ => 0))] rfl ?_
            refine V_lload 74 B dX11_cheapest_74 0 rfl ?_
            refine V_ksi 76 B EB (st := []) (As := [.long 134479872]) (fun sz => mX6_costOf_2 l D Y  sz) glS_RX11_177 ⟨rfl, rfl⟩ ⟨(Nat.le_of_ble_eq_true rfl), (Nat.le_of_ble_eq_true rfl)⟩ ⟨(Nat.le_of_ble_eq_true rfl), (Nat.le_of_ble_eq_true rfl)⟩ [] rfl rfl (Nat.le_of_ble_eq_true rfl) rfl (fun _ _ _ => rfl) dX11_cheapest_76 (fun r10 u10 w10 => ?_)
            obtain rfl := w10
            refine V_ws [(h0, oC 12 [.ref h1, .ref g0, .ref g1, .ref g2, .ref h7, .ref g3, .ref g4, .ref g5, .ref g6, .long 134479872]), (h1, oC 2 [.ref h2, .ref g7, .ref g8, .ref g9, .ref h4, .ref h6, .ref g10, .ref g11, .ref g12, .ref g13, .ref g14, .int 0]), (h2, oC 3 [.ref h3, .int 1]), (h3, aI Y 6 (upd (fun _ => 0) 0 (-1))), (h4, oC 7 [.ref h5, .int 0]), (h5, aJ Y 6 (fun _ => 0)), (h6, oC 3 [.ref g15, .int 0]), (h7, oC 11 [.ref h1, .ref g16, .ref g17, .ref h8, .ref g18]), (h8, oC 7 [.ref h9, .int 0]), (h9, aJ Y 86 (fun _ => 0))] rfl ?_
            refine V_xret ?_
            refine V_widen (k := 2) (n := 12) (Nat.le_of_ble_eq_true rfl) (Nat.le_of_ble_eq_true rfl) ?_
            exact V_iret 79 B dX11_cheapest_79 0 (Or.inl ⟨rfl, rfl, k5, k6, k8, rfl⟩) rfl
          ·
            obtain rfl : p1 = 1 := k8
            refine V_aload_n 40 B dX11_cheapest_40 0 rfl ?_
            refine V_get 41 B gf_RX11_30 0 rfl rfl dX11_cheapest_41 ?_
            refine V_kvl 44 B EB (st := []) (As := []) (fun sz => mX10_cheapestStroke_1 l D Y (h7) (h1) (g16) (g17) (h8) (g18) (h9) sz) glV_RX11_310 ⟨rfl, rfl⟩ ⟨(Nat.le_of_ble_eq_true rfl), (Nat.le_of_ble_eq_true rfl)⟩ ⟨(Nat.le_of_ble_eq_true rfl), (Nat.le_of_ble_eq_true rfl)⟩ [7, 0] rfl 11 0 rfl rfl rfl rfl (Nat.le_of_ble_eq_true rfl) rfl (fun _ _ _ => rfl) dX11_cheapest_44 (fun r11 u11 w11 => ?_)
            obtain rfl := w11
            refine V_ws [(h0, oC 12 [.ref h1, .ref g0, .ref g1, .ref g2, .ref h7, .ref g3, .ref g4, .ref g5, .ref g6, .long 0]), (h1, oC 2 [.ref h2, .ref g7, .ref g8, .ref g9, .ref h4, .ref h6, .ref g10, .ref g11, .ref g12, .ref g13, .ref g14, .int 0]), (h2, oC 3 [.ref h3, .int 1]), (h3, aI Y 6 (upd (fun _ => 0) 0 (-1))), (h4, oC 7 [.ref h5, .int 0]), (h5, aJ Y 6 (fun _ => 0)), (h6, oC 3 [.ref g15, .int 0]), (h7, oC 11 [.ref h1, .ref g16, .ref g17, .ref h8, .ref g18]), (h8, oC 7 [.ref h9, .int 0]), (h9, aJ Y 86 (fun _ => 0))] rfl ?_
            refine V_goto 47 B 57 dX11_cheapest_47 (by decide) ?_
            refine V_lstore 57 B (lv2 := [(4, .long 134217728), (0, .ref h0), (1, .int 0), (2, .int 1), (3, .int 0)]) dX11_cheapest_57 (by decide) rfl ?_
            refine V_lload 59 B dX11_cheapest_59 0 rfl ?_
            refine V_lconst 61 B (v := 0) dX11_cheapest_61 (by decide +kernel) ?_
            refine V_lcmp 62 B (v := 1) dX11_cheapest_62 (by decide +kernel) ?_
            refine V_if_ne_t 63 B 68 dX11_cheapest_63 (by decide) (by decide +kernel) ?_
            refine V_aload_n 68 B dX11_cheapest_68 1 rfl ?_
            refine V_lload 69 B dX11_cheapest_69 0 rfl ?_
            refine V_put 71 B gp_RX11_68 0 rfl (Nat.le_of_ble_eq_true rfl) rfl rfl dX11_cheapest_71 [(h0, oC 12 [.ref h1, .ref g0, .ref g1, .ref g2, .ref h7, .ref g3, .ref g4, .ref g5, .ref g6, .long 134217728]), (h1, oC 2 [.ref h2, .ref g7, .ref g8, .ref g9, .ref h4, .ref h6, .ref g10, .ref g11, .ref g12, .ref g13, .ref g14, .int 0]), (h2, oC 3 [.ref h3, .int 1]), (h3, aI Y 6 (upd (fun _ => 0) 0 (-1))), (h4, oC 7 [.ref h5, .int 0]), (h5, aJ Y 6 (fun _ => 0)), (h6, oC 3 [.ref g15, .int 0]), (h7, oC 11 [.ref h1, .ref g16, .ref g17, .ref h8, .ref g18]), (h8, oC 7 [.ref h9, .int 0]), (h9, aJ Y 86 (fun _ => 0))] rfl ?_
            refine V_lload 74 B dX11_cheapest_74 0 rfl ?_
            refine V_ksi 76 B EB (st := []) (As := [.long 134217728]) (fun sz => mX6_costOf_3 l D Y  sz) glS_RX11_177 ⟨rfl, rfl⟩ ⟨(Nat.le_of_ble_eq_true rfl), (Nat.le_of_ble_eq_true rfl)⟩ ⟨(Nat.le_of_ble_eq_true rfl), (Nat.le_of_ble_eq_true rfl)⟩ [] rfl rfl (Nat.le_of_ble_eq_true rfl) rfl (fun _ _ _ => rfl) dX11_cheapest_76 (fun r12 u12 w12 => ?_)
            obtain rfl := w12
            refine V_ws [(h0, oC 12 [.ref h1, .ref g0, .ref g1, .ref g2, .ref h7, .ref g3, .ref g4, .ref g5, .ref g6, .long 134217728]), (h1, oC 2 [.ref h2, .ref g7, .ref g8, .ref g9, .ref h4, .ref h6, .ref g10, .ref g11, .ref g12, .ref g13, .ref g14, .int 0]), (h2, oC 3 [.ref h3, .int 1]), (h3, aI Y 6 (upd (fun _ => 0) 0 (-1))), (h4, oC 7 [.ref h5, .int 0]), (h5, aJ Y 6 (fun _ => 0)), (h6, oC 3 [.ref g15, .int 0]), (h7, oC 11 [.ref h1, .ref g16, .ref g17, .ref h8, .ref g18]), (h8, oC 7 [.ref h9, .int 0]), (h9, aJ Y 86 (fun _ => 0))] rfl ?_
            refine V_xret ?_
            refine V_widen (k := 2) (n := 12) (Nat.le_of_ble_eq_true rfl) (Nat.le_of_ble_eq_true rfl) ?_
            exact V_iret 79 B dX11_cheapest_79 1 (Or.inr ⟨rfl, rfl, rfl, rfl⟩) rfl
        ·
          exact V_throwSW 15 B EB hl9 gt_RX11_190_308_194 hout dX11_cheapest_15 dX11_cheapest_18 dX11_cheapest_19 dX11_cheapest_22 dX11_cheapest_25 (Nat.le_of_ble_eq_true rfl) (Nat.le_of_ble_eq_true rfl) (Nat.le_of_ble_eq_true rfl) (Nat.le_of_ble_eq_true rfl) (Nat.le_of_ble_eq_true rfl) (Nat.le_of_ble_eq_true rfl) () (Or.inr (Or.inr (Or.inr ⟨rfl, rfl, k5, k6⟩))) rfl)
