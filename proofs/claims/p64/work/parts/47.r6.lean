theorem dX12_isBound_0 : decode cX12_isBound 0 = .ok (.aload_n 0, 1) := by decide +kernel
theorem dX12_isBound_1 : decode cX12_isBound 1 = .ok (.getfield 28, 3) := by decide +kernel
theorem dX12_isBound_4 : decode cX12_isBound 4 = .ok (.iload_n 1, 1) := by decide +kernel
theorem dX12_isBound_5 : decode cX12_isBound 5 = .ok (.iconst 1, 1) := by decide +kernel
theorem dX12_isBound_6 : decode cX12_isBound 6 = .ok (.iadd, 1) := by decide +kernel
theorem dX12_isBound_7 : decode cX12_isBound 7 = .ok (.iaload, 1) := by decide +kernel
theorem dX12_isBound_8 : decode cX12_isBound 8 = .ok (.istore_n 2, 1) := by decide +kernel
theorem dX12_isBound_9 : decode cX12_isBound 9 = .ok (.aload_n 0, 1) := by decide +kernel
theorem dX12_isBound_10 : decode cX12_isBound 10 = .ok (.getfield 28, 3) := by decide +kernel
theorem dX12_isBound_13 : decode cX12_isBound 13 = .ok (.iload_n 1, 1) := by decide +kernel
theorem dX12_isBound_14 : decode cX12_isBound 14 = .ok (.iconst 2, 1) := by decide +kernel
theorem dX12_isBound_15 : decode cX12_isBound 15 = .ok (.iadd, 1) := by decide +kernel
theorem dX12_isBound_16 : decode cX12_isBound 16 = .ok (.iaload, 1) := by decide +kernel
theorem dX12_isBound_17 : decode cX12_isBound 17 = .ok (.istore_n 3, 1) := by decide +kernel
theorem dX12_isBound_18 : decode cX12_isBound 18 = .ok (.aload_n 0, 1) := by decide +kernel
theorem dX12_isBound_19 : decode cX12_isBound 19 = .ok (.iload_n 2, 1) := by decide +kernel
theorem dX12_isBound_20 : decode cX12_isBound 20 = .ok (.invokevirtual 91, 3) := by decide +kernel
theorem dX12_isMode_0 : decode cX12_isMode 0 = .ok (.iload_n 1, 1) := by decide +kernel
theorem dX12_isMode_1 : decode cX12_isMode 1 = .ok (.i2l, 1) := by decide +kernel
theorem dX12_isMode_2 : decode cX12_isMode 2 = .ok (.lconst 0, 1) := by decide +kernel
theorem dX12_isMode_3 : decode cX12_isMode 3 = .ok (.aload_n 0, 1) := by decide +kernel
theorem dX12_isMode_4 : decode cX12_isMode 4 = .ok (.getfield 9, 3) := by decide +kernel
theorem dX12_isMode_7 : decode cX12_isMode 7 = .ok (.iconst 0, 1) := by decide +kernel
theorem dX12_isMode_8 : decode cX12_isMode 8 = .ok (.iaload, 1) := by decide +kernel
theorem dX12_isMode_9 : decode cX12_isMode 9 = .ok (.iconst 1, 1) := by decide +kernel
theorem dX12_isMode_10 : decode cX12_isMode 10 = .ok (.isub, 1) := by decide +kernel
theorem dX12_isMode_11 : decode cX12_isMode 11 = .ok (.i2l, 1) := by decide +kernel
theorem dX12_isMode_12 : decode cX12_isMode 12 = .ok (.invokestatic 41, 3) := by decide +kernel
theorem dX12_isMode_15 : decode cX12_isMode 15 = .ok (.ireturn, 1) := by decide +kernel
set_option maxRecDepth 100000 in
set_option maxHeartbeats 4000000 in
theorem rX12_isMode (l : Launch) (D : va_G) (Y : Nat → ClassId) (h0 : Nat) (h1 : Nat) (h2 : Nat) (h3 : Nat) (h4 : Nat) (h5 : Nat) (h6 : Nat) (p2 : Int32) (k5 : Nat) (k6 : Nat) (p7 : Int32) (p8 : Int32) (p9 : Int32) (k10 : Nat) (p11 : Int32) (q12 : Int64) (k15 : Nat) (k16 : Nat) (f0 : Nat → Int32) (f1 : Nat → Int32) (f3 : Nat → Int32) (f4 : Nat → Int32) (f13 : Nat → Int32) (f14 : Nat → Int32) (HI : INV f0) (HL : k5 ≤ 1600) (HP : PLV f13) (s0 : Int32)  (sz : Nat) : Met l yX12_isMode (WSm yX12_isMode cX12_isMode 2 (some .boolean)) (mkR 1 0 0 25) (PreC D Y [.ref h0, .int s0] [(h0, oC 13 [.ref h1, .ref h2, .int p2, .ref h3, .ref h4, .int (nI k5), .int (nI k6), .int p7, .int p8, .int p9, .int (nI k10), .int p11, .long q12, .ref h5, .ref h6, .int (nI k15), .int (nI k16)]), (h1, aI Y 3640 f0), (h2, aZ Y 2 f1), (h3, aZ Y 80 f3), (h4, aB Y 1600 f4), (h5, aI Y 200 f13), (h6, aI Y 800 f14)] sz) (QI D (fun (r : Int32) (u : WU) => (r = 0 ∨ (r = 1 ∧ ∃ m : Nat, s0 = nI m ∧ m < gN f0 0))) (fun (u : WU) => [(h0, oC 13 [.ref h1, .ref h2, .int p2, .ref h3, .ref h4, .int (nI k5), .int (nI k6), .int p7, .int p8, .int p9, .int (nI k10), .int p11, .long q12, .ref h5, .ref h6, .int (nI k15), .int (nI k16)]), (h1, aI Y 3640 f0), (h2, aZ Y 2 f1), (h3, aZ Y 80 f3), (h4, aB Y 1600 f4), (h5, aI Y 200 f13), (h6, aI Y 800 f14)]) (va_A [(h0, oC 13 [.ref h1, .ref h2, .int p2, .ref h3, .ref h4, .int (nI k5), .int (nI k6), .int p7, .int p8, .int p9, .int (nI k10), .int p11, .long q12, .ref h5, .ref h6, .int (nI k15), .int (nI k16)]), (h1, aI Y 3640 f0), (h2, aZ Y 2 f1), (h3, aZ Y 80 f3), (h4, aB Y 1600 f4), (h5, aI Y 200 f13), (h6, aI Y 800 f14)] sz)) 0 0 (va_A [(h0, oC 13 [.ref h1, .ref h2, .int p2, .ref h3, .ref h4, .int (nI k5), .int (nI k6), .int p7, .int p8, .int p9, .int (nI k10), .int p11, .long q12, .ref h5, .ref h6, .int (nI k15), .int (nI k16)]), (h1, aI Y 3640 f0), (h2, aZ Y 2 f1), (h3, aZ Y 80 f3), (h4, aB Y 1600 f4), (h5, aI Y 200 f13), (h6, aI Y 800 f14)] sz) :=
  met_of  (by decide +kernel) (Nat.le_of_ble_eq_true rfl) (fun p e s m args below meth c B hin hsz => by
    have B : VB p s m args meth c D Y (va_A [(h0, oC 13 [.ref h1, .ref h2, .int p2, .ref h3, .ref h4, .int (nI k5), .int (nI k6), .int p7, .int p8, .int p9, .int (nI k10), .int p11, .long q12, .ref h5, .ref h6, .int (nI k15), .int (nI k16)]), (h1, aI Y 3640 f0), (h2, aZ Y 2 f1), (h3, aZ Y 80 f3), (h4, aB Y 1600 f4), (h5, aI Y 200 f13), (h6, aI Y 800 f14)] sz) cX12_isMode 2 RX12 (some .boolean) := B
    refine V_iload_n 0 B dX12_isMode_0 1 rfl ?_
    refine V_i2l 1 B dX12_isMode_1 rfl ?_
    refine V_nml (fun o0 e1 => ?_)
    have x2 : o0.toInt = s0.toInt := by rw [e1, Int32.toInt_toInt64]
    refine V_lconst 2 B (v := 0) dX12_isMode_2 (by decide +kernel) ?_
    refine V_aload_n 3 B dX12_isMode_3 0 rfl ?_
    refine V_get 4 B gf_RX12_9 0 rfl rfl dX12_isMode_4 ?_
    refine V_iconst 7 B (v := 0) dX12_isMode_7 (by decide +kernel) ?_
    have x3 : (gN f0 0) ≤ 6 := gN_le HI (by omega) (show bd 0 = (0, ((6 : Nat) : Int)) by decide +kernel)
    refine V_iald 8 B (v := (nI (gN f0 0))) 1 rfl (vpin _ _ (by decide +kernel)) dX12_isMode_8 (by show f0 0 = _; exact gN_eq HI (by omega) (show bd 0 = (0, ((6 : Nat) : Int)) by decide +kernel)) ?_
    refine V_iconst 9 B (v := 1) dX12_isMode_9 (by decide +kernel) ?_
    refine V_isub 10 B dX12_isMode_10 rfl ?_
    refine V_nmi (fun j4 e5 => ?_)
    have x6 : j4.toInt = (((gN f0 0) : Nat) : Int) - ((1 : Nat) : Int) := by rw [e5]; exact nI_subT (a := (gN f0 0)) (b := 1) (by omega) (by omega)
    refine V_i2l 11 B dX12_isMode_11 rfl ?_
    refine V_nml (fun o7 e8 => ?_)
    have x9 : o7.toInt = j4.toInt := by rw [e8, Int32.toInt_toInt64]
    refine V_csi 12 B (st := []) (As := [.long o0, .long 0, .long o7]) (fun sz => rX12_inRange l D Y o0 0 o7 sz) glS_RX12_41 ⟨rfl, rfl⟩ ⟨(Nat.le_of_ble_eq_true rfl), (Nat.le_of_ble_eq_true rfl)⟩ ⟨(Nat.le_of_ble_eq_true rfl), (Nat.le_of_ble_eq_true rfl)⟩ [] rfl rfl (Nat.le_of_ble_eq_true rfl) rfl (fun _ _ _ => rfl) dX12_isMode_12 (fun j10 u11 w12 => ?_)
    refine V_ws [(h0, oC 13 [.ref h1, .ref h2, .int p2, .ref h3, .ref h4, .int (nI k5), .int (nI k6), .int p7, .int p8, .int p9, .int (nI k10), .int p11, .long q12, .ref h5, .ref h6, .int (nI k15), .int (nI k16)]), (h1, aI Y 3640 f0), (h2, aZ Y 2 f1), (h3, aZ Y 80 f3), (h4, aB Y 1600 f4), (h5, aI Y 200 f13), (h6, aI Y 800 f14)] rfl ?_
    rcases w12 with ⟨rfl, x15⟩ | ⟨rfl, x13, x14⟩
    ·
      rw [show (0 : Int64).toInt = 0 by decide +kernel] at x15
      exact V_zret 15 B rfl dX12_isMode_15 (mkW [] [] [] [] [] []) (Or.inl rfl) rfl
    ·
      rw [show (0 : Int64).toInt = 0 by decide +kernel] at x13
      exact V_zret 15 B rfl dX12_isMode_15 (mkW [] [] [] [] [] []) (Or.inr ⟨rfl, nat_lt (by omega) (by omega)⟩) rfl)
theorem glV_RX12_91 : GLV RX12 91 yX12_isMode RX12 cX12_isMode 2 (some .boolean) 1 := ⟨⟨(mT8 29 rfl rfl), (mT8 31 rfl rfl), (mTs 34 rfl rfl), (mT1 13 rfl rfl), (mT8 32 rfl rfl)⟩, by decide +kernel⟩
theorem dX12_isBound_23 : decode cX12_isBound 23 = .ok (.ifCond .eq 11, 3) := by decide +kernel
theorem dX12_isBound_34 : decode cX12_isBound 34 = .ok (.iconst 0, 1) := by decide +kernel
theorem dX12_isBound_35 : decode cX12_isBound 35 = .ok (.ireturn, 1) := by decide +kernel
theorem dX12_isBound_26 : decode cX12_isBound 26 = .ok (.aload_n 0, 1) := by decide +kernel
theorem dX12_isBound_27 : decode cX12_isBound 27 = .ok (.iload_n 3, 1) := by decide +kernel
theorem dX12_isBound_28 : decode cX12_isBound 28 = .ok (.invokevirtual 99, 3) := by decide +kernel
theorem dX12_isCommand_0 : decode cX12_isCommand 0 = .ok (.iload_n 1, 1) := by decide +kernel
theorem dX12_isCommand_1 : decode cX12_isCommand 1 = .ok (.i2l, 1) := by decide +kernel
theorem dX12_isCommand_2 : decode cX12_isCommand 2 = .ok (.lconst 0, 1) := by decide +kernel
theorem dX12_isCommand_3 : decode cX12_isCommand 3 = .ok (.aload_n 0, 1) := by decide +kernel
theorem dX12_isCommand_4 : decode cX12_isCommand 4 = .ok (.getfield 9, 3) := by decide +kernel
theorem dX12_isCommand_7 : decode cX12_isCommand 7 = .ok (.iconst 1, 1) := by decide +kernel
theorem dX12_isCommand_8 : decode cX12_isCommand 8 = .ok (.iaload, 1) := by decide +kernel
theorem dX12_isCommand_9 : decode cX12_isCommand 9 = .ok (.iconst 1, 1) := by decide +kernel
theorem dX12_isCommand_10 : decode cX12_isCommand 10 = .ok (.isub, 1) := by decide +kernel
theorem dX12_isCommand_11 : decode cX12_isCommand 11 = .ok (.i2l, 1) := by decide +kernel
theorem dX12_isCommand_12 : decode cX12_isCommand 12 = .ok (.invokestatic 41, 3) := by decide +kernel
theorem dX12_isCommand_15 : decode cX12_isCommand 15 = .ok (.ireturn, 1) := by decide +kernel
set_option maxRecDepth 100000 in
set_option maxHeartbeats 4000000 in
theorem rX12_isCommand (l : Launch) (D : va_G) (Y : Nat → ClassId) (h0 : Nat) (h1 : Nat) (h2 : Nat) (h3 : Nat) (h4 : Nat) (h5 : Nat) (h6 : Nat) (p2 : Int32) (k5 : Nat) (k6 : Nat) (p7 : Int32) (p8 : Int32) (p9 : Int32) (k10 : Nat) (p11 : Int32) (q12 : Int64) (k15 : Nat) (k16 : Nat) (f0 : Nat → Int32) (f1 : Nat → Int32) (f3 : Nat → Int32) (f4 : Nat → Int32) (f13 : Nat → Int32) (f14 : Nat → Int32) (HI : INV f0) (HL : k5 ≤ 1600) (HP : PLV f13) (s0 : Int32)  (sz : Nat) : Met l yX12_isCommand (WSm yX12_isCommand cX12_isCommand 2 (some .boolean)) (mkR 1 0 0 25) (PreC D Y [.ref h0, .int s0] [(h0, oC 13 [.ref h1, .ref h2, .int p2, .ref h3, .ref h4, .int (nI k5), .int (nI k6), .int p7, .int p8, .int p9, .int (nI k10), .int p11, .long q12, .ref h5, .ref h6, .int (nI k15), .int (nI k16)]), (h1, aI Y 3640 f0), (h2, aZ Y 2 f1), (h3, aZ Y 80 f3), (h4, aB Y 1600 f4), (h5, aI Y 200 f13), (h6, aI Y 800 f14)] sz) (QI D (fun (r : Int32) (u : WU) => (r = 0 ∨ (r = 1 ∧ ∃ m : Nat, s0 = nI m ∧ m < gN f0 1))) (fun (u : WU) => [(h0, oC 13 [.ref h1, .ref h2, .int p2, .ref h3, .ref h4, .int (nI k5), .int (nI k6), .int p7, .int p8, .int p9, .int (nI k10), .int p11, .long q12, .ref h5, .ref h6, .int (nI k15), .int (nI k16)]), (h1, aI Y 3640 f0), (h2, aZ Y 2 f1), (h3, aZ Y 80 f3), (h4, aB Y 1600 f4), (h5, aI Y 200 f13), (h6, aI Y 800 f14)]) (va_A [(h0, oC 13 [.ref h1, .ref h2, .int p2, .ref h3, .ref h4, .int (nI k5), .int (nI k6), .int p7, .int p8, .int p9, .int (nI k10), .int p11, .long q12, .ref h5, .ref h6, .int (nI k15), .int (nI k16)]), (h1, aI Y 3640 f0), (h2, aZ Y 2 f1), (h3, aZ Y 80 f3), (h4, aB Y 1600 f4), (h5, aI Y 200 f13), (h6, aI Y 800 f14)] sz)) 0 0 (va_A [(h0, oC 13 [.ref h1, .ref h2, .int p2, .ref h3, .ref h4, .int (nI k5), .int (nI k6), .int p7, .int p8, .int p9, .int (nI k10), .int p11, .long q12, .ref h5, .ref h6, .int (nI k15), .int (nI k16)]), (h1, aI Y 3640 f0), (h2, aZ Y 2 f1), (h3, aZ Y 80 f3), (h4, aB Y 1600 f4), (h5, aI Y 200 f13), (h6, aI Y 800 f14)] sz) :=
  met_of  (by decide +kernel) (Nat.le_of_ble_eq_true rfl) (fun p e s m args below meth c B hin hsz => by
    have B : VB p s m args meth c D Y (va_A [(h0, oC 13 [.ref h1, .ref h2, .int p2, .ref h3, .ref h4, .int (nI k5), .int (nI k6), .int p7, .int p8, .int p9, .int (nI k10), .int p11, .long q12, .ref h5, .ref h6, .int (nI k15), .int (nI k16)]), (h1, aI Y 3640 f0), (h2, aZ Y 2 f1), (h3, aZ Y 80 f3), (h4, aB Y 1600 f4), (h5, aI Y 200 f13), (h6, aI Y 800 f14)] sz) cX12_isCommand 2 RX12 (some .boolean) := B
    refine V_iload_n 0 B dX12_isCommand_0 1 rfl ?_
    refine V_i2l 1 B dX12_isCommand_1 rfl ?_
    refine V_nml (fun o0 e1 => ?_)
    have x2 : o0.toInt = s0.toInt := by rw [e1, Int32.toInt_toInt64]
    refine V_lconst 2 B (v := 0) dX12_isCommand_2 (by decide +kernel) ?_
    refine V_aload_n 3 B dX12_isCommand_3 0 rfl ?_
    refine V_get 4 B gf_RX12_9 0 rfl rfl dX12_isCommand_4 ?_
    refine V_iconst 7 B (v := 1) dX12_isCommand_7 (by decide +kernel) ?_
    have x3 : (gN f0 1) ≤ 40 := gN_le HI (by omega) (show bd 1 = (0, ((40 : Nat) : Int)) by decide +kernel)
    refine V_iald 8 B (v := (nI (gN f0 1))) 1 rfl (vpin _ _ (by decide +kernel)) dX12_isCommand_8 (by show f0 1 = _; exact gN_eq HI (by omega) (show bd 1 = (0, ((40 : Nat) : Int)) by decide +kernel)) ?_
    refine V_iconst 9 B (v := 1) dX12_isCommand_9 (by decide +kernel) ?_
    refine V_isub 10 B dX12_isCommand_10 rfl ?_
    refine V_nmi (fun j4 e5 => ?_)
    have x6 : j4.toInt = (((gN f0 1) : Nat) : Int) - ((1 : Nat) : Int) := by rw [e5]; exact nI_subT (a := (gN f0 1)) (b := 1) (by omega) (by omega)
    refine V_i2l 11 B dX12_isCommand_11 rfl ?_
    refine V_nml (fun o7 e8 => ?_)
    have x9 : o7.toInt = j4.toInt := by rw [e8, Int32.toInt_toInt64]
    refine V_csi 12 B (st := []) (As := [.long o0, .long 0, .long o7]) (fun sz => rX12_inRange l D Y o0 0 o7 sz) glS_RX12_41 ⟨rfl, rfl⟩ ⟨(Nat.le_of_ble_eq_true rfl), (Nat.le_of_ble_eq_true rfl)⟩ ⟨(Nat.le_of_ble_eq_true rfl), (Nat.le_of_ble_eq_true rfl)⟩ [] rfl rfl (Nat.le_of_ble_eq_true rfl) rfl (fun _ _ _ => rfl) dX12_isCommand_12 (fun j10 u11 w12 => ?_)
    refine V_ws [(h0, oC 13 [.ref h1, .ref h2, .int p2, .ref h3, .ref h4, .int (nI k5), .int (nI k6), .int p7, .int p8, .int p9, .int (nI k10), .int p11, .long q12, .ref h5, .ref h6, .int (nI k15), .int (nI k16)]), (h1, aI Y 3640 f0), (h2, aZ Y 2 f1), (h3, aZ Y 80 f3), (h4, aB Y 1600 f4), (h5, aI Y 200 f13), (h6, aI Y 800 f14)] rfl ?_
    rcases w12 with ⟨rfl, x15⟩ | ⟨rfl, x13, x14⟩
    ·
      rw [show (0 : Int64).toInt = 0 by decide +kernel] at x15
      exact V_zret 15 B rfl dX12_isCommand_15 (mkW [] [] [] [] [] []) (Or.inl rfl) rfl
    ·
      rw [show (0 : Int64).toInt = 0 by decide +kernel] at x13
      exact V_zret 15 B rfl dX12_isCommand_15 (mkW [] [] [] [] [] []) (Or.inr ⟨rfl, nat_lt (by omega) (by omega)⟩) rfl)
theorem glV_RX12_99 : GLV RX12 99 yX12_isCommand RX12 cX12_isCommand 2 (some .boolean) 1 := ⟨⟨(mT8 46 rfl rfl), (mT8 48 rfl rfl), (mTs 35 rfl rfl), (mT1 13 rfl rfl), (mT8 49 rfl rfl)⟩, by decide +kernel⟩
theorem dX12_isBound_31 : decode cX12_isBound 31 = .ok (.ifCond .ne 5, 3) := by decide +kernel
theorem dX12_isBound_36 : decode cX12_isBound 36 = .ok (.aload_n 0, 1) := by decide +kernel
theorem dX12_isBound_37 : decode cX12_isBound 37 = .ok (.getfield 9, 3) := by decide +kernel
theorem dX12_isBound_40 : decode cX12_isBound 40 = .ok (.sipush 3629, 3) := by decide +kernel
theorem dX12_isBound_43 : decode cX12_isBound 43 = .ok (.aload_n 0, 1) := by decide +kernel
theorem dX12_isBound_44 : decode cX12_isBound 44 = .ok (.getfield 28, 3) := by decide +kernel
theorem dX12_isBound_47 : decode cX12_isBound 47 = .ok (.iload_n 1, 1) := by decide +kernel
theorem dX12_isBound_48 : decode cX12_isBound 48 = .ok (.iconst 4, 1) := by decide +kernel
theorem dX12_isBound_49 : decode cX12_isBound 49 = .ok (.iadd, 1) := by decide +kernel
theorem dX12_isBound_50 : decode cX12_isBound 50 = .ok (.iaload, 1) := by decide +kernel
theorem dX12_isBound_51 : decode cX12_isBound 51 = .ok (.iastore, 1) := by decide +kernel
theorem dX12_isBound_52 : decode cX12_isBound 52 = .ok (.iconst 0, 1) := by decide +kernel
theorem dX12_isBound_53 : decode cX12_isBound 53 = .ok (.istore 4, 2) := by decide +kernel
theorem dX12_isBound_55 : decode cX12_isBound 55 = .ok (.iload 4, 2) := by decide +kernel
theorem dX12_isBound_57 : decode cX12_isBound 57 = .ok (.aload_n 0, 1) := by decide +kernel
theorem dX12_isBound_58 : decode cX12_isBound 58 = .ok (.getfield 28, 3) := by decide +kernel
theorem dX12_isBound_61 : decode cX12_isBound 61 = .ok (.iload_n 1, 1) := by decide +kernel
theorem dX12_isBound_62 : decode cX12_isBound 62 = .ok (.iconst 4, 1) := by decide +kernel
theorem dX12_isBound_63 : decode cX12_isBound 63 = .ok (.iadd, 1) := by decide +kernel
theorem dX12_isBound_64 : decode cX12_isBound 64 = .ok (.iaload, 1) := by decide +kernel
theorem dX12_isBound_65 : decode cX12_isBound 65 = .ok (.if_icmp .ge 36, 3) := by decide +kernel
theorem dX12_isBound_101 : decode cX12_isBound 101 = .ok (.aload_n 0, 1) := by decide +kernel
theorem dX12_isBound_102 : decode cX12_isBound 102 = .ok (.getfield 28, 3) := by decide +kernel
theorem dX12_isBound_105 : decode cX12_isBound 105 = .ok (.iload_n 1, 1) := by decide +kernel
theorem dX12_isBound_106 : decode cX12_isBound 106 = .ok (.iaload, 1) := by decide +kernel
theorem dX12_isBound_107 : decode cX12_isBound 107 = .ok (.bipush 6, 2) := by decide +kernel
theorem dX12_isBound_109 : decode cX12_isBound 109 = .ok (.if_icmp .ne 15, 3) := by decide +kernel
theorem dX12_isBound_124 : decode cX12_isBound 124 = .ok (.aload_n 0, 1) := by decide +kernel
theorem dX12_isBound_125 : decode cX12_isBound 125 = .ok (.iload_n 2, 1) := by decide +kernel
theorem dX12_isBound_126 : decode cX12_isBound 126 = .ok (.iload_n 3, 1) := by decide +kernel
theorem dX12_isBound_127 : decode cX12_isBound 127 = .ok (.sipush 3629, 3) := by decide +kernel
theorem dX12_isBound_130 : decode cX12_isBound 130 = .ok (.invokevirtual 145, 3) := by decide +kernel
theorem dX12_forced_0 : decode cX12_forced 0 = .ok (.aload_n 0, 1) := by decide +kernel
theorem dX12_forced_1 : decode cX12_forced 1 = .ok (.iload_n 3, 1) := by decide +kernel
theorem dX12_forced_2 : decode cX12_forced 2 = .ok (.invokevirtual 118, 3) := by decide +kernel
theorem dX12_clashesReserved_0 : decode cX12_clashesReserved 0 = .ok (.iconst 0, 1) := by decide +kernel
theorem dX12_clashesReserved_1 : decode cX12_clashesReserved 1 = .ok (.istore_n 2, 1) := by decide +kernel
theorem dX12_clashesReserved_2 : decode cX12_clashesReserved 2 = .ok (.iconst 0, 1) := by decide +kernel
theorem dX12_clashesReserved_3 : decode cX12_clashesReserved 3 = .ok (.istore_n 3, 1) := by decide +kernel
theorem dX12_clashesReserved_4 : decode cX12_clashesReserved 4 = .ok (.iload_n 3, 1) := by decide +kernel
theorem dX12_clashesReserved_5 : decode cX12_clashesReserved 5 = .ok (.aload_n 0, 1) := by decide +kernel
theorem dX12_clashesReserved_6 : decode cX12_clashesReserved 6 = .ok (.getfield 9, 3) := by decide +kernel
theorem dX12_clashesReserved_9 : decode cX12_clashesReserved 9 = .ok (.iconst 2, 1) := by decide +kernel
theorem dX12_clashesReserved_10 : decode cX12_clashesReserved 10 = .ok (.iaload, 1) := by decide +kernel
theorem dX12_clashesReserved_11 : decode cX12_clashesReserved 11 = .ok (.if_icmp .ge 21, 3) := by decide +kernel
theorem dX12_clashesReserved_32 : decode cX12_clashesReserved 32 = .ok (.iload_n 2, 1) := by decide +kernel
theorem dX12_clashesReserved_33 : decode cX12_clashesReserved 33 = .ok (.ireturn, 1) := by decide +kernel
theorem dX12_clashesReserved_14 : decode cX12_clashesReserved 14 = .ok (.iload_n 2, 1) := by decide +kernel
theorem dX12_clashesReserved_15 : decode cX12_clashesReserved 15 = .ok (.aload_n 0, 1) := by decide +kernel
theorem dX12_clashesReserved_16 : decode cX12_clashesReserved 16 = .ok (.iload_n 3, 1) := by decide +kernel
theorem dX12_clashesReserved_17 : decode cX12_clashesReserved 17 = .ok (.invokestatic 108, 3) := by decide +kernel
theorem dX12_clashesReserved_20 : decode cX12_clashesReserved 20 = .ok (.iload_n 1, 1) := by decide +kernel
theorem dX12_clashesReserved_21 : decode cX12_clashesReserved 21 = .ok (.invokevirtual 111, 3) := by decide +kernel
theorem rl10 : ∀ z0, z0 < 6 → SQ (154 + 5 * z0) := by unfold SQ; decide +kernel
theorem dX12_clashesReserved_24 : decode cX12_clashesReserved 24 = .ok (.ior, 1) := by decide +kernel
theorem dX12_clashesReserved_25 : decode cX12_clashesReserved 25 = .ok (.istore_n 2, 1) := by decide +kernel
theorem dX12_clashesReserved_26 : decode cX12_clashesReserved 26 = .ok (.iinc 3 1, 3) := by decide +kernel
theorem dX12_clashesReserved_29 : decode cX12_clashesReserved 29 = .ok (.goto (-25), 3) := by decide +kernel
set_option maxRecDepth 100000 in
set_option maxHeartbeats 4000000 in
theorem rX12_clashesReserved (l : Launch) (D : va_G) (Y : Nat → ClassId) (h0 : Nat) (h1 : Nat) (h2 : Nat) (h3 : Nat) (h4 : Nat) (h5 : Nat) (h6 : Nat) (p2 : Int32) (k5 : Nat) (k6 : Nat) (p7 : Int32) (p8 : Int32) (p9 : Int32) (k10 : Nat) (p11 : Int32) (q12 : Int64) (k15 : Nat) (k16 : Nat) (f0 : Nat → Int32) (f1 : Nat → Int32) (f3 : Nat → Int32) (f4 : Nat → Int32) (f13 : Nat → Int32) (f14 : Nat → Int32) (HI : INV f0) (HL : k5 ≤ 1600) (HP : PLV f13) (s0 : Nat) (hs0 : SQ s0) (sz : Nat) : Met l yX12_clashesReserved (WSm yX12_clashesReserved cX12_clashesReserved 4 (some .boolean)) (mkR 3 0 0 66) (PreC D Y [.ref h0, .int (nI s0)] [(h0, oC 13 [.ref h1, .ref h2, .int p2, .ref h3, .ref h4, .int (nI k5), .int (nI k6), .int p7, .int p8, .int p9, .int (nI k10), .int p11, .long q12, .ref h5, .ref h6, .int (nI k15), .int (nI k16)]), (h1, aI Y 3640 f0), (h2, aZ Y 2 f1), (h3, aZ Y 80 f3), (h4, aB Y 1600 f4), (h5, aI Y 200 f13), (h6, aI Y 800 f14)] sz) (QI D (fun (r : Int32) (u : WU) => (r = 0 ∨ r = 1)) (fun (u : WU) => [(h0, oC 13 [.ref h1, .ref h2, .int p2, .ref h3, .ref h4, .int (nI k5), .int (nI k6), .int p7, .int p8, .int p9, .int (nI k10), .int p11, .long q12, .ref h5, .ref h6, .int (nI k15), .int (nI k16)]), (h1, aI Y 3640 f0), (h2, aZ Y 2 f1), (h3, aZ Y 80 f3), (h4, aB Y 1600 f4), (h5, aI Y 200 f13), (h6, aI Y 800 f14)]) (va_A [(h0, oC 13 [.ref h1, .ref h2, .int p2, .ref h3, .ref h4, .int (nI k5), .int (nI k6), .int p7, .int p8, .int p9, .int (nI k10), .int p11, .long q12, .ref h5, .ref h6, .int (nI k15), .int (nI k16)]), (h1, aI Y 3640 f0), (h2, aZ Y 2 f1), (h3, aZ Y 80 f3), (h4, aB Y 1600 f4), (h5, aI Y 200 f13), (h6, aI Y 800 f14)] sz)) 0 0 (va_A [(h0, oC 13 [.ref h1, .ref h2, .int p2, .ref h3, .ref h4, .int (nI k5), .int (nI k6), .int p7, .int p8, .int p9, .int (nI k10), .int p11, .long q12, .ref h5, .ref h6, .int (nI k15), .int (nI k16)]), (h1, aI Y 3640 f0), (h2, aZ Y 2 f1), (h3, aZ Y 80 f3), (h4, aB Y 1600 f4), (h5, aI Y 200 f13), (h6, aI Y 800 f14)] sz) :=
  met_of  (by decide +kernel) (Nat.le_of_ble_eq_true rfl) (fun p e s m args below meth c B hin hsz => by
    have B : VB p s m args meth c D Y (va_A [(h0, oC 13 [.ref h1, .ref h2, .int p2, .ref h3, .ref h4, .int (nI k5), .int (nI k6), .int p7, .int p8, .int p9, .int (nI k10), .int p11, .long q12, .ref h5, .ref h6, .int (nI k15), .int (nI k16)]), (h1, aI Y 3640 f0), (h2, aZ Y 2 f1), (h3, aZ Y 80 f3), (h4, aB Y 1600 f4), (h5, aI Y 200 f13), (h6, aI Y 800 f14)] sz) cX12_clashesReserved 4 RX12 (some .boolean) := B
    have hq_s0 := hs0.1
    refine V_iconst 0 B (v := 0) dX12_clashesReserved_0 (by decide +kernel) ?_
    refine V_istore_n 1 B (lv2 := [(2, .int 0), (0, .ref h0), (1, .int (nI s0))]) dX12_clashesReserved_1 (by decide) rfl ?_
    refine V_iconst 2 B (v := 0) dX12_clashesReserved_2 (by decide +kernel) ?_
    refine V_istore_n 3 B (lv2 := [(3, .int 0), (2, .int 0), (0, .ref h0), (1, .int (nI s0))]) dX12_clashesReserved_3 (by decide) rfl ?_
    refine V_wloop (α := WU) (fun a => 100000 - (a.1 0)) (fun a => (a.1 0) ≤ 6 ∧ ((a.2.1 0) = 0 ∨ (a.2.1 0) = 1)) (fun a => [(3, .int (nI (a.1 0))), (2, .int (a.2.1 0)), (0, .ref h0), (1, .int (nI s0))]) (fun a => [(h0, oC 13 [.ref h1, .ref h2, .int p2, .ref h3, .ref h4, .int (nI k5), .int (nI k6), .int p7, .int p8, .int p9, .int (nI k10), .int p11, .long q12, .ref h5, .ref h6, .int (nI k15), .int (nI k16)]), (h1, aI Y 3640 f0), (h2, aZ Y 2 f1), (h3, aZ Y 80 f3), (h4, aB Y 1600 f4), (h5, aI Y 200 f13), (h6, aI Y 800 f14)]) (mkW [0] [0] [] [] [] []) ⟨(show 0 ≤ 6 by omega), (Or.inl rfl)⟩ rfl rfl (fun a0 hI2 IH1 => ?_)
    refine V_lv [(3, .int (nI (a0.1 0))), (2, .int (a0.2.1 0)), (0, .ref h0), (1, .int (nI s0))] [0, 1, 2, 3] rfl ?_
    refine V_ws [(h0, oC 13 [.ref h1, .ref h2, .int p2, .ref h3, .ref h4, .int (nI k5), .int (nI k6), .int p7, .int p8, .int p9, .int (nI k10), .int p11, .long q12, .ref h5, .ref h6, .int (nI k15), .int (nI k16)]), (h1, aI Y 3640 f0), (h2, aZ Y 2 f1), (h3, aZ Y 80 f3), (h4, aB Y 1600 f4), (h5, aI Y 200 f13), (h6, aI Y 800 f14)] rfl ?_
    obtain ⟨x3, x4⟩ := hI2
    rcases x4 with e5 | e5
    ·
      refine V_lv [(3, .int (nI (a0.1 0))), (2, .int 0), (0, .ref h0), (1, .int (nI s0))] [0, 1, 2, 3] (by rw [e5]; rfl) ?_
      refine V_iload_n 4 B dX12_clashesReserved_4 0 rfl ?_
      refine V_aload_n 5 B dX12_clashesReserved_5 2 rfl ?_
      refine V_get 6 B gf_RX12_9 0 rfl rfl dX12_clashesReserved_6 ?_
      refine V_iconst 9 B (v := 2) dX12_clashesReserved_9 (by decide +kernel) ?_
      have x6 : (gN f0 2) ≤ 6 := gN_le HI (by omega) (show bd 2 = (0, ((6 : Nat) : Int)) by decide +kernel)
      refine V_iald 10 B (v := (nI (gN f0 2))) 1 rfl (vpin _ _ (by decide +kernel)) dX12_clashesReserved_10 (by show f0 2 = _; exact gN_eq HI (by omega) (show bd 2 = (0, ((6 : Nat) : Int)) by decide +kernel)) ?_
      refine V_icmp_ge 11 B 32 dX12_clashesReserved_11 (by decide) (fun kk7 => ?_) (fun kk7 => ?_)
      ·
        have x8 := n_le (a := (gN f0 2)) (b := (a0.1 0)) kk7 (by omega) (by omega)
        refine V_iload_n 32 B dX12_clashesReserved_32 1 rfl ?_
        exact V_zret 33 B rfl dX12_clashesReserved_33 (mkW [] [] [] [] [] []) (Or.inl rfl) rfl
      ·
        have x9 := n_nle (a := (gN f0 2)) (b := (a0.1 0)) kk7 (by omega) (by omega)
        refine V_iload_n 14 B dX12_clashesReserved_14 1 rfl ?_
        refine V_aload_n 15 B dX12_clashesReserved_15 2 rfl ?_
        refine V_iload_n 16 B dX12_clashesReserved_16 0 rfl ?_
        refine V_csi 17 B (st := [.ref h0, .int 0]) (As := [.int (nI (a0.1 0))]) (fun sz => rX12_reservedAt l D Y (a0.1 0) (by omega) sz) glS_RX12_108 ⟨rfl, rfl⟩ ⟨(Nat.le_of_ble_eq_true rfl), (Nat.le_of_ble_eq_true rfl)⟩ ⟨(Nat.le_of_ble_eq_true rfl), (Nat.le_of_ble_eq_true rfl)⟩ [] rfl rfl (Nat.le_of_ble_eq_true rfl) rfl (fun _ _ _ => rfl) dX12_clashesReserved_17 (fun j10 u11 w12 => ?_)
        refine V_ws [(h0, oC 13 [.ref h1, .ref h2, .int p2, .ref h3, .ref h4, .int (nI k5), .int (nI k6), .int p7, .int p8, .int p9, .int (nI k10), .int p11, .long q12, .ref h5, .ref h6, .int (nI k15), .int (nI k16)]), (h1, aI Y 3640 f0), (h2, aZ Y 2 f1), (h3, aZ Y 80 f3), (h4, aB Y 1600 f4), (h5, aI Y 200 f13), (h6, aI Y 800 f14)] rfl ?_
        have x13 := w12
        clear w12
        obtain rfl := x13
        refine V_iload_n 20 B dX12_clashesReserved_20 3 rfl ?_
        refine V_cvi 21 B (st := [.int 0]) (As := [.int (nI (154 + 5 * (a0.1 0))), .int (nI s0)]) (fun sz => rX12_doClash l D Y h0 h1 h2 h3 h4 h5 h6 p2 k5 k6 p7 p8 p9 k10 p11 q12 k15 k16 f0 f1 f3 f4 f13 f14 HI (by omega) HP (154 + 5 * (a0.1 0)) s0 (rl10 (a0.1 0) (by omega)) hs0 sz) glV_RX12_111 ⟨rfl, rfl⟩ ⟨(Nat.le_of_ble_eq_true rfl), (Nat.le_of_ble_eq_true rfl)⟩ ⟨(Nat.le_of_ble_eq_true rfl), (Nat.le_of_ble_eq_true rfl)⟩ [0, 0, 0, 0, 0, 0, 0] rfl 13 0 rfl rfl rfl rfl (Nat.le_of_ble_eq_true rfl) rfl (fun _ _ _ => rfl) dX12_clashesReserved_21 (fun j14 u15 w16 => ?_)
        refine V_ws [(h0, oC 13 [.ref h1, .ref h2, .int p2, .ref h3, .ref h4, .int (nI k5), .int (nI k6), .int p7, .int p8, .int p9, .int (nI k10), .int p11, .long q12, .ref h5, .ref h6, .int (nI k15), .int (nI k16)]), (h1, aI Y 3640 f0), (h2, aZ Y 2 f1), (h3, aZ Y 80 f3), (h4, aB Y 1600 f4), (h5, aI Y 200 f13), (h6, aI Y 800 f14)] rfl ?_
        have x17 := w16
        clear w16
        rcases x17 with ⟨rfl, x18⟩ | ⟨rfl, x18⟩
        ·
          refine V_ior 24 B (v := 0) dX12_clashesReserved_24 (by decide +kernel) ?_
          refine V_istore_n 25 B (lv2 := [(2, .int 0), (3, .int (nI (a0.1 0))), (0, .ref h0), (1, .int (nI s0))]) dX12_clashesReserved_25 (by decide) rfl ?_
          refine V_iinc 26 B (v := (nI (1 + (a0.1 0)))) (lv2 := [(3, .int (nI (1 + (a0.1 0)))), (2, .int 0), (0, .ref h0), (1, .int (nI s0))]) dX12_clashesReserved_26 1 rfl (nI_addE (a := (a0.1 0)) (b := 1) (by omega)) (by decide) rfl ?_
          refine V_goto 29 B 4 dX12_clashesReserved_29 (by decide) ?_
          refine V_lv [(3, .int (nI (1 + (a0.1 0)))), (2, .int 0), (0, .ref h0), (1, .int (nI s0))] [0, 1, 2, 3] rfl ?_
          exact IH1 (mkW [1 + (a0.1 0)] [0] [] [] [] []) ⟨(show 1 + (a0.1 0) ≤ 6 by omega), (Or.inl rfl)⟩ (by show 100000 - (1 + (a0.1 0)) < 100000 - (a0.1 0); omega)
        ·
          refine V_ior 24 B (v := 1) dX12_clashesReserved_24 (by decide +kernel) ?_
          refine V_istore_n 25 B (lv2 := [(2, .int 1), (3, .int (nI (a0.1 0))), (0, .ref h0), (1, .int (nI s0))]) dX12_clashesReserved_25 (by decide) rfl ?_
          refine V_iinc 26 B (v := (nI (1 + (a0.1 0)))) (lv2 := [(3, .int (nI (1 + (a0.1 0)))), (2, .int 1), (0, .ref h0), (1, .int (nI s0))]) dX12_clashesReserved_26 1 rfl (nI_addE (a := (a0.1 0)) (b := 1) (by omega)) (by decide) rfl ?_
          refine V_goto 29 B 4 dX12_clashesReserved_29 (by decide) ?_
          refine V_lv [(3, .int (nI (1 + (a0.1 0)))), (2, .int 1), (0, .ref h0), (1, .int (nI s0))] [0, 1, 2, 3] rfl ?_
          exact IH1 (mkW [1 + (a0.1 0)] [1] [] [] [] []) ⟨(show 1 + (a0.1 0) ≤ 6 by omega), (Or.inr rfl)⟩ (by show 100000 - (1 + (a0.1 0)) < 100000 - (a0.1 0); omega)
    ·
      refine V_lv [(3, .int (nI (a0.1 0))), (2, .int 1), (0, .ref h0), (1, .int (nI s0))] [0, 1, 2, 3] (by rw [e5]; rfl) ?_
      refine V_iload_n 4 B dX12_clashesReserved_4 0 rfl ?_
      refine V_aload_n 5 B dX12_clashesReserved_5 2 rfl ?_
      refine V_get 6 B gf_RX12_9 0 rfl rfl dX12_clashesReserved_6 ?_
      refine V_iconst 9 B (v := 2) dX12_clashesReserved_9 (by decide +kernel) ?_
      have x19 : (gN f0 2) ≤ 6 := gN_le HI (by omega) (show bd 2 = (0, ((6 : Nat) : Int)) by decide +kernel)
      refine V_iald 10 B (v := (nI (gN f0 2))) 1 rfl (vpin _ _ (by decide +kernel)) dX12_clashesReserved_10 (by show f0 2 = _; exact gN_eq HI (by omega) (show bd 2 = (0, ((6 : Nat) : Int)) by decide +kernel)) ?_
      refine V_icmp_ge 11 B 32 dX12_clashesReserved_11 (by decide) (fun kk20 => ?_) (fun kk20 => ?_)
      ·
        have x21 := n_le (a := (gN f0 2)) (b := (a0.1 0)) kk20 (by omega) (by omega)
        refine V_iload_n 32 B dX12_clashesReserved_32 1 rfl ?_
        exact V_zret 33 B rfl dX12_clashesReserved_33 (mkW [] [] [] [] [] []) (Or.inr rfl) rfl
      ·
        have x22 := n_nle (a := (gN f0 2)) (b := (a0.1 0)) kk20 (by omega) (by omega)
        refine V_iload_n 14 B dX12_clashesReserved_14 1 rfl ?_
        refine V_aload_n 15 B dX12_clashesReserved_15 2 rfl ?_
        refine V_iload_n 16 B dX12_clashesReserved_16 0 rfl ?_
        refine V_csi 17 B (st := [.ref h0, .int 1]) (As := [.int (nI (a0.1 0))]) (fun sz => rX12_reservedAt l D Y (a0.1 0) (by omega) sz) glS_RX12_108 ⟨rfl, rfl⟩ ⟨(Nat.le_of_ble_eq_true rfl), (Nat.le_of_ble_eq_true rfl)⟩ ⟨(Nat.le_of_ble_eq_true rfl), (Nat.le_of_ble_eq_true rfl)⟩ [] rfl rfl (Nat.le_of_ble_eq_true rfl) rfl (fun _ _ _ => rfl) dX12_clashesReserved_17 (fun j23 u24 w25 => ?_)
        refine V_ws [(h0, oC 13 [.ref h1, .ref h2, .int p2, .ref h3, .ref h4, .int (nI k5), .int (nI k6), .int p7, .int p8, .int p9, .int (nI k10), .int p11, .long q12, .ref h5, .ref h6, .int (nI k15), .int (nI k16)]), (h1, aI Y 3640 f0), (h2, aZ Y 2 f1), (h3, aZ Y 80 f3), (h4, aB Y 1600 f4), (h5, aI Y 200 f13), (h6, aI Y 800 f14)] rfl ?_
        have x26 := w25
        clear w25
        obtain rfl := x26
        refine V_iload_n 20 B dX12_clashesReserved_20 3 rfl ?_
        refine V_cvi 21 B (st := [.int 1]) (As := [.int (nI (154 + 5 * (a0.1 0))), .int (nI s0)]) (fun sz => rX12_doClash l D Y h0 h1 h2 h3 h4 h5 h6 p2 k5 k6 p7 p8 p9 k10 p11 q12 k15 k16 f0 f1 f3 f4 f13 f14 HI (by omega) HP (154 + 5 * (a0.1 0)) s0 (rl10 (a0.1 0) (by omega)) hs0 sz) glV_RX12_111 ⟨rfl, rfl⟩ ⟨(Nat.le_of_ble_eq_true rfl), (Nat.le_of_ble_eq_true rfl)⟩ ⟨(Nat.le_of_ble_eq_true rfl), (Nat.le_of_ble_eq_true rfl)⟩ [0, 0, 0, 0, 0, 0, 0] rfl 13 0 rfl rfl rfl rfl (Nat.le_of_ble_eq_true rfl) rfl (fun _ _ _ => rfl) dX12_clashesReserved_21 (fun j27 u28 w29 => ?_)
        refine V_ws [(h0, oC 13 [.ref h1, .ref h2, .int p2, .ref h3, .ref h4, .int (nI k5), .int (nI k6), .int p7, .int p8, .int p9, .int (nI k10), .int p11, .long q12, .ref h5, .ref h6, .int (nI k15), .int (nI k16)]), (h1, aI Y 3640 f0), (h2, aZ Y 2 f1), (h3, aZ Y 80 f3), (h4, aB Y 1600 f4), (h5, aI Y 200 f13), (h6, aI Y 800 f14)] rfl ?_
        have x30 := w29
        clear w29
        rcases x30 with ⟨rfl, x31⟩ | ⟨rfl, x31⟩
        ·
          refine V_ior 24 B (v := 1) dX12_clashesReserved_24 (by decide +kernel) ?_
          refine V_istore_n 25 B (lv2 := [(2, .int 1), (3, .int (nI (a0.1 0))), (0, .ref h0), (1, .int (nI s0))]) dX12_clashesReserved_25 (by decide) rfl ?_
          refine V_iinc 26 B (v := (nI (1 + (a0.1 0)))) (lv2 := [(3, .int (nI (1 + (a0.1 0)))), (2, .int 1), (0, .ref h0), (1, .int (nI s0))]) dX12_clashesReserved_26 1 rfl (nI_addE (a := (a0.1 0)) (b := 1) (by omega)) (by decide) rfl ?_
          refine V_goto 29 B 4 dX12_clashesReserved_29 (by decide) ?_
          refine V_lv [(3, .int (nI (1 + (a0.1 0)))), (2, .int 1), (0, .ref h0), (1, .int (nI s0))] [0, 1, 2, 3] rfl ?_
          exact IH1 (mkW [1 + (a0.1 0)] [1] [] [] [] []) ⟨(show 1 + (a0.1 0) ≤ 6 by omega), (Or.inr rfl)⟩ (by show 100000 - (1 + (a0.1 0)) < 100000 - (a0.1 0); omega)
        ·
          refine V_ior 24 B (v := 1) dX12_clashesReserved_24 (by decide +kernel) ?_
          refine V_istore_n 25 B (lv2 := [(2, .int 1), (3, .int (nI (a0.1 0))), (0, .ref h0), (1, .int (nI s0))]) dX12_clashesReserved_25 (by decide) rfl ?_
          refine V_iinc 26 B (v := (nI (1 + (a0.1 0)))) (lv2 := [(3, .int (nI (1 + (a0.1 0)))), (2, .int 1), (0, .ref h0), (1, .int (nI s0))]) dX12_clashesReserved_26 1 rfl (nI_addE (a := (a0.1 0)) (b := 1) (by omega)) (by decide) rfl ?_
          refine V_goto 29 B 4 dX12_clashesReserved_29 (by decide) ?_
          refine V_lv [(3, .int (nI (1 + (a0.1 0)))), (2, .int 1), (0, .ref h0), (1, .int (nI s0))] [0, 1, 2, 3] rfl ?_
          exact IH1 (mkW [1 + (a0.1 0)] [1] [] [] [] []) ⟨(show 1 + (a0.1 0) ≤ 6 by omega), (Or.inr rfl)⟩ (by show 100000 - (1 + (a0.1 0)) < 100000 - (a0.1 0); omega))
theorem glV_RX12_118 : GLV RX12 118 yX12_clashesReserved RX12 cX12_clashesReserved 4 (some .boolean) 1 := ⟨⟨(mT8 108 rfl rfl), (mT8 110 rfl rfl), (mTs 46 rfl rfl), (mT1 13 rfl rfl), (mT8 111 rfl rfl)⟩, by decide +kernel⟩
theorem dX12_forced_5 : decode cX12_forced 5 = .ok (.ifCond .eq 7, 3) := by decide +kernel
theorem dX12_forced_12 : decode cX12_forced 12 = .ok (.aload_n 0, 1) := by decide +kernel
theorem dX12_forced_13 : decode cX12_forced 13 = .ok (.iload_n 1, 1) := by decide +kernel
theorem dX12_forced_14 : decode cX12_forced 14 = .ok (.iload_n 3, 1) := by decide +kernel
theorem dX12_forced_15 : decode cX12_forced 15 = .ok (.invokevirtual 139, 3) := by decide +kernel
theorem dX12_clashCount_0 : decode cX12_clashCount 0 = .ok (.iconst 0, 1) := by decide +kernel
theorem dX12_clashCount_1 : decode cX12_clashCount 1 = .ok (.istore_n 3, 1) := by decide +kernel
theorem dX12_clashCount_2 : decode cX12_clashCount 2 = .ok (.iconst 0, 1) := by decide +kernel
theorem dX12_clashCount_3 : decode cX12_clashCount 3 = .ok (.istore 4, 2) := by decide +kernel
theorem dX12_clashCount_5 : decode cX12_clashCount 5 = .ok (.iload 4, 2) := by decide +kernel
theorem dX12_clashCount_7 : decode cX12_clashCount 7 = .ok (.aload_n 0, 1) := by decide +kernel
theorem dX12_clashCount_8 : decode cX12_clashCount 8 = .ok (.getfield 9, 3) := by decide +kernel
theorem dX12_clashCount_11 : decode cX12_clashCount 11 = .ok (.iconst 3, 1) := by decide +kernel
theorem dX12_clashCount_12 : decode cX12_clashCount 12 = .ok (.iaload, 1) := by decide +kernel
theorem dX12_clashCount_13 : decode cX12_clashCount 13 = .ok (.if_icmp .ge 40, 3) := by decide +kernel
theorem dX12_clashCount_53 : decode cX12_clashCount 53 = .ok (.iload_n 3, 1) := by decide +kernel
theorem dX12_clashCount_54 : decode cX12_clashCount 54 = .ok (.ireturn, 1) := by decide +kernel
theorem dX12_clashCount_16 : decode cX12_clashCount 16 = .ok (.iload_n 3, 1) := by decide +kernel
theorem dX12_clashCount_17 : decode cX12_clashCount 17 = .ok (.aload_n 0, 1) := by decide +kernel
theorem dX12_clashCount_18 : decode cX12_clashCount 18 = .ok (.iload 4, 2) := by decide +kernel
theorem dX12_clashCount_20 : decode cX12_clashCount 20 = .ok (.invokevirtual 115, 3) := by decide +kernel
theorem dX12_modeOf_0 : decode cX12_modeOf 0 = .ok (.aload_n 0, 1) := by decide +kernel
theorem dX12_modeOf_1 : decode cX12_modeOf 1 = .ok (.getfield 9, 3) := by decide +kernel
theorem dX12_modeOf_4 : decode cX12_modeOf 4 = .ok (.iload_n 1, 1) := by decide +kernel
theorem dX12_modeOf_5 : decode cX12_modeOf 5 = .ok (.invokestatic 79, 3) := by decide +kernel
theorem dX12_modeOf_8 : decode cX12_modeOf 8 = .ok (.iconst 0, 1) := by decide +kernel
theorem dX12_modeOf_9 : decode cX12_modeOf 9 = .ok (.iadd, 1) := by decide +kernel
theorem dX12_modeOf_10 : decode cX12_modeOf 10 = .ok (.iaload, 1) := by decide +kernel
theorem rl11 : ∀ z0, z0 < 80 → bd (184 + 7 * z0) = FREE := by decide +kernel
theorem dX12_modeOf_11 : decode cX12_modeOf 11 = .ok (.ireturn, 1) := by decide +kernel
set_option maxRecDepth 100000 in
set_option maxHeartbeats 4000000 in
theorem rX12_modeOf (l : Launch) (D : va_G) (Y : Nat → ClassId) (h0 : Nat) (h1 : Nat) (h2 : Nat) (h3 : Nat) (h4 : Nat) (h5 : Nat) (h6 : Nat) (p2 : Int32) (k5 : Nat) (k6 : Nat) (p7 : Int32) (p8 : Int32) (p9 : Int32) (k10 : Nat) (p11 : Int32) (q12 : Int64) (k15 : Nat) (k16 : Nat) (f0 : Nat → Int32) (f1 : Nat → Int32) (f3 : Nat → Int32) (f4 : Nat → Int32) (f13 : Nat → Int32) (f14 : Nat → Int32) (HI : INV f0) (HL : k5 ≤ 1600) (HP : PLV f13) (s0 : Nat) (hn0 : s0 < 80) (sz : Nat) : Met l yX12_modeOf (WSm yX12_modeOf cX12_modeOf 2 (some .int)) (mkR 1 0 0 20) (PreC D Y [.ref h0, .int (nI s0)] [(h0, oC 13 [.ref h1, .ref h2, .int p2, .ref h3, .ref h4, .int (nI k5), .int (nI k6), .int p7, .int p8, .int p9, .int (nI k10), .int p11, .long q12, .ref h5, .ref h6, .int (nI k15), .int (nI k16)]), (h1, aI Y 3640 f0), (h2, aZ Y 2 f1), (h3, aZ Y 80 f3), (h4, aB Y 1600 f4), (h5, aI Y 200 f13), (h6, aI Y 800 f14)] sz) (QI D (fun (r : Int32) (u : WU) => r = f0 (184 + 7 * s0)) (fun (u : WU) => [(h0, oC 13 [.ref h1, .ref h2, .int p2, .ref h3, .ref h4, .int (nI k5), .int (nI k6), .int p7, .int p8, .int p9, .int (nI k10), .int p11, .long q12, .ref h5, .ref h6, .int (nI k15), .int (nI k16)]), (h1, aI Y 3640 f0), (h2, aZ Y 2 f1), (h3, aZ Y 80 f3), (h4, aB Y 1600 f4), (h5, aI Y 200 f13), (h6, aI Y 800 f14)]) (va_A [(h0, oC 13 [.ref h1, .ref h2, .int p2, .ref h3, .ref h4, .int (nI k5), .int (nI k6), .int p7, .int p8, .int p9, .int (nI k10), .int p11, .long q12, .ref h5, .ref h6, .int (nI k15), .int (nI k16)]), (h1, aI Y 3640 f0), (h2, aZ Y 2 f1), (h3, aZ Y 80 f3), (h4, aB Y 1600 f4), (h5, aI Y 200 f13), (h6, aI Y 800 f14)] sz)) 0 0 (va_A [(h0, oC 13 [.ref h1, .ref h2, .int p2, .ref h3, .ref h4, .int (nI k5), .int (nI k6), .int p7, .int p8, .int p9, .int (nI k10), .int p11, .long q12, .ref h5, .ref h6, .int (nI k15), .int (nI k16)]), (h1, aI Y 3640 f0), (h2, aZ Y 2 f1), (h3, aZ Y 80 f3), (h4, aB Y 1600 f4), (h5, aI Y 200 f13), (h6, aI Y 800 f14)] sz) :=
  met_of  (by decide +kernel) (Nat.le_of_ble_eq_true rfl) (fun p e s m args below meth c B hin hsz => by
    have B : VB p s m args meth c D Y (va_A [(h0, oC 13 [.ref h1, .ref h2, .int p2, .ref h3, .ref h4, .int (nI k5), .int (nI k6), .int p7, .int p8, .int p9, .int (nI k10), .int p11, .long q12, .ref h5, .ref h6, .int (nI k15), .int (nI k16)]), (h1, aI Y 3640 f0), (h2, aZ Y 2 f1), (h3, aZ Y 80 f3), (h4, aB Y 1600 f4), (h5, aI Y 200 f13), (h6, aI Y 800 f14)] sz) cX12_modeOf 2 RX12 (some .int) := B
    refine V_aload_n 0 B dX12_modeOf_0 0 rfl ?_
    refine V_get 1 B gf_RX12_9 0 rfl rfl dX12_modeOf_1 ?_
    refine V_iload_n 4 B dX12_modeOf_4 1 rfl ?_
    refine V_csi 5 B (st := [.ref h1]) (As := [.int (nI s0)]) (fun sz => rX12_bindingAt l D Y s0 (by omega) sz) glS_RX12_79 ⟨rfl, rfl⟩ ⟨(Nat.le_of_ble_eq_true rfl), (Nat.le_of_ble_eq_true rfl)⟩ ⟨(Nat.le_of_ble_eq_true rfl), (Nat.le_of_ble_eq_true rfl)⟩ [] rfl rfl (Nat.le_of_ble_eq_true rfl) rfl (fun _ _ _ => rfl) dX12_modeOf_5 (fun j0 u1 w2 => ?_)
    refine V_ws [(h0, oC 13 [.ref h1, .ref h2, .int p2, .ref h3, .ref h4, .int (nI k5), .int (nI k6), .int p7, .int p8, .int p9, .int (nI k10), .int p11, .long q12, .ref h5, .ref h6, .int (nI k15), .int (nI k16)]), (h1, aI Y 3640 f0), (h2, aZ Y 2 f1), (h3, aZ Y 80 f3), (h4, aB Y 1600 f4), (h5, aI Y 200 f13), (h6, aI Y 800 f14)] rfl ?_
    have x3 := w2
    clear w2
    obtain rfl := x3
    refine V_iconst 8 B (v := 0) dX12_modeOf_8 (by decide +kernel) ?_
    refine V_iadd 9 B (v := (nI (184 + 7 * s0))) dX12_modeOf_9 (nI_addE (a := 184 + 7 * s0) (b := 0) (by omega)) ?_
    refine V_iald 10 B (v := f0 (184 + 7 * s0)) 1 rfl (vp_in_nI (n := 184 + 7 * s0) (by omega) (by decide)) dX12_modeOf_10 (by rw [nI_clamp (show 184 + 7 * s0 < 2 ^ 31 by omega)]) ?_
    refine V_nmi (fun j4 e5 => ?_)
    exact V_iret 11 B dX12_modeOf_11 (mkW [] [] [] [] [] []) e5 rfl)
theorem glV_RX12_115 : GLV RX12 115 yX12_modeOf RX12 cX12_modeOf 2 (some .int) 1 := ⟨⟨(mT8 74 rfl rfl), (mT8 76 rfl rfl), (mTs 41 rfl rfl), (mT1 13 rfl rfl), (mT8 77 rfl rfl)⟩, by decide +kernel⟩
theorem dX12_clashCount_23 : decode cX12_clashCount 23 = .ok (.iload_n 1, 1) := by decide +kernel
theorem dX12_clashCount_24 : decode cX12_clashCount 24 = .ok (.if_icmp .ne 20, 3) := by decide +kernel
theorem dX12_clashCount_44 : decode cX12_clashCount 44 = .ok (.iconst 0, 1) := by decide +kernel
theorem dX12_clashCount_45 : decode cX12_clashCount 45 = .ok (.iadd, 1) := by decide +kernel
theorem dX12_clashCount_46 : decode cX12_clashCount 46 = .ok (.istore_n 3, 1) := by decide +kernel
theorem dX12_clashCount_47 : decode cX12_clashCount 47 = .ok (.iinc 4 1, 3) := by decide +kernel
theorem dX12_clashCount_50 : decode cX12_clashCount 50 = .ok (.goto (-45), 3) := by decide +kernel
theorem dX12_clashCount_27 : decode cX12_clashCount 27 = .ok (.aload_n 0, 1) := by decide +kernel
theorem dX12_clashCount_28 : decode cX12_clashCount 28 = .ok (.iload 4, 2) := by decide +kernel
theorem dX12_clashCount_30 : decode cX12_clashCount 30 = .ok (.invokestatic 85, 3) := by decide +kernel
theorem dX12_clashCount_33 : decode cX12_clashCount 33 = .ok (.iload_n 2, 1) := by decide +kernel
theorem dX12_clashCount_34 : decode cX12_clashCount 34 = .ok (.invokevirtual 111, 3) := by decide +kernel
theorem rl12 : ∀ z0, z0 < 80 → SQ (186 + 7 * z0) := by unfold SQ; decide +kernel
theorem dX12_clashCount_37 : decode cX12_clashCount 37 = .ok (.ifCond .eq 7, 3) := by decide +kernel
theorem dX12_clashCount_40 : decode cX12_clashCount 40 = .ok (.iconst 1, 1) := by decide +kernel
theorem dX12_clashCount_41 : decode cX12_clashCount 41 = .ok (.goto 4, 3) := by decide +kernel
set_option maxRecDepth 100000 in
set_option maxHeartbeats 4000000 in
theorem rX12_clashCount (l : Launch) (D : va_G) (Y : Nat → ClassId) (h0 : Nat) (h1 : Nat) (h2 : Nat) (h3 : Nat) (h4 : Nat) (h5 : Nat) (h6 : Nat) (p2 : Int32) (k5 : Nat) (k6 : Nat) (p7 : Int32) (p8 : Int32) (p9 : Int32) (k10 : Nat) (p11 : Int32) (q12 : Int64) (k15 : Nat) (k16 : Nat) (f0 : Nat → Int32) (f1 : Nat → Int32) (f3 : Nat → Int32) (f4 : Nat → Int32) (f13 : Nat → Int32) (f14 : Nat → Int32) (HI : INV f0) (HL : k5 ≤ 1600) (HP : PLV f13) (s0 : Int32) (s1 : Nat) (hs1 : SQ s1) (sz : Nat) : Met l yX12_clashCount (WSm yX12_clashCount cX12_clashCount 5 (some .int)) (mkR 3 0 0 66) (PreC D Y [.ref h0, .int s0, .int (nI s1)] [(h0, oC 13 [.ref h1, .ref h2, .int p2, .ref h3, .ref h4, .int (nI k5), .int (nI k6), .int p7, .int p8, .int p9, .int (nI k10), .int p11, .long q12, .ref h5, .ref h6, .int (nI k15), .int (nI k16)]), (h1, aI Y 3640 f0), (h2, aZ Y 2 f1), (h3, aZ Y 80 f3), (h4, aB Y 1600 f4), (h5, aI Y 200 f13), (h6, aI Y 800 f14)] sz) (QI D (fun (r : Int32) (u : WU) => (r = 0 ∨ ∃ b : Nat, b < gN f0 3 ∧ CL f0 s0 b s1)) (fun (u : WU) => [(h0, oC 13 [.ref h1, .ref h2, .int p2, .ref h3, .ref h4, .int (nI k5), .int (nI k6), .int p7, .int p8, .int p9, .int (nI k10), .int p11, .long q12, .ref h5, .ref h6, .int (nI k15), .int (nI k16)]), (h1, aI Y 3640 f0), (h2, aZ Y 2 f1), (h3, aZ Y 80 f3), (h4, aB Y 1600 f4), (h5, aI Y 200 f13), (h6, aI Y 800 f14)]) (va_A [(h0, oC 13 [.ref h1, .ref h2, .int p2, .ref h3, .ref h4, .int (nI k5), .int (nI k6), .int p7, .int p8, .int p9, .int (nI k10), .int p11, .long q12, .ref h5, .ref h6, .int (nI k15), .int (nI k16)]), (h1, aI Y 3640 f0), (h2, aZ Y 2 f1), (h3, aZ Y 80 f3), (h4, aB Y 1600 f4), (h5, aI Y 200 f13), (h6, aI Y 800 f14)] sz)) 0 0 (va_A [(h0, oC 13 [.ref h1, .ref h2, .int p2, .ref h3, .ref h4, .int (nI k5), .int (nI k6), .int p7, .int p8, .int p9, .int (nI k10), .int p11, .long q12, .ref h5, .ref h6, .int (nI k15), .int (nI k16)]), (h1, aI Y 3640 f0), (h2, aZ Y 2 f1), (h3, aZ Y 80 f3), (h4, aB Y 1600 f4), (h5, aI Y 200 f13), (h6, aI Y 800 f14)] sz) :=
  met_of  (by decide +kernel) (Nat.le_of_ble_eq_true rfl) (fun p e s m args below meth c B hin hsz => by
    have B : VB p s m args meth c D Y (va_A [(h0, oC 13 [.ref h1, .ref h2, .int p2, .ref h3, .ref h4, .int (nI k5), .int (nI k6), .int p7, .int p8, .int p9, .int (nI k10), .int p11, .long q12, .ref h5, .ref h6, .int (nI k15), .int (nI k16)]), (h1, aI Y 3640 f0), (h2, aZ Y 2 f1), (h3, aZ Y 80 f3), (h4, aB Y 1600 f4), (h5, aI Y 200 f13), (h6, aI Y 800 f14)] sz) cX12_clashCount 5 RX12 (some .int) := B
    have hq_s1 := hs1.1
    refine V_iconst 0 B (v := 0) dX12_clashCount_0 (by decide +kernel) ?_
    refine V_istore_n 1 B (lv2 := [(3, .int 0), (0, .ref h0), (1, .int s0), (2, .int (nI s1))]) dX12_clashCount_1 (by decide) rfl ?_
    refine V_iconst 2 B (v := 0) dX12_clashCount_2 (by decide +kernel) ?_
    refine V_istore 3 B (lv2 := [(4, .int 0), (3, .int 0), (0, .ref h0), (1, .int s0), (2, .int (nI s1))]) dX12_clashCount_3 (by decide) rfl ?_
    refine V_wloop (α := WU) (fun a => 100000 - (a.1 0)) (fun a => (a.1 0) ≤ 4000 ∧ ((a.2.1 0) = 0 ∨ ∃ b : Nat, b < gN f0 3 ∧ CL f0 s0 b s1)) (fun a => [(4, .int (nI (a.1 0))), (3, .int (a.2.1 0)), (0, .ref h0), (1, .int s0), (2, .int (nI s1))]) (fun a => [(h0, oC 13 [.ref h1, .ref h2, .int p2, .ref h3, .ref h4, .int (nI k5), .int (nI k6), .int p7, .int p8, .int p9, .int (nI k10), .int p11, .long q12, .ref h5, .ref h6, .int (nI k15), .int (nI k16)]), (h1, aI Y 3640 f0), (h2, aZ Y 2 f1), (h3, aZ Y 80 f3), (h4, aB Y 1600 f4), (h5, aI Y 200 f13), (h6, aI Y 800 f14)]) (mkW [0] [0] [] [] [] []) ⟨(show 0 ≤ 4000 by omega), (Or.inl rfl)⟩ rfl rfl (fun a0 hI2 IH1 => ?_)
    refine V_lv [(4, .int (nI (a0.1 0))), (3, .int (a0.2.1 0)), (0, .ref h0), (1, .int s0), (2, .int (nI s1))] [0, 1, 2, 3, 4] rfl ?_
    refine V_ws [(h0, oC 13 [.ref h1, .ref h2, .int p2, .ref h3, .ref h4, .int (nI k5), .int (nI k6), .int p7, .int p8, .int p9, .int (nI k10), .int p11, .long q12, .ref h5, .ref h6, .int (nI k15), .int (nI k16)]), (h1, aI Y 3640 f0), (h2, aZ Y 2 f1), (h3, aZ Y 80 f3), (h4, aB Y 1600 f4), (h5, aI Y 200 f13), (h6, aI Y 800 f14)] rfl ?_
    obtain ⟨x3, x4⟩ := hI2
    refine V_iload 5 B dX12_clashCount_5 0 rfl ?_
    refine V_aload_n 7 B dX12_clashCount_7 2 rfl ?_
    refine V_get 8 B gf_RX12_9 0 rfl rfl dX12_clashCount_8 ?_
    refine V_iconst 11 B (v := 3) dX12_clashCount_11 (by decide +kernel) ?_
    have x5 : (gN f0 3) ≤ 80 := gN_le HI (by omega) (show bd 3 = (0, ((80 : Nat) : Int)) by decide +kernel)
    refine V_iald 12 B (v := (nI (gN f0 3))) 1 rfl (vpin _ _ (by decide +kernel)) dX12_clashCount_12 (by show f0 3 = _; exact gN_eq HI (by omega) (show bd 3 = (0, ((80 : Nat) : Int)) by decide +kernel)) ?_
    refine V_icmp_ge 13 B 53 dX12_clashCount_13 (by decide) (fun kk6 => ?_) (fun kk6 => ?_)
    ·
      have x7 := n_le (a := (gN f0 3)) (b := (a0.1 0)) kk6 (by omega) (by omega)
      refine V_iload_n 53 B dX12_clashCount_53 1 rfl ?_
      exact V_iret 54 B dX12_clashCount_54 (mkW [] [] [] [] [] []) x4 rfl
    ·
      have x8 := n_nle (a := (gN f0 3)) (b := (a0.1 0)) kk6 (by omega) (by omega)
      refine V_iload_n 16 B dX12_clashCount_16 1 rfl ?_
      refine V_aload_n 17 B dX12_clashCount_17 2 rfl ?_
      refine V_iload 18 B dX12_clashCount_18 0 rfl ?_
      refine V_cvi 20 B (st := [.int (a0.2.1 0)]) (As := [.int (nI (a0.1 0))]) (fun sz => rX12_modeOf l D Y h0 h1 h2 h3 h4 h5 h6 p2 k5 k6 p7 p8 p9 k10 p11 q12 k15 k16 f0 f1 f3 f4 f13 f14 HI (by omega) HP (a0.1 0) (by omega) sz) glV_RX12_115 ⟨rfl, rfl⟩ ⟨(Nat.le_of_ble_eq_true rfl), (Nat.le_of_ble_eq_true rfl)⟩ ⟨(Nat.le_of_ble_eq_true rfl), (Nat.le_of_ble_eq_true rfl)⟩ [0, 0, 0, 0, 0, 0, 0] rfl 13 0 rfl rfl rfl rfl (Nat.le_of_ble_eq_true rfl) rfl (fun _ _ _ => rfl) dX12_clashCount_20 (fun j9 u10 w11 => ?_)
      refine V_ws [(h0, oC 13 [.ref h1, .ref h2, .int p2, .ref h3, .ref h4, .int (nI k5), .int (nI k6), .int p7, .int p8, .int p9, .int (nI k10), .int p11, .long q12, .ref h5, .ref h6, .int (nI k15), .int (nI k16)]), (h1, aI Y 3640 f0), (h2, aZ Y 2 f1), (h3, aZ Y 80 f3), (h4, aB Y 1600 f4), (h5, aI Y 200 f13), (h6, aI Y 800 f14)] rfl ?_
      have x12 := w11
      clear w11
      refine V_iload_n 23 B dX12_clashCount_23 3 rfl ?_
      refine V_icmp_ne 24 B 44 dX12_clashCount_24 (by decide) (fun kk13 => ?_) (fun kk13 => ?_)
      ·
        have x14 := x_ne kk13
        refine V_iconst 44 B (v := 0) dX12_clashCount_44 (by decide +kernel) ?_
        refine V_iadd 45 B (v := (a0.2.1 0)) dX12_clashCount_45 (Int32.add_zero _) ?_
        refine V_istore_n 46 B (lv2 := [(3, .int (a0.2.1 0)), (4, .int (nI (a0.1 0))), (0, .ref h0), (1, .int s0), (2, .int (nI s1))]) dX12_clashCount_46 (by decide) rfl ?_
        refine V_iinc 47 B (v := (nI (1 + (a0.1 0)))) (lv2 := [(4, .int (nI (1 + (a0.1 0)))), (3, .int (a0.2.1 0)), (0, .ref h0), (1, .int s0), (2, .int (nI s1))]) dX12_clashCount_47 1 rfl (nI_addE (a := (a0.1 0)) (b := 1) (by omega)) (by decide) rfl ?_
        refine V_goto 50 B 5 dX12_clashCount_50 (by decide) ?_
        refine V_lv [(4, .int (nI (1 + (a0.1 0)))), (3, .int (a0.2.1 0)), (0, .ref h0), (1, .int s0), (2, .int (nI s1))] [0, 1, 2, 3, 4] rfl ?_
        exact IH1 (mkW [1 + (a0.1 0)] [(a0.2.1 0)] [] [] [] []) ⟨(show 1 + (a0.1 0) ≤ 4000 by omega), x4⟩ (by show 100000 - (1 + (a0.1 0)) < 100000 - (a0.1 0); omega)
      ·
        have x15 := x_eq kk13
        refine V_aload_n 27 B dX12_clashCount_27 2 rfl ?_
        refine V_iload 28 B dX12_clashCount_28 0 rfl ?_
        refine V_csi 30 B (st := [.ref h0, .int (a0.2.1 0)]) (As := [.int (nI (a0.1 0))]) (fun sz => rX12_sequenceOf l D Y (a0.1 0) (by omega) sz) glS_RX12_85 ⟨rfl, rfl⟩ ⟨(Nat.le_of_ble_eq_true rfl), (Nat.le_of_ble_eq_true rfl)⟩ ⟨(Nat.le_of_ble_eq_true rfl), (Nat.le_of_ble_eq_true rfl)⟩ [] rfl rfl (Nat.le_of_ble_eq_true rfl) rfl (fun _ _ _ => rfl) dX12_clashCount_30 (fun j16 u17 w18 => ?_)
        refine V_ws [(h0, oC 13 [.ref h1, .ref h2, .int p2, .ref h3, .ref h4, .int (nI k5), .int (nI k6), .int p7, .int p8, .int p9, .int (nI k10), .int p11, .long q12, .ref h5, .ref h6, .int (nI k15), .int (nI k16)]), (h1, aI Y 3640 f0), (h2, aZ Y 2 f1), (h3, aZ Y 80 f3), (h4, aB Y 1600 f4), (h5, aI Y 200 f13), (h6, aI Y 800 f14)] rfl ?_
        have x19 := w18
        clear w18
        obtain rfl := x19
        refine V_iload_n 33 B dX12_clashCount_33 4 rfl ?_
        refine V_cvi 34 B (st := [.int (a0.2.1 0)]) (As := [.int (nI (186 + 7 * (a0.1 0))), .int (nI s1)]) (fun sz => rX12_doClash l D Y h0 h1 h2 h3 h4 h5 h6 p2 k5 k6 p7 p8 p9 k10 p11 q12 k15 k16 f0 f1 f3 f4 f13 f14 HI (by omega) HP (186 + 7 * (a0.1 0)) s1 (rl12 (a0.1 0) (by omega)) hs1 sz) glV_RX12_111 ⟨rfl, rfl⟩ ⟨(Nat.le_of_ble_eq_true rfl), (Nat.le_of_ble_eq_true rfl)⟩ ⟨(Nat.le_of_ble_eq_true rfl), (Nat.le_of_ble_eq_true rfl)⟩ [0, 0, 0, 0, 0, 0, 0] rfl 13 0 rfl rfl rfl rfl (Nat.le_of_ble_eq_true rfl) rfl (fun _ _ _ => rfl) dX12_clashCount_34 (fun j20 u21 w22 => ?_)
        refine V_ws [(h0, oC 13 [.ref h1, .ref h2, .int p2, .ref h3, .ref h4, .int (nI k5), .int (nI k6), .int p7, .int p8, .int p9, .int (nI k10), .int p11, .long q12, .ref h5, .ref h6, .int (nI k15), .int (nI k16)]), (h1, aI Y 3640 f0), (h2, aZ Y 2 f1), (h3, aZ Y 80 f3), (h4, aB Y 1600 f4), (h5, aI Y 200 f13), (h6, aI Y 800 f14)] rfl ?_
        have x23 := w22
        clear w22
        rcases x23 with ⟨rfl, x24⟩ | ⟨rfl, x24⟩
        ·
          refine V_if_eq_t 37 B 44 dX12_clashCount_37 (by decide) (by decide +kernel) ?_
          refine V_iconst 44 B (v := 0) dX12_clashCount_44 (by decide +kernel) ?_
          refine V_iadd 45 B (v := (a0.2.1 0)) dX12_clashCount_45 (Int32.add_zero _) ?_
          refine V_istore_n 46 B (lv2 := [(3, .int (a0.2.1 0)), (4, .int (nI (a0.1 0))), (0, .ref h0), (1, .int s0), (2, .int (nI s1))]) dX12_clashCount_46 (by decide) rfl ?_
          refine V_iinc 47 B (v := (nI (1 + (a0.1 0)))) (lv2 := [(4, .int (nI (1 + (a0.1 0)))), (3, .int (a0.2.1 0)), (0, .ref h0), (1, .int s0), (2, .int (nI s1))]) dX12_clashCount_47 1 rfl (nI_addE (a := (a0.1 0)) (b := 1) (by omega)) (by decide) rfl ?_
          refine V_goto 50 B 5 dX12_clashCount_50 (by decide) ?_
          refine V_lv [(4, .int (nI (1 + (a0.1 0)))), (3, .int (a0.2.1 0)), (0, .ref h0), (1, .int s0), (2, .int (nI s1))] [0, 1, 2, 3, 4] rfl ?_
          exact IH1 (mkW [1 + (a0.1 0)] [(a0.2.1 0)] [] [] [] []) ⟨(show 1 + (a0.1 0) ≤ 4000 by omega), x4⟩ (by show 100000 - (1 + (a0.1 0)) < 100000 - (a0.1 0); omega)
        ·
          refine V_if_eq_f 37 B 44 dX12_clashCount_37 (by decide) (by decide +kernel) ?_
          refine V_iconst 40 B (v := 1) dX12_clashCount_40 (by decide +kernel) ?_
          refine V_goto 41 B 45 dX12_clashCount_41 (by decide) ?_
          refine V_iadd 45 B dX12_clashCount_45 rfl ?_
          refine V_nmi (fun j25 e26 => ?_)
          refine V_istore_n 46 B (lv2 := [(3, .int j25), (4, .int (nI (a0.1 0))), (0, .ref h0), (1, .int s0), (2, .int (nI s1))]) dX12_clashCount_46 (by decide) rfl ?_
          refine V_iinc 47 B (v := (nI (1 + (a0.1 0)))) (lv2 := [(4, .int (nI (1 + (a0.1 0)))), (3, .int j25), (0, .ref h0), (1, .int s0), (2, .int (nI s1))]) dX12_clashCount_47 1 rfl (nI_addE (a := (a0.1 0)) (b := 1) (by omega)) (by decide) rfl ?_
          refine V_goto 50 B 5 dX12_clashCount_50 (by decide) ?_
          refine V_lv [(4, .int (nI (1 + (a0.1 0)))), (3, .int j25), (0, .ref h0), (1, .int s0), (2, .int (nI s1))] [0, 1, 2, 3, 4] rfl ?_
          exact IH1 (mkW [1 + (a0.1 0)] [j25] [] [] [] []) ⟨(show 1 + (a0.1 0) ≤ 4000 by omega), (Or.inr ⟨(a0.1 0), by omega, Or.inr (by rw [← x12]; exact kk13), x24⟩)⟩ (by show 100000 - (1 + (a0.1 0)) < 100000 - (a0.1 0); omega))
theorem glV_RX12_139 : GLV RX12 139 yX12_clashCount RX12 cX12_clashCount 5 (some .int) 2 := ⟨⟨(mT8 124 rfl rfl), (mT8 126 rfl rfl), (mTs 49 rfl rfl), (mT1 13 rfl rfl), (mT8 127 rfl rfl)⟩, by decide +kernel⟩
theorem dX12_forced_18 : decode cX12_forced 18 = .ok (.istore 4, 2) := by decide +kernel
theorem dX12_forced_20 : decode cX12_forced 20 = .ok (.aload_n 0, 1) := by decide +kernel
theorem dX12_forced_21 : decode cX12_forced 21 = .ok (.getfield 9, 3) := by decide +kernel
theorem dX12_forced_24 : decode cX12_forced 24 = .ok (.iconst 3, 1) := by decide +kernel
theorem dX12_forced_25 : decode cX12_forced 25 = .ok (.iaload, 1) := by decide +kernel
theorem dX12_forced_26 : decode cX12_forced 26 = .ok (.iload 4, 2) := by decide +kernel
theorem dX12_forced_28 : decode cX12_forced 28 = .ok (.isub, 1) := by decide +kernel
theorem dX12_forced_29 : decode cX12_forced 29 = .ok (.bipush 80, 2) := by decide +kernel
theorem dX12_forced_31 : decode cX12_forced 31 = .ok (.if_icmp .ne 6, 3) := by decide +kernel
theorem dX12_forced_37 : decode cX12_forced 37 = .ok (.aload_n 0, 1) := by decide +kernel
theorem dX12_forced_38 : decode cX12_forced 38 = .ok (.iload_n 1, 1) := by decide +kernel
theorem dX12_forced_39 : decode cX12_forced 39 = .ok (.iload_n 3, 1) := by decide +kernel
theorem dX12_forced_40 : decode cX12_forced 40 = .ok (.iconst (-1), 1) := by decide +kernel
theorem dX12_forced_41 : decode cX12_forced 41 = .ok (.invokevirtual 121, 3) := by decide +kernel
theorem dX12_clashIn_0 : decode cX12_clashIn 0 = .ok (.iconst 0, 1) := by decide +kernel
theorem dX12_clashIn_1 : decode cX12_clashIn 1 = .ok (.istore 4, 2) := by decide +kernel
theorem dX12_clashIn_3 : decode cX12_clashIn 3 = .ok (.iload 4, 2) := by decide +kernel
theorem dX12_clashIn_5 : decode cX12_clashIn 5 = .ok (.aload_n 0, 1) := by decide +kernel
theorem dX12_clashIn_6 : decode cX12_clashIn 6 = .ok (.getfield 9, 3) := by decide +kernel
theorem dX12_clashIn_9 : decode cX12_clashIn 9 = .ok (.iconst 3, 1) := by decide +kernel
theorem dX12_clashIn_10 : decode cX12_clashIn 10 = .ok (.iaload, 1) := by decide +kernel
theorem dX12_clashIn_11 : decode cX12_clashIn 11 = .ok (.if_icmp .ge 46, 3) := by decide +kernel
theorem dX12_clashIn_57 : decode cX12_clashIn 57 = .ok (.iconst (-1), 1) := by decide +kernel
theorem dX12_clashIn_58 : decode cX12_clashIn 58 = .ok (.ireturn, 1) := by decide +kernel
theorem dX12_clashIn_14 : decode cX12_clashIn 14 = .ok (.iload 4, 2) := by decide +kernel
theorem dX12_clashIn_16 : decode cX12_clashIn 16 = .ok (.iload_n 3, 1) := by decide +kernel
theorem dX12_clashIn_17 : decode cX12_clashIn 17 = .ok (.if_icmp .eq 34, 3) := by decide +kernel
theorem dX12_clashIn_51 : decode cX12_clashIn 51 = .ok (.iinc 4 1, 3) := by decide +kernel
theorem dX12_clashIn_54 : decode cX12_clashIn 54 = .ok (.goto (-51), 3) := by decide +kernel
theorem dX12_clashIn_20 : decode cX12_clashIn 20 = .ok (.iload_n 1, 1) := by decide +kernel
theorem dX12_clashIn_21 : decode cX12_clashIn 21 = .ok (.iconst (-1), 1) := by decide +kernel
theorem dX12_clashIn_22 : decode cX12_clashIn 22 = .ok (.if_icmp .eq 13, 3) := by decide +kernel
theorem dX12_clashIn_35 : decode cX12_clashIn 35 = .ok (.aload_n 0, 1) := by decide +kernel
theorem dX12_clashIn_36 : decode cX12_clashIn 36 = .ok (.iload 4, 2) := by decide +kernel
theorem dX12_clashIn_38 : decode cX12_clashIn 38 = .ok (.invokestatic 85, 3) := by decide +kernel
theorem dX12_clashIn_41 : decode cX12_clashIn 41 = .ok (.iload_n 2, 1) := by decide +kernel
theorem dX12_clashIn_42 : decode cX12_clashIn 42 = .ok (.invokevirtual 111, 3) := by decide +kernel
theorem dX12_clashIn_45 : decode cX12_clashIn 45 = .ok (.ifCond .eq 6, 3) := by decide +kernel
theorem dX12_clashIn_48 : decode cX12_clashIn 48 = .ok (.iload 4, 2) := by decide +kernel
theorem dX12_clashIn_50 : decode cX12_clashIn 50 = .ok (.ireturn, 1) := by decide +kernel
theorem dX12_clashIn_25 : decode cX12_clashIn 25 = .ok (.aload_n 0, 1) := by decide +kernel
theorem dX12_clashIn_26 : decode cX12_clashIn 26 = .ok (.iload 4, 2) := by decide +kernel
theorem dX12_clashIn_28 : decode cX12_clashIn 28 = .ok (.invokevirtual 115, 3) := by decide +kernel
theorem dX12_clashIn_31 : decode cX12_clashIn 31 = .ok (.iload_n 1, 1) := by decide +kernel
theorem dX12_clashIn_32 : decode cX12_clashIn 32 = .ok (.if_icmp .ne 19, 3) := by decide +kernel
set_option maxRecDepth 100000 in
set_option maxHeartbeats 4000000 in
theorem rX12_clashIn (l : Launch) (D : va_G) (Y : Nat → ClassId) (h0 : Nat) (h1 : Nat) (h2 : Nat) (h3 : Nat) (h4 : Nat) (h5 : Nat) (h6 : Nat) (p2 : Int32) (k5 : Nat) (k6 : Nat) (p7 : Int32) (p8 : Int32) (p9 : Int32) (k10 : Nat) (p11 : Int32) (q12 : Int64) (k15 : Nat) (k16 : Nat) (f0 : Nat → Int32) (f1 : Nat → Int32) (f3 : Nat → Int32) (f4 : Nat → Int32) (f13 : Nat → Int32) (f14 : Nat → Int32) (HI : INV f0) (HL : k5 ≤ 1600) (HP : PLV f13) (s0 : Int32) (s1 : Nat) (s2 : Int32) (hs1 : SQ s1) (sz : Nat) : Met l yX12_clashIn (WSm yX12_clashIn cX12_clashIn 5 (some .int)) (mkR 3 0 0 66) (PreC D Y [.ref h0, .int s0, .int (nI s1), .int s2] [(h0, oC 13 [.ref h1, .ref h2, .int p2, .ref h3, .ref h4, .int (nI k5), .int (nI k6), .int p7, .int p8, .int p9, .int (nI k10), .int p11, .long q12, .ref h5, .ref h6, .int (nI k15), .int (nI k16)]), (h1, aI Y 3640 f0), (h2, aZ Y 2 f1), (h3, aZ Y 80 f3), (h4, aB Y 1600 f4), (h5, aI Y 200 f13), (h6, aI Y 800 f14)] sz) (QI D (fun (r : Int32) (u : WU) => ((r = -1 ∧ CLI f0 s0 s2 (gN f0 3) s1) ∨ ∃ b : Nat, r = nI b ∧ b < gN f0 3 ∧ CL f0 s0 b s1)) (fun (u : WU) => [(h0, oC 13 [.ref h1, .ref h2, .int p2, .ref h3, .ref h4, .int (nI k5), .int (nI k6), .int p7, .int p8, .int p9, .int (nI k10), .int p11, .long q12, .ref h5, .ref h6, .int (nI k15), .int (nI k16)]), (h1, aI Y 3640 f0), (h2, aZ Y 2 f1), (h3, aZ Y 80 f3), (h4, aB Y 1600 f4), (h5, aI Y 200 f13), (h6, aI Y 800 f14)]) (va_A [(h0, oC 13 [.ref h1, .ref h2, .int p2, .ref h3, .ref h4, .int (nI k5), .int (nI k6), .int p7, .int p8, .int p9, .int (nI k10), .int p11, .long q12, .ref h5, .ref h6, .int (nI k15), .int (nI k16)]), (h1, aI Y 3640 f0), (h2, aZ Y 2 f1), (h3, aZ Y 80 f3), (h4, aB Y 1600 f4), (h5, aI Y 200 f13), (h6, aI Y 800 f14)] sz)) 0 0 (va_A [(h0, oC 13 [.ref h1, .ref h2, .int p2, .ref h3, .ref h4, .int (nI k5), .int (nI k6), .int p7, .int p8, .int p9, .int (nI k10), .int p11, .long q12, .ref h5, .ref h6, .int (nI k15), .int (nI k16)]), (h1, aI Y 3640 f0), (h2, aZ Y 2 f1), (h3, aZ Y 80 f3), (h4, aB Y 1600 f4), (h5, aI Y 200 f13), (h6, aI Y 800 f14)] sz) :=
  met_of  (by decide +kernel) (Nat.le_of_ble_eq_true rfl) (fun p e s m args below meth c B hin hsz => by
    have B : VB p s m args meth c D Y (va_A [(h0, oC 13 [.ref h1, .ref h2, .int p2, .ref h3, .ref h4, .int (nI k5), .int (nI k6), .int p7, .int p8, .int p9, .int (nI k10), .int p11, .long q12, .ref h5, .ref h6, .int (nI k15), .int (nI k16)]), (h1, aI Y 3640 f0), (h2, aZ Y 2 f1), (h3, aZ Y 80 f3), (h4, aB Y 1600 f4), (h5, aI Y 200 f13), (h6, aI Y 800 f14)] sz) cX12_clashIn 5 RX12 (some .int) := B
    have hq_s1 := hs1.1
    refine V_iconst 0 B (v := 0) dX12_clashIn_0 (by decide +kernel) ?_
    refine V_istore 1 B (lv2 := [(4, .int 0), (0, .ref h0), (1, .int s0), (2, .int (nI s1)), (3, .int s2)]) dX12_clashIn_1 (by decide) rfl ?_
    refine V_wloop (α := WU) (fun a => 100000 - (a.1 0)) (fun a => (a.1 0) ≤ 80 ∧ CLI f0 s0 s2 (a.1 0) s1) (fun a => [(4, .int (nI (a.1 0))), (0, .ref h0), (1, .int s0), (2, .int (nI s1)), (3, .int s2)]) (fun a => [(h0, oC 13 [.ref h1, .ref h2, .int p2, .ref h3, .ref h4, .int (nI k5), .int (nI k6), .int p7, .int p8, .int p9, .int (nI k10), .int p11, .long q12, .ref h5, .ref h6, .int (nI k15), .int (nI k16)]), (h1, aI Y 3640 f0), (h2, aZ Y 2 f1), (h3, aZ Y 80 f3), (h4, aB Y 1600 f4), (h5, aI Y 200 f13), (h6, aI Y 800 f14)]) (mkW [0] [] [] [] [] []) ⟨(show 0 ≤ 80 by omega), (fun _ _ h => absurd h (Nat.not_lt_zero _))⟩ rfl rfl (fun a0 hI2 IH1 => ?_)
    refine V_lv [(4, .int (nI (a0.1 0))), (0, .ref h0), (1, .int s0), (2, .int (nI s1)), (3, .int s2)] [0, 1, 2, 3, 4] rfl ?_
    refine V_ws [(h0, oC 13 [.ref h1, .ref h2, .int p2, .ref h3, .ref h4, .int (nI k5), .int (nI k6), .int p7, .int p8, .int p9, .int (nI k10), .int p11, .long q12, .ref h5, .ref h6, .int (nI k15), .int (nI k16)]), (h1, aI Y 3640 f0), (h2, aZ Y 2 f1), (h3, aZ Y 80 f3), (h4, aB Y 1600 f4), (h5, aI Y 200 f13), (h6, aI Y 800 f14)] rfl ?_
    obtain ⟨x3, x4⟩ := hI2
    refine V_iload 3 B dX12_clashIn_3 0 rfl ?_
    refine V_aload_n 5 B dX12_clashIn_5 1 rfl ?_
    refine V_get 6 B gf_RX12_9 0 rfl rfl dX12_clashIn_6 ?_
    refine V_iconst 9 B (v := 3) dX12_clashIn_9 (by decide +kernel) ?_
    have x5 : (gN f0 3) ≤ 80 := gN_le HI (by omega) (show bd 3 = (0, ((80 : Nat) : Int)) by decide +kernel)
    refine V_iald 10 B (v := (nI (gN f0 3))) 1 rfl (vpin _ _ (by decide +kernel)) dX12_clashIn_10 (by show f0 3 = _; exact gN_eq HI (by omega) (show bd 3 = (0, ((80 : Nat) : Int)) by decide +kernel)) ?_
    refine V_icmp_ge 11 B 57 dX12_clashIn_11 (by decide) (fun kk6 => ?_) (fun kk6 => ?_)
    ·
      have x7 := n_le (a := (gN f0 3)) (b := (a0.1 0)) kk6 (by omega) (by omega)
      refine V_iconst 57 B (v := (-1)) dX12_clashIn_57 (by decide +kernel) ?_
      exact V_iret 58 B dX12_clashIn_58 (mkW [] [] [] [] [] []) (Or.inl ⟨rfl, fun e b h => x4 e b (by omega)⟩) rfl
    ·
      have x8 := n_nle (a := (gN f0 3)) (b := (a0.1 0)) kk6 (by omega) (by omega)
      refine V_iload 14 B dX12_clashIn_14 0 rfl ?_
      refine V_iload_n 16 B dX12_clashIn_16 4 rfl ?_
      refine V_icmp_eq 17 B 51 dX12_clashIn_17 (by decide) (fun kk9 => ?_) (fun kk9 => ?_)
      ·
        have x10 := x_eq kk9
        rw [nI_toInt (show (a0.1 0) < 2 ^ 31 by omega)] at x10
        refine V_iinc 51 B (v := (nI (1 + (a0.1 0)))) (lv2 := [(4, .int (nI (1 + (a0.1 0)))), (0, .ref h0), (1, .int s0), (2, .int (nI s1)), (3, .int s2)]) dX12_clashIn_51 0 rfl (nI_addE (a := (a0.1 0)) (b := 1) (by omega)) (by decide) rfl ?_
        refine V_goto 54 B 3 dX12_clashIn_54 (by decide) ?_
        refine V_lv [(4, .int (nI (1 + (a0.1 0)))), (0, .ref h0), (1, .int s0), (2, .int (nI s1)), (3, .int s2)] [0, 1, 2, 3, 4] rfl ?_
        exact IH1 (mkW [1 + (a0.1 0)] [] [] [] [] []) ⟨(show 1 + (a0.1 0) ≤ 80 by omega), (cl_but x4 kk9 (by omega))⟩ (by show 100000 - (1 + (a0.1 0)) < 100000 - (a0.1 0); omega)
      ·
        have x11 := x_ne kk9
        rw [nI_toInt (show (a0.1 0) < 2 ^ 31 by omega)] at x11
        refine V_iload_n 20 B dX12_clashIn_20 2 rfl ?_
        refine V_iconst 21 B (v := (-1)) dX12_clashIn_21 (by decide +kernel) ?_
        refine V_icmp_eq 22 B 35 dX12_clashIn_22 (by decide) (fun kk12 => ?_) (fun kk12 => ?_)
        ·
          obtain rfl : s0 = (-1) := kk12
          have e14 : ((-1) : Int32).toInt = (-1) := by decide +kernel
          refine V_aload_n 35 B dX12_clashIn_35 1 rfl ?_
          refine V_iload 36 B dX12_clashIn_36 0 rfl ?_
          refine V_csi 38 B (st := [.ref h0]) (As := [.int (nI (a0.1 0))]) (fun sz => rX12_sequenceOf l D Y (a0.1 0) (by omega) sz) glS_RX12_85 ⟨rfl, rfl⟩ ⟨(Nat.le_of_ble_eq_true rfl), (Nat.le_of_ble_eq_true rfl)⟩ ⟨(Nat.le_of_ble_eq_true rfl), (Nat.le_of_ble_eq_true rfl)⟩ [] rfl rfl (Nat.le_of_ble_eq_true rfl) rfl (fun _ _ _ => rfl) dX12_clashIn_38 (fun j15 u16 w17 => ?_)
          refine V_ws [(h0, oC 13 [.ref h1, .ref h2, .int p2, .ref h3, .ref h4, .int (nI k5), .int (nI k6), .int p7, .int p8, .int p9, .int (nI k10), .int p11, .long q12, .ref h5, .ref h6, .int (nI k15), .int (nI k16)]), (h1, aI Y 3640 f0), (h2, aZ Y 2 f1), (h3, aZ Y 80 f3), (h4, aB Y 1600 f4), (h5, aI Y 200 f13), (h6, aI Y 800 f14)] rfl ?_
          have x18 := w17
          clear w17
          obtain rfl := x18
          refine V_iload_n 41 B dX12_clashIn_41 3 rfl ?_
          refine V_cvi 42 B (st := []) (As := [.int (nI (186 + 7 * (a0.1 0))), .int (nI s1)]) (fun sz => rX12_doClash l D Y h0 h1 h2 h3 h4 h5 h6 p2 k5 k6 p7 p8 p9 k10 p11 q12 k15 k16 f0 f1 f3 f4 f13 f14 HI (by omega) HP (186 + 7 * (a0.1 0)) s1 (rl12 (a0.1 0) (by omega)) hs1 sz) glV_RX12_111 ⟨rfl, rfl⟩ ⟨(Nat.le_of_ble_eq_true rfl), (Nat.le_of_ble_eq_true rfl)⟩ ⟨(Nat.le_of_ble_eq_true rfl), (Nat.le_of_ble_eq_true rfl)⟩ [0, 0, 0, 0, 0, 0, 0] rfl 13 0 rfl rfl rfl rfl (Nat.le_of_ble_eq_true rfl) rfl (fun _ _ _ => rfl) dX12_clashIn_42 (fun j19 u20 w21 => ?_)
          refine V_ws [(h0, oC 13 [.ref h1, .ref h2, .int p2, .ref h3, .ref h4, .int (nI k5), .int (nI k6), .int p7, .int p8, .int p9, .int (nI k10), .int p11, .long q12, .ref h5, .ref h6, .int (nI k15), .int (nI k16)]), (h1, aI Y 3640 f0), (h2, aZ Y 2 f1), (h3, aZ Y 80 f3), (h4, aB Y 1600 f4), (h5, aI Y 200 f13), (h6, aI Y 800 f14)] rfl ?_
          have x22 := w21
          clear w21
          rcases x22 with ⟨rfl, x23⟩ | ⟨rfl, x23⟩
          ·
            refine V_if_eq_t 45 B 51 dX12_clashIn_45 (by decide) (by decide +kernel) ?_
            refine V_iinc 51 B (v := (nI (1 + (a0.1 0)))) (lv2 := [(4, .int (nI (1 + (a0.1 0)))), (0, .ref h0), (1, .int (-1)), (2, .int (nI s1)), (3, .int s2)]) dX12_clashIn_51 0 rfl (nI_addE (a := (a0.1 0)) (b := 1) (by omega)) (by decide) rfl ?_
            refine V_goto 54 B 3 dX12_clashIn_54 (by decide) ?_
            refine V_lv [(4, .int (nI (1 + (a0.1 0)))), (0, .ref h0), (1, .int (-1)), (2, .int (nI s1)), (3, .int s2)] [0, 1, 2, 3, 4] rfl ?_
            exact IH1 (mkW [1 + (a0.1 0)] [] [] [] [] []) ⟨(show 1 + (a0.1 0) ≤ 80 by omega), (cl_dc x4 x23)⟩ (by show 100000 - (1 + (a0.1 0)) < 100000 - (a0.1 0); omega)
          ·
            refine V_if_eq_f 45 B 51 dX12_clashIn_45 (by decide) (by decide +kernel) ?_
            refine V_iload 48 B dX12_clashIn_48 0 rfl ?_
            exact V_iret 50 B dX12_clashIn_50 (mkW [] [] [] [] [] []) (Or.inr ⟨(a0.1 0), rfl, by omega, Or.inl rfl, x23⟩) rfl
        ·
          have x24 := x_ne kk12
          rw [show ((-1) : Int32).toInt = (-1) by decide +kernel] at x24
          refine V_aload_n 25 B dX12_clashIn_25 1 rfl ?_
          refine V_iload 26 B dX12_clashIn_26 0 rfl ?_
          refine V_cvi 28 B (st := []) (As := [.int (nI (a0.1 0))]) (fun sz => rX12_modeOf l D Y h0 h1 h2 h3 h4 h5 h6 p2 k5 k6 p7 p8 p9 k10 p11 q12 k15 k16 f0 f1 f3 f4 f13 f14 HI (by omega) HP (a0.1 0) (by omega) sz) glV_RX12_115 ⟨rfl, rfl⟩ ⟨(Nat.le_of_ble_eq_true rfl), (Nat.le_of_ble_eq_true rfl)⟩ ⟨(Nat.le_of_ble_eq_true rfl), (Nat.le_of_ble_eq_true rfl)⟩ [0, 0, 0, 0, 0, 0, 0] rfl 13 0 rfl rfl rfl rfl (Nat.le_of_ble_eq_true rfl) rfl (fun _ _ _ => rfl) dX12_clashIn_28 (fun j25 u26 w27 => ?_)
          refine V_ws [(h0, oC 13 [.ref h1, .ref h2, .int p2, .ref h3, .ref h4, .int (nI k5), .int (nI k6), .int p7, .int p8, .int p9, .int (nI k10), .int p11, .long q12, .ref h5, .ref h6, .int (nI k15), .int (nI k16)]), (h1, aI Y 3640 f0), (h2, aZ Y 2 f1), (h3, aZ Y 80 f3), (h4, aB Y 1600 f4), (h5, aI Y 200 f13), (h6, aI Y 800 f14)] rfl ?_
          have x28 := w27
          clear w27
          refine V_iload_n 31 B dX12_clashIn_31 2 rfl ?_
          refine V_icmp_ne 32 B 51 dX12_clashIn_32 (by decide) (fun kk29 => ?_) (fun kk29 => ?_)
          ·
            have x30 := x_ne kk29
            refine V_iinc 51 B (v := (nI (1 + (a0.1 0)))) (lv2 := [(4, .int (nI (1 + (a0.1 0)))), (0, .ref h0), (1, .int s0), (2, .int (nI s1)), (3, .int s2)]) dX12_clashIn_51 0 rfl (nI_addE (a := (a0.1 0)) (b := 1) (by omega)) (by decide) rfl ?_
            refine V_goto 54 B 3 dX12_clashIn_54 (by decide) ?_
            refine V_lv [(4, .int (nI (1 + (a0.1 0)))), (0, .ref h0), (1, .int s0), (2, .int (nI s1)), (3, .int s2)] [0, 1, 2, 3, 4] rfl ?_
            exact IH1 (mkW [1 + (a0.1 0)] [] [] [] [] []) ⟨(show 1 + (a0.1 0) ≤ 80 by omega), (cl_mode x4 kk12 (fun z => kk29 (by rw [x28]; exact z)))⟩ (by show 100000 - (1 + (a0.1 0)) < 100000 - (a0.1 0); omega)
          ·
            have x31 := x_eq kk29
            refine V_aload_n 35 B dX12_clashIn_35 1 rfl ?_
            refine V_iload 36 B dX12_clashIn_36 0 rfl ?_
            refine V_csi 38 B (st := [.ref h0]) (As := [.int (nI (a0.1 0))]) (fun sz => rX12_sequenceOf l D Y (a0.1 0) (by omega) sz) glS_RX12_85 ⟨rfl, rfl⟩ ⟨(Nat.le_of_ble_eq_true rfl), (Nat.le_of_ble_eq_true rfl)⟩ ⟨(Nat.le_of_ble_eq_true rfl), (Nat.le_of_ble_eq_true rfl)⟩ [] rfl rfl (Nat.le_of_ble_eq_true rfl) rfl (fun _ _ _ => rfl) dX12_clashIn_38 (fun j32 u33 w34 => ?_)
            refine V_ws [(h0, oC 13 [.ref h1, .ref h2, .int p2, .ref h3, .ref h4, .int (nI k5), .int (nI k6), .int p7, .int p8, .int p9, .int (nI k10), .int p11, .long q12, .ref h5, .ref h6, .int (nI k15), .int (nI k16)]), (h1, aI Y 3640 f0), (h2, aZ Y 2 f1), (h3, aZ Y 80 f3), (h4, aB Y 1600 f4), (h5, aI Y 200 f13), (h6, aI Y 800 f14)] rfl ?_
            have x35 := w34
            clear w34
            obtain rfl := x35
            refine V_iload_n 41 B dX12_clashIn_41 3 rfl ?_
            refine V_cvi 42 B (st := []) (As := [.int (nI (186 + 7 * (a0.1 0))), .int (nI s1)]) (fun sz => rX12_doClash l D Y h0 h1 h2 h3 h4 h5 h6 p2 k5 k6 p7 p8 p9 k10 p11 q12 k15 k16 f0 f1 f3 f4 f13 f14 HI (by omega) HP (186 + 7 * (a0.1 0)) s1 (rl12 (a0.1 0) (by omega)) hs1 sz) glV_RX12_111 ⟨rfl, rfl⟩ ⟨(Nat.le_of_ble_eq_true rfl), (Nat.le_of_ble_eq_true rfl)⟩ ⟨(Nat.le_of_ble_eq_true rfl), (Nat.le_of_ble_eq_true rfl)⟩ [0, 0, 0, 0, 0, 0, 0] rfl 13 0 rfl rfl rfl rfl (Nat.le_of_ble_eq_true rfl) rfl (fun _ _ _ => rfl) dX12_clashIn_42 (fun j36 u37 w38 => ?_)
            refine V_ws [(h0, oC 13 [.ref h1, .ref h2, .int p2, .ref h3, .ref h4, .int (nI k5), .int (nI k6), .int p7, .int p8, .int p9, .int (nI k10), .int p11, .long q12, .ref h5, .ref h6, .int (nI k15), .int (nI k16)]), (h1, aI Y 3640 f0), (h2, aZ Y 2 f1), (h3, aZ Y 80 f3), (h4, aB Y 1600 f4), (h5, aI Y 200 f13), (h6, aI Y 800 f14)] rfl ?_
            have x39 := w38
            clear w38
            rcases x39 with ⟨rfl, x40⟩ | ⟨rfl, x40⟩
            ·
              refine V_if_eq_t 45 B 51 dX12_clashIn_45 (by decide) (by decide +kernel) ?_
              refine V_iinc 51 B (v := (nI (1 + (a0.1 0)))) (lv2 := [(4, .int (nI (1 + (a0.1 0)))), (0, .ref h0), (1, .int s0), (2, .int (nI s1)), (3, .int s2)]) dX12_clashIn_51 0 rfl (nI_addE (a := (a0.1 0)) (b := 1) (by omega)) (by decide) rfl ?_
              refine V_goto 54 B 3 dX12_clashIn_54 (by decide) ?_
              refine V_lv [(4, .int (nI (1 + (a0.1 0)))), (0, .ref h0), (1, .int s0), (2, .int (nI s1)), (3, .int s2)] [0, 1, 2, 3, 4] rfl ?_
              exact IH1 (mkW [1 + (a0.1 0)] [] [] [] [] []) ⟨(show 1 + (a0.1 0) ≤ 80 by omega), (cl_dc x4 x40)⟩ (by show 100000 - (1 + (a0.1 0)) < 100000 - (a0.1 0); omega)
            ·
              refine V_if_eq_f 45 B 51 dX12_clashIn_45 (by decide) (by decide +kernel) ?_
              refine V_iload 48 B dX12_clashIn_48 0 rfl ?_
              exact V_iret 50 B dX12_clashIn_50 (mkW [] [] [] [] [] []) (Or.inr ⟨(a0.1 0), rfl, by omega, Or.inr (by rw [← x28]; exact kk29), x40⟩) rfl)
theorem glV_RX12_121 : GLV RX12 121 yX12_clashIn RX12 cX12_clashIn 5 (some .int) 3 := ⟨⟨(mT8 70 rfl rfl), (mT8 72 rfl rfl), (mTs 40 rfl rfl), (mT1 13 rfl rfl), (mT8 73 rfl rfl)⟩, by decide +kernel⟩
theorem dX12_forced_44 : decode cX12_forced 44 = .ok (.istore 5, 2) := by decide +kernel
theorem dX12_forced_46 : decode cX12_forced 46 = .ok (.iload 5, 2) := by decide +kernel
theorem dX12_forced_48 : decode cX12_forced 48 = .ok (.iconst (-1), 1) := by decide +kernel
theorem dX12_forced_49 : decode cX12_forced 49 = .ok (.if_icmp .eq 21, 3) := by decide +kernel
theorem dX12_forced_70 : decode cX12_forced 70 = .ok (.aload_n 0, 1) := by decide +kernel
theorem dX12_forced_71 : decode cX12_forced 71 = .ok (.iload_n 1, 1) := by decide +kernel
theorem dX12_forced_72 : decode cX12_forced 72 = .ok (.iload_n 2, 1) := by decide +kernel
theorem dX12_forced_73 : decode cX12_forced 73 = .ok (.iload_n 3, 1) := by decide +kernel
theorem dX12_forced_74 : decode cX12_forced 74 = .ok (.invokevirtual 132, 3) := by decide +kernel
theorem dX12_add_0 : decode cX12_add 0 = .ok (.aload_n 0, 1) := by decide +kernel
theorem dX12_add_1 : decode cX12_add 1 = .ok (.getfield 9, 3) := by decide +kernel
theorem dX12_add_4 : decode cX12_add 4 = .ok (.iconst 3, 1) := by decide +kernel
theorem dX12_add_5 : decode cX12_add 5 = .ok (.iaload, 1) := by decide +kernel
theorem dX12_add_6 : decode cX12_add 6 = .ok (.invokestatic 79, 3) := by decide +kernel
theorem dX12_add_9 : decode cX12_add 9 = .ok (.istore 4, 2) := by decide +kernel
theorem dX12_add_11 : decode cX12_add 11 = .ok (.aload_n 0, 1) := by decide +kernel
theorem dX12_add_12 : decode cX12_add 12 = .ok (.getfield 9, 3) := by decide +kernel
theorem dX12_add_15 : decode cX12_add 15 = .ok (.iload 4, 2) := by decide +kernel
theorem dX12_add_17 : decode cX12_add 17 = .ok (.iconst 0, 1) := by decide +kernel
theorem dX12_add_18 : decode cX12_add 18 = .ok (.iadd, 1) := by decide +kernel
theorem dX12_add_19 : decode cX12_add 19 = .ok (.iload_n 1, 1) := by decide +kernel
theorem dX12_add_20 : decode cX12_add 20 = .ok (.iastore, 1) := by decide +kernel
theorem dX12_add_21 : decode cX12_add 21 = .ok (.aload_n 0, 1) := by decide +kernel
theorem dX12_add_22 : decode cX12_add 22 = .ok (.getfield 9, 3) := by decide +kernel
theorem dX12_add_25 : decode cX12_add 25 = .ok (.iload 4, 2) := by decide +kernel
theorem dX12_add_27 : decode cX12_add 27 = .ok (.iconst 1, 1) := by decide +kernel
theorem dX12_add_28 : decode cX12_add 28 = .ok (.iadd, 1) := by decide +kernel
theorem dX12_add_29 : decode cX12_add 29 = .ok (.iload_n 2, 1) := by decide +kernel
theorem dX12_add_30 : decode cX12_add 30 = .ok (.iastore, 1) := by decide +kernel
theorem rl13 : ∀ z0, z0 < 80 → bd (185 + 7 * z0) = (0, ((39 : Nat) : Int)) := by decide +kernel
theorem dX12_add_31 : decode cX12_add 31 = .ok (.aload_n 0, 1) := by decide +kernel
theorem dX12_add_32 : decode cX12_add 32 = .ok (.iload_n 3, 1) := by decide +kernel
theorem dX12_add_33 : decode cX12_add 33 = .ok (.iload 4, 2) := by decide +kernel
theorem dX12_add_35 : decode cX12_add 35 = .ok (.iconst 2, 1) := by decide +kernel
theorem dX12_add_36 : decode cX12_add 36 = .ok (.iadd, 1) := by decide +kernel
theorem dX12_add_37 : decode cX12_add 37 = .ok (.invokevirtual 88, 3) := by decide +kernel
theorem dX12_copySequence_0 : decode cX12_copySequence 0 = .ok (.iconst 0, 1) := by decide +kernel
theorem dX12_copySequence_1 : decode cX12_copySequence 1 = .ok (.istore_n 3, 1) := by decide +kernel
theorem dX12_copySequence_2 : decode cX12_copySequence 2 = .ok (.iload_n 3, 1) := by decide +kernel
theorem dX12_copySequence_3 : decode cX12_copySequence 3 = .ok (.iconst 5, 1) := by decide +kernel
theorem dX12_copySequence_4 : decode cX12_copySequence 4 = .ok (.if_icmp .ge 39, 3) := by decide +kernel
theorem dX12_copySequence_43 : decode cX12_copySequence 43 = .ok (.return_, 1) := by decide +kernel
theorem dX12_copySequence_7 : decode cX12_copySequence 7 = .ok (.aload_n 0, 1) := by decide +kernel
theorem dX12_copySequence_8 : decode cX12_copySequence 8 = .ok (.getfield 9, 3) := by decide +kernel
theorem dX12_copySequence_11 : decode cX12_copySequence 11 = .ok (.iload_n 2, 1) := by decide +kernel
theorem dX12_copySequence_12 : decode cX12_copySequence 12 = .ok (.iload_n 3, 1) := by decide +kernel
theorem dX12_copySequence_13 : decode cX12_copySequence 13 = .ok (.iadd, 1) := by decide +kernel
theorem dX12_copySequence_14 : decode cX12_copySequence 14 = .ok (.iload_n 3, 1) := by decide +kernel
theorem dX12_copySequence_15 : decode cX12_copySequence 15 = .ok (.aload_n 0, 1) := by decide +kernel
theorem dX12_copySequence_16 : decode cX12_copySequence 16 = .ok (.getfield 9, 3) := by decide +kernel
theorem dX12_copySequence_19 : decode cX12_copySequence 19 = .ok (.iload_n 1, 1) := by decide +kernel
theorem dX12_copySequence_20 : decode cX12_copySequence 20 = .ok (.iaload, 1) := by decide +kernel
theorem dX12_copySequence_21 : decode cX12_copySequence 21 = .ok (.if_icmp .gt 14, 3) := by decide +kernel
theorem dX12_copySequence_35 : decode cX12_copySequence 35 = .ok (.iconst 0, 1) := by decide +kernel
theorem dX12_copySequence_36 : decode cX12_copySequence 36 = .ok (.iastore, 1) := by decide +kernel
theorem dX12_copySequence_37 : decode cX12_copySequence 37 = .ok (.iinc 3 1, 3) := by decide +kernel
theorem dX12_copySequence_40 : decode cX12_copySequence 40 = .ok (.goto (-38), 3) := by decide +kernel
theorem dX12_copySequence_24 : decode cX12_copySequence 24 = .ok (.aload_n 0, 1) := by decide +kernel
theorem dX12_copySequence_25 : decode cX12_copySequence 25 = .ok (.getfield 9, 3) := by decide +kernel
theorem dX12_copySequence_28 : decode cX12_copySequence 28 = .ok (.iload_n 1, 1) := by decide +kernel
theorem dX12_copySequence_29 : decode cX12_copySequence 29 = .ok (.iload_n 3, 1) := by decide +kernel
theorem dX12_copySequence_30 : decode cX12_copySequence 30 = .ok (.iadd, 1) := by decide +kernel
theorem dX12_copySequence_31 : decode cX12_copySequence 31 = .ok (.iaload, 1) := by decide +kernel
theorem dX12_copySequence_32 : decode cX12_copySequence 32 = .ok (.goto 4, 3) := by decide +kernel
set_option maxRecDepth 100000 in
set_option maxHeartbeats 4000000 in
theorem rX12_copySequence (l : Launch) (D : va_G) (Y : Nat → ClassId) (h0 : Nat) (h1 : Nat) (h2 : Nat) (h3 : Nat) (h4 : Nat) (h5 : Nat) (h6 : Nat) (p2 : Int32) (k5 : Nat) (k6 : Nat) (p7 : Int32) (p8 : Int32) (p9 : Int32) (k10 : Nat) (p11 : Int32) (q12 : Int64) (k15 : Nat) (k16 : Nat) (f0 : Nat → Int32) (f1 : Nat → Int32) (f3 : Nat → Int32) (f4 : Nat → Int32) (f13 : Nat → Int32) (f14 : Nat → Int32) (HI : INV f0) (HL : k5 ≤ 1600) (HP : PLV f13) (s0 : Nat) (s1 : Nat) (hs0 : SQ s0) (hs1 : SQ s1) (sz : Nat) : Met l yX12_copySequence (WSm yX12_copySequence cX12_copySequence 4 none) (mkR 0 0 0 0) (PreC D Y [.ref h0, .int (nI s0), .int (nI s1)] [(h0, oC 13 [.ref h1, .ref h2, .int p2, .ref h3, .ref h4, .int (nI k5), .int (nI k6), .int p7, .int p8, .int p9, .int (nI k10), .int p11, .long q12, .ref h5, .ref h6, .int (nI k15), .int (nI k16)]), (h1, aI Y 3640 f0), (h2, aZ Y 2 f1), (h3, aZ Y 80 f3), (h4, aB Y 1600 f4), (h5, aI Y 200 f13), (h6, aI Y 800 f14)] sz) (QV D (fun (u : WU) => INV (u.2.2.2.1 0) ∧ (∀ k, (k < s1 ∨ s1 + 5 ≤ k) → (u.2.2.2.1 0) k = f0 k)) (fun (u : WU) => [(h0, oC 13 [.ref h1, .ref h2, .int p2, .ref h3, .ref h4, .int (nI k5), .int (nI k6), .int p7, .int p8, .int p9, .int (nI k10), .int p11, .long q12, .ref h5, .ref h6, .int (nI k15), .int (nI k16)]), (h1, aI Y 3640 (u.2.2.2.1 0)), (h2, aZ Y 2 f1), (h3, aZ Y 80 f3), (h4, aB Y 1600 f4), (h5, aI Y 200 f13), (h6, aI Y 800 f14)]) (va_A [(h0, oC 13 [.ref h1, .ref h2, .int p2, .ref h3, .ref h4, .int (nI k5), .int (nI k6), .int p7, .int p8, .int p9, .int (nI k10), .int p11, .long q12, .ref h5, .ref h6, .int (nI k15), .int (nI k16)]), (h1, aI Y 3640 f0), (h2, aZ Y 2 f1), (h3, aZ Y 80 f3), (h4, aB Y 1600 f4), (h5, aI Y 200 f13), (h6, aI Y 800 f14)] sz)) 0 0 (va_A [(h0, oC 13 [.ref h1, .ref h2, .int p2, .ref h3, .ref h4, .int (nI k5), .int (nI k6), .int p7, .int p8, .int p9, .int (nI k10), .int p11, .long q12, .ref h5, .ref h6, .int (nI k15), .int (nI k16)]), (h1, aI Y 3640 f0), (h2, aZ Y 2 f1), (h3, aZ Y 80 f3), (h4, aB Y 1600 f4), (h5, aI Y 200 f13), (h6, aI Y 800 f14)] sz) :=
  met_of  (by decide +kernel) (Nat.le_of_ble_eq_true rfl) (fun p e s m args below meth c B hin hsz => by
    have B : VB p s m args meth c D Y (va_A [(h0, oC 13 [.ref h1, .ref h2, .int p2, .ref h3, .ref h4, .int (nI k5), .int (nI k6), .int p7, .int p8, .int p9, .int (nI k10), .int p11, .long q12, .ref h5, .ref h6, .int (nI k15), .int (nI k16)]), (h1, aI Y 3640 f0), (h2, aZ Y 2 f1), (h3, aZ Y 80 f3), (h4, aB Y 1600 f4), (h5, aI Y 200 f13), (h6, aI Y 800 f14)] sz) cX12_copySequence 4 RX12 none := B
    have hq_s0 := hs0.1
    have hq_s1 := hs1.1
    refine V_iconst 0 B (v := 0) dX12_copySequence_0 (by decide +kernel) ?_
    refine V_istore_n 1 B (lv2 := [(3, .int 0), (0, .ref h0), (1, .int (nI s0)), (2, .int (nI s1))]) dX12_copySequence_1 (by decide) rfl ?_
    refine V_wloop (α := WU) (fun a => 100000 - (a.1 0)) (fun a => INV (a.2.2.2.1 0) ∧ (a.1 0) ≤ 5 ∧ (∀ k, (k < s1 ∨ s1 + 5 ≤ k) → (a.2.2.2.1 0) k = f0 k)) (fun a => [(3, .int (nI (a.1 0))), (0, .ref h0), (1, .int (nI s0)), (2, .int (nI s1))]) (fun a => [(h0, oC 13 [.ref h1, .ref h2, .int p2, .ref h3, .ref h4, .int (nI k5), .int (nI k6), .int p7, .int p8, .int p9, .int (nI k10), .int p11, .long q12, .ref h5, .ref h6, .int (nI k15), .int (nI k16)]), (h1, aI Y 3640 (a.2.2.2.1 0)), (h2, aZ Y 2 f1), (h3, aZ Y 80 f3), (h4, aB Y 1600 f4), (h5, aI Y 200 f13), (h6, aI Y 800 f14)]) (mkW [0] [] [] [f0] [] []) ⟨HI, (show 0 ≤ 5 by omega), (fun _ _ => rfl)⟩ rfl rfl (fun a0 hI2 IH1 => ?_)
    refine V_lv [(3, .int (nI (a0.1 0))), (0, .ref h0), (1, .int (nI s0)), (2, .int (nI s1))] [0, 1, 2, 3] rfl ?_
    refine V_ws [(h0, oC 13 [.ref h1, .ref h2, .int p2, .ref h3, .ref h4, .int (nI k5), .int (nI k6), .int p7, .int p8, .int p9, .int (nI k10), .int p11, .long q12, .ref h5, .ref h6, .int (nI k15), .int (nI k16)]), (h1, aI Y 3640 (a0.2.2.2.1 0)), (h2, aZ Y 2 f1), (h3, aZ Y 80 f3), (h4, aB Y 1600 f4), (h5, aI Y 200 f13), (h6, aI Y 800 f14)] rfl ?_
    obtain ⟨x3, x4, x5⟩ := hI2
    refine V_iload_n 2 B dX12_copySequence_2 0 rfl ?_
    refine V_iconst 3 B (v := 5) dX12_copySequence_3 (by decide +kernel) ?_
    refine V_icmp_ge 4 B 43 dX12_copySequence_4 (by decide) (fun kk6 => ?_) (fun kk6 => ?_)
    ·
      have x7 := n_le (a := 5) (b := (a0.1 0)) kk6 (by omega) (by omega)
      exact V_vret 43 B dX12_copySequence_43 (mkW [] [] [] [(a0.2.2.2.1 0)] [] []) ⟨x3, x5⟩ rfl
    ·
      have x8 := n_nle (a := 5) (b := (a0.1 0)) kk6 (by omega) (by omega)
      by_cases x9 : (a0.1 0) = 0
      ·
        refine V_lv [(3, .int 0), (0, .ref h0), (1, .int (nI s0)), (2, .int (nI s1))] [0, 1, 2, 3] (by rw [x9]; rfl) ?_
        refine V_aload_n 7 B dX12_copySequence_7 1 rfl ?_
        refine V_get 8 B gf_RX12_9 0 rfl rfl dX12_copySequence_8 ?_
        refine V_iload_n 11 B dX12_copySequence_11 3 rfl ?_
        refine V_iload_n 12 B dX12_copySequence_12 0 rfl ?_
        refine V_iadd 13 B (v := (nI s1)) dX12_copySequence_13 (nI_addE (a := s1) (b := 0) (by omega)) ?_
        refine V_iload_n 14 B dX12_copySequence_14 0 rfl ?_
        refine V_aload_n 15 B dX12_copySequence_15 1 rfl ?_
        refine V_get 16 B gf_RX12_9 0 rfl rfl dX12_copySequence_16 ?_
        refine V_iload_n 19 B dX12_copySequence_19 2 rfl ?_
        have x10 : (gN (a0.2.2.2.1 0) s0) ≤ 4 := gN_le x3 (by omega) hs0.2.1
        refine V_iald 20 B (v := (nI ((gN (a0.2.2.2.1 0) s0)))) 1 rfl (vp_in_nI (n := s0) (by omega) (by decide)) dX12_copySequence_20 (by rw [nI_clamp (show s0 < 2 ^ 31 by omega)]; exact gN_eq x3 (by omega) hs0.2.1) ?_
        refine V_icmp_gt 21 B 35 dX12_copySequence_21 (by decide) (fun kk11 => ?_) (fun kk11 => ?_)
        ·
          have x12 := n_lt (a := (gN (a0.2.2.2.1 0) s0)) (b := 0) kk11 (by omega) (by omega)
          refine V_iconst 35 B (v := 0) dX12_copySequence_35 (by decide +kernel) ?_
          have hv13 : INV (upd (a0.2.2.2.1 0) s1 0) := INV_nat (v := 0) x3 hs1.2.1 (by omega) (by decide)
          refine V_iast 36 B 1 rfl (vp_in_nI (n := s1) (by omega) (by decide)) dX12_copySequence_36 [(h0, oC 13 [.ref h1, .ref h2, .int p2, .ref h3, .ref h4, .int (nI k5), .int (nI k6), .int p7, .int p8, .int p9, .int (nI k10), .int p11, .long q12, .ref h5, .ref h6, .int (nI k15), .int (nI k16)]), (h1, aI Y 3640 (upd (a0.2.2.2.1 0) s1 0)), (h2, aZ Y 2 f1), (h3, aZ Y 80 f3), (h4, aB Y 1600 f4), (h5, aI Y 200 f13), (h6, aI Y 800 f14)] (by rw [nI_clamp (show s1 < 2 ^ 31 by omega)]; rfl) ?_
          refine V_iinc 37 B (v := 1) (lv2 := [(3, .int 1), (0, .ref h0), (1, .int (nI s0)), (2, .int (nI s1))]) dX12_copySequence_37 0 rfl (by decide +kernel) (by decide) rfl ?_
          refine V_goto 40 B 2 dX12_copySequence_40 (by decide) ?_
          refine V_lv [(3, .int 1), (0, .ref h0), (1, .int (nI s0)), (2, .int (nI s1))] [0, 1, 2, 3] rfl ?_
          exact IH1 (mkW [1] [] [] [(upd (a0.2.2.2.1 0) s1 0)] [] []) ⟨hv13, (show 1 ≤ 5 by omega), (fr_upd x5 (by omega) (by omega))⟩ (by show 100000 - (1) < 100000 - (a0.1 0); omega)
        ·
          have x14 := n_nlt (a := (gN (a0.2.2.2.1 0) s0)) (b := 0) kk11 (by omega) (by omega)
          refine V_aload_n 24 B dX12_copySequence_24 1 rfl ?_
          refine V_get 25 B gf_RX12_9 0 rfl rfl dX12_copySequence_25 ?_
          refine V_iload_n 28 B dX12_copySequence_28 2 rfl ?_
          refine V_iload_n 29 B dX12_copySequence_29 0 rfl ?_
          refine V_iadd 30 B (v := (nI s0)) dX12_copySequence_30 (nI_addE (a := s0) (b := 0) (by omega)) ?_
          have x15 : (gN (a0.2.2.2.1 0) s0) ≤ 4 := gN_le x3 (by omega) hs0.2.1
          refine V_iald 31 B (v := (nI ((gN (a0.2.2.2.1 0) s0)))) 1 rfl (vp_in_nI (n := s0) (by omega) (by decide)) dX12_copySequence_31 (by rw [nI_clamp (show s0 < 2 ^ 31 by omega)]; exact gN_eq x3 (by omega) hs0.2.1) ?_
          refine V_goto 32 B 36 dX12_copySequence_32 (by decide) ?_
          have hv16 : INV (upd (a0.2.2.2.1 0) s1 (nI ((gN (a0.2.2.2.1 0) s0)))) := INV_nat (v := (gN (a0.2.2.2.1 0) s0)) x3 hs1.2.1 (by omega) (by decide)
          refine V_iast 36 B 1 rfl (vp_in_nI (n := s1) (by omega) (by decide)) dX12_copySequence_36 [(h0, oC 13 [.ref h1, .ref h2, .int p2, .ref h3, .ref h4, .int (nI k5), .int (nI k6), .int p7, .int p8, .int p9, .int (nI k10), .int p11, .long q12, .ref h5, .ref h6, .int (nI k15), .int (nI k16)]), (h1, aI Y 3640 (upd (a0.2.2.2.1 0) s1 (nI ((gN (a0.2.2.2.1 0) s0))))), (h2, aZ Y 2 f1), (h3, aZ Y 80 f3), (h4, aB Y 1600 f4), (h5, aI Y 200 f13), (h6, aI Y 800 f14)] (by rw [nI_clamp (show s1 < 2 ^ 31 by omega)]; rfl) ?_
          refine V_iinc 37 B (v := 1) (lv2 := [(3, .int 1), (0, .ref h0), (1, .int (nI s0)), (2, .int (nI s1))]) dX12_copySequence_37 0 rfl (by decide +kernel) (by decide) rfl ?_
          refine V_goto 40 B 2 dX12_copySequence_40 (by decide) ?_
          refine V_lv [(3, .int 1), (0, .ref h0), (1, .int (nI s0)), (2, .int (nI s1))] [0, 1, 2, 3] rfl ?_
          exact IH1 (mkW [1] [] [] [(upd (a0.2.2.2.1 0) s1 (nI ((gN (a0.2.2.2.1 0) s0))))] [] []) ⟨hv16, (show 1 ≤ 5 by omega), (fr_upd x5 (by omega) (by omega))⟩ (by show 100000 - (1) < 100000 - (a0.1 0); omega)
      ·
        refine V_aload_n 7 B dX12_copySequence_7 1 rfl ?_
        refine V_get 8 B gf_RX12_9 0 rfl rfl dX12_copySequence_8 ?_
        refine V_iload_n 11 B dX12_copySequence_11 3 rfl ?_
        refine V_iload_n 12 B dX12_copySequence_12 0 rfl ?_
        refine V_iadd 13 B (v := (nI ((a0.1 0) + s1))) dX12_copySequence_13 (nI_addE (a := s1) (b := (a0.1 0)) (by omega)) ?_
        refine V_iload_n 14 B dX12_copySequence_14 0 rfl ?_
        refine V_aload_n 15 B dX12_copySequence_15 1 rfl ?_
        refine V_get 16 B gf_RX12_9 0 rfl rfl dX12_copySequence_16 ?_
        refine V_iload_n 19 B dX12_copySequence_19 2 rfl ?_
        have x17 : (gN (a0.2.2.2.1 0) s0) ≤ 4 := gN_le x3 (by omega) hs0.2.1
        refine V_iald 20 B (v := (nI ((gN (a0.2.2.2.1 0) s0)))) 1 rfl (vp_in_nI (n := s0) (by omega) (by decide)) dX12_copySequence_20 (by rw [nI_clamp (show s0 < 2 ^ 31 by omega)]; exact gN_eq x3 (by omega) hs0.2.1) ?_
        refine V_icmp_gt 21 B 35 dX12_copySequence_21 (by decide) (fun kk18 => ?_) (fun kk18 => ?_)
        ·
          have x19 := n_lt (a := (gN (a0.2.2.2.1 0) s0)) (b := (a0.1 0)) kk18 (by omega) (by omega)
          refine V_iconst 35 B (v := 0) dX12_copySequence_35 (by decide +kernel) ?_
          have hv20 : INV (upd (a0.2.2.2.1 0) ((a0.1 0) + s1) 0) := INV_free x3 (SQ.fr hs1 (j := (a0.1 0) + s1) (by omega) (by omega))
          refine V_iast 36 B 1 rfl (vp_in_nI (n := (a0.1 0) + s1) (by omega) (by decide)) dX12_copySequence_36 [(h0, oC 13 [.ref h1, .ref h2, .int p2, .ref h3, .ref h4, .int (nI k5), .int (nI k6), .int p7, .int p8, .int p9, .int (nI k10), .int p11, .long q12, .ref h5, .ref h6, .int (nI k15), .int (nI k16)]), (h1, aI Y 3640 (upd (a0.2.2.2.1 0) ((a0.1 0) + s1) 0)), (h2, aZ Y 2 f1), (h3, aZ Y 80 f3), (h4, aB Y 1600 f4), (h5, aI Y 200 f13), (h6, aI Y 800 f14)] (by rw [nI_clamp (show (a0.1 0) + s1 < 2 ^ 31 by omega)]; rfl) ?_
          refine V_iinc 37 B (v := (nI (1 + (a0.1 0)))) (lv2 := [(3, .int (nI (1 + (a0.1 0)))), (0, .ref h0), (1, .int (nI s0)), (2, .int (nI s1))]) dX12_copySequence_37 0 rfl (nI_addE (a := (a0.1 0)) (b := 1) (by omega)) (by decide) rfl ?_
          refine V_goto 40 B 2 dX12_copySequence_40 (by decide) ?_
          refine V_lv [(3, .int (nI (1 + (a0.1 0)))), (0, .ref h0), (1, .int (nI s0)), (2, .int (nI s1))] [0, 1, 2, 3] rfl ?_
          exact IH1 (mkW [1 + (a0.1 0)] [] [] [(upd (a0.2.2.2.1 0) ((a0.1 0) + s1) 0)] [] []) ⟨hv20, (show 1 + (a0.1 0) ≤ 5 by omega), (fr_upd x5 (by omega) (by omega))⟩ (by show 100000 - (1 + (a0.1 0)) < 100000 - (a0.1 0); omega)
        ·
          have x21 := n_nlt (a := (gN (a0.2.2.2.1 0) s0)) (b := (a0.1 0)) kk18 (by omega) (by omega)
          refine V_aload_n 24 B dX12_copySequence_24 1 rfl ?_
          refine V_get 25 B gf_RX12_9 0 rfl rfl dX12_copySequence_25 ?_
          refine V_iload_n 28 B dX12_copySequence_28 2 rfl ?_
          refine V_iload_n 29 B dX12_copySequence_29 0 rfl ?_
          refine V_iadd 30 B (v := (nI ((a0.1 0) + s0))) dX12_copySequence_30 (nI_addE (a := s0) (b := (a0.1 0)) (by omega)) ?_
          refine V_iald 31 B (v := (a0.2.2.2.1 0) ((a0.1 0) + s0)) 1 rfl (vp_in_nI (n := (a0.1 0) + s0) (by omega) (by decide)) dX12_copySequence_31 (by rw [nI_clamp (show (a0.1 0) + s0 < 2 ^ 31 by omega)]) ?_
          refine V_nmi (fun j22 e23 => ?_)
          refine V_goto 32 B 36 dX12_copySequence_32 (by decide) ?_
          have hv24 : INV (upd (a0.2.2.2.1 0) ((a0.1 0) + s1) j22) := INV_free x3 (SQ.fr hs1 (j := (a0.1 0) + s1) (by omega) (by omega))
          refine V_iast 36 B 1 rfl (vp_in_nI (n := (a0.1 0) + s1) (by omega) (by decide)) dX12_copySequence_36 [(h0, oC 13 [.ref h1, .ref h2, .int p2, .ref h3, .ref h4, .int (nI k5), .int (nI k6), .int p7, .int p8, .int p9, .int (nI k10), .int p11, .long q12, .ref h5, .ref h6, .int (nI k15), .int (nI k16)]), (h1, aI Y 3640 (upd (a0.2.2.2.1 0) ((a0.1 0) + s1) j22)), (h2, aZ Y 2 f1), (h3, aZ Y 80 f3), (h4, aB Y 1600 f4), (h5, aI Y 200 f13), (h6, aI Y 800 f14)] (by rw [nI_clamp (show (a0.1 0) + s1 < 2 ^ 31 by omega)]; rfl) ?_
          refine V_iinc 37 B (v := (nI (1 + (a0.1 0)))) (lv2 := [(3, .int (nI (1 + (a0.1 0)))), (0, .ref h0), (1, .int (nI s0)), (2, .int (nI s1))]) dX12_copySequence_37 0 rfl (nI_addE (a := (a0.1 0)) (b := 1) (by omega)) (by decide) rfl ?_
          refine V_goto 40 B 2 dX12_copySequence_40 (by decide) ?_
          refine V_lv [(3, .int (nI (1 + (a0.1 0)))), (0, .ref h0), (1, .int (nI s0)), (2, .int (nI s1))] [0, 1, 2, 3] rfl ?_
          exact IH1 (mkW [1 + (a0.1 0)] [] [] [(upd (a0.2.2.2.1 0) ((a0.1 0) + s1) j22)] [] []) ⟨hv24, (show 1 + (a0.1 0) ≤ 5 by omega), (fr_upd x5 (by omega) (by omega))⟩ (by show 100000 - (1 + (a0.1 0)) < 100000 - (a0.1 0); omega))
theorem glV_RX12_88 : GLV RX12 88 yX12_copySequence RX12 cX12_copySequence 4 none 2 := ⟨⟨(mT8 17 rfl rfl), (mT8 19 rfl rfl), (mTs 33 rfl rfl), (mT1 13 rfl rfl), (mT8 20 rfl rfl)⟩, by decide +kernel⟩
theorem dX12_add_40 : decode cX12_add 40 = .ok (.aload_n 0, 1) := by decide +kernel
theorem dX12_add_41 : decode cX12_add 41 = .ok (.getfield 9, 3) := by decide +kernel
theorem dX12_add_44 : decode cX12_add 44 = .ok (.iconst 3, 1) := by decide +kernel
theorem dX12_add_45 : decode cX12_add 45 = .ok (.dup2, 1) := by decide +kernel
theorem dX12_add_46 : decode cX12_add 46 = .ok (.iaload, 1) := by decide +kernel
theorem dX12_add_47 : decode cX12_add 47 = .ok (.iconst 1, 1) := by decide +kernel
theorem dX12_add_48 : decode cX12_add 48 = .ok (.iadd, 1) := by decide +kernel
theorem dX12_add_49 : decode cX12_add 49 = .ok (.iastore, 1) := by decide +kernel
theorem dX12_add_50 : decode cX12_add 50 = .ok (.return_, 1) := by decide +kernel
set_option maxRecDepth 100000 in
set_option maxHeartbeats 4000000 in
theorem rX12_add (l : Launch) (D : va_G) (Y : Nat → ClassId) (h0 : Nat) (h1 : Nat) (h2 : Nat) (h3 : Nat) (h4 : Nat) (h5 : Nat) (h6 : Nat) (p2 : Int32) (k5 : Nat) (k6 : Nat) (p7 : Int32) (p8 : Int32) (p9 : Int32) (k10 : Nat) (p11 : Int32) (q12 : Int64) (k15 : Nat) (k16 : Nat) (f0 : Nat → Int32) (f1 : Nat → Int32) (f3 : Nat → Int32) (f4 : Nat → Int32) (f13 : Nat → Int32) (f14 : Nat → Int32) (HI : INV f0) (HL : k5 ≤ 1600) (HP : PLV f13) (s0 : Int32) (s1 : Nat) (s2 : Nat) (hn1 : s1 < 40) (hs2 : SQ s2) (hx0 : gN f0 3 < 80) (sz : Nat) : Met l yX12_add (WSm yX12_add cX12_add 5 none) (mkR 1 0 0 23) (PreC D Y [.ref h0, .int s0, .int (nI s1), .int (nI s2)] [(h0, oC 13 [.ref h1, .ref h2, .int p2, .ref h3, .ref h4, .int (nI k5), .int (nI k6), .int p7, .int p8, .int p9, .int (nI k10), .int p11, .long q12, .ref h5, .ref h6, .int (nI k15), .int (nI k16)]), (h1, aI Y 3640 f0), (h2, aZ Y 2 f1), (h3, aZ Y 80 f3), (h4, aB Y 1600 f4), (h5, aI Y 200 f13), (h6, aI Y 800 f14)] sz) (QV D (fun (u : WU) => INV (u.2.2.2.1 0)) (fun (u : WU) => [(h0, oC 13 [.ref h1, .ref h2, .int p2, .ref h3, .ref h4, .int (nI k5), .int (nI k6), .int p7, .int p8, .int p9, .int (nI k10), .int p11, .long q12, .ref h5, .ref h6, .int (nI k15), .int (nI k16)]), (h1, aI Y 3640 (u.2.2.2.1 0)), (h2, aZ Y 2 f1), (h3, aZ Y 80 f3), (h4, aB Y 1600 f4), (h5, aI Y 200 f13), (h6, aI Y 800 f14)]) (va_A [(h0, oC 13 [.ref h1, .ref h2, .int p2, .ref h3, .ref h4, .int (nI k5), .int (nI k6), .int p7, .int p8, .int p9, .int (nI k10), .int p11, .long q12, .ref h5, .ref h6, .int (nI k15), .int (nI k16)]), (h1, aI Y 3640 f0), (h2, aZ Y 2 f1), (h3, aZ Y 80 f3), (h4, aB Y 1600 f4), (h5, aI Y 200 f13), (h6, aI Y 800 f14)] sz)) 0 0 (va_A [(h0, oC 13 [.ref h1, .ref h2, .int p2, .ref h3, .ref h4, .int (nI k5), .int (nI k6), .int p7, .int p8, .int p9, .int (nI k10), .int p11, .long q12, .ref h5, .ref h6, .int (nI k15), .int (nI k16)]), (h1, aI Y 3640 f0), (h2, aZ Y 2 f1), (h3, aZ Y 80 f3), (h4, aB Y 1600 f4), (h5, aI Y 200 f13), (h6, aI Y 800 f14)] sz) :=
  met_of  (by decide +kernel) (Nat.le_of_ble_eq_true rfl) (fun p e s m args below meth c B hin hsz => by
    have B : VB p s m args meth c D Y (va_A [(h0, oC 13 [.ref h1, .ref h2, .int p2, .ref h3, .ref h4, .int (nI k5), .int (nI k6), .int p7, .int p8, .int p9, .int (nI k10), .int p11, .long q12, .ref h5, .ref h6, .int (nI k15), .int (nI k16)]), (h1, aI Y 3640 f0), (h2, aZ Y 2 f1), (h3, aZ Y 80 f3), (h4, aB Y 1600 f4), (h5, aI Y 200 f13), (h6, aI Y 800 f14)] sz) cX12_add 5 RX12 none := B
    have hq_s2 := hs2.1
    refine V_aload_n 0 B dX12_add_0 0 rfl ?_
    refine V_get 1 B gf_RX12_9 0 rfl rfl dX12_add_1 ?_
    refine V_iconst 4 B (v := 3) dX12_add_4 (by decide +kernel) ?_
    have x0 : (gN f0 3) ≤ 80 := gN_le HI (by omega) (show bd 3 = (0, ((80 : Nat) : Int)) by decide +kernel)
    refine V_iald 5 B (v := (nI (gN f0 3))) 1 rfl (vpin _ _ (by decide +kernel)) dX12_add_5 (by show f0 3 = _; exact gN_eq HI (by omega) (show bd 3 = (0, ((80 : Nat) : Int)) by decide +kernel)) ?_
    refine V_csi 6 B (st := []) (As := [.int (nI (gN f0 3))]) (fun sz => rX12_bindingAt l D Y (gN f0 3) (by omega) sz) glS_RX12_79 ⟨rfl, rfl⟩ ⟨(Nat.le_of_ble_eq_true rfl), (Nat.le_of_ble_eq_true rfl)⟩ ⟨(Nat.le_of_ble_eq_true rfl), (Nat.le_of_ble_eq_true rfl)⟩ [] rfl rfl (Nat.le_of_ble_eq_true rfl) rfl (fun _ _ _ => rfl) dX12_add_6 (fun j1 u2 w3 => ?_)
    refine V_ws [(h0, oC 13 [.ref h1, .ref h2, .int p2, .ref h3, .ref h4, .int (nI k5), .int (nI k6), .int p7, .int p8, .int p9, .int (nI k10), .int p11, .long q12, .ref h5, .ref h6, .int (nI k15), .int (nI k16)]), (h1, aI Y 3640 f0), (h2, aZ Y 2 f1), (h3, aZ Y 80 f3), (h4, aB Y 1600 f4), (h5, aI Y 200 f13), (h6, aI Y 800 f14)] rfl ?_
    have x4 := w3
    clear w3
    obtain rfl := x4
    refine V_istore 9 B (lv2 := [(4, .int (nI (184 + 7 * (gN f0 3)))), (0, .ref h0), (1, .int s0), (2, .int (nI s1)), (3, .int (nI s2))]) dX12_add_9 (by decide) rfl ?_
    refine V_aload_n 11 B dX12_add_11 1 rfl ?_
    refine V_get 12 B gf_RX12_9 0 rfl rfl dX12_add_12 ?_
    refine V_iload 15 B dX12_add_15 0 rfl ?_
    refine V_iconst 17 B (v := 0) dX12_add_17 (by decide +kernel) ?_
    refine V_iadd 18 B (v := (nI (184 + 7 * (gN f0 3)))) dX12_add_18 (nI_addE (a := 184 + 7 * (gN f0 3)) (b := 0) (by omega)) ?_
    refine V_iload_n 19 B dX12_add_19 2 rfl ?_
    have hv5 : INV (upd f0 (184 + 7 * (gN f0 3)) s0) := INV_free HI (rl11 (gN f0 3) (by omega))
    refine V_iast 20 B 1 rfl (vp_in_nI (n := 184 + 7 * (gN f0 3)) (by omega) (by decide)) dX12_add_20 [(h0, oC 13 [.ref h1, .ref h2, .int p2, .ref h3, .ref h4, .int (nI k5), .int (nI k6), .int p7, .int p8, .int p9, .int (nI k10), .int p11, .long q12, .ref h5, .ref h6, .int (nI k15), .int (nI k16)]), (h1, aI Y 3640 (upd f0 (184 + 7 * (gN f0 3)) s0)), (h2, aZ Y 2 f1), (h3, aZ Y 80 f3), (h4, aB Y 1600 f4), (h5, aI Y 200 f13), (h6, aI Y 800 f14)] (by rw [nI_clamp (show 184 + 7 * (gN f0 3) < 2 ^ 31 by omega)]; rfl) ?_
    refine V_aload_n 21 B dX12_add_21 1 rfl ?_
    refine V_get 22 B gf_RX12_9 0 rfl rfl dX12_add_22 ?_
    refine V_iload 25 B dX12_add_25 0 rfl ?_
    refine V_iconst 27 B (v := 1) dX12_add_27 (by decide +kernel) ?_
    refine V_iadd 28 B (v := (nI (185 + 7 * (gN f0 3)))) dX12_add_28 (nI_addE (a := 184 + 7 * (gN f0 3)) (b := 1) (by omega)) ?_
    refine V_iload_n 29 B dX12_add_29 3 rfl ?_
    have hv6 : INV (upd (upd f0 (184 + 7 * (gN f0 3)) s0) (185 + 7 * (gN f0 3)) (nI s1)) := INV_nat (v := s1) hv5 (rl13 (gN f0 3) (by omega)) (by omega) (by decide)
    refine V_iast 30 B 1 rfl (vp_in_nI (n := 185 + 7 * (gN f0 3)) (by omega) (by decide)) dX12_add_30 [(h0, oC 13 [.ref h1, .ref h2, .int p2, .ref h3, .ref h4, .int (nI k5), .int (nI k6), .int p7, .int p8, .int p9, .int (nI k10), .int p11, .long q12, .ref h5, .ref h6, .int (nI k15), .int (nI k16)]), (h1, aI Y 3640 (upd (upd f0 (184 + 7 * (gN f0 3)) s0) (185 + 7 * (gN f0 3)) (nI s1))), (h2, aZ Y 2 f1), (h3, aZ Y 80 f3), (h4, aB Y 1600 f4), (h5, aI Y 200 f13), (h6, aI Y 800 f14)] (by rw [nI_clamp (show 185 + 7 * (gN f0 3) < 2 ^ 31 by omega)]; rfl) ?_
    refine V_aload_n 31 B dX12_add_31 1 rfl ?_
    refine V_iload_n 32 B dX12_add_32 4 rfl ?_
    refine V_iload 33 B dX12_add_33 0 rfl ?_
    refine V_iconst 35 B (v := 2) dX12_add_35 (by decide +kernel) ?_
    refine V_iadd 36 B (v := (nI (186 + 7 * (gN f0 3)))) dX12_add_36 (nI_addE (a := 184 + 7 * (gN f0 3)) (b := 2) (by omega)) ?_
    refine V_cvv 37 B (st := []) (As := [.int (nI s2), .int (nI (186 + 7 * (gN f0 3)))]) (fun sz => rX12_copySequence l D Y h0 h1 h2 h3 h4 h5 h6 p2 k5 k6 p7 p8 p9 k10 p11 q12 k15 k16 (upd (upd f0 (184 + 7 * (gN f0 3)) s0) (185 + 7 * (gN f0 3)) (nI s1)) f1 f3 f4 f13 f14 hv6 (by omega) HP s2 (186 + 7 * (gN f0 3)) hs2 (rl12 (gN f0 3) (by omega)) sz) glV_RX12_88 ⟨rfl, rfl⟩ ⟨(Nat.le_of_ble_eq_true rfl), (Nat.le_of_ble_eq_true rfl)⟩ ⟨(Nat.le_of_ble_eq_true rfl), (Nat.le_of_ble_eq_true rfl)⟩ [0, 0, 0, 0, 0, 0, 0] rfl 13 0 rfl rfl rfl rfl (Nat.le_of_ble_eq_true rfl) rfl (fun _ _ => rfl) dX12_add_37 (fun u8 w9 => ?_)
    refine V_ws [(h0, oC 13 [.ref h1, .ref h2, .int p2, .ref h3, .ref h4, .int (nI k5), .int (nI k6), .int p7, .int p8, .int p9, .int (nI k10), .int p11, .long q12, .ref h5, .ref h6, .int (nI k15), .int (nI k16)]), (h1, aI Y 3640 (u8.2.2.2.1 0)), (h2, aZ Y 2 f1), (h3, aZ Y 80 f3), (h4, aB Y 1600 f4), (h5, aI Y 200 f13), (h6, aI Y 800 f14)] rfl ?_
    obtain ⟨x10, x11⟩ := w9
    refine V_aload_n 40 B dX12_add_40 1 rfl ?_
    refine V_get 41 B gf_RX12_9 0 rfl rfl dX12_add_41 ?_
    refine V_iconst 44 B (v := 3) dX12_add_44 (by decide +kernel) ?_
    refine V_dup2_11 45 B dX12_add_45 rfl rfl ?_
    have x12 : (gN f0 3) ≤ 80 := gN_le HI (by omega) (show bd 3 = (0, ((80 : Nat) : Int)) by decide +kernel)
    refine V_iald 46 B (v := (nI (gN f0 3))) 1 rfl (vpin _ _ (by decide +kernel)) dX12_add_46 (by show (u8.2.2.2.1 0) 3 = _; rw [x11 _ (by omega)]; rw [upd_ne (by omega)]; rw [upd_ne (by omega)]; exact gN_eq HI (by omega) (show bd 3 = (0, ((80 : Nat) : Int)) by decide +kernel)) ?_
    refine V_iconst 47 B (v := 1) dX12_add_47 (by decide +kernel) ?_
    refine V_iadd 48 B (v := (nI (1 + (gN f0 3)))) dX12_add_48 (nI_addE (a := (gN f0 3)) (b := 1) (by omega)) ?_
    have hv13 : INV (upd (u8.2.2.2.1 0) 3 (nI (1 + (gN f0 3)))) := INV_nat (v := 1 + (gN f0 3)) x10 (show bd 3 = (0, ((80 : Nat) : Int)) by decide +kernel) (by omega) (by decide)
    refine V_iast 49 B 1 rfl (vpin _ _ (by decide +kernel)) dX12_add_49 [(h0, oC 13 [.ref h1, .ref h2, .int p2, .ref h3, .ref h4, .int (nI k5), .int (nI k6), .int p7, .int p8, .int p9, .int (nI k10), .int p11, .long q12, .ref h5, .ref h6, .int (nI k15), .int (nI k16)]), (h1, aI Y 3640 (upd (u8.2.2.2.1 0) 3 (nI (1 + (gN f0 3))))), (h2, aZ Y 2 f1), (h3, aZ Y 80 f3), (h4, aB Y 1600 f4), (h5, aI Y 200 f13), (h6, aI Y 800 f14)] rfl ?_
    exact V_vret 50 B dX12_add_50 (mkW [] [] [] [(upd (u8.2.2.2.1 0) 3 (nI (1 + (gN f0 3))))] [] []) hv13 rfl)
theorem glV_RX12_132 : GLV RX12 132 yX12_add RX12 cX12_add 5 none 3 := ⟨⟨(mT8 112 rfl rfl), (mT8 114 rfl rfl), (mTs 47 rfl rfl), (mT1 13 rfl rfl), (mT8 115 rfl rfl)⟩, by decide +kernel⟩
theorem dX12_forced_77 : decode cX12_forced 77 = .ok (.iload 4, 2) := by decide +kernel
theorem dX12_forced_79 : decode cX12_forced 79 = .ok (.ireturn, 1) := by decide +kernel
theorem dX12_forced_52 : decode cX12_forced 52 = .ok (.aload_n 0, 1) := by decide +kernel
theorem dX12_forced_53 : decode cX12_forced 53 = .ok (.iload 5, 2) := by decide +kernel
theorem dX12_forced_55 : decode cX12_forced 55 = .ok (.invokevirtual 142, 3) := by decide +kernel
theorem dX12_remove_0 : decode cX12_remove 0 = .ok (.aload_n 0, 1) := by decide +kernel
theorem dX12_remove_1 : decode cX12_remove 1 = .ok (.getfield 9, 3) := by decide +kernel
theorem dX12_remove_4 : decode cX12_remove 4 = .ok (.iconst 3, 1) := by decide +kernel
theorem dX12_remove_5 : decode cX12_remove 5 = .ok (.dup2, 1) := by decide +kernel
theorem dX12_remove_6 : decode cX12_remove 6 = .ok (.iaload, 1) := by decide +kernel
theorem dX12_remove_7 : decode cX12_remove 7 = .ok (.iconst 1, 1) := by decide +kernel
theorem dX12_remove_8 : decode cX12_remove 8 = .ok (.isub, 1) := by decide +kernel
theorem dX12_remove_9 : decode cX12_remove 9 = .ok (.iastore, 1) := by decide +kernel
theorem dX12_remove_10 : decode cX12_remove 10 = .ok (.iload_n 1, 1) := by decide +kernel
theorem dX12_remove_11 : decode cX12_remove 11 = .ok (.invokestatic 79, 3) := by decide +kernel
theorem dX12_remove_14 : decode cX12_remove 14 = .ok (.istore_n 2, 1) := by decide +kernel
theorem dX12_remove_15 : decode cX12_remove 15 = .ok (.iload_n 2, 1) := by decide +kernel
theorem dX12_remove_16 : decode cX12_remove 16 = .ok (.aload_n 0, 1) := by decide +kernel
theorem dX12_remove_17 : decode cX12_remove 17 = .ok (.getfield 9, 3) := by decide +kernel
theorem dX12_remove_20 : decode cX12_remove 20 = .ok (.iconst 3, 1) := by decide +kernel
theorem dX12_remove_21 : decode cX12_remove 21 = .ok (.iaload, 1) := by decide +kernel
theorem dX12_remove_22 : decode cX12_remove 22 = .ok (.invokestatic 79, 3) := by decide +kernel
theorem dX12_remove_25 : decode cX12_remove 25 = .ok (.if_icmp .ge 24, 3) := by decide +kernel
theorem dX12_remove_49 : decode cX12_remove 49 = .ok (.return_, 1) := by decide +kernel
theorem dX12_remove_28 : decode cX12_remove 28 = .ok (.aload_n 0, 1) := by decide +kernel
theorem dX12_remove_29 : decode cX12_remove 29 = .ok (.getfield 9, 3) := by decide +kernel
theorem dX12_remove_32 : decode cX12_remove 32 = .ok (.iload_n 2, 1) := by decide +kernel
theorem dX12_remove_33 : decode cX12_remove 33 = .ok (.aload_n 0, 1) := by decide +kernel
theorem dX12_remove_34 : decode cX12_remove 34 = .ok (.getfield 9, 3) := by decide +kernel
theorem dX12_remove_37 : decode cX12_remove 37 = .ok (.iload_n 2, 1) := by decide +kernel
theorem dX12_remove_38 : decode cX12_remove 38 = .ok (.bipush 7, 2) := by decide +kernel
theorem dX12_remove_40 : decode cX12_remove 40 = .ok (.iadd, 1) := by decide +kernel
theorem dX12_remove_41 : decode cX12_remove 41 = .ok (.iaload, 1) := by decide +kernel
theorem dX12_remove_42 : decode cX12_remove 42 = .ok (.iastore, 1) := by decide +kernel
theorem dX12_remove_43 : decode cX12_remove 43 = .ok (.iinc 2 1, 3) := by decide +kernel
theorem dX12_remove_46 : decode cX12_remove 46 = .ok (.goto (-31), 3) := by decide +kernel
set_option maxRecDepth 100000 in
set_option maxHeartbeats 4000000 in
theorem rX12_remove (l : Launch) (D : va_G) (Y : Nat → ClassId) (h0 : Nat) (h1 : Nat) (h2 : Nat) (h3 : Nat) (h4 : Nat) (h5 : Nat) (h6 : Nat) (p2 : Int32) (k5 : Nat) (k6 : Nat) (p7 : Int32) (p8 : Int32) (p9 : Int32) (k10 : Nat) (p11 : Int32) (q12 : Int64) (k15 : Nat) (k16 : Nat) (f0 : Nat → Int32) (f1 : Nat → Int32) (f3 : Nat → Int32) (f4 : Nat → Int32) (f13 : Nat → Int32) (f14 : Nat → Int32) (HI : INV f0) (HL : k5 ≤ 1600) (HP : PLV f13) (s0 : Nat) (hn0 : s0 < 80) (hx0 : s0 < gN f0 3) (sz : Nat) : Met l yX12_remove (WSm yX12_remove cX12_remove 3 none) (mkR 1 0 0 20) (PreC D Y [.ref h0, .int (nI s0)] [(h0, oC 13 [.ref h1, .ref h2, .int p2, .ref h3, .ref h4, .int (nI k5), .int (nI k6), .int p7, .int p8, .int p9, .int (nI k10), .int p11, .long q12, .ref h5, .ref h6, .int (nI k15), .int (nI k16)]), (h1, aI Y 3640 f0), (h2, aZ Y 2 f1), (h3, aZ Y 80 f3), (h4, aB Y 1600 f4), (h5, aI Y 200 f13), (h6, aI Y 800 f14)] sz) (QV D (fun (u : WU) => INV (u.2.2.2.1 0) ∧ gN (u.2.2.2.1 0) 3 = gN f0 3 - 1) (fun (u : WU) => [(h0, oC 13 [.ref h1, .ref h2, .int p2, .ref h3, .ref h4, .int (nI k5), .int (nI k6), .int p7, .int p8, .int p9, .int (nI k10), .int p11, .long q12, .ref h5, .ref h6, .int (nI k15), .int (nI k16)]), (h1, aI Y 3640 (u.2.2.2.1 0)), (h2, aZ Y 2 f1), (h3, aZ Y 80 f3), (h4, aB Y 1600 f4), (h5, aI Y 200 f13), (h6, aI Y 800 f14)]) (va_A [(h0, oC 13 [.ref h1, .ref h2, .int p2, .ref h3, .ref h4, .int (nI k5), .int (nI k6), .int p7, .int p8, .int p9, .int (nI k10), .int p11, .long q12, .ref h5, .ref h6, .int (nI k15), .int (nI k16)]), (h1, aI Y 3640 f0), (h2, aZ Y 2 f1), (h3, aZ Y 80 f3), (h4, aB Y 1600 f4), (h5, aI Y 200 f13), (h6, aI Y 800 f14)] sz)) 0 0 (va_A [(h0, oC 13 [.ref h1, .ref h2, .int p2, .ref h3, .ref h4, .int (nI k5), .int (nI k6), .int p7, .int p8, .int p9, .int (nI k10), .int p11, .long q12, .ref h5, .ref h6, .int (nI k15), .int (nI k16)]), (h1, aI Y 3640 f0), (h2, aZ Y 2 f1), (h3, aZ Y 80 f3), (h4, aB Y 1600 f4), (h5, aI Y 200 f13), (h6, aI Y 800 f14)] sz) :=
  met_of  (by decide +kernel) (Nat.le_of_ble_eq_true rfl) (fun p e s m args below meth c B hin hsz => by
    have B : VB p s m args meth c D Y (va_A [(h0, oC 13 [.ref h1, .ref h2, .int p2, .ref h3, .ref h4, .int (nI k5), .int (nI k6), .int p7, .int p8, .int p9, .int (nI k10), .int p11, .long q12, .ref h5, .ref h6, .int (nI k15), .int (nI k16)]), (h1, aI Y 3640 f0), (h2, aZ Y 2 f1), (h3, aZ Y 80 f3), (h4, aB Y 1600 f4), (h5, aI Y 200 f13), (h6, aI Y 800 f14)] sz) cX12_remove 3 RX12 none := B
    refine V_aload_n 0 B dX12_remove_0 0 rfl ?_
    refine V_get 1 B gf_RX12_9 0 rfl rfl dX12_remove_1 ?_
    refine V_iconst 4 B (v := 3) dX12_remove_4 (by decide +kernel) ?_
    refine V_dup2_11 5 B dX12_remove_5 rfl rfl ?_
    have x0 : (gN f0 3) ≤ 80 := gN_le HI (by omega) (show bd 3 = (0, ((80 : Nat) : Int)) by decide +kernel)
    refine V_iald 6 B (v := (nI (gN f0 3))) 1 rfl (vpin _ _ (by decide +kernel)) dX12_remove_6 (by show f0 3 = _; exact gN_eq HI (by omega) (show bd 3 = (0, ((80 : Nat) : Int)) by decide +kernel)) ?_
    refine V_iconst 7 B (v := 1) dX12_remove_7 (by decide +kernel) ?_
    refine V_isub 8 B (v := (nI (((gN f0 3) - 1)))) dX12_remove_8 (nI_subE (a := (gN f0 3)) (b := 1) (by omega)) ?_
    have hv1 : INV (upd f0 3 (nI (((gN f0 3) - 1)))) := INV_nat (v := ((gN f0 3) - 1)) HI (show bd 3 = (0, ((80 : Nat) : Int)) by decide +kernel) (by omega) (by decide)
    refine V_iast 9 B 1 rfl (vpin _ _ (by decide +kernel)) dX12_remove_9 [(h0, oC 13 [.ref h1, .ref h2, .int p2, .ref h3, .ref h4, .int (nI k5), .int (nI k6), .int p7, .int p8, .int p9, .int (nI k10), .int p11, .long q12, .ref h5, .ref h6, .int (nI k15), .int (nI k16)]), (h1, aI Y 3640 (upd f0 3 (nI (((gN f0 3) - 1))))), (h2, aZ Y 2 f1), (h3, aZ Y 80 f3), (h4, aB Y 1600 f4), (h5, aI Y 200 f13), (h6, aI Y 800 f14)] rfl ?_
    refine V_iload_n 10 B dX12_remove_10 1 rfl ?_
    refine V_csi 11 B (st := []) (As := [.int (nI s0)]) (fun sz => rX12_bindingAt l D Y s0 (by omega) sz) glS_RX12_79 ⟨rfl, rfl⟩ ⟨(Nat.le_of_ble_eq_true rfl), (Nat.le_of_ble_eq_true rfl)⟩ ⟨(Nat.le_of_ble_eq_true rfl), (Nat.le_of_ble_eq_true rfl)⟩ [] rfl rfl (Nat.le_of_ble_eq_true rfl) rfl (fun _ _ _ => rfl) dX12_remove_11 (fun j2 u3 w4 => ?_)
    refine V_ws [(h0, oC 13 [.ref h1, .ref h2, .int p2, .ref h3, .ref h4, .int (nI k5), .int (nI k6), .int p7, .int p8, .int p9, .int (nI k10), .int p11, .long q12, .ref h5, .ref h6, .int (nI k15), .int (nI k16)]), (h1, aI Y 3640 (upd f0 3 (nI (((gN f0 3) - 1))))), (h2, aZ Y 2 f1), (h3, aZ Y 80 f3), (h4, aB Y 1600 f4), (h5, aI Y 200 f13), (h6, aI Y 800 f14)] rfl ?_
    have x5 := w4
    clear w4
    obtain rfl := x5
    refine V_istore_n 14 B (lv2 := [(2, .int (nI (184 + 7 * s0))), (0, .ref h0), (1, .int (nI s0))]) dX12_remove_14 (by decide) rfl ?_
    refine V_wloop (α := WU) (fun a => 100000 - (a.1 0)) (fun a => INV (a.2.2.2.1 0) ∧ (a.1 0) ≤ 4000 ∧ gN (a.2.2.2.1 0) 3 = gN f0 3 - 1 ∧ 184 ≤ (a.1 0)) (fun a => [(2, .int (nI (a.1 0))), (0, .ref h0), (1, .int (nI s0))]) (fun a => [(h0, oC 13 [.ref h1, .ref h2, .int p2, .ref h3, .ref h4, .int (nI k5), .int (nI k6), .int p7, .int p8, .int p9, .int (nI k10), .int p11, .long q12, .ref h5, .ref h6, .int (nI k15), .int (nI k16)]), (h1, aI Y 3640 (a.2.2.2.1 0)), (h2, aZ Y 2 f1), (h3, aZ Y 80 f3), (h4, aB Y 1600 f4), (h5, aI Y 200 f13), (h6, aI Y 800 f14)]) (mkW [184 + 7 * s0] [] [] [(upd f0 3 (nI (((gN f0 3) - 1))))] [] []) ⟨hv1, (show 184 + 7 * s0 ≤ 4000 by omega), (gN_at (by omega)), (show 184 ≤ 184 + 7 * s0 by omega)⟩ rfl rfl (fun a6 hI8 IH7 => ?_)
    refine V_lv [(2, .int (nI (a6.1 0))), (0, .ref h0), (1, .int (nI s0))] [0, 1, 2] rfl ?_
    refine V_ws [(h0, oC 13 [.ref h1, .ref h2, .int p2, .ref h3, .ref h4, .int (nI k5), .int (nI k6), .int p7, .int p8, .int p9, .int (nI k10), .int p11, .long q12, .ref h5, .ref h6, .int (nI k15), .int (nI k16)]), (h1, aI Y 3640 (a6.2.2.2.1 0)), (h2, aZ Y 2 f1), (h3, aZ Y 80 f3), (h4, aB Y 1600 f4), (h5, aI Y 200 f13), (h6, aI Y 800 f14)] rfl ?_
    obtain ⟨x9, x10, x11, x12⟩ := hI8
    have x13 : (gN (a6.2.2.2.1 0) 3) ≤ 80 := gN_le x9 (by omega) (show bd 3 = (0, ((80 : Nat) : Int)) by decide +kernel)
    refine V_iload_n 15 B dX12_remove_15 0 rfl ?_
    refine V_aload_n 16 B dX12_remove_16 1 rfl ?_
    refine V_get 17 B gf_RX12_9 0 rfl rfl dX12_remove_17 ?_
    refine V_iconst 20 B (v := 3) dX12_remove_20 (by decide +kernel) ?_
    have x14 : (gN (a6.2.2.2.1 0) 3) ≤ 80 := gN_le x9 (by omega) (show bd 3 = (0, ((80 : Nat) : Int)) by decide +kernel)
    refine V_iald 21 B (v := (nI ((gN (a6.2.2.2.1 0) 3)))) 1 rfl (vpin _ _ (by decide +kernel)) dX12_remove_21 (by show (a6.2.2.2.1 0) 3 = _; exact gN_eq x9 (by omega) (show bd 3 = (0, ((80 : Nat) : Int)) by decide +kernel)) ?_
    refine V_csi 22 B (st := [.int (nI (a6.1 0))]) (As := [.int (nI ((gN (a6.2.2.2.1 0) 3)))]) (fun sz => rX12_bindingAt l D Y (gN (a6.2.2.2.1 0) 3) (by omega) sz) glS_RX12_79 ⟨rfl, rfl⟩ ⟨(Nat.le_of_ble_eq_true rfl), (Nat.le_of_ble_eq_true rfl)⟩ ⟨(Nat.le_of_ble_eq_true rfl), (Nat.le_of_ble_eq_true rfl)⟩ [] rfl rfl (Nat.le_of_ble_eq_true rfl) rfl (fun _ _ _ => rfl) dX12_remove_22 (fun j15 u16 w17 => ?_)
    refine V_ws [(h0, oC 13 [.ref h1, .ref h2, .int p2, .ref h3, .ref h4, .int (nI k5), .int (nI k6), .int p7, .int p8, .int p9, .int (nI k10), .int p11, .long q12, .ref h5, .ref h6, .int (nI k15), .int (nI k16)]), (h1, aI Y 3640 (a6.2.2.2.1 0)), (h2, aZ Y 2 f1), (h3, aZ Y 80 f3), (h4, aB Y 1600 f4), (h5, aI Y 200 f13), (h6, aI Y 800 f14)] rfl ?_
    have x18 := w17
    clear w17
    obtain rfl := x18
    refine V_icmp_ge 25 B 49 dX12_remove_25 (by decide) (fun kk19 => ?_) (fun kk19 => ?_)
    ·
      have x20 := n_le (a := 184 + 7 * (gN (a6.2.2.2.1 0) 3)) (b := (a6.1 0)) kk19 (by omega) (by omega)
      exact V_vret 49 B dX12_remove_49 (mkW [] [] [] [(a6.2.2.2.1 0)] [] []) ⟨x9, x11⟩ rfl
    ·
      have x21 := n_nle (a := 184 + 7 * (gN (a6.2.2.2.1 0) 3)) (b := (a6.1 0)) kk19 (by omega) (by omega)
      refine V_aload_n 28 B dX12_remove_28 1 rfl ?_
      refine V_get 29 B gf_RX12_9 0 rfl rfl dX12_remove_29 ?_
      refine V_iload_n 32 B dX12_remove_32 0 rfl ?_
      refine V_aload_n 33 B dX12_remove_33 1 rfl ?_
      refine V_get 34 B gf_RX12_9 0 rfl rfl dX12_remove_34 ?_
      refine V_iload_n 37 B dX12_remove_37 0 rfl ?_
      refine V_bipush 38 B (v := 7) dX12_remove_38 (by decide +kernel) ?_
      refine V_iadd 40 B (v := (nI (7 + (a6.1 0)))) dX12_remove_40 (nI_addE (a := (a6.1 0)) (b := 7) (by omega)) ?_
      refine V_iald 41 B (v := (a6.2.2.2.1 0) (7 + (a6.1 0))) 1 rfl (vp_in_nI (n := 7 + (a6.1 0)) (by omega) (by decide)) dX12_remove_41 (by rw [nI_clamp (show 7 + (a6.1 0) < 2 ^ 31 by omega)]) ?_
      refine V_nmi (fun j22 e23 => ?_)
      have hv24 : INV (upd (a6.2.2.2.1 0) (a6.1 0) j22) := (by rw [e23]; exact INV_sh x9 (by omega) (by omega))
      refine V_iast 42 B 1 rfl (vp_in_nI (n := (a6.1 0)) (by omega) (by decide)) dX12_remove_42 [(h0, oC 13 [.ref h1, .ref h2, .int p2, .ref h3, .ref h4, .int (nI k5), .int (nI k6), .int p7, .int p8, .int p9, .int (nI k10), .int p11, .long q12, .ref h5, .ref h6, .int (nI k15), .int (nI k16)]), (h1, aI Y 3640 (upd (a6.2.2.2.1 0) (a6.1 0) j22)), (h2, aZ Y 2 f1), (h3, aZ Y 80 f3), (h4, aB Y 1600 f4), (h5, aI Y 200 f13), (h6, aI Y 800 f14)] (by rw [nI_clamp (show (a6.1 0) < 2 ^ 31 by omega)]; rfl) ?_
      refine V_iinc 43 B (v := (nI (1 + (a6.1 0)))) (lv2 := [(2, .int (nI (1 + (a6.1 0)))), (0, .ref h0), (1, .int (nI s0))]) dX12_remove_43 0 rfl (nI_addE (a := (a6.1 0)) (b := 1) (by omega)) (by decide) rfl ?_
      refine V_goto 46 B 15 dX12_remove_46 (by decide) ?_
      refine V_lv [(2, .int (nI (1 + (a6.1 0)))), (0, .ref h0), (1, .int (nI s0))] [0, 1, 2] rfl ?_
      exact IH7 (mkW [1 + (a6.1 0)] [] [] [(upd (a6.2.2.2.1 0) (a6.1 0) j22)] [] []) ⟨hv24, (show 1 + (a6.1 0) ≤ 4000 by omega), ((gN_ne (by omega)).trans x11), (show 184 ≤ 1 + (a6.1 0) by omega)⟩ (by show 100000 - (1 + (a6.1 0)) < 100000 - (a6.1 0); omega))
theorem glV_RX12_142 : GLV RX12 142 yX12_remove RX12 cX12_remove 3 none 1 := ⟨⟨(mT8 128 rfl rfl), (mT8 130 rfl rfl), (mTs 50 rfl rfl), (mT1 13 rfl rfl), (mT8 131 rfl rfl)⟩, by decide +kernel⟩
theorem dX12_forced_58 : decode cX12_forced 58 = .ok (.aload_n 0, 1) := by decide +kernel
theorem dX12_forced_59 : decode cX12_forced 59 = .ok (.iload_n 1, 1) := by decide +kernel
theorem dX12_forced_60 : decode cX12_forced 60 = .ok (.iload_n 3, 1) := by decide +kernel
theorem dX12_forced_61 : decode cX12_forced 61 = .ok (.iconst (-1), 1) := by decide +kernel
theorem dX12_forced_62 : decode cX12_forced 62 = .ok (.invokevirtual 121, 3) := by decide +kernel
theorem dX12_forced_65 : decode cX12_forced 65 = .ok (.istore 5, 2) := by decide +kernel
theorem dX12_forced_67 : decode cX12_forced 67 = .ok (.goto (-21), 3) := by decide +kernel
theorem dX12_forced_34 : decode cX12_forced 34 = .ok (.bipush (-2), 2) := by decide +kernel
theorem dX12_forced_36 : decode cX12_forced 36 = .ok (.ireturn, 1) := by decide +kernel
theorem dX12_forced_8 : decode cX12_forced 8 = .ok (.sipush (-1000), 3) := by decide +kernel
theorem dX12_forced_11 : decode cX12_forced 11 = .ok (.ireturn, 1) := by decide +kernel
set_option maxRecDepth 100000 in
set_option maxHeartbeats 4000000 in
theorem rX12_forced (l : Launch) (D : va_G) (Y : Nat → ClassId) (h0 : Nat) (h1 : Nat) (h2 : Nat) (h3 : Nat) (h4 : Nat) (h5 : Nat) (h6 : Nat) (p2 : Int32) (k5 : Nat) (k6 : Nat) (p7 : Int32) (p8 : Int32) (p9 : Int32) (k10 : Nat) (p11 : Int32) (q12 : Int64) (k15 : Nat) (k16 : Nat) (f0 : Nat → Int32) (f1 : Nat → Int32) (f3 : Nat → Int32) (f4 : Nat → Int32) (f13 : Nat → Int32) (f14 : Nat → Int32) (HI : INV f0) (HL : k5 ≤ 1600) (HP : PLV f13) (s0 : Int32) (s1 : Nat) (s2 : Nat) (hn1 : s1 < 40) (hs2 : SQ s2) (sz : Nat) : Met l yX12_forced (WSm yX12_forced cX12_forced 6 (some .int)) (mkR 4 0 0 90) (PreC D Y [.ref h0, .int s0, .int (nI s1), .int (nI s2)] [(h0, oC 13 [.ref h1, .ref h2, .int p2, .ref h3, .ref h4, .int (nI k5), .int (nI k6), .int p7, .int p8, .int p9, .int (nI k10), .int p11, .long q12, .ref h5, .ref h6, .int (nI k15), .int (nI k16)]), (h1, aI Y 3640 f0), (h2, aZ Y 2 f1), (h3, aZ Y 80 f3), (h4, aB Y 1600 f4), (h5, aI Y 200 f13), (h6, aI Y 800 f14)] sz) (QI D (fun (r : Int32) (u : WU) => INV (u.2.2.2.1 0)) (fun (u : WU) => [(h0, oC 13 [.ref h1, .ref h2, .int p2, .ref h3, .ref h4, .int (nI k5), .int (nI k6), .int p7, .int p8, .int p9, .int (nI k10), .int p11, .long q12, .ref h5, .ref h6, .int (nI k15), .int (nI k16)]), (h1, aI Y 3640 (u.2.2.2.1 0)), (h2, aZ Y 2 f1), (h3, aZ Y 80 f3), (h4, aB Y 1600 f4), (h5, aI Y 200 f13), (h6, aI Y 800 f14)]) (va_A [(h0, oC 13 [.ref h1, .ref h2, .int p2, .ref h3, .ref h4, .int (nI k5), .int (nI k6), .int p7, .int p8, .int p9, .int (nI k10), .int p11, .long q12, .ref h5, .ref h6, .int (nI k15), .int (nI k16)]), (h1, aI Y 3640 f0), (h2, aZ Y 2 f1), (h3, aZ Y 80 f3), (h4, aB Y 1600 f4), (h5, aI Y 200 f13), (h6, aI Y 800 f14)] sz)) 0 0 (va_A [(h0, oC 13 [.ref h1, .ref h2, .int p2, .ref h3, .ref h4, .int (nI k5), .int (nI k6), .int p7, .int p8, .int p9, .int (nI k10), .int p11, .long q12, .ref h5, .ref h6, .int (nI k15), .int (nI k16)]), (h1, aI Y 3640 f0), (h2, aZ Y 2 f1), (h3, aZ Y 80 f3), (h4, aB Y 1600 f4), (h5, aI Y 200 f13), (h6, aI Y 800 f14)] sz) :=
  met_of  (by decide +kernel) (Nat.le_of_ble_eq_true rfl) (fun p e s m args below meth c B hin hsz => by
    have B : VB p s m args meth c D Y (va_A [(h0, oC 13 [.ref h1, .ref h2, .int p2, .ref h3, .ref h4, .int (nI k5), .int (nI k6), .int p7, .int p8, .int p9, .int (nI k10), .int p11, .long q12, .ref h5, .ref h6, .int (nI k15), .int (nI k16)]), (h1, aI Y 3640 f0), (h2, aZ Y 2 f1), (h3, aZ Y 80 f3), (h4, aB Y 1600 f4), (h5, aI Y 200 f13), (h6, aI Y 800 f14)] sz) cX12_forced 6 RX12 (some .int) := B
    have hq_s2 := hs2.1
    refine V_aload_n 0 B dX12_forced_0 0 rfl ?_
    refine V_iload_n 1 B dX12_forced_1 3 rfl ?_
    refine V_cvi 2 B (st := []) (As := [.int (nI s2)]) (fun sz => rX12_clashesReserved l D Y h0 h1 h2 h3 h4 h5 h6 p2 k5 k6 p7 p8 p9 k10 p11 q12 k15 k16 f0 f1 f3 f4 f13 f14 HI (by omega) HP s2 hs2 sz) glV_RX12_118 ⟨rfl, rfl⟩ ⟨(Nat.le_of_ble_eq_true rfl), (Nat.le_of_ble_eq_true rfl)⟩ ⟨(Nat.le_of_ble_eq_true rfl), (Nat.le_of_ble_eq_true rfl)⟩ [0, 0, 0, 0, 0, 0, 0] rfl 13 0 rfl rfl rfl rfl (Nat.le_of_ble_eq_true rfl) rfl (fun _ _ _ => rfl) dX12_forced_2 (fun j0 u1 w2 => ?_)
    refine V_ws [(h0, oC 13 [.ref h1, .ref h2, .int p2, .ref h3, .ref h4, .int (nI k5), .int (nI k6), .int p7, .int p8, .int p9, .int (nI k10), .int p11, .long q12, .ref h5, .ref h6, .int (nI k15), .int (nI k16)]), (h1, aI Y 3640 f0), (h2, aZ Y 2 f1), (h3, aZ Y 80 f3), (h4, aB Y 1600 f4), (h5, aI Y 200 f13), (h6, aI Y 800 f14)] rfl ?_
    have x3 := w2
    clear w2
    rcases x3 with rfl | rfl
    ·
      refine V_if_eq_t 5 B 12 dX12_forced_5 (by decide) (by decide +kernel) ?_
      refine V_aload_n 12 B dX12_forced_12 0 rfl ?_
      refine V_iload_n 13 B dX12_forced_13 1 rfl ?_
      refine V_iload_n 14 B dX12_forced_14 3 rfl ?_
      refine V_cvi 15 B (st := []) (As := [.int s0, .int (nI s2)]) (fun sz => rX12_clashCount l D Y h0 h1 h2 h3 h4 h5 h6 p2 k5 k6 p7 p8 p9 k10 p11 q12 k15 k16 f0 f1 f3 f4 f13 f14 HI (by omega) HP s0 s2 hs2 sz) glV_RX12_139 ⟨rfl, rfl⟩ ⟨(Nat.le_of_ble_eq_true rfl), (Nat.le_of_ble_eq_true rfl)⟩ ⟨(Nat.le_of_ble_eq_true rfl), (Nat.le_of_ble_eq_true rfl)⟩ [0, 0, 0, 0, 0, 0, 0] rfl 13 0 rfl rfl rfl rfl (Nat.le_of_ble_eq_true rfl) rfl (fun _ _ _ => rfl) dX12_forced_15 (fun j4 u5 w6 => ?_)
      refine V_ws [(h0, oC 13 [.ref h1, .ref h2, .int p2, .ref h3, .ref h4, .int (nI k5), .int (nI k6), .int p7, .int p8, .int p9, .int (nI k10), .int p11, .long q12, .ref h5, .ref h6, .int (nI k15), .int (nI k16)]), (h1, aI Y 3640 f0), (h2, aZ Y 2 f1), (h3, aZ Y 80 f3), (h4, aB Y 1600 f4), (h5, aI Y 200 f13), (h6, aI Y 800 f14)] rfl ?_
      have x7 := w6
      clear w6
      refine V_istore 18 B (lv2 := [(4, .int j4), (0, .ref h0), (1, .int s0), (2, .int (nI s1)), (3, .int (nI s2))]) dX12_forced_18 (by decide) rfl ?_
      refine V_aload_n 20 B dX12_forced_20 1 rfl ?_
      refine V_get 21 B gf_RX12_9 0 rfl rfl dX12_forced_21 ?_
      refine V_iconst 24 B (v := 3) dX12_forced_24 (by decide +kernel) ?_
      have x8 : (gN f0 3) ≤ 80 := gN_le HI (by omega) (show bd 3 = (0, ((80 : Nat) : Int)) by decide +kernel)
      refine V_iald 25 B (v := (nI (gN f0 3))) 1 rfl (vpin _ _ (by decide +kernel)) dX12_forced_25 (by show f0 3 = _; exact gN_eq HI (by omega) (show bd 3 = (0, ((80 : Nat) : Int)) by decide +kernel)) ?_
      refine V_iload 26 B dX12_forced_26 0 rfl ?_
      refine V_isub 28 B dX12_forced_28 rfl ?_
      refine V_nmi (fun j9 e10 => ?_)
      refine V_bipush 29 B (v := 80) dX12_forced_29 (by decide +kernel) ?_
      refine V_icmp_ne 31 B 37 dX12_forced_31 (by decide) (fun kk11 => ?_) (fun kk11 => ?_)
      ·
        have x12 := x_ne kk11
        rw [show (80 : Int32).toInt = 80 by decide +kernel] at x12
        refine V_aload_n 37 B dX12_forced_37 1 rfl ?_
        refine V_iload_n 38 B dX12_forced_38 2 rfl ?_
        refine V_iload_n 39 B dX12_forced_39 4 rfl ?_
        refine V_iconst 40 B (v := (-1)) dX12_forced_40 (by decide +kernel) ?_
        refine V_cvi 41 B (st := []) (As := [.int s0, .int (nI s2), .int (-1)]) (fun sz => rX12_clashIn l D Y h0 h1 h2 h3 h4 h5 h6 p2 k5 k6 p7 p8 p9 k10 p11 q12 k15 k16 f0 f1 f3 f4 f13 f14 HI (by omega) HP s0 s2 (-1) hs2 sz) glV_RX12_121 ⟨rfl, rfl⟩ ⟨(Nat.le_of_ble_eq_true rfl), (Nat.le_of_ble_eq_true rfl)⟩ ⟨(Nat.le_of_ble_eq_true rfl), (Nat.le_of_ble_eq_true rfl)⟩ [0, 0, 0, 0, 0, 0, 0] rfl 13 0 rfl rfl rfl rfl (Nat.le_of_ble_eq_true rfl) rfl (fun _ _ _ => rfl) dX12_forced_41 (fun j13 u14 w15 => ?_)
        refine V_ws [(h0, oC 13 [.ref h1, .ref h2, .int p2, .ref h3, .ref h4, .int (nI k5), .int (nI k6), .int p7, .int p8, .int p9, .int (nI k10), .int p11, .long q12, .ref h5, .ref h6, .int (nI k15), .int (nI k16)]), (h1, aI Y 3640 f0), (h2, aZ Y 2 f1), (h3, aZ Y 80 f3), (h4, aB Y 1600 f4), (h5, aI Y 200 f13), (h6, aI Y 800 f14)] rfl ?_
        have x16 := w15
        clear w15
        have x19 : (gN f0 3) ≤ 80 := gN_le HI (by omega) (show bd 3 = (0, ((80 : Nat) : Int)) by decide +kernel)
        rcases x16 with ⟨rfl, x18⟩ | ⟨n17, rfl, x18, x20⟩
        ·
          refine V_istore 44 B (lv2 := [(5, .int (-1)), (4, .int j4), (0, .ref h0), (1, .int s0), (2, .int (nI s1)), (3, .int (nI s2))]) dX12_forced_44 (by decide) rfl ?_
          refine V_wloop (α := WU) (fun a => gN (a.2.2.2.1 0) 3) (fun a => INV (a.2.2.2.1 0) ∧ ((a.2.1 0) = -1 ∨ ∃ j9 : Nat, (a.2.1 0) = nI j9 ∧ j9 < gN (a.2.2.2.1 0) 3) ∧ ((a.2.1 0) = -1 → gN (a.2.2.2.1 0) 3 < 80)) (fun a => [(5, .int (a.2.1 0)), (4, .int j4), (0, .ref h0), (1, .int s0), (2, .int (nI s1)), (3, .int (nI s2))]) (fun a => [(h0, oC 13 [.ref h1, .ref h2, .int p2, .ref h3, .ref h4, .int (nI k5), .int (nI k6), .int p7, .int p8, .int p9, .int (nI k10), .int p11, .long q12, .ref h5, .ref h6, .int (nI k15), .int (nI k16)]), (h1, aI Y 3640 (a.2.2.2.1 0)), (h2, aZ Y 2 f1), (h3, aZ Y 80 f3), (h4, aB Y 1600 f4), (h5, aI Y 200 f13), (h6, aI Y 800 f14)]) (mkW [] [(-1)] [] [f0] [] []) ⟨HI, (Or.inl rfl), (fun _ => fo_lem (f := f0) (n := gN f0 3) x7 x18 e10 kk11 (by omega))⟩ rfl rfl (fun a21 hI23 IH22 => ?_)
          refine V_lv [(5, .int (a21.2.1 0)), (4, .int j4), (0, .ref h0), (1, .int s0), (2, .int (nI s1)), (3, .int (nI s2))] [0, 1, 2, 3, 4, 5] rfl ?_
          refine V_ws [(h0, oC 13 [.ref h1, .ref h2, .int p2, .ref h3, .ref h4, .int (nI k5), .int (nI k6), .int p7, .int p8, .int p9, .int (nI k10), .int p11, .long q12, .ref h5, .ref h6, .int (nI k15), .int (nI k16)]), (h1, aI Y 3640 (a21.2.2.2.1 0)), (h2, aZ Y 2 f1), (h3, aZ Y 80 f3), (h4, aB Y 1600 f4), (h5, aI Y 200 f13), (h6, aI Y 800 f14)] rfl ?_
          obtain ⟨x24, x25, x26⟩ := hI23
          rcases x25 with e27 | ⟨n28, e27, x29⟩
          ·
            refine V_lv [(5, .int (-1)), (4, .int j4), (0, .ref h0), (1, .int s0), (2, .int (nI s1)), (3, .int (nI s2))] [0, 1, 2, 3, 4, 5] (by rw [e27]; rfl) ?_
            have x30 : (gN (a21.2.2.2.1 0) 3) ≤ 80 := gN_le x24 (by omega) (show bd 3 = (0, ((80 : Nat) : Int)) by decide +kernel)
            refine V_iload 46 B dX12_forced_46 0 rfl ?_
            refine V_iconst 48 B (v := (-1)) dX12_forced_48 (by decide +kernel) ?_
            refine V_icmp_eq_t 49 B 70 dX12_forced_49 (by decide) (by decide +kernel) ?_
            have x31 := x26 e27
            refine V_aload_n 70 B dX12_forced_70 2 rfl ?_
            refine V_iload_n 71 B dX12_forced_71 3 rfl ?_
            refine V_iload_n 72 B dX12_forced_72 4 rfl ?_
            refine V_iload_n 73 B dX12_forced_73 5 rfl ?_
            refine V_cvv 74 B (st := []) (As := [.int s0, .int (nI s1), .int (nI s2)]) (fun sz => rX12_add l D Y h0 h1 h2 h3 h4 h5 h6 p2 k5 k6 p7 p8 p9 k10 p11 q12 k15 k16 (a21.2.2.2.1 0) f1 f3 f4 f13 f14 x24 (by omega) HP s0 s1 s2 (by omega) hs2 (by omega) sz) glV_RX12_132 ⟨rfl, rfl⟩ ⟨(Nat.le_of_ble_eq_true rfl), (Nat.le_of_ble_eq_true rfl)⟩ ⟨(Nat.le_of_ble_eq_true rfl), (Nat.le_of_ble_eq_true rfl)⟩ [0, 0, 0, 0, 0, 0, 0] rfl 13 0 rfl rfl rfl rfl (Nat.le_of_ble_eq_true rfl) rfl (fun _ _ => rfl) dX12_forced_74 (fun u33 w34 => ?_)
            refine V_ws [(h0, oC 13 [.ref h1, .ref h2, .int p2, .ref h3, .ref h4, .int (nI k5), .int (nI k6), .int p7, .int p8, .int p9, .int (nI k10), .int p11, .long q12, .ref h5, .ref h6, .int (nI k15), .int (nI k16)]), (h1, aI Y 3640 (u33.2.2.2.1 0)), (h2, aZ Y 2 f1), (h3, aZ Y 80 f3), (h4, aB Y 1600 f4), (h5, aI Y 200 f13), (h6, aI Y 800 f14)] rfl ?_
            have x35 := w34
            clear w34
            refine V_iload 77 B dX12_forced_77 1 rfl ?_
            exact V_iret 79 B dX12_forced_79 (mkW [] [] [] [(u33.2.2.2.1 0)] [] []) x35 rfl
          ·
            refine V_lv [(5, .int (nI n28)), (4, .int j4), (0, .ref h0), (1, .int s0), (2, .int (nI s1)), (3, .int (nI s2))] [0, 1, 2, 3, 4, 5] (by rw [e27]; rfl) ?_
            have x36 : (gN (a21.2.2.2.1 0) 3) ≤ 80 := gN_le x24 (by omega) (show bd 3 = (0, ((80 : Nat) : Int)) by decide +kernel)
            refine V_iload 46 B dX12_forced_46 0 rfl ?_
            refine V_iconst 48 B (v := (-1)) dX12_forced_48 (by decide +kernel) ?_
            refine V_icmp_eq_f 49 B 70 dX12_forced_49 (by decide) (fun z => by have z2 := x_eq z; rw [nI_toInt (show n28 < 2 ^ 31 by omega), show ((-1) : Int32).toInt = (-1) by decide +kernel] at z2; omega) ?_
            refine V_aload_n 52 B dX12_forced_52 2 rfl ?_
            refine V_iload 53 B dX12_forced_53 0 rfl ?_
            refine V_cvv 55 B (st := []) (As := [.int (nI n28)]) (fun sz => rX12_remove l D Y h0 h1 h2 h3 h4 h5 h6 p2 k5 k6 p7 p8 p9 k10 p11 q12 k15 k16 (a21.2.2.2.1 0) f1 f3 f4 f13 f14 x24 (by omega) HP n28 (by omega) (by omega) sz) glV_RX12_142 ⟨rfl, rfl⟩ ⟨(Nat.le_of_ble_eq_true rfl), (Nat.le_of_ble_eq_true rfl)⟩ ⟨(Nat.le_of_ble_eq_true rfl), (Nat.le_of_ble_eq_true rfl)⟩ [0, 0, 0, 0, 0, 0, 0] rfl 13 0 rfl rfl rfl rfl (Nat.le_of_ble_eq_true rfl) rfl (fun _ _ => rfl) dX12_forced_55 (fun u39 w40 => ?_)
            refine V_ws [(h0, oC 13 [.ref h1, .ref h2, .int p2, .ref h3, .ref h4, .int (nI k5), .int (nI k6), .int p7, .int p8, .int p9, .int (nI k10), .int p11, .long q12, .ref h5, .ref h6, .int (nI k15), .int (nI k16)]), (h1, aI Y 3640 (u39.2.2.2.1 0)), (h2, aZ Y 2 f1), (h3, aZ Y 80 f3), (h4, aB Y 1600 f4), (h5, aI Y 200 f13), (h6, aI Y 800 f14)] rfl ?_
            obtain ⟨x41, x42⟩ := w40
            refine V_aload_n 58 B dX12_forced_58 2 rfl ?_
            refine V_iload_n 59 B dX12_forced_59 3 rfl ?_
            refine V_iload_n 60 B dX12_forced_60 5 rfl ?_
            refine V_iconst 61 B (v := (-1)) dX12_forced_61 (by decide +kernel) ?_
            refine V_cvi 62 B (st := []) (As := [.int s0, .int (nI s2), .int (-1)]) (fun sz => rX12_clashIn l D Y h0 h1 h2 h3 h4 h5 h6 p2 k5 k6 p7 p8 p9 k10 p11 q12 k15 k16 (u39.2.2.2.1 0) f1 f3 f4 f13 f14 x41 (by omega) HP s0 s2 (-1) hs2 sz) glV_RX12_121 ⟨rfl, rfl⟩ ⟨(Nat.le_of_ble_eq_true rfl), (Nat.le_of_ble_eq_true rfl)⟩ ⟨(Nat.le_of_ble_eq_true rfl), (Nat.le_of_ble_eq_true rfl)⟩ [0, 0, 0, 0, 0, 0, 0] rfl 13 0 rfl rfl rfl rfl (Nat.le_of_ble_eq_true rfl) rfl (fun _ _ _ => rfl) dX12_forced_62 (fun j43 u44 w45 => ?_)
            refine V_ws [(h0, oC 13 [.ref h1, .ref h2, .int p2, .ref h3, .ref h4, .int (nI k5), .int (nI k6), .int p7, .int p8, .int p9, .int (nI k10), .int p11, .long q12, .ref h5, .ref h6, .int (nI k15), .int (nI k16)]), (h1, aI Y 3640 (u39.2.2.2.1 0)), (h2, aZ Y 2 f1), (h3, aZ Y 80 f3), (h4, aB Y 1600 f4), (h5, aI Y 200 f13), (h6, aI Y 800 f14)] rfl ?_
            have x46 := w45
            clear w45
            have x49 : (gN (u39.2.2.2.1 0) 3) ≤ 80 := gN_le x41 (by omega) (show bd 3 = (0, ((80 : Nat) : Int)) by decide +kernel)
            rcases x46 with ⟨rfl, x48⟩ | ⟨n47, rfl, x48, x50⟩
            ·
              refine V_istore 65 B (lv2 := [(5, .int (-1)), (4, .int j4), (0, .ref h0), (1, .int s0), (2, .int (nI s1)), (3, .int (nI s2))]) dX12_forced_65 (by decide) rfl ?_
              refine V_goto 67 B 46 dX12_forced_67 (by decide) ?_
              refine V_lv [(5, .int (-1)), (4, .int j4), (0, .ref h0), (1, .int s0), (2, .int (nI s1)), (3, .int (nI s2))] [0, 1, 2, 3, 4, 5] rfl ?_
              exact IH22 (mkW [] [(-1)] [] [(u39.2.2.2.1 0)] [] []) ⟨x41, (Or.inl rfl), (fun _ => (show gN (u39.2.2.2.1 0) 3 < 80 by omega))⟩ (by show gN (u39.2.2.2.1 0) 3 < _; omega)
            ·
              refine V_istore 65 B (lv2 := [(5, .int (nI n47)), (4, .int j4), (0, .ref h0), (1, .int s0), (2, .int (nI s1)), (3, .int (nI s2))]) dX12_forced_65 (by decide) rfl ?_
              refine V_goto 67 B 46 dX12_forced_67 (by decide) ?_
              refine V_lv [(5, .int (nI n47)), (4, .int j4), (0, .ref h0), (1, .int s0), (2, .int (nI s1)), (3, .int (nI s2))] [0, 1, 2, 3, 4, 5] rfl ?_
              exact IH22 (mkW [] [(nI n47)] [] [(u39.2.2.2.1 0)] [] []) ⟨x41, (Or.inr ⟨n47, rfl, (show n47 < gN (u39.2.2.2.1 0) 3 by omega)⟩), (fun _ => (show gN (u39.2.2.2.1 0) 3 < 80 by omega))⟩ (by show gN (u39.2.2.2.1 0) 3 < _; omega)
        ·
          refine V_istore 44 B (lv2 := [(5, .int (nI n17)), (4, .int j4), (0, .ref h0), (1, .int s0), (2, .int (nI s1)), (3, .int (nI s2))]) dX12_forced_44 (by decide) rfl ?_
          refine V_wloop (α := WU) (fun a => gN (a.2.2.2.1 0) 3) (fun a => INV (a.2.2.2.1 0) ∧ ((a.2.1 0) = -1 ∨ ∃ j9 : Nat, (a.2.1 0) = nI j9 ∧ j9 < gN (a.2.2.2.1 0) 3) ∧ ((a.2.1 0) = -1 → gN (a.2.2.2.1 0) 3 < 80)) (fun a => [(5, .int (a.2.1 0)), (4, .int j4), (0, .ref h0), (1, .int s0), (2, .int (nI s1)), (3, .int (nI s2))]) (fun a => [(h0, oC 13 [.ref h1, .ref h2, .int p2, .ref h3, .ref h4, .int (nI k5), .int (nI k6), .int p7, .int p8, .int p9, .int (nI k10), .int p11, .long q12, .ref h5, .ref h6, .int (nI k15), .int (nI k16)]), (h1, aI Y 3640 (a.2.2.2.1 0)), (h2, aZ Y 2 f1), (h3, aZ Y 80 f3), (h4, aB Y 1600 f4), (h5, aI Y 200 f13), (h6, aI Y 800 f14)]) (mkW [] [(nI n17)] [] [f0] [] []) ⟨HI, (Or.inr ⟨n17, rfl, (show n17 < gN f0 3 by omega)⟩), (fun e => absurd e (nI_m1 (by omega)))⟩ rfl rfl (fun a51 hI53 IH52 => ?_)
          refine V_lv [(5, .int (a51.2.1 0)), (4, .int j4), (0, .ref h0), (1, .int s0), (2, .int (nI s1)), (3, .int (nI s2))] [0, 1, 2, 3, 4, 5] rfl ?_
          refine V_ws [(h0, oC 13 [.ref h1, .ref h2, .int p2, .ref h3, .ref h4, .int (nI k5), .int (nI k6), .int p7, .int p8, .int p9, .int (nI k10), .int p11, .long q12, .ref h5, .ref h6, .int (nI k15), .int (nI k16)]), (h1, aI Y 3640 (a51.2.2.2.1 0)), (h2, aZ Y 2 f1), (h3, aZ Y 80 f3), (h4, aB Y 1600 f4), (h5, aI Y 200 f13), (h6, aI Y 800 f14)] rfl ?_
          obtain ⟨x54, x55, x56⟩ := hI53
          rcases x55 with e57 | ⟨n58, e57, x59⟩
          ·
            refine V_lv [(5, .int (-1)), (4, .int j4), (0, .ref h0), (1, .int s0), (2, .int (nI s1)), (3, .int (nI s2))] [0, 1, 2, 3, 4, 5] (by rw [e57]; rfl) ?_
            have x60 : (gN (a51.2.2.2.1 0) 3) ≤ 80 := gN_le x54 (by omega) (show bd 3 = (0, ((80 : Nat) : Int)) by decide +kernel)
            refine V_iload 46 B dX12_forced_46 0 rfl ?_
            refine V_iconst 48 B (v := (-1)) dX12_forced_48 (by decide +kernel) ?_
            refine V_icmp_eq_t 49 B 70 dX12_forced_49 (by decide) (by decide +kernel) ?_
            have x61 := x56 e57
            refine V_aload_n 70 B dX12_forced_70 2 rfl ?_
            refine V_iload_n 71 B dX12_forced_71 3 rfl ?_
            refine V_iload_n 72 B dX12_forced_72 4 rfl ?_
            refine V_iload_n 73 B dX12_forced_73 5 rfl ?_
            refine V_cvv 74 B (st := []) (As := [.int s0, .int (nI s1), .int (nI s2)]) (fun sz => rX12_add l D Y h0 h1 h2 h3 h4 h5 h6 p2 k5 k6 p7 p8 p9 k10 p11 q12 k15 k16 (a51.2.2.2.1 0) f1 f3 f4 f13 f14 x54 (by omega) HP s0 s1 s2 (by omega) hs2 (by omega) sz) glV_RX12_132 ⟨rfl, rfl⟩ ⟨(Nat.le_of_ble_eq_true rfl), (Nat.le_of_ble_eq_true rfl)⟩ ⟨(Nat.le_of_ble_eq_true rfl), (Nat.le_of_ble_eq_true rfl)⟩ [0, 0, 0, 0, 0, 0, 0] rfl 13 0 rfl rfl rfl rfl (Nat.le_of_ble_eq_true rfl) rfl (fun _ _ => rfl) dX12_forced_74 (fun u63 w64 => ?_)
            refine V_ws [(h0, oC 13 [.ref h1, .ref h2, .int p2, .ref h3, .ref h4, .int (nI k5), .int (nI k6), .int p7, .int p8, .int p9, .int (nI k10), .int p11, .long q12, .ref h5, .ref h6, .int (nI k15), .int (nI k16)]), (h1, aI Y 3640 (u63.2.2.2.1 0)), (h2, aZ Y 2 f1), (h3, aZ Y 80 f3), (h4, aB Y 1600 f4), (h5, aI Y 200 f13), (h6, aI Y 800 f14)] rfl ?_
            have x65 := w64
            clear w64
            refine V_iload 77 B dX12_forced_77 1 rfl ?_
            exact V_iret 79 B dX12_forced_79 (mkW [] [] [] [(u63.2.2.2.1 0)] [] []) x65 rfl
          ·
            refine V_lv [(5, .int (nI n58)), (4, .int j4), (0, .ref h0), (1, .int s0), (2, .int (nI s1)), (3, .int (nI s2))] [0, 1, 2, 3, 4, 5] (by rw [e57]; rfl) ?_
            have x66 : (gN (a51.2.2.2.1 0) 3) ≤ 80 := gN_le x54 (by omega) (show bd 3 = (0, ((80 : Nat) : Int)) by decide +kernel)
            refine V_iload 46 B dX12_forced_46 0 rfl ?_
            refine V_iconst 48 B (v := (-1)) dX12_forced_48 (by decide +kernel) ?_
            refine V_icmp_eq_f 49 B 70 dX12_forced_49 (by decide) (fun z => by have z2 := x_eq z; rw [nI_toInt (show n58 < 2 ^ 31 by omega), show ((-1) : Int32).toInt = (-1) by decide +kernel] at z2; omega) ?_
            refine V_aload_n 52 B dX12_forced_52 2 rfl ?_
            refine V_iload 53 B dX12_forced_53 0 rfl ?_
            refine V_cvv 55 B (st := []) (As := [.int (nI n58)]) (fun sz => rX12_remove l D Y h0 h1 h2 h3 h4 h5 h6 p2 k5 k6 p7 p8 p9 k10 p11 q12 k15 k16 (a51.2.2.2.1 0) f1 f3 f4 f13 f14 x54 (by omega) HP n58 (by omega) (by omega) sz) glV_RX12_142 ⟨rfl, rfl⟩ ⟨(Nat.le_of_ble_eq_true rfl), (Nat.le_of_ble_eq_true rfl)⟩ ⟨(Nat.le_of_ble_eq_true rfl), (Nat.le_of_ble_eq_true rfl)⟩ [0, 0, 0, 0, 0, 0, 0] rfl 13 0 rfl rfl rfl rfl (Nat.le_of_ble_eq_true rfl) rfl (fun _ _ => rfl) dX12_forced_55 (fun u69 w70 => ?_)
            refine V_ws [(h0, oC 13 [.ref h1, .ref h2, .int p2, .ref h3, .ref h4, .int (nI k5), .int (nI k6), .int p7, .int p8, .int p9, .int (nI k10), .int p11, .long q12, .ref h5, .ref h6, .int (nI k15), .int (nI k16)]), (h1, aI Y 3640 (u69.2.2.2.1 0)), (h2, aZ Y 2 f1), (h3, aZ Y 80 f3), (h4, aB Y 1600 f4), (h5, aI Y 200 f13), (h6, aI Y 800 f14)] rfl ?_
            obtain ⟨x71, x72⟩ := w70
            refine V_aload_n 58 B dX12_forced_58 2 rfl ?_
            refine V_iload_n 59 B dX12_forced_59 3 rfl ?_
            refine V_iload_n 60 B dX12_forced_60 5 rfl ?_
            refine V_iconst 61 B (v := (-1)) dX12_forced_61 (by decide +kernel) ?_
            refine V_cvi 62 B (st := []) (As := [.int s0, .int (nI s2), .int (-1)]) (fun sz => rX12_clashIn l D Y h0 h1 h2 h3 h4 h5 h6 p2 k5 k6 p7 p8 p9 k10 p11 q12 k15 k16 (u69.2.2.2.1 0) f1 f3 f4 f13 f14 x71 (by omega) HP s0 s2 (-1) hs2 sz) glV_RX12_121 ⟨rfl, rfl⟩ ⟨(Nat.le_of_ble_eq_true rfl), (Nat.le_of_ble_eq_true rfl)⟩ ⟨(Nat.le_of_ble_eq_true rfl), (Nat.le_of_ble_eq_true rfl)⟩ [0, 0, 0, 0, 0, 0, 0] rfl 13 0 rfl rfl rfl rfl (Nat.le_of_ble_eq_true rfl) rfl (fun _ _ _ => rfl) dX12_forced_62 (fun j73 u74 w75 => ?_)
            refine V_ws [(h0, oC 13 [.ref h1, .ref h2, .int p2, .ref h3, .ref h4, .int (nI k5), .int (nI k6), .int p7, .int p8, .int p9, .int (nI k10), .int p11, .long q12, .ref h5, .ref h6, .int (nI k15), .int (nI k16)]), (h1, aI Y 3640 (u69.2.2.2.1 0)), (h2, aZ Y 2 f1), (h3, aZ Y 80 f3), (h4, aB Y 1600 f4), (h5, aI Y 200 f13), (h6, aI Y 800 f14)] rfl ?_
            have x76 := w75
            clear w75
            have x79 : (gN (u69.2.2.2.1 0) 3) ≤ 80 := gN_le x71 (by omega) (show bd 3 = (0, ((80 : Nat) : Int)) by decide +kernel)
            rcases x76 with ⟨rfl, x78⟩ | ⟨n77, rfl, x78, x80⟩
            ·
              refine V_istore 65 B (lv2 := [(5, .int (-1)), (4, .int j4), (0, .ref h0), (1, .int s0), (2, .int (nI s1)), (3, .int (nI s2))]) dX12_forced_65 (by decide) rfl ?_
              refine V_goto 67 B 46 dX12_forced_67 (by decide) ?_
              refine V_lv [(5, .int (-1)), (4, .int j4), (0, .ref h0), (1, .int s0), (2, .int (nI s1)), (3, .int (nI s2))] [0, 1, 2, 3, 4, 5] rfl ?_
              exact IH52 (mkW [] [(-1)] [] [(u69.2.2.2.1 0)] [] []) ⟨x71, (Or.inl rfl), (fun _ => (show gN (u69.2.2.2.1 0) 3 < 80 by omega))⟩ (by show gN (u69.2.2.2.1 0) 3 < _; omega)
            ·
              refine V_istore 65 B (lv2 := [(5, .int (nI n77)), (4, .int j4), (0, .ref h0), (1, .int s0), (2, .int (nI s1)), (3, .int (nI s2))]) dX12_forced_65 (by decide) rfl ?_
              refine V_goto 67 B 46 dX12_forced_67 (by decide) ?_
              refine V_lv [(5, .int (nI n77)), (4, .int j4), (0, .ref h0), (1, .int s0), (2, .int (nI s1)), (3, .int (nI s2))] [0, 1, 2, 3, 4, 5] rfl ?_
              exact IH52 (mkW [] [(nI n77)] [] [(u69.2.2.2.1 0)] [] []) ⟨x71, (Or.inr ⟨n77, rfl, (show n77 < gN (u69.2.2.2.1 0) 3 by omega)⟩), (fun _ => (show gN (u69.2.2.2.1 0) 3 < 80 by omega))⟩ (by show gN (u69.2.2.2.1 0) 3 < _; omega)
      ·
        obtain rfl : j9 = 80 := kk11
        have e82 : (80 : Int32).toInt = 80 := by decide +kernel
        refine V_bipush 34 B (v := (-2)) dX12_forced_34 (by decide +kernel) ?_
        exact V_iret 36 B dX12_forced_36 (mkW [] [] [] [f0] [] []) HI rfl
    ·
      refine V_if_eq_f 5 B 12 dX12_forced_5 (by decide) (by decide +kernel) ?_
      refine V_sipush 8 B (v := (-1000)) dX12_forced_8 (by decide +kernel) ?_
      exact V_iret 11 B dX12_forced_11 (mkW [] [] [] [f0] [] []) HI rfl)
