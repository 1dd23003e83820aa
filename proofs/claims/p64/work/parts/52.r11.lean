theorem dX12_bitsOf_0 : decode cX12_bitsOf 0 = .ok (.iconst 0, 1) := by decide +kernel
theorem dX12_bitsOf_1 : decode cX12_bitsOf 1 = .ok (.istore_n 1, 1) := by decide +kernel
theorem dX12_bitsOf_2 : decode cX12_bitsOf 2 = .ok (.iload_n 0, 1) := by decide +kernel
theorem dX12_bitsOf_3 : decode cX12_bitsOf 3 = .ok (.istore_n 2, 1) := by decide +kernel
theorem dX12_bitsOf_4 : decode cX12_bitsOf 4 = .ok (.iload_n 2, 1) := by decide +kernel
theorem dX12_bitsOf_5 : decode cX12_bitsOf 5 = .ok (.ifCond .le 16, 3) := by decide +kernel
theorem dX12_bitsOf_21 : decode cX12_bitsOf 21 = .ok (.iload_n 1, 1) := by decide +kernel
theorem dX12_bitsOf_22 : decode cX12_bitsOf 22 = .ok (.ireturn, 1) := by decide +kernel
theorem dX12_bitsOf_8 : decode cX12_bitsOf 8 = .ok (.iload_n 1, 1) := by decide +kernel
theorem dX12_bitsOf_9 : decode cX12_bitsOf 9 = .ok (.iload_n 2, 1) := by decide +kernel
theorem dX12_bitsOf_10 : decode cX12_bitsOf 10 = .ok (.iconst 2, 1) := by decide +kernel
theorem dX12_bitsOf_11 : decode cX12_bitsOf 11 = .ok (.irem, 1) := by decide +kernel
theorem dX12_bitsOf_12 : decode cX12_bitsOf 12 = .ok (.iadd, 1) := by decide +kernel
theorem dX12_bitsOf_13 : decode cX12_bitsOf 13 = .ok (.istore_n 1, 1) := by decide +kernel
theorem dX12_bitsOf_14 : decode cX12_bitsOf 14 = .ok (.iload_n 2, 1) := by decide +kernel
theorem dX12_bitsOf_15 : decode cX12_bitsOf 15 = .ok (.iconst 2, 1) := by decide +kernel
theorem dX12_bitsOf_16 : decode cX12_bitsOf 16 = .ok (.idiv, 1) := by decide +kernel
theorem dX12_bitsOf_17 : decode cX12_bitsOf 17 = .ok (.istore_n 2, 1) := by decide +kernel
theorem dX12_bitsOf_18 : decode cX12_bitsOf 18 = .ok (.goto (-14), 3) := by decide +kernel
set_option maxRecDepth 100000 in
set_option maxHeartbeats 4000000 in
theorem rX12_bitsOf (l : Launch) (D : va_G) (Y : Nat → ClassId)  (s0 : Int32)  (sz : Nat) : Met l yX12_bitsOf (WSm yX12_bitsOf cX12_bitsOf 3 (some .int)) (mkR 0 0 0 0) (PreC D Y [.int s0] [] sz) (QI D (fun (r : Int32) (u : WU) => True) (fun (u : WU) => []) (va_A [] sz)) 0 0 (va_A [] sz) :=
  met_of  (by decide +kernel) (Nat.le_of_ble_eq_true rfl) (fun p e s m args below meth c B hin hsz => by
    have B : VB p s m args meth c D Y (va_A [] sz) cX12_bitsOf 3 RX12 (some .int) := B
    refine V_iconst 0 B (v := 0) dX12_bitsOf_0 (by decide +kernel) ?_
    refine V_istore_n 1 B (lv2 := [(1, .int 0), (0, .int s0)]) dX12_bitsOf_1 (by decide) rfl ?_
    refine V_iload_n 2 B dX12_bitsOf_2 1 rfl ?_
    refine V_istore_n 3 B (lv2 := [(2, .int s0), (1, .int 0), (0, .int s0)]) dX12_bitsOf_3 (by decide) rfl ?_
    refine V_wloop (α := WU) (fun a => ((a.2.1 0)).toInt.toNat) (fun a => True) (fun a => [(2, .int (a.2.1 0)), (1, .int (a.2.1 1)), (0, .int s0)]) (fun a => []) (mkW [] [s0, 0] [] [] [] []) trivial rfl rfl (fun a0 hI2 IH1 => ?_)
    refine V_lv [(2, .int (a0.2.1 0)), (1, .int (a0.2.1 1)), (0, .int s0)] [0, 1, 2] rfl ?_
    refine V_iload_n 4 B dX12_bitsOf_4 0 rfl ?_
    refine V_if_le 5 B 21 dX12_bitsOf_5 (by decide) (fun kk3 => ?_) (fun kk3 => ?_)
    ·
      have x4 := x_le kk3
      rw [show (0 : Int32).toInt = 0 by decide +kernel] at x4
      refine V_iload_n 21 B dX12_bitsOf_21 1 rfl ?_
      exact V_iret 22 B dX12_bitsOf_22 (mkW [] [] [] [] [] []) trivial rfl
    ·
      have x5 := x_nle kk3
      rw [show (0 : Int32).toInt = 0 by decide +kernel] at x5
      refine V_iload_n 8 B dX12_bitsOf_8 1 rfl ?_
      refine V_iload_n 9 B dX12_bitsOf_9 0 rfl ?_
      refine V_iconst 10 B (v := 2) dX12_bitsOf_10 (by decide +kernel) ?_
      refine V_irem 11 B dX12_bitsOf_11 (by decide +kernel) rfl ?_
      refine V_nmi (fun j6 e7 => ?_)
      refine V_iadd 12 B dX12_bitsOf_12 rfl ?_
      refine V_nmi (fun j8 e9 => ?_)
      refine V_istore_n 13 B (lv2 := [(1, .int j8), (2, .int (a0.2.1 0)), (0, .int s0)]) dX12_bitsOf_13 (by decide) rfl ?_
      refine V_iload_n 14 B dX12_bitsOf_14 1 rfl ?_
      refine V_iconst 15 B (v := 2) dX12_bitsOf_15 (by decide +kernel) ?_
      refine V_idiv 16 B dX12_bitsOf_16 (by decide +kernel) rfl ?_
      refine V_nmi (fun j10 e11 => ?_)
      have x12 : 0 ≤ j10.toInt ∧ j10.toInt < (a0.2.1 0).toInt := by rw [e11]; exact half_dec (by omega)
      refine V_istore_n 17 B (lv2 := [(2, .int j10), (1, .int j8), (0, .int s0)]) dX12_bitsOf_17 (by decide) rfl ?_
      refine V_goto 18 B 4 dX12_bitsOf_18 (by decide) ?_
      refine V_lv [(2, .int j10), (1, .int j8), (0, .int s0)] [0, 1, 2] rfl ?_
      exact IH1 (mkW [] [j10, j8] [] [] [] []) trivial (by show (j10).toInt.toNat < _; omega))
theorem dX12_doFit_0 : decode cX12_doFit 0 = .ok (.iconst 0, 1) := by decide +kernel
theorem dX12_doFit_1 : decode cX12_doFit 1 = .ok (.istore_n 3, 1) := by decide +kernel
theorem dX12_doFit_2 : decode cX12_doFit 2 = .ok (.iload_n 3, 1) := by decide +kernel
theorem dX12_doFit_3 : decode cX12_doFit 3 = .ok (.aload_n 0, 1) := by decide +kernel
theorem dX12_doFit_4 : decode cX12_doFit 4 = .ok (.getfield 9, 3) := by decide +kernel
theorem dX12_doFit_7 : decode cX12_doFit 7 = .ok (.bipush 15, 2) := by decide +kernel
theorem dX12_doFit_9 : decode cX12_doFit 9 = .ok (.iaload, 1) := by decide +kernel
theorem dX12_doFit_10 : decode cX12_doFit 10 = .ok (.if_icmp .ge 77, 3) := by decide +kernel
theorem dX12_doFit_87 : decode cX12_doFit 87 = .ok (.iconst 1, 1) := by decide +kernel
theorem dX12_doFit_88 : decode cX12_doFit 88 = .ok (.ireturn, 1) := by decide +kernel
theorem dX12_doFit_13 : decode cX12_doFit 13 = .ok (.iload_n 2, 1) := by decide +kernel
theorem dX12_doFit_14 : decode cX12_doFit 14 = .ok (.iload_n 3, 1) := by decide +kernel
theorem dX12_doFit_15 : decode cX12_doFit 15 = .ok (.ishr, 1) := by decide +kernel
theorem dX12_doFit_16 : decode cX12_doFit 16 = .ok (.iconst 1, 1) := by decide +kernel
theorem dX12_doFit_17 : decode cX12_doFit 17 = .ok (.iand, 1) := by decide +kernel
theorem dX12_doFit_18 : decode cX12_doFit 18 = .ok (.iconst 1, 1) := by decide +kernel
theorem dX12_doFit_19 : decode cX12_doFit 19 = .ok (.if_icmp .ne 6, 3) := by decide +kernel
theorem dX12_doFit_25 : decode cX12_doFit 25 = .ok (.aload_n 0, 1) := by decide +kernel
theorem dX12_doFit_26 : decode cX12_doFit 26 = .ok (.iload_n 1, 1) := by decide +kernel
theorem dX12_doFit_27 : decode cX12_doFit 27 = .ok (.iload_n 3, 1) := by decide +kernel
theorem dX12_doFit_28 : decode cX12_doFit 28 = .ok (.invokestatic 231, 3) := by decide +kernel
theorem dX12_doFit_31 : decode cX12_doFit 31 = .ok (.invokevirtual 129, 3) := by decide +kernel
theorem dX12_doFit_34 : decode cX12_doFit 34 = .ok (.ifCond .ne 5, 3) := by decide +kernel
theorem dX12_doFit_37 : decode cX12_doFit 37 = .ok (.iconst 0, 1) := by decide +kernel
theorem dX12_doFit_38 : decode cX12_doFit 38 = .ok (.ireturn, 1) := by decide +kernel
theorem dX12_doFit_39 : decode cX12_doFit 39 = .ok (.iconst 0, 1) := by decide +kernel
theorem dX12_doFit_40 : decode cX12_doFit 40 = .ok (.istore 4, 2) := by decide +kernel
theorem dX12_doFit_42 : decode cX12_doFit 42 = .ok (.iload 4, 2) := by decide +kernel
theorem dX12_doFit_44 : decode cX12_doFit 44 = .ok (.iload_n 3, 1) := by decide +kernel
theorem dX12_doFit_45 : decode cX12_doFit 45 = .ok (.if_icmp .ge 36, 3) := by decide +kernel
theorem dX12_doFit_81 : decode cX12_doFit 81 = .ok (.iinc 3 1, 3) := by decide +kernel
theorem dX12_doFit_84 : decode cX12_doFit 84 = .ok (.goto (-82), 3) := by decide +kernel
theorem dX12_doFit_48 : decode cX12_doFit 48 = .ok (.iload_n 2, 1) := by decide +kernel
theorem dX12_doFit_49 : decode cX12_doFit 49 = .ok (.iload 4, 2) := by decide +kernel
theorem dX12_doFit_51 : decode cX12_doFit 51 = .ok (.ishr, 1) := by decide +kernel
theorem dX12_doFit_52 : decode cX12_doFit 52 = .ok (.iconst 1, 1) := by decide +kernel
theorem dX12_doFit_53 : decode cX12_doFit 53 = .ok (.iand, 1) := by decide +kernel
theorem dX12_doFit_54 : decode cX12_doFit 54 = .ok (.ifCond .ne 21, 3) := by decide +kernel
theorem dX12_doFit_75 : decode cX12_doFit 75 = .ok (.iinc 4 1, 3) := by decide +kernel
theorem dX12_doFit_78 : decode cX12_doFit 78 = .ok (.goto (-36), 3) := by decide +kernel
theorem dX12_doFit_57 : decode cX12_doFit 57 = .ok (.aload_n 0, 1) := by decide +kernel
theorem dX12_doFit_58 : decode cX12_doFit 58 = .ok (.iload 4, 2) := by decide +kernel
theorem dX12_doFit_60 : decode cX12_doFit 60 = .ok (.invokestatic 231, 3) := by decide +kernel
theorem dX12_doFit_63 : decode cX12_doFit 63 = .ok (.iload_n 3, 1) := by decide +kernel
theorem dX12_doFit_64 : decode cX12_doFit 64 = .ok (.invokestatic 231, 3) := by decide +kernel
theorem dX12_doFit_67 : decode cX12_doFit 67 = .ok (.invokevirtual 111, 3) := by decide +kernel
theorem rl25 : ∀ z0, z0 < 9 → SQ (856 + 5 * z0) := by unfold SQ; decide +kernel
theorem dX12_doFit_70 : decode cX12_doFit 70 = .ok (.ifCond .eq 5, 3) := by decide +kernel
theorem dX12_doFit_73 : decode cX12_doFit 73 = .ok (.iconst 0, 1) := by decide +kernel
theorem dX12_doFit_74 : decode cX12_doFit 74 = .ok (.ireturn, 1) := by decide +kernel
theorem dX12_doFit_22 : decode cX12_doFit 22 = .ok (.goto 59, 3) := by decide +kernel
set_option maxRecDepth 100000 in
set_option maxHeartbeats 4000000 in
theorem rX12_doFit (l : Launch) (D : va_G) (Y : Nat → ClassId) (h0 : Nat) (h1 : Nat) (h2 : Nat) (h3 : Nat) (h4 : Nat) (h5 : Nat) (h6 : Nat) (p2 : Int32) (k5 : Nat) (k6 : Nat) (p7 : Int32) (p8 : Int32) (p9 : Int32) (k10 : Nat) (p11 : Int32) (q12 : Int64) (k15 : Nat) (k16 : Nat) (f0 : Nat → Int32) (f1 : Nat → Int32) (f3 : Nat → Int32) (f4 : Nat → Int32) (f13 : Nat → Int32) (f14 : Nat → Int32) (ph : Nat → Int32) (HI : INV ph f0) (HL : k5 ≤ 1600) (HP : PLV f13) (s0 : Int32) (s1 : Int32)  (sz : Nat) : Met l yX12_doFit (WSm yX12_doFit cX12_doFit 5 (some .boolean)) (mkR 5 0 0 112) (PreC D Y [.ref h0, .int s0, .int s1] [(h0, oC 13 [.ref h1, .ref h2, .int p2, .ref h3, .ref h4, .int (nI k5), .int (nI k6), .int p7, .int p8, .int p9, .int (nI k10), .int p11, .long q12, .ref h5, .ref h6, .int (nI k15), .int (nI k16)]), (h1, aI Y 3640 f0), (h2, aZ Y 2 f1), (h3, aZ Y 80 f3), (h4, aB Y 1600 f4), (h5, aI Y 200 f13), (h6, aI Y 800 f14)] sz) (QI D (fun (r : Int32) (u : WU) => (r = 0 ∨ r = 1)) (fun (u : WU) => [(h0, oC 13 [.ref h1, .ref h2, .int p2, .ref h3, .ref h4, .int (nI k5), .int (nI k6), .int p7, .int p8, .int p9, .int (nI k10), .int p11, .long q12, .ref h5, .ref h6, .int (nI k15), .int (nI k16)]), (h1, aI Y 3640 f0), (h2, aZ Y 2 f1), (h3, aZ Y 80 f3), (h4, aB Y 1600 f4), (h5, aI Y 200 f13), (h6, aI Y 800 f14)]) (va_A [(h0, oC 13 [.ref h1, .ref h2, .int p2, .ref h3, .ref h4, .int (nI k5), .int (nI k6), .int p7, .int p8, .int p9, .int (nI k10), .int p11, .long q12, .ref h5, .ref h6, .int (nI k15), .int (nI k16)]), (h1, aI Y 3640 f0), (h2, aZ Y 2 f1), (h3, aZ Y 80 f3), (h4, aB Y 1600 f4), (h5, aI Y 200 f13), (h6, aI Y 800 f14)] sz)) 0 0 (va_A [(h0, oC 13 [.ref h1, .ref h2, .int p2, .ref h3, .ref h4, .int (nI k5), .int (nI k6), .int p7, .int p8, .int p9, .int (nI k10), .int p11, .long q12, .ref h5, .ref h6, .int (nI k15), .int (nI k16)]), (h1, aI Y 3640 f0), (h2, aZ Y 2 f1), (h3, aZ Y 80 f3), (h4, aB Y 1600 f4), (h5, aI Y 200 f13), (h6, aI Y 800 f14)] sz) :=
  met_of  (by decide +kernel) (Nat.le_of_ble_eq_true rfl) (fun p e s m args below meth c B hin hsz => by
    have B : VB p s m args meth c D Y (va_A [(h0, oC 13 [.ref h1, .ref h2, .int p2, .ref h3, .ref h4, .int (nI k5), .int (nI k6), .int p7, .int p8, .int p9, .int (nI k10), .int p11, .long q12, .ref h5, .ref h6, .int (nI k15), .int (nI k16)]), (h1, aI Y 3640 f0), (h2, aZ Y 2 f1), (h3, aZ Y 80 f3), (h4, aB Y 1600 f4), (h5, aI Y 200 f13), (h6, aI Y 800 f14)] sz) cX12_doFit 5 RX12 (some .boolean) := B
    refine V_iconst 0 B (v := 0) dX12_doFit_0 (by decide +kernel) ?_
    refine V_istore_n 1 B (lv2 := [(3, .int 0), (0, .ref h0), (1, .int s0), (2, .int s1)]) dX12_doFit_1 (by decide) rfl ?_
    refine V_wloop (α := WU) (fun a => 100000 - (a.1 0)) (fun a => (a.1 0) ≤ 4000) (fun a => [(3, .int (nI (a.1 0))), (0, .ref h0), (1, .int s0), (2, .int s1)]) (fun a => [(h0, oC 13 [.ref h1, .ref h2, .int p2, .ref h3, .ref h4, .int (nI k5), .int (nI k6), .int p7, .int p8, .int p9, .int (nI k10), .int p11, .long q12, .ref h5, .ref h6, .int (nI k15), .int (nI k16)]), (h1, aI Y 3640 f0), (h2, aZ Y 2 f1), (h3, aZ Y 80 f3), (h4, aB Y 1600 f4), (h5, aI Y 200 f13), (h6, aI Y 800 f14)]) (mkW [0] [] [] [] [] []) (show 0 ≤ 4000 by omega) rfl rfl (fun a0 hI2 IH1 => ?_)
    refine V_lv [(3, .int (nI (a0.1 0))), (0, .ref h0), (1, .int s0), (2, .int s1)] [0, 1, 2, 3] rfl ?_
    refine V_ws [(h0, oC 13 [.ref h1, .ref h2, .int p2, .ref h3, .ref h4, .int (nI k5), .int (nI k6), .int p7, .int p8, .int p9, .int (nI k10), .int p11, .long q12, .ref h5, .ref h6, .int (nI k15), .int (nI k16)]), (h1, aI Y 3640 f0), (h2, aZ Y 2 f1), (h3, aZ Y 80 f3), (h4, aB Y 1600 f4), (h5, aI Y 200 f13), (h6, aI Y 800 f14)] rfl ?_
    have x3 := hI2
    refine V_iload_n 2 B dX12_doFit_2 0 rfl ?_
    refine V_aload_n 3 B dX12_doFit_3 1 rfl ?_
    refine V_get 4 B gf_RX12_9 0 rfl rfl dX12_doFit_4 ?_
    refine V_bipush 7 B (v := 15) dX12_doFit_7 (by decide +kernel) ?_
    have x4 : (gN f0 15) ≤ 10 := gN_le HI (by omega) (show bd 15 = (0, ((10 : Nat) : Int)) by decide +kernel)
    refine V_iald 9 B (v := (nI (gN f0 15))) 1 rfl (vpin _ _ (by decide +kernel)) dX12_doFit_9 (by show f0 15 = _; exact gN_eq HI (by omega) (show bd 15 = (0, ((10 : Nat) : Int)) by decide +kernel)) ?_
    refine V_icmp_ge 10 B 87 dX12_doFit_10 (by decide) (fun kk5 => ?_) (fun kk5 => ?_)
    ·
      have x6 := n_le (a := (gN f0 15)) (b := (a0.1 0)) kk5 (by omega) (by omega)
      refine V_iconst 87 B (v := 1) dX12_doFit_87 (by decide +kernel) ?_
      exact V_zret 88 B rfl dX12_doFit_88 (mkW [] [] [] [] [] []) (Or.inr rfl) rfl
    ·
      have x7 := n_nle (a := (gN f0 15)) (b := (a0.1 0)) kk5 (by omega) (by omega)
      refine V_iload_n 13 B dX12_doFit_13 3 rfl ?_
      refine V_iload_n 14 B dX12_doFit_14 0 rfl ?_
      refine V_ishr 15 B dX12_doFit_15 rfl ?_
      refine V_nmi (fun j8 _ => ?_)
      refine V_iconst 16 B (v := 1) dX12_doFit_16 (by decide +kernel) ?_
      refine V_iand 17 B dX12_doFit_17 rfl ?_
      refine V_nmi (fun j9 e10 => ?_)
      refine V_iconst 18 B (v := 1) dX12_doFit_18 (by decide +kernel) ?_
      refine V_icmp_ne 19 B 25 dX12_doFit_19 (by decide) (fun kk11 => ?_) (fun kk11 => ?_)
      ·
        have x12 := x_ne kk11
        rw [show (1 : Int32).toInt = 1 by decide +kernel] at x12
        refine V_aload_n 25 B dX12_doFit_25 1 rfl ?_
        refine V_iload_n 26 B dX12_doFit_26 2 rfl ?_
        refine V_iload_n 27 B dX12_doFit_27 0 rfl ?_
        refine V_csi 28 B (st := [.int s0, .ref h0]) (As := [.int (nI (a0.1 0))]) (fun sz => rX12_wishAt l D Y (a0.1 0) (by omega) sz) glS_RX12_231 ⟨rfl, rfl⟩ ⟨(Nat.le_of_ble_eq_true rfl), (Nat.le_of_ble_eq_true rfl)⟩ ⟨(Nat.le_of_ble_eq_true rfl), (Nat.le_of_ble_eq_true rfl)⟩ [] rfl rfl (Nat.le_of_ble_eq_true rfl) rfl (fun _ _ _ => rfl) dX12_doFit_28 (fun j13 u14 w15 => ?_)
        refine V_ws [(h0, oC 13 [.ref h1, .ref h2, .int p2, .ref h3, .ref h4, .int (nI k5), .int (nI k6), .int p7, .int p8, .int p9, .int (nI k10), .int p11, .long q12, .ref h5, .ref h6, .int (nI k15), .int (nI k16)]), (h1, aI Y 3640 f0), (h2, aZ Y 2 f1), (h3, aZ Y 80 f3), (h4, aB Y 1600 f4), (h5, aI Y 200 f13), (h6, aI Y 800 f14)] rfl ?_
        have x16 := w15
        clear w15
        obtain rfl := x16
        refine V_cvi 31 B (st := []) (As := [.int s0, .int (nI (856 + 5 * (a0.1 0)))]) (fun sz => rX12_canBind l D Y h0 h1 h2 h3 h4 h5 h6 p2 k5 k6 p7 p8 p9 k10 p11 q12 k15 k16 f0 f1 f3 f4 f13 f14 ph HI (by omega) HP s0 (856 + 5 * (a0.1 0)) (rl24 (a0.1 0) (by omega)) sz) glV_RX12_129 ⟨rfl, rfl⟩ ⟨(Nat.le_of_ble_eq_true rfl), (Nat.le_of_ble_eq_true rfl)⟩ ⟨(Nat.le_of_ble_eq_true rfl), (Nat.le_of_ble_eq_true rfl)⟩ [0, 0, 0, 0, 0, 0, 0] rfl 13 0 rfl rfl rfl rfl (Nat.le_of_ble_eq_true rfl) rfl (fun _ _ _ => rfl) dX12_doFit_31 (fun j17 u18 w19 => ?_)
        refine V_ws [(h0, oC 13 [.ref h1, .ref h2, .int p2, .ref h3, .ref h4, .int (nI k5), .int (nI k6), .int p7, .int p8, .int p9, .int (nI k10), .int p11, .long q12, .ref h5, .ref h6, .int (nI k15), .int (nI k16)]), (h1, aI Y 3640 f0), (h2, aZ Y 2 f1), (h3, aZ Y 80 f3), (h4, aB Y 1600 f4), (h5, aI Y 200 f13), (h6, aI Y 800 f14)] rfl ?_
        have x20 := w19
        clear w19
        rcases x20 with rfl | rfl
        ·
          refine V_if_ne_f 34 B 39 dX12_doFit_34 (by decide) (by decide +kernel) ?_
          refine V_iconst 37 B (v := 0) dX12_doFit_37 (by decide +kernel) ?_
          exact V_zret 38 B rfl dX12_doFit_38 (mkW [] [] [] [] [] []) (Or.inl rfl) rfl
        ·
          refine V_if_ne_t 34 B 39 dX12_doFit_34 (by decide) (by decide +kernel) ?_
          refine V_iconst 39 B (v := 0) dX12_doFit_39 (by decide +kernel) ?_
          refine V_istore 40 B (lv2 := [(4, .int 0), (3, .int (nI (a0.1 0))), (0, .ref h0), (1, .int s0), (2, .int s1)]) dX12_doFit_40 (by decide) rfl ?_
          refine V_wloop (α := WU) (fun a => 100000 - (a.1 0)) (fun a => (a.1 0) ≤ 4000) (fun a => [(4, .int (nI (a.1 0))), (3, .int (nI (a0.1 0))), (0, .ref h0), (1, .int s0), (2, .int s1)]) (fun a => [(h0, oC 13 [.ref h1, .ref h2, .int p2, .ref h3, .ref h4, .int (nI k5), .int (nI k6), .int p7, .int p8, .int p9, .int (nI k10), .int p11, .long q12, .ref h5, .ref h6, .int (nI k15), .int (nI k16)]), (h1, aI Y 3640 f0), (h2, aZ Y 2 f1), (h3, aZ Y 80 f3), (h4, aB Y 1600 f4), (h5, aI Y 200 f13), (h6, aI Y 800 f14)]) (mkW [0] [] [] [] [] []) (show 0 ≤ 4000 by omega) rfl rfl (fun a21 hI23 IH22 => ?_)
          refine V_lv [(4, .int (nI (a21.1 0))), (3, .int (nI (a0.1 0))), (0, .ref h0), (1, .int s0), (2, .int s1)] [0, 1, 2, 3, 4] rfl ?_
          refine V_ws [(h0, oC 13 [.ref h1, .ref h2, .int p2, .ref h3, .ref h4, .int (nI k5), .int (nI k6), .int p7, .int p8, .int p9, .int (nI k10), .int p11, .long q12, .ref h5, .ref h6, .int (nI k15), .int (nI k16)]), (h1, aI Y 3640 f0), (h2, aZ Y 2 f1), (h3, aZ Y 80 f3), (h4, aB Y 1600 f4), (h5, aI Y 200 f13), (h6, aI Y 800 f14)] rfl ?_
          have x24 := hI23
          refine V_iload 42 B dX12_doFit_42 0 rfl ?_
          refine V_iload_n 44 B dX12_doFit_44 1 rfl ?_
          refine V_icmp_ge 45 B 81 dX12_doFit_45 (by decide) (fun kk25 => ?_) (fun kk25 => ?_)
          ·
            have x26 := n_le (a := (a0.1 0)) (b := (a21.1 0)) kk25 (by omega) (by omega)
            refine V_iinc 81 B (v := (nI (1 + (a0.1 0)))) (lv2 := [(3, .int (nI (1 + (a0.1 0)))), (4, .int (nI (a21.1 0))), (0, .ref h0), (1, .int s0), (2, .int s1)]) dX12_doFit_81 1 rfl (nI_addE (a := (a0.1 0)) (b := 1) (by omega)) (by decide) rfl ?_
            refine V_goto 84 B 2 dX12_doFit_84 (by decide) ?_
            refine V_lv [(3, .int (nI (1 + (a0.1 0)))), (0, .ref h0), (1, .int s0), (2, .int s1)] [0, 2, 3, 4] rfl ?_
            exact IH1 (mkW [1 + (a0.1 0)] [] [] [] [] []) (show 1 + (a0.1 0) ≤ 4000 by omega) (by show 100000 - (1 + (a0.1 0)) < 100000 - (a0.1 0); omega)
          ·
            have x27 := n_nle (a := (a0.1 0)) (b := (a21.1 0)) kk25 (by omega) (by omega)
            refine V_iload_n 48 B dX12_doFit_48 4 rfl ?_
            refine V_iload 49 B dX12_doFit_49 0 rfl ?_
            refine V_ishr 51 B dX12_doFit_51 rfl ?_
            refine V_nmi (fun j28 _ => ?_)
            refine V_iconst 52 B (v := 1) dX12_doFit_52 (by decide +kernel) ?_
            refine V_iand 53 B dX12_doFit_53 rfl ?_
            refine V_nmi (fun j29 e30 => ?_)
            refine V_if_ne 54 B 75 dX12_doFit_54 (by decide) (fun kk31 => ?_) (fun kk31 => ?_)
            ·
              have x32 := x_ne kk31
              rw [show (0 : Int32).toInt = 0 by decide +kernel] at x32
              refine V_iinc 75 B (v := (nI (1 + (a21.1 0)))) (lv2 := [(4, .int (nI (1 + (a21.1 0)))), (3, .int (nI (a0.1 0))), (0, .ref h0), (1, .int s0), (2, .int s1)]) dX12_doFit_75 0 rfl (nI_addE (a := (a21.1 0)) (b := 1) (by omega)) (by decide) rfl ?_
              refine V_goto 78 B 42 dX12_doFit_78 (by decide) ?_
              refine V_lv [(4, .int (nI (1 + (a21.1 0)))), (3, .int (nI (a0.1 0))), (0, .ref h0), (1, .int s0), (2, .int s1)] [0, 1, 2, 3, 4] rfl ?_
              exact IH22 (mkW [1 + (a21.1 0)] [] [] [] [] []) (show 1 + (a21.1 0) ≤ 4000 by omega) (by show 100000 - (1 + (a21.1 0)) < 100000 - (a21.1 0); omega)
            ·
              obtain rfl : j29 = 0 := kk31
              have e34 : (0 : Int32).toInt = 0 := by decide +kernel
              refine V_aload_n 57 B dX12_doFit_57 2 rfl ?_
              refine V_iload 58 B dX12_doFit_58 0 rfl ?_
              refine V_csi 60 B (st := [.ref h0]) (As := [.int (nI (a21.1 0))]) (fun sz => rX12_wishAt l D Y (a21.1 0) (by omega) sz) glS_RX12_231 ⟨rfl, rfl⟩ ⟨(Nat.le_of_ble_eq_true rfl), (Nat.le_of_ble_eq_true rfl)⟩ ⟨(Nat.le_of_ble_eq_true rfl), (Nat.le_of_ble_eq_true rfl)⟩ [] rfl rfl (Nat.le_of_ble_eq_true rfl) rfl (fun _ _ _ => rfl) dX12_doFit_60 (fun j35 u36 w37 => ?_)
              refine V_ws [(h0, oC 13 [.ref h1, .ref h2, .int p2, .ref h3, .ref h4, .int (nI k5), .int (nI k6), .int p7, .int p8, .int p9, .int (nI k10), .int p11, .long q12, .ref h5, .ref h6, .int (nI k15), .int (nI k16)]), (h1, aI Y 3640 f0), (h2, aZ Y 2 f1), (h3, aZ Y 80 f3), (h4, aB Y 1600 f4), (h5, aI Y 200 f13), (h6, aI Y 800 f14)] rfl ?_
              have x38 := w37
              clear w37
              obtain rfl := x38
              refine V_iload_n 63 B dX12_doFit_63 1 rfl ?_
              refine V_csi 64 B (st := [.int (nI (856 + 5 * (a21.1 0))), .ref h0]) (As := [.int (nI (a0.1 0))]) (fun sz => rX12_wishAt l D Y (a0.1 0) (by omega) sz) glS_RX12_231 ⟨rfl, rfl⟩ ⟨(Nat.le_of_ble_eq_true rfl), (Nat.le_of_ble_eq_true rfl)⟩ ⟨(Nat.le_of_ble_eq_true rfl), (Nat.le_of_ble_eq_true rfl)⟩ [] rfl rfl (Nat.le_of_ble_eq_true rfl) rfl (fun _ _ _ => rfl) dX12_doFit_64 (fun j39 u40 w41 => ?_)
              refine V_ws [(h0, oC 13 [.ref h1, .ref h2, .int p2, .ref h3, .ref h4, .int (nI k5), .int (nI k6), .int p7, .int p8, .int p9, .int (nI k10), .int p11, .long q12, .ref h5, .ref h6, .int (nI k15), .int (nI k16)]), (h1, aI Y 3640 f0), (h2, aZ Y 2 f1), (h3, aZ Y 80 f3), (h4, aB Y 1600 f4), (h5, aI Y 200 f13), (h6, aI Y 800 f14)] rfl ?_
              have x42 := w41
              clear w41
              obtain rfl := x42
              refine V_cvi 67 B (st := []) (As := [.int (nI (856 + 5 * (a21.1 0))), .int (nI (856 + 5 * (a0.1 0)))]) (fun sz => rX12_doClash l D Y h0 h1 h2 h3 h4 h5 h6 p2 k5 k6 p7 p8 p9 k10 p11 q12 k15 k16 f0 f1 f3 f4 f13 f14 ph HI (by omega) HP (856 + 5 * (a21.1 0)) (856 + 5 * (a0.1 0)) (rl25 (a21.1 0) (by omega)) (rl24 (a0.1 0) (by omega)) sz) glV_RX12_111 ⟨rfl, rfl⟩ ⟨(Nat.le_of_ble_eq_true rfl), (Nat.le_of_ble_eq_true rfl)⟩ ⟨(Nat.le_of_ble_eq_true rfl), (Nat.le_of_ble_eq_true rfl)⟩ [0, 0, 0, 0, 0, 0, 0] rfl 13 0 rfl rfl rfl rfl (Nat.le_of_ble_eq_true rfl) rfl (fun _ _ _ => rfl) dX12_doFit_67 (fun j43 u44 w45 => ?_)
              refine V_ws [(h0, oC 13 [.ref h1, .ref h2, .int p2, .ref h3, .ref h4, .int (nI k5), .int (nI k6), .int p7, .int p8, .int p9, .int (nI k10), .int p11, .long q12, .ref h5, .ref h6, .int (nI k15), .int (nI k16)]), (h1, aI Y 3640 f0), (h2, aZ Y 2 f1), (h3, aZ Y 80 f3), (h4, aB Y 1600 f4), (h5, aI Y 200 f13), (h6, aI Y 800 f14)] rfl ?_
              have x46 := w45
              clear w45
              rcases x46 with ⟨rfl, x47⟩ | ⟨rfl, x47⟩
              ·
                refine V_if_eq_t 70 B 75 dX12_doFit_70 (by decide) (by decide +kernel) ?_
                refine V_iinc 75 B (v := (nI (1 + (a21.1 0)))) (lv2 := [(4, .int (nI (1 + (a21.1 0)))), (3, .int (nI (a0.1 0))), (0, .ref h0), (1, .int s0), (2, .int s1)]) dX12_doFit_75 0 rfl (nI_addE (a := (a21.1 0)) (b := 1) (by omega)) (by decide) rfl ?_
                refine V_goto 78 B 42 dX12_doFit_78 (by decide) ?_
                refine V_lv [(4, .int (nI (1 + (a21.1 0)))), (3, .int (nI (a0.1 0))), (0, .ref h0), (1, .int s0), (2, .int s1)] [0, 1, 2, 3, 4] rfl ?_
                exact IH22 (mkW [1 + (a21.1 0)] [] [] [] [] []) (show 1 + (a21.1 0) ≤ 4000 by omega) (by show 100000 - (1 + (a21.1 0)) < 100000 - (a21.1 0); omega)
              ·
                refine V_if_eq_f 70 B 75 dX12_doFit_70 (by decide) (by decide +kernel) ?_
                refine V_iconst 73 B (v := 0) dX12_doFit_73 (by decide +kernel) ?_
                exact V_zret 74 B rfl dX12_doFit_74 (mkW [] [] [] [] [] []) (Or.inl rfl) rfl
      ·
        obtain rfl : j9 = 1 := kk11
        have e49 : (1 : Int32).toInt = 1 := by decide +kernel
        refine V_goto 22 B 81 dX12_doFit_22 (by decide) ?_
        refine V_iinc 81 B (v := (nI (1 + (a0.1 0)))) (lv2 := [(3, .int (nI (1 + (a0.1 0)))), (0, .ref h0), (1, .int s0), (2, .int s1)]) dX12_doFit_81 0 rfl (nI_addE (a := (a0.1 0)) (b := 1) (by omega)) (by decide) rfl ?_
        refine V_goto 84 B 2 dX12_doFit_84 (by decide) ?_
        refine V_lv [(3, .int (nI (1 + (a0.1 0)))), (0, .ref h0), (1, .int s0), (2, .int s1)] [0, 1, 2, 3] rfl ?_
        exact IH1 (mkW [1 + (a0.1 0)] [] [] [] [] []) (show 1 + (a0.1 0) ≤ 4000 by omega) (by show 100000 - (1 + (a0.1 0)) < 100000 - (a0.1 0); omega))
theorem dX12_leastDrop_0 : decode cX12_leastDrop 0 = .ok (.aload_n 0, 1) := by decide +kernel
theorem dX12_leastDrop_1 : decode cX12_leastDrop 1 = .ok (.iconst 0, 1) := by decide +kernel
theorem dX12_leastDrop_2 : decode cX12_leastDrop 2 = .ok (.putfield 38, 3) := by decide +kernel
theorem dX12_leastDrop_5 : decode cX12_leastDrop 5 = .ok (.aload_n 0, 1) := by decide +kernel
theorem dX12_leastDrop_6 : decode cX12_leastDrop 6 = .ok (.aload_n 0, 1) := by decide +kernel
theorem dX12_leastDrop_7 : decode cX12_leastDrop 7 = .ok (.iload_n 1, 1) := by decide +kernel
theorem dX12_leastDrop_8 : decode cX12_leastDrop 8 = .ok (.invokevirtual 91, 3) := by decide +kernel
theorem dX12_leastDrop_11 : decode cX12_leastDrop 11 = .ok (.ifCond .ne 7, 3) := by decide +kernel
theorem dX12_leastDrop_14 : decode cX12_leastDrop 14 = .ok (.iconst 1, 1) := by decide +kernel
theorem dX12_leastDrop_15 : decode cX12_leastDrop 15 = .ok (.goto 4, 3) := by decide +kernel
theorem dX12_leastDrop_19 : decode cX12_leastDrop 19 = .ok (.iconst 1, 1) := by decide +kernel
theorem dX12_leastDrop_20 : decode cX12_leastDrop 20 = .ok (.invokevirtual 69, 3) := by decide +kernel
theorem dX12_leastDrop_23 : decode cX12_leastDrop 23 = .ok (.ifCond .eq 5, 3) := by decide +kernel
theorem dX12_leastDrop_26 : decode cX12_leastDrop 26 = .ok (.iconst 0, 1) := by decide +kernel
theorem dX12_leastDrop_27 : decode cX12_leastDrop 27 = .ok (.ireturn, 1) := by decide +kernel
theorem dX12_leastDrop_18 : decode cX12_leastDrop 18 = .ok (.iconst 0, 1) := by decide +kernel
theorem dX12_leastDrop_28 : decode cX12_leastDrop 28 = .ok (.iconst 1, 1) := by decide +kernel
theorem dX12_leastDrop_29 : decode cX12_leastDrop 29 = .ok (.aload_n 0, 1) := by decide +kernel
theorem dX12_leastDrop_30 : decode cX12_leastDrop 30 = .ok (.getfield 9, 3) := by decide +kernel
theorem dX12_leastDrop_33 : decode cX12_leastDrop 33 = .ok (.bipush 15, 2) := by decide +kernel
theorem dX12_leastDrop_35 : decode cX12_leastDrop 35 = .ok (.iaload, 1) := by decide +kernel
theorem dX12_leastDrop_36 : decode cX12_leastDrop 36 = .ok (.ishl, 1) := by decide +kernel
theorem dX12_leastDrop_37 : decode cX12_leastDrop 37 = .ok (.iconst 1, 1) := by decide +kernel
theorem dX12_leastDrop_38 : decode cX12_leastDrop 38 = .ok (.isub, 1) := by decide +kernel
theorem dX12_leastDrop_39 : decode cX12_leastDrop 39 = .ok (.istore_n 2, 1) := by decide +kernel
theorem dX12_leastDrop_40 : decode cX12_leastDrop 40 = .ok (.iload_n 2, 1) := by decide +kernel
theorem dX12_leastDrop_41 : decode cX12_leastDrop 41 = .ok (.iconst 1, 1) := by decide +kernel
theorem dX12_leastDrop_42 : decode cX12_leastDrop 42 = .ok (.isub, 1) := by decide +kernel
theorem dX12_leastDrop_43 : decode cX12_leastDrop 43 = .ok (.istore_n 3, 1) := by decide +kernel
theorem dX12_leastDrop_44 : decode cX12_leastDrop 44 = .ok (.iload_n 3, 1) := by decide +kernel
theorem dX12_leastDrop_45 : decode cX12_leastDrop 45 = .ok (.ifCond .lt 31, 3) := by decide +kernel
theorem dX12_leastDrop_76 : decode cX12_leastDrop 76 = .ok (.iload_n 2, 1) := by decide +kernel
theorem dX12_leastDrop_77 : decode cX12_leastDrop 77 = .ok (.ireturn, 1) := by decide +kernel
theorem dX12_leastDrop_48 : decode cX12_leastDrop 48 = .ok (.iload_n 3, 1) := by decide +kernel
theorem dX12_leastDrop_49 : decode cX12_leastDrop 49 = .ok (.invokestatic 234, 3) := by decide +kernel
theorem glS_RX12_234 : GLS RX12 234 yX12_bitsOf cX12_bitsOf 3 (some .int) 1 := ⟨⟨(mT9 158 rfl rfl), (mT9 159 rfl rfl), (mT1 13 rfl rfl), (mT9 160 rfl rfl)⟩, by decide +kernel⟩
theorem dX12_leastDrop_52 : decode cX12_leastDrop 52 = .ok (.iload_n 2, 1) := by decide +kernel
theorem dX12_leastDrop_53 : decode cX12_leastDrop 53 = .ok (.invokestatic 234, 3) := by decide +kernel
theorem dX12_leastDrop_56 : decode cX12_leastDrop 56 = .ok (.if_icmp .gt 14, 3) := by decide +kernel
theorem dX12_leastDrop_70 : decode cX12_leastDrop 70 = .ok (.iinc 3 (-1), 3) := by decide +kernel
theorem dX12_leastDrop_73 : decode cX12_leastDrop 73 = .ok (.goto (-29), 3) := by decide +kernel
theorem dX12_leastDrop_59 : decode cX12_leastDrop 59 = .ok (.aload_n 0, 1) := by decide +kernel
theorem dX12_leastDrop_60 : decode cX12_leastDrop 60 = .ok (.iload_n 1, 1) := by decide +kernel
theorem dX12_leastDrop_61 : decode cX12_leastDrop 61 = .ok (.iload_n 3, 1) := by decide +kernel
theorem dX12_leastDrop_62 : decode cX12_leastDrop 62 = .ok (.invokevirtual 237, 3) := by decide +kernel
theorem glV_RX12_237 : GLV RX12 237 yX12_doFit RX12 cX12_doFit 5 (some .boolean) 2 := ⟨⟨(mT9 161 rfl rfl), (mT9 163 rfl rfl), (mTs 70 rfl rfl), (mT1 13 rfl rfl), (mT9 164 rfl rfl)⟩, by decide +kernel⟩
theorem dX12_leastDrop_65 : decode cX12_leastDrop 65 = .ok (.ifCond .eq 5, 3) := by decide +kernel
theorem dX12_leastDrop_68 : decode cX12_leastDrop 68 = .ok (.iload_n 3, 1) := by decide +kernel
theorem dX12_leastDrop_69 : decode cX12_leastDrop 69 = .ok (.istore_n 2, 1) := by decide +kernel
set_option maxRecDepth 100000 in
set_option maxHeartbeats 4000000 in
theorem rX12_leastDrop (l : Launch) (D : va_G) (Y : Nat → ClassId) (h0 : Nat) (h1 : Nat) (h2 : Nat) (h3 : Nat) (h4 : Nat) (h5 : Nat) (h6 : Nat) (p2 : Int32) (k5 : Nat) (k6 : Nat) (p7 : Int32) (p8 : Int32) (p9 : Int32) (k10 : Nat) (p11 : Int32) (q12 : Int64) (k15 : Nat) (k16 : Nat) (f0 : Nat → Int32) (f1 : Nat → Int32) (f3 : Nat → Int32) (f4 : Nat → Int32) (f13 : Nat → Int32) (f14 : Nat → Int32) (ph : Nat → Int32) (HI : INV ph f0) (HL : k5 ≤ 1600) (HP : PLV f13) (s0 : Int32)  (sz : Nat) : Met l yX12_leastDrop (WSm yX12_leastDrop cX12_leastDrop 4 (some .int)) (mkR 6 0 0 136) (PreC D Y [.ref h0, .int s0] [(h0, oC 13 [.ref h1, .ref h2, .int p2, .ref h3, .ref h4, .int (nI k5), .int (nI k6), .int p7, .int p8, .int p9, .int (nI k10), .int p11, .long q12, .ref h5, .ref h6, .int (nI k15), .int (nI k16)]), (h1, aI Y 3640 f0), (h2, aZ Y 2 f1), (h3, aZ Y 80 f3), (h4, aB Y 1600 f4), (h5, aI Y 200 f13), (h6, aI Y 800 f14)] sz) (QI D (fun (r : Int32) (u : WU) => True) (fun (u : WU) => [(h0, oC 13 [.ref h1, .ref h2, .int (u.2.1 0), .ref h3, .ref h4, .int (nI k5), .int (nI k6), .int p7, .int p8, .int p9, .int (nI k10), .int p11, .long q12, .ref h5, .ref h6, .int (nI k15), .int (nI k16)]), (h1, aI Y 3640 f0), (h2, aZ Y 2 f1), (h3, aZ Y 80 f3), (h4, aB Y 1600 f4), (h5, aI Y 200 f13), (h6, aI Y 800 f14)]) (va_A [(h0, oC 13 [.ref h1, .ref h2, .int p2, .ref h3, .ref h4, .int (nI k5), .int (nI k6), .int p7, .int p8, .int p9, .int (nI k10), .int p11, .long q12, .ref h5, .ref h6, .int (nI k15), .int (nI k16)]), (h1, aI Y 3640 f0), (h2, aZ Y 2 f1), (h3, aZ Y 80 f3), (h4, aB Y 1600 f4), (h5, aI Y 200 f13), (h6, aI Y 800 f14)] sz)) 0 0 (va_A [(h0, oC 13 [.ref h1, .ref h2, .int p2, .ref h3, .ref h4, .int (nI k5), .int (nI k6), .int p7, .int p8, .int p9, .int (nI k10), .int p11, .long q12, .ref h5, .ref h6, .int (nI k15), .int (nI k16)]), (h1, aI Y 3640 f0), (h2, aZ Y 2 f1), (h3, aZ Y 80 f3), (h4, aB Y 1600 f4), (h5, aI Y 200 f13), (h6, aI Y 800 f14)] sz) :=
  met_of  (by decide +kernel) (Nat.le_of_ble_eq_true rfl) (fun p e s m args below meth c B hin hsz => by
    have B : VB p s m args meth c D Y (va_A [(h0, oC 13 [.ref h1, .ref h2, .int p2, .ref h3, .ref h4, .int (nI k5), .int (nI k6), .int p7, .int p8, .int p9, .int (nI k10), .int p11, .long q12, .ref h5, .ref h6, .int (nI k15), .int (nI k16)]), (h1, aI Y 3640 f0), (h2, aZ Y 2 f1), (h3, aZ Y 80 f3), (h4, aB Y 1600 f4), (h5, aI Y 200 f13), (h6, aI Y 800 f14)] sz) cX12_leastDrop 4 RX12 (some .int) := B
    refine V_aload_n 0 B dX12_leastDrop_0 0 rfl ?_
    refine V_iconst 1 B (v := 0) dX12_leastDrop_1 (by decide +kernel) ?_
    refine V_put 2 B gp_RX12_38 0 rfl (Nat.le_of_ble_eq_true rfl) rfl rfl dX12_leastDrop_2 [(h0, oC 13 [.ref h1, .ref h2, .int 0, .ref h3, .ref h4, .int (nI k5), .int (nI k6), .int p7, .int p8, .int p9, .int (nI k10), .int p11, .long q12, .ref h5, .ref h6, .int (nI k15), .int (nI k16)]), (h1, aI Y 3640 f0), (h2, aZ Y 2 f1), (h3, aZ Y 80 f3), (h4, aB Y 1600 f4), (h5, aI Y 200 f13), (h6, aI Y 800 f14)] rfl ?_
    refine V_aload_n 5 B dX12_leastDrop_5 0 rfl ?_
    refine V_aload_n 6 B dX12_leastDrop_6 0 rfl ?_
    refine V_iload_n 7 B dX12_leastDrop_7 1 rfl ?_
    refine V_cvi 8 B (st := [.ref h0]) (As := [.int s0]) (fun sz => rX12_isMode l D Y h0 h1 h2 h3 h4 h5 h6 0 k5 k6 p7 p8 p9 k10 p11 q12 k15 k16 f0 f1 f3 f4 f13 f14 ph HI (by omega) HP s0 sz) glV_RX12_91 ⟨rfl, rfl⟩ ⟨(Nat.le_of_ble_eq_true rfl), (Nat.le_of_ble_eq_true rfl)⟩ ⟨(Nat.le_of_ble_eq_true rfl), (Nat.le_of_ble_eq_true rfl)⟩ [0, 0, 0, 0, 0, 0, 0] rfl 13 0 rfl rfl rfl rfl (Nat.le_of_ble_eq_true rfl) rfl (fun _ _ _ => rfl) dX12_leastDrop_8 (fun j0 u1 w2 => ?_)
    refine V_ws [(h0, oC 13 [.ref h1, .ref h2, .int 0, .ref h3, .ref h4, .int (nI k5), .int (nI k6), .int p7, .int p8, .int p9, .int (nI k10), .int p11, .long q12, .ref h5, .ref h6, .int (nI k15), .int (nI k16)]), (h1, aI Y 3640 f0), (h2, aZ Y 2 f1), (h3, aZ Y 80 f3), (h4, aB Y 1600 f4), (h5, aI Y 200 f13), (h6, aI Y 800 f14)] rfl ?_
    have x3 := w2
    clear w2
    have x7 : (gN f0 0) ≤ 6 := gN_le HI (by omega) (show bd 0 = (0, ((6 : Nat) : Int)) by decide +kernel)
    rcases x3 with rfl | ⟨rfl, n4, rfl, x6⟩
    ·
      refine V_if_ne_f 11 B 18 dX12_leastDrop_11 (by decide) (by decide +kernel) ?_
      refine V_iconst 14 B (v := 1) dX12_leastDrop_14 (by decide +kernel) ?_
      refine V_goto 15 B 19 dX12_leastDrop_15 (by decide) ?_
      refine V_iconst 19 B (v := 1) dX12_leastDrop_19 (by decide +kernel) ?_
      refine V_cvi 20 B (st := []) (As := [.int 1, .int 1]) (fun sz => rX12_throwsIf_1 l D Y h0 h1 h2 h3 h4 h5 h6 0 k5 k6 p7 p8 p9 k10 p11 q12 k15 k16 f0 f1 f3 f4 f13 f14 ph HI (by omega) HP 1 sz) glV_RX12_69 ⟨rfl, rfl⟩ ⟨(Nat.le_of_ble_eq_true rfl), (Nat.le_of_ble_eq_true rfl)⟩ ⟨(Nat.le_of_ble_eq_true rfl), (Nat.le_of_ble_eq_true rfl)⟩ [0, 0, 0, 0, 0, 0, 0] rfl 13 0 rfl rfl rfl rfl (Nat.le_of_ble_eq_true rfl) rfl (fun _ _ _ => rfl) dX12_leastDrop_20 (fun j8 u9 w10 => ?_)
      refine V_ws [(h0, oC 13 [.ref h1, .ref h2, .int (u9.2.1 0), .ref h3, .ref h4, .int (nI k5), .int (nI k6), .int p7, .int p8, .int p9, .int (nI k10), .int p11, .long q12, .ref h5, .ref h6, .int (nI k15), .int (nI k16)]), (h1, aI Y 3640 f0), (h2, aZ Y 2 f1), (h3, aZ Y 80 f3), (h4, aB Y 1600 f4), (h5, aI Y 200 f13), (h6, aI Y 800 f14)] rfl ?_
      have x11 := w10
      clear w10
      obtain rfl := x11
      refine V_if_eq_f 23 B 28 dX12_leastDrop_23 (by decide) (by decide +kernel) ?_
      refine V_iconst 26 B (v := 0) dX12_leastDrop_26 (by decide +kernel) ?_
      exact V_iret 27 B dX12_leastDrop_27 (mkW [] [(u9.2.1 0)] [] [] [] []) trivial rfl
    ·
      have e12 := nI_toInt (show n4 < 2 ^ 31 by omega)
      have x13 : (gN f0 0) ≤ 6 := gN_le HI (by omega) (show bd 0 = (0, ((6 : Nat) : Int)) by decide +kernel)
      refine V_if_ne_t 11 B 18 dX12_leastDrop_11 (by decide) (by decide +kernel) ?_
      refine V_iconst 18 B (v := 0) dX12_leastDrop_18 (by decide +kernel) ?_
      refine V_iconst 19 B (v := 1) dX12_leastDrop_19 (by decide +kernel) ?_
      refine V_cvi 20 B (st := []) (As := [.int 0, .int 1]) (fun sz => rX12_throwsIf_0 l D Y h0 h1 h2 h3 h4 h5 h6 0 k5 k6 p7 p8 p9 k10 p11 q12 k15 k16 f0 f1 f3 f4 f13 f14 ph HI (by omega) HP 1 sz) glV_RX12_69 ⟨rfl, rfl⟩ ⟨(Nat.le_of_ble_eq_true rfl), (Nat.le_of_ble_eq_true rfl)⟩ ⟨(Nat.le_of_ble_eq_true rfl), (Nat.le_of_ble_eq_true rfl)⟩ [0, 0, 0, 0, 0, 0, 0] rfl 13 0 rfl rfl rfl rfl (Nat.le_of_ble_eq_true rfl) rfl (fun _ _ _ => rfl) dX12_leastDrop_20 (fun j14 u15 w16 => ?_)
      refine V_ws [(h0, oC 13 [.ref h1, .ref h2, .int (u15.2.1 0), .ref h3, .ref h4, .int (nI k5), .int (nI k6), .int p7, .int p8, .int p9, .int (nI k10), .int p11, .long q12, .ref h5, .ref h6, .int (nI k15), .int (nI k16)]), (h1, aI Y 3640 f0), (h2, aZ Y 2 f1), (h3, aZ Y 80 f3), (h4, aB Y 1600 f4), (h5, aI Y 200 f13), (h6, aI Y 800 f14)] rfl ?_
      have x17 := w16
      clear w16
      obtain rfl := x17
      refine V_if_eq_t 23 B 28 dX12_leastDrop_23 (by decide) (by decide +kernel) ?_
      refine V_iconst 28 B (v := 1) dX12_leastDrop_28 (by decide +kernel) ?_
      refine V_aload_n 29 B dX12_leastDrop_29 0 rfl ?_
      refine V_get 30 B gf_RX12_9 0 rfl rfl dX12_leastDrop_30 ?_
      refine V_bipush 33 B (v := 15) dX12_leastDrop_33 (by decide +kernel) ?_
      have x18 : (gN f0 15) ≤ 10 := gN_le HI (by omega) (show bd 15 = (0, ((10 : Nat) : Int)) by decide +kernel)
      refine V_iald 35 B (v := (nI (gN f0 15))) 1 rfl (vpin _ _ (by decide +kernel)) dX12_leastDrop_35 (by show f0 15 = _; exact gN_eq HI (by omega) (show bd 15 = (0, ((10 : Nat) : Int)) by decide +kernel)) ?_
      refine V_ishl 36 B dX12_leastDrop_36 rfl ?_
      refine V_nmi (fun j19 _ => ?_)
      refine V_iconst 37 B (v := 1) dX12_leastDrop_37 (by decide +kernel) ?_
      refine V_isub 38 B dX12_leastDrop_38 rfl ?_
      refine V_nmi (fun j20 e21 => ?_)
      refine V_istore_n 39 B (lv2 := [(2, .int j20), (0, .ref h0), (1, .int (nI n4))]) dX12_leastDrop_39 (by decide) rfl ?_
      refine V_iload_n 40 B dX12_leastDrop_40 0 rfl ?_
      refine V_iconst 41 B (v := 1) dX12_leastDrop_41 (by decide +kernel) ?_
      refine V_isub 42 B dX12_leastDrop_42 rfl ?_
      refine V_nmi (fun j22 e23 => ?_)
      refine V_istore_n 43 B (lv2 := [(3, .int j22), (2, .int j20), (0, .ref h0), (1, .int (nI n4))]) dX12_leastDrop_43 (by decide) rfl ?_
      refine V_wloop (α := WU) (fun a => (((a.2.1 0)).toInt + 1).toNat) (fun a => True) (fun a => [(3, .int (a.2.1 0)), (2, .int (a.2.1 1)), (0, .ref h0), (1, .int (nI n4))]) (fun a => [(h0, oC 13 [.ref h1, .ref h2, .int (u15.2.1 0), .ref h3, .ref h4, .int (nI k5), .int (nI k6), .int p7, .int p8, .int p9, .int (nI k10), .int p11, .long q12, .ref h5, .ref h6, .int (nI k15), .int (nI k16)]), (h1, aI Y 3640 f0), (h2, aZ Y 2 f1), (h3, aZ Y 80 f3), (h4, aB Y 1600 f4), (h5, aI Y 200 f13), (h6, aI Y 800 f14)]) (mkW [] [j22, j20] [] [] [] []) trivial rfl rfl (fun a24 hI26 IH25 => ?_)
      refine V_lv [(3, .int (a24.2.1 0)), (2, .int (a24.2.1 1)), (0, .ref h0), (1, .int (nI n4))] [0, 1, 2, 3] rfl ?_
      refine V_ws [(h0, oC 13 [.ref h1, .ref h2, .int (u15.2.1 0), .ref h3, .ref h4, .int (nI k5), .int (nI k6), .int p7, .int p8, .int p9, .int (nI k10), .int p11, .long q12, .ref h5, .ref h6, .int (nI k15), .int (nI k16)]), (h1, aI Y 3640 f0), (h2, aZ Y 2 f1), (h3, aZ Y 80 f3), (h4, aB Y 1600 f4), (h5, aI Y 200 f13), (h6, aI Y 800 f14)] rfl ?_
      refine V_iload_n 44 B dX12_leastDrop_44 0 rfl ?_
      refine V_if_lt 45 B 76 dX12_leastDrop_45 (by decide) (fun kk27 => ?_) (fun kk27 => ?_)
      ·
        have x28 := x_lt kk27
        rw [show (0 : Int32).toInt = 0 by decide +kernel] at x28
        refine V_iload_n 76 B dX12_leastDrop_76 1 rfl ?_
        exact V_iret 77 B dX12_leastDrop_77 (mkW [] [(u15.2.1 0)] [] [] [] []) trivial rfl
      ·
        have x29 := x_nlt kk27
        rw [show (0 : Int32).toInt = 0 by decide +kernel] at x29
        refine V_iload_n 48 B dX12_leastDrop_48 0 rfl ?_
        refine V_csi 49 B (st := []) (As := [.int (a24.2.1 0)]) (fun sz => rX12_bitsOf l D Y (a24.2.1 0) sz) glS_RX12_234 ⟨rfl, rfl⟩ ⟨(Nat.le_of_ble_eq_true rfl), (Nat.le_of_ble_eq_true rfl)⟩ ⟨(Nat.le_of_ble_eq_true rfl), (Nat.le_of_ble_eq_true rfl)⟩ [] rfl rfl (Nat.le_of_ble_eq_true rfl) rfl (fun _ _ _ => rfl) dX12_leastDrop_49 (fun j30 u31 w32 => ?_)
        refine V_ws [(h0, oC 13 [.ref h1, .ref h2, .int (u15.2.1 0), .ref h3, .ref h4, .int (nI k5), .int (nI k6), .int p7, .int p8, .int p9, .int (nI k10), .int p11, .long q12, .ref h5, .ref h6, .int (nI k15), .int (nI k16)]), (h1, aI Y 3640 f0), (h2, aZ Y 2 f1), (h3, aZ Y 80 f3), (h4, aB Y 1600 f4), (h5, aI Y 200 f13), (h6, aI Y 800 f14)] rfl ?_
        refine V_iload_n 52 B dX12_leastDrop_52 1 rfl ?_
        refine V_csi 53 B (st := [.int j30]) (As := [.int (a24.2.1 1)]) (fun sz => rX12_bitsOf l D Y (a24.2.1 1) sz) glS_RX12_234 ⟨rfl, rfl⟩ ⟨(Nat.le_of_ble_eq_true rfl), (Nat.le_of_ble_eq_true rfl)⟩ ⟨(Nat.le_of_ble_eq_true rfl), (Nat.le_of_ble_eq_true rfl)⟩ [] rfl rfl (Nat.le_of_ble_eq_true rfl) rfl (fun _ _ _ => rfl) dX12_leastDrop_53 (fun j33 u34 w35 => ?_)
        refine V_ws [(h0, oC 13 [.ref h1, .ref h2, .int (u15.2.1 0), .ref h3, .ref h4, .int (nI k5), .int (nI k6), .int p7, .int p8, .int p9, .int (nI k10), .int p11, .long q12, .ref h5, .ref h6, .int (nI k15), .int (nI k16)]), (h1, aI Y 3640 f0), (h2, aZ Y 2 f1), (h3, aZ Y 80 f3), (h4, aB Y 1600 f4), (h5, aI Y 200 f13), (h6, aI Y 800 f14)] rfl ?_
        refine V_icmp_gt 56 B 70 dX12_leastDrop_56 (by decide) (fun kk36 => ?_) (fun kk36 => ?_)
        ·
          have x37 := x_lt kk36
          have x38 : ((a24.2.1 0) + Int32.ofInt (-1)).toInt = (a24.2.1 0).toInt + (-1) := o_add (c := Int32.ofInt (-1)) (lo := 0) (hi := 2147483647) (by omega) (i_hi _) (by decide) (by decide)
          refine V_iinc 70 B (v := ((a24.2.1 0) + Int32.ofInt (-1))) (lv2 := [(3, .int ((a24.2.1 0) + Int32.ofInt (-1))), (2, .int (a24.2.1 1)), (0, .ref h0), (1, .int (nI n4))]) dX12_leastDrop_70 0 rfl rfl (by decide) rfl ?_
          refine V_goto 73 B 44 dX12_leastDrop_73 (by decide) ?_
          refine V_lv [(3, .int ((a24.2.1 0) + Int32.ofInt (-1))), (2, .int (a24.2.1 1)), (0, .ref h0), (1, .int (nI n4))] [0, 1, 2, 3] rfl ?_
          exact IH25 (mkW [] [((a24.2.1 0) + Int32.ofInt (-1)), (a24.2.1 1)] [] [] [] []) trivial (dn_dec (x := (a24.2.1 0)) (c := Int32.ofInt (-1)) (k := 1) (lo := 0) (hi := 2147483647) (by decide +kernel) (by decide) (by decide) (by omega) (by decide) (i_hi _) (by decide))
        ·
          have x39 := x_nlt kk36
          refine V_aload_n 59 B dX12_leastDrop_59 2 rfl ?_
          refine V_iload_n 60 B dX12_leastDrop_60 3 rfl ?_
          refine V_iload_n 61 B dX12_leastDrop_61 0 rfl ?_
          refine V_cvi 62 B (st := []) (As := [.int (nI n4), .int (a24.2.1 0)]) (fun sz => rX12_doFit l D Y h0 h1 h2 h3 h4 h5 h6 (u15.2.1 0) k5 k6 p7 p8 p9 k10 p11 q12 k15 k16 f0 f1 f3 f4 f13 f14 ph HI (by omega) HP (nI n4) (a24.2.1 0) sz) glV_RX12_237 ⟨rfl, rfl⟩ ⟨(Nat.le_of_ble_eq_true rfl), (Nat.le_of_ble_eq_true rfl)⟩ ⟨(Nat.le_of_ble_eq_true rfl), (Nat.le_of_ble_eq_true rfl)⟩ [0, 0, 0, 0, 0, 0, 0] rfl 13 0 rfl rfl rfl rfl (Nat.le_of_ble_eq_true rfl) rfl (fun _ _ _ => rfl) dX12_leastDrop_62 (fun j40 u41 w42 => ?_)
          refine V_ws [(h0, oC 13 [.ref h1, .ref h2, .int (u15.2.1 0), .ref h3, .ref h4, .int (nI k5), .int (nI k6), .int p7, .int p8, .int p9, .int (nI k10), .int p11, .long q12, .ref h5, .ref h6, .int (nI k15), .int (nI k16)]), (h1, aI Y 3640 f0), (h2, aZ Y 2 f1), (h3, aZ Y 80 f3), (h4, aB Y 1600 f4), (h5, aI Y 200 f13), (h6, aI Y 800 f14)] rfl ?_
          have x43 := w42
          clear w42
          rcases x43 with rfl | rfl
          ·
            refine V_if_eq_t 65 B 70 dX12_leastDrop_65 (by decide) (by decide +kernel) ?_
            have x44 : ((a24.2.1 0) + Int32.ofInt (-1)).toInt = (a24.2.1 0).toInt + (-1) := o_add (c := Int32.ofInt (-1)) (lo := 0) (hi := 2147483647) (by omega) (i_hi _) (by decide) (by decide)
            refine V_iinc 70 B (v := ((a24.2.1 0) + Int32.ofInt (-1))) (lv2 := [(3, .int ((a24.2.1 0) + Int32.ofInt (-1))), (2, .int (a24.2.1 1)), (0, .ref h0), (1, .int (nI n4))]) dX12_leastDrop_70 0 rfl rfl (by decide) rfl ?_
            refine V_goto 73 B 44 dX12_leastDrop_73 (by decide) ?_
            refine V_lv [(3, .int ((a24.2.1 0) + Int32.ofInt (-1))), (2, .int (a24.2.1 1)), (0, .ref h0), (1, .int (nI n4))] [0, 1, 2, 3] rfl ?_
            exact IH25 (mkW [] [((a24.2.1 0) + Int32.ofInt (-1)), (a24.2.1 1)] [] [] [] []) trivial (dn_dec (x := (a24.2.1 0)) (c := Int32.ofInt (-1)) (k := 1) (lo := 0) (hi := 2147483647) (by decide +kernel) (by decide) (by decide) (by omega) (by decide) (i_hi _) (by decide))
          ·
            refine V_if_eq_f 65 B 70 dX12_leastDrop_65 (by decide) (by decide +kernel) ?_
            refine V_iload_n 68 B dX12_leastDrop_68 0 rfl ?_
            refine V_istore_n 69 B (lv2 := [(2, .int (a24.2.1 0)), (3, .int (a24.2.1 0)), (0, .ref h0), (1, .int (nI n4))]) dX12_leastDrop_69 (by decide) rfl ?_
            have x45 : ((a24.2.1 0) + Int32.ofInt (-1)).toInt = (a24.2.1 0).toInt + (-1) := o_add (c := Int32.ofInt (-1)) (lo := 0) (hi := 2147483647) (by omega) (i_hi _) (by decide) (by decide)
            refine V_iinc 70 B (v := ((a24.2.1 0) + Int32.ofInt (-1))) (lv2 := [(3, .int ((a24.2.1 0) + Int32.ofInt (-1))), (2, .int (a24.2.1 0)), (0, .ref h0), (1, .int (nI n4))]) dX12_leastDrop_70 1 rfl rfl (by decide) rfl ?_
            refine V_goto 73 B 44 dX12_leastDrop_73 (by decide) ?_
            refine V_lv [(3, .int ((a24.2.1 0) + Int32.ofInt (-1))), (2, .int (a24.2.1 0)), (0, .ref h0), (1, .int (nI n4))] [0, 1, 2, 3] rfl ?_
            exact IH25 (mkW [] [((a24.2.1 0) + Int32.ofInt (-1)), (a24.2.1 0)] [] [] [] []) trivial (dn_dec (x := (a24.2.1 0)) (c := Int32.ofInt (-1)) (k := 1) (lo := 0) (hi := 2147483647) (by decide +kernel) (by decide) (by decide) (by omega) (by decide) (i_hi _) (by decide)))
theorem dX12_draftWish_0 : decode cX12_draftWish 0 = .ok (.aload_n 0, 1) := by decide +kernel
theorem dX12_draftWish_1 : decode cX12_draftWish 1 = .ok (.iconst 0, 1) := by decide +kernel
theorem dX12_draftWish_2 : decode cX12_draftWish 2 = .ok (.putfield 38, 3) := by decide +kernel
theorem dX12_draftWish_5 : decode cX12_draftWish 5 = .ok (.aload_n 0, 1) := by decide +kernel
theorem dX12_draftWish_6 : decode cX12_draftWish 6 = .ok (.iload_n 1, 1) := by decide +kernel
theorem dX12_draftWish_7 : decode cX12_draftWish 7 = .ok (.i2l, 1) := by decide +kernel
theorem dX12_draftWish_8 : decode cX12_draftWish 8 = .ok (.lconst 0, 1) := by decide +kernel
theorem dX12_draftWish_9 : decode cX12_draftWish 9 = .ok (.aload_n 0, 1) := by decide +kernel
theorem dX12_draftWish_10 : decode cX12_draftWish 10 = .ok (.getfield 9, 3) := by decide +kernel
theorem dX12_draftWish_13 : decode cX12_draftWish 13 = .ok (.bipush 15, 2) := by decide +kernel
theorem dX12_draftWish_15 : decode cX12_draftWish 15 = .ok (.iaload, 1) := by decide +kernel
theorem dX12_draftWish_16 : decode cX12_draftWish 16 = .ok (.iconst 1, 1) := by decide +kernel
theorem dX12_draftWish_17 : decode cX12_draftWish 17 = .ok (.isub, 1) := by decide +kernel
theorem dX12_draftWish_18 : decode cX12_draftWish 18 = .ok (.i2l, 1) := by decide +kernel
theorem dX12_draftWish_19 : decode cX12_draftWish 19 = .ok (.invokestatic 41, 3) := by decide +kernel
theorem dX12_draftWish_22 : decode cX12_draftWish 22 = .ok (.ifCond .ne 7, 3) := by decide +kernel
theorem dX12_draftWish_25 : decode cX12_draftWish 25 = .ok (.iconst 1, 1) := by decide +kernel
theorem dX12_draftWish_26 : decode cX12_draftWish 26 = .ok (.goto 4, 3) := by decide +kernel
theorem dX12_draftWish_30 : decode cX12_draftWish 30 = .ok (.iconst 1, 1) := by decide +kernel
theorem dX12_draftWish_31 : decode cX12_draftWish 31 = .ok (.invokevirtual 69, 3) := by decide +kernel
theorem dX12_draftWish_34 : decode cX12_draftWish 34 = .ok (.ifCond .eq 5, 3) := by decide +kernel
theorem dX12_draftWish_37 : decode cX12_draftWish 37 = .ok (.iconst 0, 1) := by decide +kernel
theorem dX12_draftWish_38 : decode cX12_draftWish 38 = .ok (.ireturn, 1) := by decide +kernel
theorem dX12_draftWish_29 : decode cX12_draftWish 29 = .ok (.iconst 0, 1) := by decide +kernel
theorem dX12_draftWish_39 : decode cX12_draftWish 39 = .ok (.aload_n 0, 1) := by decide +kernel
theorem dX12_draftWish_40 : decode cX12_draftWish 40 = .ok (.iload_n 1, 1) := by decide +kernel
theorem dX12_draftWish_41 : decode cX12_draftWish 41 = .ok (.invokestatic 231, 3) := by decide +kernel
theorem dX12_draftWish_44 : decode cX12_draftWish 44 = .ok (.sipush 3624, 3) := by decide +kernel
theorem dX12_draftWish_47 : decode cX12_draftWish 47 = .ok (.invokevirtual 88, 3) := by decide +kernel
theorem dX12_draftWish_50 : decode cX12_draftWish 50 = .ok (.aload_n 0, 1) := by decide +kernel
theorem dX12_draftWish_51 : decode cX12_draftWish 51 = .ok (.getfield 9, 3) := by decide +kernel
theorem dX12_draftWish_54 : decode cX12_draftWish 54 = .ok (.sipush 3624, 3) := by decide +kernel
theorem dX12_draftWish_57 : decode cX12_draftWish 57 = .ok (.iaload, 1) := by decide +kernel
theorem dX12_draftWish_58 : decode cX12_draftWish 58 = .ok (.ireturn, 1) := by decide +kernel
set_option maxRecDepth 100000 in
set_option maxHeartbeats 4000000 in
theorem rX12_draftWish (l : Launch) (D : va_G) (Y : Nat → ClassId) (h0 : Nat) (h1 : Nat) (h2 : Nat) (h3 : Nat) (h4 : Nat) (h5 : Nat) (h6 : Nat) (p2 : Int32) (k5 : Nat) (k6 : Nat) (p7 : Int32) (p8 : Int32) (p9 : Int32) (k10 : Nat) (p11 : Int32) (q12 : Int64) (k15 : Nat) (k16 : Nat) (f0 : Nat → Int32) (f1 : Nat → Int32) (f3 : Nat → Int32) (f4 : Nat → Int32) (f13 : Nat → Int32) (f14 : Nat → Int32) (ph : Nat → Int32) (HI : INV ph f0) (HL : k5 ≤ 1600) (HP : PLV f13) (s0 : Int32)  (sz : Nat) : Met l yX12_draftWish (WSm yX12_draftWish cX12_draftWish 2 (some .int)) (mkR 1 0 0 25) (PreC D Y [.ref h0, .int s0] [(h0, oC 13 [.ref h1, .ref h2, .int p2, .ref h3, .ref h4, .int (nI k5), .int (nI k6), .int p7, .int p8, .int p9, .int (nI k10), .int p11, .long q12, .ref h5, .ref h6, .int (nI k15), .int (nI k16)]), (h1, aI Y 3640 f0), (h2, aZ Y 2 f1), (h3, aZ Y 80 f3), (h4, aB Y 1600 f4), (h5, aI Y 200 f13), (h6, aI Y 800 f14)] sz) (QI D (fun (r : Int32) (u : WU) => INV ph (u.2.2.2.1 0)) (fun (u : WU) => [(h0, oC 13 [.ref h1, .ref h2, .int (u.2.1 0), .ref h3, .ref h4, .int (nI k5), .int (nI k6), .int p7, .int p8, .int p9, .int (nI k10), .int p11, .long q12, .ref h5, .ref h6, .int (nI k15), .int (nI k16)]), (h1, aI Y 3640 (u.2.2.2.1 0)), (h2, aZ Y 2 f1), (h3, aZ Y 80 f3), (h4, aB Y 1600 f4), (h5, aI Y 200 f13), (h6, aI Y 800 f14)]) (va_A [(h0, oC 13 [.ref h1, .ref h2, .int p2, .ref h3, .ref h4, .int (nI k5), .int (nI k6), .int p7, .int p8, .int p9, .int (nI k10), .int p11, .long q12, .ref h5, .ref h6, .int (nI k15), .int (nI k16)]), (h1, aI Y 3640 f0), (h2, aZ Y 2 f1), (h3, aZ Y 80 f3), (h4, aB Y 1600 f4), (h5, aI Y 200 f13), (h6, aI Y 800 f14)] sz)) 0 0 (va_A [(h0, oC 13 [.ref h1, .ref h2, .int p2, .ref h3, .ref h4, .int (nI k5), .int (nI k6), .int p7, .int p8, .int p9, .int (nI k10), .int p11, .long q12, .ref h5, .ref h6, .int (nI k15), .int (nI k16)]), (h1, aI Y 3640 f0), (h2, aZ Y 2 f1), (h3, aZ Y 80 f3), (h4, aB Y 1600 f4), (h5, aI Y 200 f13), (h6, aI Y 800 f14)] sz) :=
  met_of  (by decide +kernel) (Nat.le_of_ble_eq_true rfl) (fun p e s m args below meth c B hin hsz => by
    have B : VB p s m args meth c D Y (va_A [(h0, oC 13 [.ref h1, .ref h2, .int p2, .ref h3, .ref h4, .int (nI k5), .int (nI k6), .int p7, .int p8, .int p9, .int (nI k10), .int p11, .long q12, .ref h5, .ref h6, .int (nI k15), .int (nI k16)]), (h1, aI Y 3640 f0), (h2, aZ Y 2 f1), (h3, aZ Y 80 f3), (h4, aB Y 1600 f4), (h5, aI Y 200 f13), (h6, aI Y 800 f14)] sz) cX12_draftWish 2 RX12 (some .int) := B
    refine V_aload_n 0 B dX12_draftWish_0 0 rfl ?_
    refine V_iconst 1 B (v := 0) dX12_draftWish_1 (by decide +kernel) ?_
    refine V_put 2 B gp_RX12_38 0 rfl (Nat.le_of_ble_eq_true rfl) rfl rfl dX12_draftWish_2 [(h0, oC 13 [.ref h1, .ref h2, .int 0, .ref h3, .ref h4, .int (nI k5), .int (nI k6), .int p7, .int p8, .int p9, .int (nI k10), .int p11, .long q12, .ref h5, .ref h6, .int (nI k15), .int (nI k16)]), (h1, aI Y 3640 f0), (h2, aZ Y 2 f1), (h3, aZ Y 80 f3), (h4, aB Y 1600 f4), (h5, aI Y 200 f13), (h6, aI Y 800 f14)] rfl ?_
    refine V_aload_n 5 B dX12_draftWish_5 0 rfl ?_
    refine V_iload_n 6 B dX12_draftWish_6 1 rfl ?_
    refine V_i2l 7 B dX12_draftWish_7 rfl ?_
    refine V_nml (fun o0 e1 => ?_)
    have x2 : o0.toInt = s0.toInt := by rw [e1, Int32.toInt_toInt64]
    refine V_lconst 8 B (v := 0) dX12_draftWish_8 (by decide +kernel) ?_
    refine V_aload_n 9 B dX12_draftWish_9 0 rfl ?_
    refine V_get 10 B gf_RX12_9 0 rfl rfl dX12_draftWish_10 ?_
    refine V_bipush 13 B (v := 15) dX12_draftWish_13 (by decide +kernel) ?_
    have x3 : (gN f0 15) ≤ 10 := gN_le HI (by omega) (show bd 15 = (0, ((10 : Nat) : Int)) by decide +kernel)
    refine V_iald 15 B (v := (nI (gN f0 15))) 1 rfl (vpin _ _ (by decide +kernel)) dX12_draftWish_15 (by show f0 15 = _; exact gN_eq HI (by omega) (show bd 15 = (0, ((10 : Nat) : Int)) by decide +kernel)) ?_
    refine V_iconst 16 B (v := 1) dX12_draftWish_16 (by decide +kernel) ?_
    refine V_isub 17 B dX12_draftWish_17 rfl ?_
    refine V_nmi (fun j4 e5 => ?_)
    have x6 : j4.toInt = (((gN f0 15) : Nat) : Int) - ((1 : Nat) : Int) := by rw [e5]; exact nI_subT (a := (gN f0 15)) (b := 1) (by omega) (by omega)
    refine V_i2l 18 B dX12_draftWish_18 rfl ?_
    refine V_nml (fun o7 e8 => ?_)
    have x9 : o7.toInt = j4.toInt := by rw [e8, Int32.toInt_toInt64]
    refine V_csi 19 B (st := [.ref h0]) (As := [.long o0, .long 0, .long o7]) (fun sz => rX12_inRange l D Y o0 0 o7 sz) glS_RX12_41 ⟨rfl, rfl⟩ ⟨(Nat.le_of_ble_eq_true rfl), (Nat.le_of_ble_eq_true rfl)⟩ ⟨(Nat.le_of_ble_eq_true rfl), (Nat.le_of_ble_eq_true rfl)⟩ [] rfl rfl (Nat.le_of_ble_eq_true rfl) rfl (fun _ _ _ => rfl) dX12_draftWish_19 (fun j10 u11 w12 => ?_)
    refine V_ws [(h0, oC 13 [.ref h1, .ref h2, .int 0, .ref h3, .ref h4, .int (nI k5), .int (nI k6), .int p7, .int p8, .int p9, .int (nI k10), .int p11, .long q12, .ref h5, .ref h6, .int (nI k15), .int (nI k16)]), (h1, aI Y 3640 f0), (h2, aZ Y 2 f1), (h3, aZ Y 80 f3), (h4, aB Y 1600 f4), (h5, aI Y 200 f13), (h6, aI Y 800 f14)] rfl ?_
    rcases w12 with ⟨rfl, x15⟩ | ⟨rfl, x13, x14⟩
    ·
      rw [show (0 : Int64).toInt = 0 by decide +kernel] at x15
      refine V_if_ne_f 22 B 29 dX12_draftWish_22 (by decide) (by decide +kernel) ?_
      refine V_iconst 25 B (v := 1) dX12_draftWish_25 (by decide +kernel) ?_
      refine V_goto 26 B 30 dX12_draftWish_26 (by decide) ?_
      refine V_iconst 30 B (v := 1) dX12_draftWish_30 (by decide +kernel) ?_
      refine V_cvi 31 B (st := []) (As := [.int 1, .int 1]) (fun sz => rX12_throwsIf_1 l D Y h0 h1 h2 h3 h4 h5 h6 0 k5 k6 p7 p8 p9 k10 p11 q12 k15 k16 f0 f1 f3 f4 f13 f14 ph HI (by omega) HP 1 sz) glV_RX12_69 ⟨rfl, rfl⟩ ⟨(Nat.le_of_ble_eq_true rfl), (Nat.le_of_ble_eq_true rfl)⟩ ⟨(Nat.le_of_ble_eq_true rfl), (Nat.le_of_ble_eq_true rfl)⟩ [0, 0, 0, 0, 0, 0, 0] rfl 13 0 rfl rfl rfl rfl (Nat.le_of_ble_eq_true rfl) rfl (fun _ _ _ => rfl) dX12_draftWish_31 (fun j16 u17 w18 => ?_)
      refine V_ws [(h0, oC 13 [.ref h1, .ref h2, .int (u17.2.1 0), .ref h3, .ref h4, .int (nI k5), .int (nI k6), .int p7, .int p8, .int p9, .int (nI k10), .int p11, .long q12, .ref h5, .ref h6, .int (nI k15), .int (nI k16)]), (h1, aI Y 3640 f0), (h2, aZ Y 2 f1), (h3, aZ Y 80 f3), (h4, aB Y 1600 f4), (h5, aI Y 200 f13), (h6, aI Y 800 f14)] rfl ?_
      have x19 := w18
      clear w18
      obtain rfl := x19
      refine V_if_eq_f 34 B 39 dX12_draftWish_34 (by decide) (by decide +kernel) ?_
      refine V_iconst 37 B (v := 0) dX12_draftWish_37 (by decide +kernel) ?_
      exact V_iret 38 B dX12_draftWish_38 (mkW [] [(u17.2.1 0)] [] [f0] [] []) HI rfl
    ·
      rw [show (0 : Int64).toInt = 0 by decide +kernel] at x13
      refine V_if_ne_t 22 B 29 dX12_draftWish_22 (by decide) (by decide +kernel) ?_
      refine V_iconst 29 B (v := 0) dX12_draftWish_29 (by decide +kernel) ?_
      refine V_iconst 30 B (v := 1) dX12_draftWish_30 (by decide +kernel) ?_
      refine V_cvi 31 B (st := []) (As := [.int 0, .int 1]) (fun sz => rX12_throwsIf_0 l D Y h0 h1 h2 h3 h4 h5 h6 0 k5 k6 p7 p8 p9 k10 p11 q12 k15 k16 f0 f1 f3 f4 f13 f14 ph HI (by omega) HP 1 sz) glV_RX12_69 ⟨rfl, rfl⟩ ⟨(Nat.le_of_ble_eq_true rfl), (Nat.le_of_ble_eq_true rfl)⟩ ⟨(Nat.le_of_ble_eq_true rfl), (Nat.le_of_ble_eq_true rfl)⟩ [0, 0, 0, 0, 0, 0, 0] rfl 13 0 rfl rfl rfl rfl (Nat.le_of_ble_eq_true rfl) rfl (fun _ _ _ => rfl) dX12_draftWish_31 (fun j20 u21 w22 => ?_)
      refine V_ws [(h0, oC 13 [.ref h1, .ref h2, .int (u21.2.1 0), .ref h3, .ref h4, .int (nI k5), .int (nI k6), .int p7, .int p8, .int p9, .int (nI k10), .int p11, .long q12, .ref h5, .ref h6, .int (nI k15), .int (nI k16)]), (h1, aI Y 3640 f0), (h2, aZ Y 2 f1), (h3, aZ Y 80 f3), (h4, aB Y 1600 f4), (h5, aI Y 200 f13), (h6, aI Y 800 f14)] rfl ?_
      have x23 := w22
      clear w22
      obtain rfl := x23
      refine V_if_eq_t 34 B 39 dX12_draftWish_34 (by decide) (by decide +kernel) ?_
      refine V_aload_n 39 B dX12_draftWish_39 0 rfl ?_
      refine V_iload_n 40 B dX12_draftWish_40 1 rfl ?_
      obtain ⟨n24, x25, rfl⟩ := nat_of (x := s0) (n := 9) (by omega) (by omega)
      have e26 := nI_toInt (show n24 < 2 ^ 31 by omega)
      refine V_csi 41 B (st := [.ref h0]) (As := [.int (nI n24)]) (fun sz => rX12_wishAt l D Y n24 (by omega) sz) glS_RX12_231 ⟨rfl, rfl⟩ ⟨(Nat.le_of_ble_eq_true rfl), (Nat.le_of_ble_eq_true rfl)⟩ ⟨(Nat.le_of_ble_eq_true rfl), (Nat.le_of_ble_eq_true rfl)⟩ [] rfl rfl (Nat.le_of_ble_eq_true rfl) rfl (fun _ _ _ => rfl) dX12_draftWish_41 (fun j27 u28 w29 => ?_)
      refine V_ws [(h0, oC 13 [.ref h1, .ref h2, .int (u21.2.1 0), .ref h3, .ref h4, .int (nI k5), .int (nI k6), .int p7, .int p8, .int p9, .int (nI k10), .int p11, .long q12, .ref h5, .ref h6, .int (nI k15), .int (nI k16)]), (h1, aI Y 3640 f0), (h2, aZ Y 2 f1), (h3, aZ Y 80 f3), (h4, aB Y 1600 f4), (h5, aI Y 200 f13), (h6, aI Y 800 f14)] rfl ?_
      have x30 := w29
      clear w29
      obtain rfl := x30
      refine V_sipush 44 B (v := 3624) dX12_draftWish_44 (by decide +kernel) ?_
      refine V_cvv 47 B (st := []) (As := [.int (nI (856 + 5 * n24)), .int 3624]) (fun sz => rX12_copySequence l D Y h0 h1 h2 h3 h4 h5 h6 (u21.2.1 0) k5 k6 p7 p8 p9 k10 p11 q12 k15 k16 f0 f1 f3 f4 f13 f14 ph HI (by omega) HP (856 + 5 * n24) 3624 (rl24 n24 (by omega)) (show SQ 3624 by unfold SQ; decide +kernel) sz) glV_RX12_88 ⟨rfl, rfl⟩ ⟨(Nat.le_of_ble_eq_true rfl), (Nat.le_of_ble_eq_true rfl)⟩ ⟨(Nat.le_of_ble_eq_true rfl), (Nat.le_of_ble_eq_true rfl)⟩ [0, 0, 0, 0, 0, 0, 0] rfl 13 0 rfl rfl rfl rfl (Nat.le_of_ble_eq_true rfl) rfl (fun _ _ => rfl) dX12_draftWish_47 (fun u32 w33 => ?_)
      refine V_ws [(h0, oC 13 [.ref h1, .ref h2, .int (u21.2.1 0), .ref h3, .ref h4, .int (nI k5), .int (nI k6), .int p7, .int p8, .int p9, .int (nI k10), .int p11, .long q12, .ref h5, .ref h6, .int (nI k15), .int (nI k16)]), (h1, aI Y 3640 (u32.2.2.2.1 0)), (h2, aZ Y 2 f1), (h3, aZ Y 80 f3), (h4, aB Y 1600 f4), (h5, aI Y 200 f13), (h6, aI Y 800 f14)] rfl ?_
      obtain ⟨x34, x35⟩ := w33
      refine V_aload_n 50 B dX12_draftWish_50 0 rfl ?_
      refine V_get 51 B gf_RX12_9 0 rfl rfl dX12_draftWish_51 ?_
      refine V_sipush 54 B (v := 3624) dX12_draftWish_54 (by decide +kernel) ?_
      have x36 : (gN (u32.2.2.2.1 0) 3624) ≤ 4 := gN_le x34 (by omega) (show bd 3624 = (0, ((4 : Nat) : Int)) by decide +kernel)
      refine V_iald 57 B (v := (nI ((gN (u32.2.2.2.1 0) 3624)))) 1 rfl (vpin _ _ (by decide +kernel)) dX12_draftWish_57 (by show (u32.2.2.2.1 0) 3624 = _; exact gN_eq x34 (by omega) (show bd 3624 = (0, ((4 : Nat) : Int)) by decide +kernel)) ?_
      exact V_iret 58 B dX12_draftWish_58 (mkW [] [(u21.2.1 0)] [] [(u32.2.2.2.1 0)] [] []) x34 rfl)
theorem dX12_appendBytes_0 : decode cX12_appendBytes 0 = .ok (.bipush 24, 2) := by decide +kernel
theorem dX12_appendBytes_2 : decode cX12_appendBytes 2 = .ok (.istore_n 2, 1) := by decide +kernel
theorem dX12_appendBytes_3 : decode cX12_appendBytes 3 = .ok (.iload_n 2, 1) := by decide +kernel
theorem dX12_appendBytes_4 : decode cX12_appendBytes 4 = .ok (.ifCond .lt 32, 3) := by decide +kernel
theorem dX12_appendBytes_7 : decode cX12_appendBytes 7 = .ok (.aload_n 0, 1) := by decide +kernel
theorem dX12_appendBytes_8 : decode cX12_appendBytes 8 = .ok (.getfield 20, 3) := by decide +kernel
theorem gf_RX12_20 : GF RX12 20 13 4 := ⟨RX12, TX12, 17, rfl, inw_X12, Nat.le_of_ble_eq_true rfl, (mT7 141 rfl rfl)⟩
theorem dX12_appendBytes_11 : decode cX12_appendBytes 11 = .ok (.aload_n 0, 1) := by decide +kernel
theorem dX12_appendBytes_12 : decode cX12_appendBytes 12 = .ok (.getfield 240, 3) := by decide +kernel
theorem gf_RX12_240 : GF RX12 240 13 5 := ⟨RX12, TX12, 17, rfl, inw_X12, Nat.le_of_ble_eq_true rfl, (mT7 142 rfl rfl)⟩
theorem dX12_appendBytes_15 : decode cX12_appendBytes 15 = .ok (.iload_n 1, 1) := by decide +kernel
theorem dX12_appendBytes_16 : decode cX12_appendBytes 16 = .ok (.iload_n 2, 1) := by decide +kernel
theorem dX12_appendBytes_17 : decode cX12_appendBytes 17 = .ok (.ishr, 1) := by decide +kernel
theorem dX12_appendBytes_18 : decode cX12_appendBytes 18 = .ok (.i2b, 1) := by decide +kernel
theorem dX12_appendBytes_19 : decode cX12_appendBytes 19 = .ok (.bastore, 1) := by decide +kernel
theorem dX12_appendBytes_20 : decode cX12_appendBytes 20 = .ok (.aload_n 0, 1) := by decide +kernel
theorem dX12_appendBytes_21 : decode cX12_appendBytes 21 = .ok (.dup, 1) := by decide +kernel
theorem dX12_appendBytes_22 : decode cX12_appendBytes 22 = .ok (.getfield 240, 3) := by decide +kernel
theorem dX12_appendBytes_25 : decode cX12_appendBytes 25 = .ok (.iconst 1, 1) := by decide +kernel
theorem dX12_appendBytes_26 : decode cX12_appendBytes 26 = .ok (.iadd, 1) := by decide +kernel
theorem dX12_appendBytes_27 : decode cX12_appendBytes 27 = .ok (.putfield 240, 3) := by decide +kernel
theorem gp_RX12_240 : GP RX12 240 13 5 .int false := ⟨RX12, TX12, 17, ⟨rfl, inw_X12, Nat.le_of_ble_eq_true rfl, (mT7 142 rfl rfl)⟩, ⟨tyX12, tyX12_ok⟩, nmX12, rfl, by decide +kernel, fun h => nomatch h⟩
theorem dX12_appendBytes_30 : decode cX12_appendBytes 30 = .ok (.iinc 2 (-8), 3) := by decide +kernel
theorem dX12_appendBytes_33 : decode cX12_appendBytes 33 = .ok (.goto (-30), 3) := by decide +kernel
theorem dX12_appendBytes_36 : decode cX12_appendBytes 36 = .ok (.return_, 1) := by decide +kernel
set_option maxRecDepth 100000 in
set_option maxHeartbeats 4000000 in
theorem rX12_appendBytes (l : Launch) (D : va_G) (Y : Nat → ClassId) (h0 : Nat) (h1 : Nat) (h2 : Nat) (h3 : Nat) (h4 : Nat) (h5 : Nat) (h6 : Nat) (p2 : Int32) (k5 : Nat) (k6 : Nat) (p7 : Int32) (p8 : Int32) (p9 : Int32) (k10 : Nat) (p11 : Int32) (q12 : Int64) (k15 : Nat) (k16 : Nat) (f0 : Nat → Int32) (f1 : Nat → Int32) (f3 : Nat → Int32) (f4 : Nat → Int32) (f13 : Nat → Int32) (f14 : Nat → Int32) (ph : Nat → Int32) (HI : INV ph f0) (HL : k5 ≤ 1600) (HP : PLV f13) (s0 : Int32) (hx0 : k5 + 4 ≤ 1600) (sz : Nat) : Met l yX12_appendBytes (WSm yX12_appendBytes cX12_appendBytes 3 none) (mkR 0 0 0 0) (PreC D Y [.ref h0, .int s0] [(h0, oC 13 [.ref h1, .ref h2, .int p2, .ref h3, .ref h4, .int (nI k5), .int (nI k6), .int p7, .int p8, .int p9, .int (nI k10), .int p11, .long q12, .ref h5, .ref h6, .int (nI k15), .int (nI k16)]), (h1, aI Y 3640 f0), (h2, aZ Y 2 f1), (h3, aZ Y 80 f3), (h4, aB Y 1600 f4), (h5, aI Y 200 f13), (h6, aI Y 800 f14)] sz) (QV D (fun (u : WU) => (u.1 0) ≤ 1600 ∧ (u.1 0) = 4 + k5) (fun (u : WU) => [(h0, oC 13 [.ref h1, .ref h2, .int p2, .ref h3, .ref h4, .int (nI (u.1 0)), .int (nI k6), .int p7, .int p8, .int p9, .int (nI k10), .int p11, .long q12, .ref h5, .ref h6, .int (nI k15), .int (nI k16)]), (h1, aI Y 3640 f0), (h2, aZ Y 2 f1), (h3, aZ Y 80 f3), (h4, aB Y 1600 (u.2.2.2.1 0)), (h5, aI Y 200 f13), (h6, aI Y 800 f14)]) (va_A [(h0, oC 13 [.ref h1, .ref h2, .int p2, .ref h3, .ref h4, .int (nI k5), .int (nI k6), .int p7, .int p8, .int p9, .int (nI k10), .int p11, .long q12, .ref h5, .ref h6, .int (nI k15), .int (nI k16)]), (h1, aI Y 3640 f0), (h2, aZ Y 2 f1), (h3, aZ Y 80 f3), (h4, aB Y 1600 f4), (h5, aI Y 200 f13), (h6, aI Y 800 f14)] sz)) 0 0 (va_A [(h0, oC 13 [.ref h1, .ref h2, .int p2, .ref h3, .ref h4, .int (nI k5), .int (nI k6), .int p7, .int p8, .int p9, .int (nI k10), .int p11, .long q12, .ref h5, .ref h6, .int (nI k15), .int (nI k16)]), (h1, aI Y 3640 f0), (h2, aZ Y 2 f1), (h3, aZ Y 80 f3), (h4, aB Y 1600 f4), (h5, aI Y 200 f13), (h6, aI Y 800 f14)] sz) :=
  met_of  (by decide +kernel) (Nat.le_of_ble_eq_true rfl) (fun p e s m args below meth c B hin hsz => by
    have B : VB p s m args meth c D Y (va_A [(h0, oC 13 [.ref h1, .ref h2, .int p2, .ref h3, .ref h4, .int (nI k5), .int (nI k6), .int p7, .int p8, .int p9, .int (nI k10), .int p11, .long q12, .ref h5, .ref h6, .int (nI k15), .int (nI k16)]), (h1, aI Y 3640 f0), (h2, aZ Y 2 f1), (h3, aZ Y 80 f3), (h4, aB Y 1600 f4), (h5, aI Y 200 f13), (h6, aI Y 800 f14)] sz) cX12_appendBytes 3 RX12 none := B
    refine V_bipush 0 B (v := 24) dX12_appendBytes_0 (by decide +kernel) ?_
    refine V_istore_n 2 B (lv2 := [(2, .int 24), (0, .ref h0), (1, .int s0)]) dX12_appendBytes_2 (by decide) rfl ?_
    refine V_iload_n 3 B dX12_appendBytes_3 0 rfl ?_
    refine V_if_lt_f 4 B 36 dX12_appendBytes_4 (by decide) (by decide +kernel) ?_
    refine V_aload_n 7 B dX12_appendBytes_7 1 rfl ?_
    refine V_get 8 B gf_RX12_20 0 rfl rfl dX12_appendBytes_8 ?_
    refine V_aload_n 11 B dX12_appendBytes_11 1 rfl ?_
    refine V_get 12 B gf_RX12_240 0 rfl rfl dX12_appendBytes_12 ?_
    refine V_iload_n 15 B dX12_appendBytes_15 2 rfl ?_
    refine V_iload_n 16 B dX12_appendBytes_16 0 rfl ?_
    refine V_ishr 17 B dX12_appendBytes_17 rfl ?_
    refine V_nmi (fun j0 _ => ?_)
    refine V_i2b 18 B dX12_appendBytes_18 rfl ?_
    refine V_nmi (fun j1 e2 => ?_)
    refine V_bast 19 B 4 rfl (vp_in_nI (n := k5) (by omega) (by decide)) dX12_appendBytes_19 [(h0, oC 13 [.ref h1, .ref h2, .int p2, .ref h3, .ref h4, .int (nI k5), .int (nI k6), .int p7, .int p8, .int p9, .int (nI k10), .int p11, .long q12, .ref h5, .ref h6, .int (nI k15), .int (nI k16)]), (h1, aI Y 3640 f0), (h2, aZ Y 2 f1), (h3, aZ Y 80 f3), (h4, aB Y 1600 (upd f4 k5 (vp_nar .byte j1))), (h5, aI Y 200 f13), (h6, aI Y 800 f14)] (by rw [nI_clamp (show k5 < 2 ^ 31 by omega)]; rfl) ?_
    refine V_aload_n 20 B dX12_appendBytes_20 1 rfl ?_
    refine V_dup 21 B dX12_appendBytes_21 rfl ?_
    refine V_get 22 B gf_RX12_240 0 rfl rfl dX12_appendBytes_22 ?_
    refine V_iconst 25 B (v := 1) dX12_appendBytes_25 (by decide +kernel) ?_
    refine V_iadd 26 B (v := (nI (1 + k5))) dX12_appendBytes_26 (nI_addE (a := k5) (b := 1) (by omega)) ?_
    refine V_put 27 B gp_RX12_240 0 rfl (Nat.le_of_ble_eq_true rfl) rfl rfl dX12_appendBytes_27 [(h0, oC 13 [.ref h1, .ref h2, .int p2, .ref h3, .ref h4, .int (nI (1 + k5)), .int (nI k6), .int p7, .int p8, .int p9, .int (nI k10), .int p11, .long q12, .ref h5, .ref h6, .int (nI k15), .int (nI k16)]), (h1, aI Y 3640 f0), (h2, aZ Y 2 f1), (h3, aZ Y 80 f3), (h4, aB Y 1600 (upd f4 k5 (vp_nar .byte j1))), (h5, aI Y 200 f13), (h6, aI Y 800 f14)] rfl ?_
    refine V_iinc 30 B (v := 16) (lv2 := [(2, .int 16), (0, .ref h0), (1, .int s0)]) dX12_appendBytes_30 0 rfl (by decide +kernel) (by decide) rfl ?_
    refine V_goto 33 B 3 dX12_appendBytes_33 (by decide) ?_
    refine V_iload_n 3 B dX12_appendBytes_3 0 rfl ?_
    refine V_if_lt_f 4 B 36 dX12_appendBytes_4 (by decide) (by decide +kernel) ?_
    refine V_aload_n 7 B dX12_appendBytes_7 1 rfl ?_
    refine V_get 8 B gf_RX12_20 0 rfl rfl dX12_appendBytes_8 ?_
    refine V_aload_n 11 B dX12_appendBytes_11 1 rfl ?_
    refine V_get 12 B gf_RX12_240 0 rfl rfl dX12_appendBytes_12 ?_
    refine V_iload_n 15 B dX12_appendBytes_15 2 rfl ?_
    refine V_iload_n 16 B dX12_appendBytes_16 0 rfl ?_
    refine V_ishr 17 B dX12_appendBytes_17 rfl ?_
    refine V_nmi (fun j3 _ => ?_)
    refine V_i2b 18 B dX12_appendBytes_18 rfl ?_
    refine V_nmi (fun j4 e5 => ?_)
    refine V_bast 19 B 4 rfl (vp_in_nI (n := 1 + k5) (by omega) (by decide)) dX12_appendBytes_19 [(h0, oC 13 [.ref h1, .ref h2, .int p2, .ref h3, .ref h4, .int (nI (1 + k5)), .int (nI k6), .int p7, .int p8, .int p9, .int (nI k10), .int p11, .long q12, .ref h5, .ref h6, .int (nI k15), .int (nI k16)]), (h1, aI Y 3640 f0), (h2, aZ Y 2 f1), (h3, aZ Y 80 f3), (h4, aB Y 1600 (upd (upd f4 k5 (vp_nar .byte j1)) (1 + k5) (vp_nar .byte j4))), (h5, aI Y 200 f13), (h6, aI Y 800 f14)] (by rw [nI_clamp (show 1 + k5 < 2 ^ 31 by omega)]; rfl) ?_
    refine V_aload_n 20 B dX12_appendBytes_20 1 rfl ?_
    refine V_dup 21 B dX12_appendBytes_21 rfl ?_
    refine V_get 22 B gf_RX12_240 0 rfl rfl dX12_appendBytes_22 ?_
    refine V_iconst 25 B (v := 1) dX12_appendBytes_25 (by decide +kernel) ?_
    refine V_iadd 26 B (v := (nI (2 + k5))) dX12_appendBytes_26 (nI_addE (a := 1 + k5) (b := 1) (by omega)) ?_
    refine V_put 27 B gp_RX12_240 0 rfl (Nat.le_of_ble_eq_true rfl) rfl rfl dX12_appendBytes_27 [(h0, oC 13 [.ref h1, .ref h2, .int p2, .ref h3, .ref h4, .int (nI (2 + k5)), .int (nI k6), .int p7, .int p8, .int p9, .int (nI k10), .int p11, .long q12, .ref h5, .ref h6, .int (nI k15), .int (nI k16)]), (h1, aI Y 3640 f0), (h2, aZ Y 2 f1), (h3, aZ Y 80 f3), (h4, aB Y 1600 (upd (upd f4 k5 (vp_nar .byte j1)) (1 + k5) (vp_nar .byte j4))), (h5, aI Y 200 f13), (h6, aI Y 800 f14)] rfl ?_
    refine V_iinc 30 B (v := 8) (lv2 := [(2, .int 8), (0, .ref h0), (1, .int s0)]) dX12_appendBytes_30 0 rfl (by decide +kernel) (by decide) rfl ?_
    refine V_goto 33 B 3 dX12_appendBytes_33 (by decide) ?_
    refine V_iload_n 3 B dX12_appendBytes_3 0 rfl ?_
    refine V_if_lt_f 4 B 36 dX12_appendBytes_4 (by decide) (by decide +kernel) ?_
    refine V_aload_n 7 B dX12_appendBytes_7 1 rfl ?_
    refine V_get 8 B gf_RX12_20 0 rfl rfl dX12_appendBytes_8 ?_
    refine V_aload_n 11 B dX12_appendBytes_11 1 rfl ?_
    refine V_get 12 B gf_RX12_240 0 rfl rfl dX12_appendBytes_12 ?_
    refine V_iload_n 15 B dX12_appendBytes_15 2 rfl ?_
    refine V_iload_n 16 B dX12_appendBytes_16 0 rfl ?_
    refine V_ishr 17 B dX12_appendBytes_17 rfl ?_
    refine V_nmi (fun j6 _ => ?_)
    refine V_i2b 18 B dX12_appendBytes_18 rfl ?_
    refine V_nmi (fun j7 e8 => ?_)
    refine V_bast 19 B 4 rfl (vp_in_nI (n := 2 + k5) (by omega) (by decide)) dX12_appendBytes_19 [(h0, oC 13 [.ref h1, .ref h2, .int p2, .ref h3, .ref h4, .int (nI (2 + k5)), .int (nI k6), .int p7, .int p8, .int p9, .int (nI k10), .int p11, .long q12, .ref h5, .ref h6, .int (nI k15), .int (nI k16)]), (h1, aI Y 3640 f0), (h2, aZ Y 2 f1), (h3, aZ Y 80 f3), (h4, aB Y 1600 (upd (upd (upd f4 k5 (vp_nar .byte j1)) (1 + k5) (vp_nar .byte j4)) (2 + k5) (vp_nar .byte j7))), (h5, aI Y 200 f13), (h6, aI Y 800 f14)] (by rw [nI_clamp (show 2 + k5 < 2 ^ 31 by omega)]; rfl) ?_
    refine V_aload_n 20 B dX12_appendBytes_20 1 rfl ?_
    refine V_dup 21 B dX12_appendBytes_21 rfl ?_
    refine V_get 22 B gf_RX12_240 0 rfl rfl dX12_appendBytes_22 ?_
    refine V_iconst 25 B (v := 1) dX12_appendBytes_25 (by decide +kernel) ?_
    refine V_iadd 26 B (v := (nI (3 + k5))) dX12_appendBytes_26 (nI_addE (a := 2 + k5) (b := 1) (by omega)) ?_
    refine V_put 27 B gp_RX12_240 0 rfl (Nat.le_of_ble_eq_true rfl) rfl rfl dX12_appendBytes_27 [(h0, oC 13 [.ref h1, .ref h2, .int p2, .ref h3, .ref h4, .int (nI (3 + k5)), .int (nI k6), .int p7, .int p8, .int p9, .int (nI k10), .int p11, .long q12, .ref h5, .ref h6, .int (nI k15), .int (nI k16)]), (h1, aI Y 3640 f0), (h2, aZ Y 2 f1), (h3, aZ Y 80 f3), (h4, aB Y 1600 (upd (upd (upd f4 k5 (vp_nar .byte j1)) (1 + k5) (vp_nar .byte j4)) (2 + k5) (vp_nar .byte j7))), (h5, aI Y 200 f13), (h6, aI Y 800 f14)] rfl ?_
    refine V_iinc 30 B (v := 0) (lv2 := [(2, .int 0), (0, .ref h0), (1, .int s0)]) dX12_appendBytes_30 0 rfl (by decide +kernel) (by decide) rfl ?_
    refine V_goto 33 B 3 dX12_appendBytes_33 (by decide) ?_
    refine V_iload_n 3 B dX12_appendBytes_3 0 rfl ?_
    refine V_if_lt_f 4 B 36 dX12_appendBytes_4 (by decide) (by decide +kernel) ?_
    refine V_aload_n 7 B dX12_appendBytes_7 1 rfl ?_
    refine V_get 8 B gf_RX12_20 0 rfl rfl dX12_appendBytes_8 ?_
    refine V_aload_n 11 B dX12_appendBytes_11 1 rfl ?_
    refine V_get 12 B gf_RX12_240 0 rfl rfl dX12_appendBytes_12 ?_
    refine V_iload_n 15 B dX12_appendBytes_15 2 rfl ?_
    refine V_iload_n 16 B dX12_appendBytes_16 0 rfl ?_
    refine V_ishr 17 B dX12_appendBytes_17 rfl ?_
    refine V_nmi (fun j9 _ => ?_)
    refine V_i2b 18 B dX12_appendBytes_18 rfl ?_
    refine V_nmi (fun j10 e11 => ?_)
    refine V_bast 19 B 4 rfl (vp_in_nI (n := 3 + k5) (by omega) (by decide)) dX12_appendBytes_19 [(h0, oC 13 [.ref h1, .ref h2, .int p2, .ref h3, .ref h4, .int (nI (3 + k5)), .int (nI k6), .int p7, .int p8, .int p9, .int (nI k10), .int p11, .long q12, .ref h5, .ref h6, .int (nI k15), .int (nI k16)]), (h1, aI Y 3640 f0), (h2, aZ Y 2 f1), (h3, aZ Y 80 f3), (h4, aB Y 1600 (upd (upd (upd (upd f4 k5 (vp_nar .byte j1)) (1 + k5) (vp_nar .byte j4)) (2 + k5) (vp_nar .byte j7)) (3 + k5) (vp_nar .byte j10))), (h5, aI Y 200 f13), (h6, aI Y 800 f14)] (by rw [nI_clamp (show 3 + k5 < 2 ^ 31 by omega)]; rfl) ?_
    refine V_aload_n 20 B dX12_appendBytes_20 1 rfl ?_
    refine V_dup 21 B dX12_appendBytes_21 rfl ?_
    refine V_get 22 B gf_RX12_240 0 rfl rfl dX12_appendBytes_22 ?_
    refine V_iconst 25 B (v := 1) dX12_appendBytes_25 (by decide +kernel) ?_
    refine V_iadd 26 B (v := (nI (4 + k5))) dX12_appendBytes_26 (nI_addE (a := 3 + k5) (b := 1) (by omega)) ?_
    refine V_put 27 B gp_RX12_240 0 rfl (Nat.le_of_ble_eq_true rfl) rfl rfl dX12_appendBytes_27 [(h0, oC 13 [.ref h1, .ref h2, .int p2, .ref h3, .ref h4, .int (nI (4 + k5)), .int (nI k6), .int p7, .int p8, .int p9, .int (nI k10), .int p11, .long q12, .ref h5, .ref h6, .int (nI k15), .int (nI k16)]), (h1, aI Y 3640 f0), (h2, aZ Y 2 f1), (h3, aZ Y 80 f3), (h4, aB Y 1600 (upd (upd (upd (upd f4 k5 (vp_nar .byte j1)) (1 + k5) (vp_nar .byte j4)) (2 + k5) (vp_nar .byte j7)) (3 + k5) (vp_nar .byte j10))), (h5, aI Y 200 f13), (h6, aI Y 800 f14)] rfl ?_
    refine V_iinc 30 B (v := (-8)) (lv2 := [(2, .int (-8)), (0, .ref h0), (1, .int s0)]) dX12_appendBytes_30 0 rfl (by decide +kernel) (by decide) rfl ?_
    refine V_goto 33 B 3 dX12_appendBytes_33 (by decide) ?_
    refine V_iload_n 3 B dX12_appendBytes_3 0 rfl ?_
    refine V_if_lt_t 4 B 36 dX12_appendBytes_4 (by decide) (by decide +kernel) ?_
    exact V_vret 36 B dX12_appendBytes_36 (mkW [4 + k5] [] [] [(upd (upd (upd (upd f4 k5 (vp_nar .byte j1)) (1 + k5) (vp_nar .byte j4)) (2 + k5) (vp_nar .byte j7)) (3 + k5) (vp_nar .byte j10))] [] []) ⟨(show 4 + k5 ≤ 1600 by omega), rfl⟩ rfl)
theorem dX12_appendInput_0 : decode cX12_appendInput 0 = .ok (.aload_n 0, 1) := by decide +kernel
theorem dX12_appendInput_1 : decode cX12_appendInput 1 = .ok (.iconst 0, 1) := by decide +kernel
theorem dX12_appendInput_2 : decode cX12_appendInput 2 = .ok (.putfield 38, 3) := by decide +kernel
theorem dX12_appendInput_5 : decode cX12_appendInput 5 = .ok (.aload_n 0, 1) := by decide +kernel
theorem dX12_appendInput_6 : decode cX12_appendInput 6 = .ok (.getfield 240, 3) := by decide +kernel
theorem dX12_appendInput_9 : decode cX12_appendInput 9 = .ok (.bipush 20, 2) := by decide +kernel
theorem dX12_appendInput_11 : decode cX12_appendInput 11 = .ok (.iadd, 1) := by decide +kernel
theorem dX12_appendInput_12 : decode cX12_appendInput 12 = .ok (.sipush 1600, 3) := by decide +kernel
theorem dX12_appendInput_15 : decode cX12_appendInput 15 = .ok (.if_icmp .le 5, 3) := by decide +kernel
theorem dX12_appendInput_20 : decode cX12_appendInput 20 = .ok (.aload_n 0, 1) := by decide +kernel
theorem dX12_appendInput_21 : decode cX12_appendInput 21 = .ok (.iload_n 1, 1) := by decide +kernel
theorem dX12_appendInput_22 : decode cX12_appendInput 22 = .ok (.invokevirtual 243, 3) := by decide +kernel
theorem glV_RX12_243 : GLV RX12 243 yX12_appendBytes RX12 cX12_appendBytes 3 none 1 := ⟨⟨(mT9 173 rfl rfl), (mT9 175 rfl rfl), (mTs 71 rfl rfl), (mT1 13 rfl rfl), (mT9 176 rfl rfl)⟩, by decide +kernel⟩
theorem dX12_appendInput_25 : decode cX12_appendInput 25 = .ok (.aload_n 0, 1) := by decide +kernel
theorem dX12_appendInput_26 : decode cX12_appendInput 26 = .ok (.iload_n 2, 1) := by decide +kernel
theorem dX12_appendInput_27 : decode cX12_appendInput 27 = .ok (.invokevirtual 243, 3) := by decide +kernel
theorem dX12_appendInput_30 : decode cX12_appendInput 30 = .ok (.aload_n 0, 1) := by decide +kernel
theorem dX12_appendInput_31 : decode cX12_appendInput 31 = .ok (.iload_n 3, 1) := by decide +kernel
theorem dX12_appendInput_32 : decode cX12_appendInput 32 = .ok (.invokevirtual 243, 3) := by decide +kernel
theorem dX12_appendInput_35 : decode cX12_appendInput 35 = .ok (.aload_n 0, 1) := by decide +kernel
theorem dX12_appendInput_36 : decode cX12_appendInput 36 = .ok (.iload 4, 2) := by decide +kernel
theorem dX12_appendInput_38 : decode cX12_appendInput 38 = .ok (.invokevirtual 243, 3) := by decide +kernel
theorem dX12_appendInput_41 : decode cX12_appendInput 41 = .ok (.aload_n 0, 1) := by decide +kernel
theorem dX12_appendInput_42 : decode cX12_appendInput 42 = .ok (.iload 5, 2) := by decide +kernel
theorem dX12_appendInput_44 : decode cX12_appendInput 44 = .ok (.invokevirtual 243, 3) := by decide +kernel
theorem dX12_appendInput_47 : decode cX12_appendInput 47 = .ok (.aload_n 0, 1) := by decide +kernel
theorem dX12_appendInput_48 : decode cX12_appendInput 48 = .ok (.getfield 240, 3) := by decide +kernel
theorem dX12_appendInput_51 : decode cX12_appendInput 51 = .ok (.ireturn, 1) := by decide +kernel
theorem dX12_appendInput_18 : decode cX12_appendInput 18 = .ok (.iconst (-1), 1) := by decide +kernel
theorem dX12_appendInput_19 : decode cX12_appendInput 19 = .ok (.ireturn, 1) := by decide +kernel
set_option maxRecDepth 100000 in
set_option maxHeartbeats 4000000 in
theorem rX12_appendInput (l : Launch) (D : va_G) (Y : Nat → ClassId) (h0 : Nat) (h1 : Nat) (h2 : Nat) (h3 : Nat) (h4 : Nat) (h5 : Nat) (h6 : Nat) (p2 : Int32) (k5 : Nat) (k6 : Nat) (p7 : Int32) (p8 : Int32) (p9 : Int32) (k10 : Nat) (p11 : Int32) (q12 : Int64) (k15 : Nat) (k16 : Nat) (f0 : Nat → Int32) (f1 : Nat → Int32) (f3 : Nat → Int32) (f4 : Nat → Int32) (f13 : Nat → Int32) (f14 : Nat → Int32) (ph : Nat → Int32) (HI : INV ph f0) (HL : k5 ≤ 1600) (HP : PLV f13) (s0 : Int32) (s1 : Int32) (s2 : Int32) (s3 : Int32) (s4 : Int32)  (sz : Nat) : Met l yX12_appendInput (WSm yX12_appendInput cX12_appendInput 6 (some .int)) (mkR 1 0 0 22) (PreC D Y [.ref h0, .int s0, .int s1, .int s2, .int s3, .int s4] [(h0, oC 13 [.ref h1, .ref h2, .int p2, .ref h3, .ref h4, .int (nI k5), .int (nI k6), .int p7, .int p8, .int p9, .int (nI k10), .int p11, .long q12, .ref h5, .ref h6, .int (nI k15), .int (nI k16)]), (h1, aI Y 3640 f0), (h2, aZ Y 2 f1), (h3, aZ Y 80 f3), (h4, aB Y 1600 f4), (h5, aI Y 200 f13), (h6, aI Y 800 f14)] sz) (QI D (fun (r : Int32) (u : WU) => (u.1 0) ≤ 1600) (fun (u : WU) => [(h0, oC 13 [.ref h1, .ref h2, .int (u.2.1 0), .ref h3, .ref h4, .int (nI (u.1 0)), .int (nI k6), .int p7, .int p8, .int p9, .int (nI k10), .int p11, .long q12, .ref h5, .ref h6, .int (nI k15), .int (nI k16)]), (h1, aI Y 3640 f0), (h2, aZ Y 2 f1), (h3, aZ Y 80 f3), (h4, aB Y 1600 (u.2.2.2.1 0)), (h5, aI Y 200 f13), (h6, aI Y 800 f14)]) (va_A [(h0, oC 13 [.ref h1, .ref h2, .int p2, .ref h3, .ref h4, .int (nI k5), .int (nI k6), .int p7, .int p8, .int p9, .int (nI k10), .int p11, .long q12, .ref h5, .ref h6, .int (nI k15), .int (nI k16)]), (h1, aI Y 3640 f0), (h2, aZ Y 2 f1), (h3, aZ Y 80 f3), (h4, aB Y 1600 f4), (h5, aI Y 200 f13), (h6, aI Y 800 f14)] sz)) 0 0 (va_A [(h0, oC 13 [.ref h1, .ref h2, .int p2, .ref h3, .ref h4, .int (nI k5), .int (nI k6), .int p7, .int p8, .int p9, .int (nI k10), .int p11, .long q12, .ref h5, .ref h6, .int (nI k15), .int (nI k16)]), (h1, aI Y 3640 f0), (h2, aZ Y 2 f1), (h3, aZ Y 80 f3), (h4, aB Y 1600 f4), (h5, aI Y 200 f13), (h6, aI Y 800 f14)] sz) :=
  met_of  (by decide +kernel) (Nat.le_of_ble_eq_true rfl) (fun p e s m args below meth c B hin hsz => by
    have B : VB p s m args meth c D Y (va_A [(h0, oC 13 [.ref h1, .ref h2, .int p2, .ref h3, .ref h4, .int (nI k5), .int (nI k6), .int p7, .int p8, .int p9, .int (nI k10), .int p11, .long q12, .ref h5, .ref h6, .int (nI k15), .int (nI k16)]), (h1, aI Y 3640 f0), (h2, aZ Y 2 f1), (h3, aZ Y 80 f3), (h4, aB Y 1600 f4), (h5, aI Y 200 f13), (h6, aI Y 800 f14)] sz) cX12_appendInput 6 RX12 (some .int) := B
    refine V_aload_n 0 B dX12_appendInput_0 0 rfl ?_
    refine V_iconst 1 B (v := 0) dX12_appendInput_1 (by decide +kernel) ?_
    refine V_put 2 B gp_RX12_38 0 rfl (Nat.le_of_ble_eq_true rfl) rfl rfl dX12_appendInput_2 [(h0, oC 13 [.ref h1, .ref h2, .int 0, .ref h3, .ref h4, .int (nI k5), .int (nI k6), .int p7, .int p8, .int p9, .int (nI k10), .int p11, .long q12, .ref h5, .ref h6, .int (nI k15), .int (nI k16)]), (h1, aI Y 3640 f0), (h2, aZ Y 2 f1), (h3, aZ Y 80 f3), (h4, aB Y 1600 f4), (h5, aI Y 200 f13), (h6, aI Y 800 f14)] rfl ?_
    refine V_aload_n 5 B dX12_appendInput_5 0 rfl ?_
    refine V_get 6 B gf_RX12_240 0 rfl rfl dX12_appendInput_6 ?_
    refine V_bipush 9 B (v := 20) dX12_appendInput_9 (by decide +kernel) ?_
    refine V_iadd 11 B (v := (nI (20 + k5))) dX12_appendInput_11 (nI_addE (a := k5) (b := 20) (by omega)) ?_
    refine V_sipush 12 B (v := 1600) dX12_appendInput_12 (by decide +kernel) ?_
    refine V_icmp_le 15 B 20 dX12_appendInput_15 (by decide) (fun kk0 => ?_) (fun kk0 => ?_)
    ·
      have x1 := n_le (a := 20 + k5) (b := 1600) kk0 (by omega) (by omega)
      refine V_aload_n 20 B dX12_appendInput_20 0 rfl ?_
      refine V_iload_n 21 B dX12_appendInput_21 1 rfl ?_
      refine V_cvv 22 B (st := []) (As := [.int s0]) (fun sz => rX12_appendBytes l D Y h0 h1 h2 h3 h4 h5 h6 0 k5 k6 p7 p8 p9 k10 p11 q12 k15 k16 f0 f1 f3 f4 f13 f14 ph HI (by omega) HP s0 (by omega) sz) glV_RX12_243 ⟨rfl, rfl⟩ ⟨(Nat.le_of_ble_eq_true rfl), (Nat.le_of_ble_eq_true rfl)⟩ ⟨(Nat.le_of_ble_eq_true rfl), (Nat.le_of_ble_eq_true rfl)⟩ [0, 0, 0, 0, 0, 0, 0] rfl 13 0 rfl rfl rfl rfl (Nat.le_of_ble_eq_true rfl) rfl (fun _ _ => rfl) dX12_appendInput_22 (fun u3 w4 => ?_)
      refine V_ws [(h0, oC 13 [.ref h1, .ref h2, .int 0, .ref h3, .ref h4, .int (nI (u3.1 0)), .int (nI k6), .int p7, .int p8, .int p9, .int (nI k10), .int p11, .long q12, .ref h5, .ref h6, .int (nI k15), .int (nI k16)]), (h1, aI Y 3640 f0), (h2, aZ Y 2 f1), (h3, aZ Y 80 f3), (h4, aB Y 1600 (u3.2.2.2.1 0)), (h5, aI Y 200 f13), (h6, aI Y 800 f14)] rfl ?_
      obtain ⟨x5, x6⟩ := w4
      refine V_aload_n 25 B dX12_appendInput_25 0 rfl ?_
      refine V_iload_n 26 B dX12_appendInput_26 2 rfl ?_
      refine V_cvv 27 B (st := []) (As := [.int s1]) (fun sz => rX12_appendBytes l D Y h0 h1 h2 h3 h4 h5 h6 0 (u3.1 0) k6 p7 p8 p9 k10 p11 q12 k15 k16 f0 f1 f3 (u3.2.2.2.1 0) f13 f14 ph HI (by omega) HP s1 (by omega) sz) glV_RX12_243 ⟨rfl, rfl⟩ ⟨(Nat.le_of_ble_eq_true rfl), (Nat.le_of_ble_eq_true rfl)⟩ ⟨(Nat.le_of_ble_eq_true rfl), (Nat.le_of_ble_eq_true rfl)⟩ [0, 0, 0, 0, 0, 0, 0] rfl 13 0 rfl rfl rfl rfl (Nat.le_of_ble_eq_true rfl) rfl (fun _ _ => rfl) dX12_appendInput_27 (fun u8 w9 => ?_)
      refine V_ws [(h0, oC 13 [.ref h1, .ref h2, .int 0, .ref h3, .ref h4, .int (nI (u8.1 0)), .int (nI k6), .int p7, .int p8, .int p9, .int (nI k10), .int p11, .long q12, .ref h5, .ref h6, .int (nI k15), .int (nI k16)]), (h1, aI Y 3640 f0), (h2, aZ Y 2 f1), (h3, aZ Y 80 f3), (h4, aB Y 1600 (u8.2.2.2.1 0)), (h5, aI Y 200 f13), (h6, aI Y 800 f14)] rfl ?_
      obtain ⟨x10, x11⟩ := w9
      refine V_aload_n 30 B dX12_appendInput_30 0 rfl ?_
      refine V_iload_n 31 B dX12_appendInput_31 3 rfl ?_
      refine V_cvv 32 B (st := []) (As := [.int s2]) (fun sz => rX12_appendBytes l D Y h0 h1 h2 h3 h4 h5 h6 0 (u8.1 0) k6 p7 p8 p9 k10 p11 q12 k15 k16 f0 f1 f3 (u8.2.2.2.1 0) f13 f14 ph HI (by omega) HP s2 (by omega) sz) glV_RX12_243 ⟨rfl, rfl⟩ ⟨(Nat.le_of_ble_eq_true rfl), (Nat.le_of_ble_eq_true rfl)⟩ ⟨(Nat.le_of_ble_eq_true rfl), (Nat.le_of_ble_eq_true rfl)⟩ [0, 0, 0, 0, 0, 0, 0] rfl 13 0 rfl rfl rfl rfl (Nat.le_of_ble_eq_true rfl) rfl (fun _ _ => rfl) dX12_appendInput_32 (fun u13 w14 => ?_)
      refine V_ws [(h0, oC 13 [.ref h1, .ref h2, .int 0, .ref h3, .ref h4, .int (nI (u13.1 0)), .int (nI k6), .int p7, .int p8, .int p9, .int (nI k10), .int p11, .long q12, .ref h5, .ref h6, .int (nI k15), .int (nI k16)]), (h1, aI Y 3640 f0), (h2, aZ Y 2 f1), (h3, aZ Y 80 f3), (h4, aB Y 1600 (u13.2.2.2.1 0)), (h5, aI Y 200 f13), (h6, aI Y 800 f14)] rfl ?_
      obtain ⟨x15, x16⟩ := w14
      refine V_aload_n 35 B dX12_appendInput_35 0 rfl ?_
      refine V_iload 36 B dX12_appendInput_36 4 rfl ?_
      refine V_cvv 38 B (st := []) (As := [.int s3]) (fun sz => rX12_appendBytes l D Y h0 h1 h2 h3 h4 h5 h6 0 (u13.1 0) k6 p7 p8 p9 k10 p11 q12 k15 k16 f0 f1 f3 (u13.2.2.2.1 0) f13 f14 ph HI (by omega) HP s3 (by omega) sz) glV_RX12_243 ⟨rfl, rfl⟩ ⟨(Nat.le_of_ble_eq_true rfl), (Nat.le_of_ble_eq_true rfl)⟩ ⟨(Nat.le_of_ble_eq_true rfl), (Nat.le_of_ble_eq_true rfl)⟩ [0, 0, 0, 0, 0, 0, 0] rfl 13 0 rfl rfl rfl rfl (Nat.le_of_ble_eq_true rfl) rfl (fun _ _ => rfl) dX12_appendInput_38 (fun u18 w19 => ?_)
      refine V_ws [(h0, oC 13 [.ref h1, .ref h2, .int 0, .ref h3, .ref h4, .int (nI (u18.1 0)), .int (nI k6), .int p7, .int p8, .int p9, .int (nI k10), .int p11, .long q12, .ref h5, .ref h6, .int (nI k15), .int (nI k16)]), (h1, aI Y 3640 f0), (h2, aZ Y 2 f1), (h3, aZ Y 80 f3), (h4, aB Y 1600 (u18.2.2.2.1 0)), (h5, aI Y 200 f13), (h6, aI Y 800 f14)] rfl ?_
      obtain ⟨x20, x21⟩ := w19
      refine V_aload_n 41 B dX12_appendInput_41 0 rfl ?_
      refine V_iload 42 B dX12_appendInput_42 5 rfl ?_
      refine V_cvv 44 B (st := []) (As := [.int s4]) (fun sz => rX12_appendBytes l D Y h0 h1 h2 h3 h4 h5 h6 0 (u18.1 0) k6 p7 p8 p9 k10 p11 q12 k15 k16 f0 f1 f3 (u18.2.2.2.1 0) f13 f14 ph HI (by omega) HP s4 (by omega) sz) glV_RX12_243 ⟨rfl, rfl⟩ ⟨(Nat.le_of_ble_eq_true rfl), (Nat.le_of_ble_eq_true rfl)⟩ ⟨(Nat.le_of_ble_eq_true rfl), (Nat.le_of_ble_eq_true rfl)⟩ [0, 0, 0, 0, 0, 0, 0] rfl 13 0 rfl rfl rfl rfl (Nat.le_of_ble_eq_true rfl) rfl (fun _ _ => rfl) dX12_appendInput_44 (fun u23 w24 => ?_)
      refine V_ws [(h0, oC 13 [.ref h1, .ref h2, .int 0, .ref h3, .ref h4, .int (nI (u23.1 0)), .int (nI k6), .int p7, .int p8, .int p9, .int (nI k10), .int p11, .long q12, .ref h5, .ref h6, .int (nI k15), .int (nI k16)]), (h1, aI Y 3640 f0), (h2, aZ Y 2 f1), (h3, aZ Y 80 f3), (h4, aB Y 1600 (u23.2.2.2.1 0)), (h5, aI Y 200 f13), (h6, aI Y 800 f14)] rfl ?_
      obtain ⟨x25, x26⟩ := w24
      refine V_aload_n 47 B dX12_appendInput_47 0 rfl ?_
      refine V_get 48 B gf_RX12_240 0 rfl rfl dX12_appendInput_48 ?_
      exact V_iret 51 B dX12_appendInput_51 (mkW [(u23.1 0)] [0] [] [(u23.2.2.2.1 0)] [] []) (show (u23.1 0) ≤ 1600 by omega) rfl
    ·
      have x27 := n_nle (a := 20 + k5) (b := 1600) kk0 (by omega) (by omega)
      refine V_iconst 18 B (v := (-1)) dX12_appendInput_18 (by decide +kernel) ?_
      exact V_iret 19 B dX12_appendInput_19 (mkW [k5] [0] [] [f4] [] []) (show k5 ≤ 1600 by omega) rfl)
theorem dX12_truncateInput_0 : decode cX12_truncateInput 0 = .ok (.aload_n 0, 1) := by decide +kernel
theorem dX12_truncateInput_1 : decode cX12_truncateInput 1 = .ok (.iconst 0, 1) := by decide +kernel
theorem dX12_truncateInput_2 : decode cX12_truncateInput 2 = .ok (.putfield 38, 3) := by decide +kernel
theorem dX12_truncateInput_5 : decode cX12_truncateInput 5 = .ok (.iload_n 1, 1) := by decide +kernel
theorem dX12_truncateInput_6 : decode cX12_truncateInput 6 = .ok (.i2l, 1) := by decide +kernel
theorem dX12_truncateInput_7 : decode cX12_truncateInput 7 = .ok (.lconst 0, 1) := by decide +kernel
theorem dX12_truncateInput_8 : decode cX12_truncateInput 8 = .ok (.aload_n 0, 1) := by decide +kernel
theorem dX12_truncateInput_9 : decode cX12_truncateInput 9 = .ok (.getfield 240, 3) := by decide +kernel
theorem dX12_truncateInput_12 : decode cX12_truncateInput 12 = .ok (.i2l, 1) := by decide +kernel
theorem dX12_truncateInput_13 : decode cX12_truncateInput 13 = .ok (.invokestatic 41, 3) := by decide +kernel
theorem dX12_truncateInput_16 : decode cX12_truncateInput 16 = .ok (.ifCond .ne 5, 3) := by decide +kernel
theorem dX12_truncateInput_19 : decode cX12_truncateInput 19 = .ok (.iconst (-1), 1) := by decide +kernel
theorem dX12_truncateInput_20 : decode cX12_truncateInput 20 = .ok (.ireturn, 1) := by decide +kernel
theorem dX12_truncateInput_21 : decode cX12_truncateInput 21 = .ok (.aload_n 0, 1) := by decide +kernel
theorem dX12_truncateInput_22 : decode cX12_truncateInput 22 = .ok (.iload_n 1, 1) := by decide +kernel
theorem dX12_truncateInput_23 : decode cX12_truncateInput 23 = .ok (.putfield 240, 3) := by decide +kernel
theorem dX12_truncateInput_26 : decode cX12_truncateInput 26 = .ok (.iload_n 1, 1) := by decide +kernel
theorem dX12_truncateInput_27 : decode cX12_truncateInput 27 = .ok (.ireturn, 1) := by decide +kernel
set_option maxRecDepth 100000 in
set_option maxHeartbeats 4000000 in
theorem rX12_truncateInput (l : Launch) (D : va_G) (Y : Nat → ClassId) (h0 : Nat) (h1 : Nat) (h2 : Nat) (h3 : Nat) (h4 : Nat) (h5 : Nat) (h6 : Nat) (p2 : Int32) (k5 : Nat) (k6 : Nat) (p7 : Int32) (p8 : Int32) (p9 : Int32) (k10 : Nat) (p11 : Int32) (q12 : Int64) (k15 : Nat) (k16 : Nat) (f0 : Nat → Int32) (f1 : Nat → Int32) (f3 : Nat → Int32) (f4 : Nat → Int32) (f13 : Nat → Int32) (f14 : Nat → Int32) (ph : Nat → Int32) (HI : INV ph f0) (HL : k5 ≤ 1600) (HP : PLV f13) (s0 : Int32)  (sz : Nat) : Met l yX12_truncateInput (WSm yX12_truncateInput cX12_truncateInput 2 (some .int)) (mkR 1 0 0 25) (PreC D Y [.ref h0, .int s0] [(h0, oC 13 [.ref h1, .ref h2, .int p2, .ref h3, .ref h4, .int (nI k5), .int (nI k6), .int p7, .int p8, .int p9, .int (nI k10), .int p11, .long q12, .ref h5, .ref h6, .int (nI k15), .int (nI k16)]), (h1, aI Y 3640 f0), (h2, aZ Y 2 f1), (h3, aZ Y 80 f3), (h4, aB Y 1600 f4), (h5, aI Y 200 f13), (h6, aI Y 800 f14)] sz) (QI D (fun (r : Int32) (u : WU) => (u.1 0) ≤ 1600) (fun (u : WU) => [(h0, oC 13 [.ref h1, .ref h2, .int (u.2.1 0), .ref h3, .ref h4, .int (nI (u.1 0)), .int (nI k6), .int p7, .int p8, .int p9, .int (nI k10), .int p11, .long q12, .ref h5, .ref h6, .int (nI k15), .int (nI k16)]), (h1, aI Y 3640 f0), (h2, aZ Y 2 f1), (h3, aZ Y 80 f3), (h4, aB Y 1600 f4), (h5, aI Y 200 f13), (h6, aI Y 800 f14)]) (va_A [(h0, oC 13 [.ref h1, .ref h2, .int p2, .ref h3, .ref h4, .int (nI k5), .int (nI k6), .int p7, .int p8, .int p9, .int (nI k10), .int p11, .long q12, .ref h5, .ref h6, .int (nI k15), .int (nI k16)]), (h1, aI Y 3640 f0), (h2, aZ Y 2 f1), (h3, aZ Y 80 f3), (h4, aB Y 1600 f4), (h5, aI Y 200 f13), (h6, aI Y 800 f14)] sz)) 0 0 (va_A [(h0, oC 13 [.ref h1, .ref h2, .int p2, .ref h3, .ref h4, .int (nI k5), .int (nI k6), .int p7, .int p8, .int p9, .int (nI k10), .int p11, .long q12, .ref h5, .ref h6, .int (nI k15), .int (nI k16)]), (h1, aI Y 3640 f0), (h2, aZ Y 2 f1), (h3, aZ Y 80 f3), (h4, aB Y 1600 f4), (h5, aI Y 200 f13), (h6, aI Y 800 f14)] sz) :=
  met_of  (by decide +kernel) (Nat.le_of_ble_eq_true rfl) (fun p e s m args below meth c B hin hsz => by
    have B : VB p s m args meth c D Y (va_A [(h0, oC 13 [.ref h1, .ref h2, .int p2, .ref h3, .ref h4, .int (nI k5), .int (nI k6), .int p7, .int p8, .int p9, .int (nI k10), .int p11, .long q12, .ref h5, .ref h6, .int (nI k15), .int (nI k16)]), (h1, aI Y 3640 f0), (h2, aZ Y 2 f1), (h3, aZ Y 80 f3), (h4, aB Y 1600 f4), (h5, aI Y 200 f13), (h6, aI Y 800 f14)] sz) cX12_truncateInput 2 RX12 (some .int) := B
    refine V_aload_n 0 B dX12_truncateInput_0 0 rfl ?_
    refine V_iconst 1 B (v := 0) dX12_truncateInput_1 (by decide +kernel) ?_
    refine V_put 2 B gp_RX12_38 0 rfl (Nat.le_of_ble_eq_true rfl) rfl rfl dX12_truncateInput_2 [(h0, oC 13 [.ref h1, .ref h2, .int 0, .ref h3, .ref h4, .int (nI k5), .int (nI k6), .int p7, .int p8, .int p9, .int (nI k10), .int p11, .long q12, .ref h5, .ref h6, .int (nI k15), .int (nI k16)]), (h1, aI Y 3640 f0), (h2, aZ Y 2 f1), (h3, aZ Y 80 f3), (h4, aB Y 1600 f4), (h5, aI Y 200 f13), (h6, aI Y 800 f14)] rfl ?_
    refine V_iload_n 5 B dX12_truncateInput_5 1 rfl ?_
    refine V_i2l 6 B dX12_truncateInput_6 rfl ?_
    refine V_nml (fun o0 e1 => ?_)
    have x2 : o0.toInt = s0.toInt := by rw [e1, Int32.toInt_toInt64]
    refine V_lconst 7 B (v := 0) dX12_truncateInput_7 (by decide +kernel) ?_
    refine V_aload_n 8 B dX12_truncateInput_8 0 rfl ?_
    refine V_get 9 B gf_RX12_240 0 rfl rfl dX12_truncateInput_9 ?_
    refine V_i2l 12 B dX12_truncateInput_12 rfl ?_
    refine V_nml (fun o3 e4 => ?_)
    have x5 : o3.toInt = ((k5 : Nat) : Int) := by rw [e4, Int32.toInt_toInt64]; exact nI_toInt (by omega)
    refine V_csi 13 B (st := []) (As := [.long o0, .long 0, .long o3]) (fun sz => rX12_inRange l D Y o0 0 o3 sz) glS_RX12_41 ⟨rfl, rfl⟩ ⟨(Nat.le_of_ble_eq_true rfl), (Nat.le_of_ble_eq_true rfl)⟩ ⟨(Nat.le_of_ble_eq_true rfl), (Nat.le_of_ble_eq_true rfl)⟩ [] rfl rfl (Nat.le_of_ble_eq_true rfl) rfl (fun _ _ _ => rfl) dX12_truncateInput_13 (fun j6 u7 w8 => ?_)
    refine V_ws [(h0, oC 13 [.ref h1, .ref h2, .int 0, .ref h3, .ref h4, .int (nI k5), .int (nI k6), .int p7, .int p8, .int p9, .int (nI k10), .int p11, .long q12, .ref h5, .ref h6, .int (nI k15), .int (nI k16)]), (h1, aI Y 3640 f0), (h2, aZ Y 2 f1), (h3, aZ Y 80 f3), (h4, aB Y 1600 f4), (h5, aI Y 200 f13), (h6, aI Y 800 f14)] rfl ?_
    rcases w8 with ⟨rfl, x11⟩ | ⟨rfl, x9, x10⟩
    ·
      rw [show (0 : Int64).toInt = 0 by decide +kernel] at x11
      refine V_if_ne_f 16 B 21 dX12_truncateInput_16 (by decide) (by decide +kernel) ?_
      refine V_iconst 19 B (v := (-1)) dX12_truncateInput_19 (by decide +kernel) ?_
      exact V_iret 20 B dX12_truncateInput_20 (mkW [k5] [0] [] [] [] []) (show k5 ≤ 1600 by omega) rfl
    ·
      rw [show (0 : Int64).toInt = 0 by decide +kernel] at x9
      refine V_if_ne_t 16 B 21 dX12_truncateInput_16 (by decide) (by decide +kernel) ?_
      refine V_aload_n 21 B dX12_truncateInput_21 0 rfl ?_
      refine V_iload_n 22 B dX12_truncateInput_22 1 rfl ?_
      obtain ⟨n12, x13, rfl⟩ := nat_of (x := s0) (n := 1600) (by omega) (by omega)
      have e14 := nI_toInt (show n12 < 2 ^ 31 by omega)
      refine V_put 23 B gp_RX12_240 0 rfl (Nat.le_of_ble_eq_true rfl) rfl rfl dX12_truncateInput_23 [(h0, oC 13 [.ref h1, .ref h2, .int 0, .ref h3, .ref h4, .int (nI n12), .int (nI k6), .int p7, .int p8, .int p9, .int (nI k10), .int p11, .long q12, .ref h5, .ref h6, .int (nI k15), .int (nI k16)]), (h1, aI Y 3640 f0), (h2, aZ Y 2 f1), (h3, aZ Y 80 f3), (h4, aB Y 1600 f4), (h5, aI Y 200 f13), (h6, aI Y 800 f14)] rfl ?_
      refine V_iload_n 26 B dX12_truncateInput_26 1 rfl ?_
      exact V_iret 27 B dX12_truncateInput_27 (mkW [n12] [0] [] [] [] []) (show n12 ≤ 1600 by omega) rfl)
theorem dX12_errorCode_0 : decode cX12_errorCode 0 = .ok (.aload_n 0, 1) := by decide +kernel
theorem dX12_errorCode_1 : decode cX12_errorCode 1 = .ok (.iconst 0, 1) := by decide +kernel
theorem dX12_errorCode_2 : decode cX12_errorCode 2 = .ok (.putfield 38, 3) := by decide +kernel
theorem dX12_errorCode_5 : decode cX12_errorCode 5 = .ok (.aload_n 0, 1) := by decide +kernel
theorem dX12_errorCode_6 : decode cX12_errorCode 6 = .ok (.getfield 246, 3) := by decide +kernel
theorem gf_RX12_246 : GF RX12 246 13 7 := ⟨RX12, TX12, 17, rfl, inw_X12, Nat.le_of_ble_eq_true rfl, (mT7 144 rfl rfl)⟩
theorem dX12_errorCode_9 : decode cX12_errorCode 9 = .ok (.ireturn, 1) := by decide +kernel
set_option maxRecDepth 100000 in
set_option maxHeartbeats 4000000 in
theorem rX12_errorCode (l : Launch) (D : va_G) (Y : Nat → ClassId) (h0 : Nat) (h1 : Nat) (h2 : Nat) (h3 : Nat) (h4 : Nat) (h5 : Nat) (h6 : Nat) (p2 : Int32) (k5 : Nat) (k6 : Nat) (p7 : Int32) (p8 : Int32) (p9 : Int32) (k10 : Nat) (p11 : Int32) (q12 : Int64) (k15 : Nat) (k16 : Nat) (f0 : Nat → Int32) (f1 : Nat → Int32) (f3 : Nat → Int32) (f4 : Nat → Int32) (f13 : Nat → Int32) (f14 : Nat → Int32) (ph : Nat → Int32) (HI : INV ph f0) (HL : k5 ≤ 1600) (HP : PLV f13)   (sz : Nat) : Met l yX12_errorCode (WSm yX12_errorCode cX12_errorCode 1 (some .int)) (mkR 0 0 0 0) (PreC D Y [.ref h0] [(h0, oC 13 [.ref h1, .ref h2, .int p2, .ref h3, .ref h4, .int (nI k5), .int (nI k6), .int p7, .int p8, .int p9, .int (nI k10), .int p11, .long q12, .ref h5, .ref h6, .int (nI k15), .int (nI k16)]), (h1, aI Y 3640 f0), (h2, aZ Y 2 f1), (h3, aZ Y 80 f3), (h4, aB Y 1600 f4), (h5, aI Y 200 f13), (h6, aI Y 800 f14)] sz) (QI D (fun (r : Int32) (u : WU) => True) (fun (u : WU) => [(h0, oC 13 [.ref h1, .ref h2, .int (u.2.1 0), .ref h3, .ref h4, .int (nI k5), .int (nI k6), .int p7, .int p8, .int p9, .int (nI k10), .int p11, .long q12, .ref h5, .ref h6, .int (nI k15), .int (nI k16)]), (h1, aI Y 3640 f0), (h2, aZ Y 2 f1), (h3, aZ Y 80 f3), (h4, aB Y 1600 f4), (h5, aI Y 200 f13), (h6, aI Y 800 f14)]) (va_A [(h0, oC 13 [.ref h1, .ref h2, .int p2, .ref h3, .ref h4, .int (nI k5), .int (nI k6), .int p7, .int p8, .int p9, .int (nI k10), .int p11, .long q12, .ref h5, .ref h6, .int (nI k15), .int (nI k16)]), (h1, aI Y 3640 f0), (h2, aZ Y 2 f1), (h3, aZ Y 80 f3), (h4, aB Y 1600 f4), (h5, aI Y 200 f13), (h6, aI Y 800 f14)] sz)) 0 0 (va_A [(h0, oC 13 [.ref h1, .ref h2, .int p2, .ref h3, .ref h4, .int (nI k5), .int (nI k6), .int p7, .int p8, .int p9, .int (nI k10), .int p11, .long q12, .ref h5, .ref h6, .int (nI k15), .int (nI k16)]), (h1, aI Y 3640 f0), (h2, aZ Y 2 f1), (h3, aZ Y 80 f3), (h4, aB Y 1600 f4), (h5, aI Y 200 f13), (h6, aI Y 800 f14)] sz) :=
  met_of  (by decide +kernel) (Nat.le_of_ble_eq_true rfl) (fun p e s m args below meth c B hin hsz => by
    have B : VB p s m args meth c D Y (va_A [(h0, oC 13 [.ref h1, .ref h2, .int p2, .ref h3, .ref h4, .int (nI k5), .int (nI k6), .int p7, .int p8, .int p9, .int (nI k10), .int p11, .long q12, .ref h5, .ref h6, .int (nI k15), .int (nI k16)]), (h1, aI Y 3640 f0), (h2, aZ Y 2 f1), (h3, aZ Y 80 f3), (h4, aB Y 1600 f4), (h5, aI Y 200 f13), (h6, aI Y 800 f14)] sz) cX12_errorCode 1 RX12 (some .int) := B
    refine V_aload_n 0 B dX12_errorCode_0 0 rfl ?_
    refine V_iconst 1 B (v := 0) dX12_errorCode_1 (by decide +kernel) ?_
    refine V_put 2 B gp_RX12_38 0 rfl (Nat.le_of_ble_eq_true rfl) rfl rfl dX12_errorCode_2 [(h0, oC 13 [.ref h1, .ref h2, .int 0, .ref h3, .ref h4, .int (nI k5), .int (nI k6), .int p7, .int p8, .int p9, .int (nI k10), .int p11, .long q12, .ref h5, .ref h6, .int (nI k15), .int (nI k16)]), (h1, aI Y 3640 f0), (h2, aZ Y 2 f1), (h3, aZ Y 80 f3), (h4, aB Y 1600 f4), (h5, aI Y 200 f13), (h6, aI Y 800 f14)] rfl ?_
    refine V_aload_n 5 B dX12_errorCode_5 0 rfl ?_
    refine V_get 6 B gf_RX12_246 0 rfl rfl dX12_errorCode_6 ?_
    exact V_iret 9 B dX12_errorCode_9 (mkW [] [0] [] [] [] []) trivial rfl)
theorem dX12_errorPosition_0 : decode cX12_errorPosition 0 = .ok (.aload_n 0, 1) := by decide +kernel
theorem dX12_errorPosition_1 : decode cX12_errorPosition 1 = .ok (.iconst 0, 1) := by decide +kernel
theorem dX12_errorPosition_2 : decode cX12_errorPosition 2 = .ok (.putfield 38, 3) := by decide +kernel
theorem dX12_errorPosition_5 : decode cX12_errorPosition 5 = .ok (.aload_n 0, 1) := by decide +kernel
theorem dX12_errorPosition_6 : decode cX12_errorPosition 6 = .ok (.getfield 24, 3) := by decide +kernel
theorem gf_RX12_24 : GF RX12 24 13 8 := ⟨RX12, TX12, 17, rfl, inw_X12, Nat.le_of_ble_eq_true rfl, (mT7 145 rfl rfl)⟩
theorem dX12_errorPosition_9 : decode cX12_errorPosition 9 = .ok (.ireturn, 1) := by decide +kernel
set_option maxRecDepth 100000 in
set_option maxHeartbeats 4000000 in
theorem rX12_errorPosition (l : Launch) (D : va_G) (Y : Nat → ClassId) (h0 : Nat) (h1 : Nat) (h2 : Nat) (h3 : Nat) (h4 : Nat) (h5 : Nat) (h6 : Nat) (p2 : Int32) (k5 : Nat) (k6 : Nat) (p7 : Int32) (p8 : Int32) (p9 : Int32) (k10 : Nat) (p11 : Int32) (q12 : Int64) (k15 : Nat) (k16 : Nat) (f0 : Nat → Int32) (f1 : Nat → Int32) (f3 : Nat → Int32) (f4 : Nat → Int32) (f13 : Nat → Int32) (f14 : Nat → Int32) (ph : Nat → Int32) (HI : INV ph f0) (HL : k5 ≤ 1600) (HP : PLV f13)   (sz : Nat) : Met l yX12_errorPosition (WSm yX12_errorPosition cX12_errorPosition 1 (some .int)) (mkR 0 0 0 0) (PreC D Y [.ref h0] [(h0, oC 13 [.ref h1, .ref h2, .int p2, .ref h3, .ref h4, .int (nI k5), .int (nI k6), .int p7, .int p8, .int p9, .int (nI k10), .int p11, .long q12, .ref h5, .ref h6, .int (nI k15), .int (nI k16)]), (h1, aI Y 3640 f0), (h2, aZ Y 2 f1), (h3, aZ Y 80 f3), (h4, aB Y 1600 f4), (h5, aI Y 200 f13), (h6, aI Y 800 f14)] sz) (QI D (fun (r : Int32) (u : WU) => True) (fun (u : WU) => [(h0, oC 13 [.ref h1, .ref h2, .int (u.2.1 0), .ref h3, .ref h4, .int (nI k5), .int (nI k6), .int p7, .int p8, .int p9, .int (nI k10), .int p11, .long q12, .ref h5, .ref h6, .int (nI k15), .int (nI k16)]), (h1, aI Y 3640 f0), (h2, aZ Y 2 f1), (h3, aZ Y 80 f3), (h4, aB Y 1600 f4), (h5, aI Y 200 f13), (h6, aI Y 800 f14)]) (va_A [(h0, oC 13 [.ref h1, .ref h2, .int p2, .ref h3, .ref h4, .int (nI k5), .int (nI k6), .int p7, .int p8, .int p9, .int (nI k10), .int p11, .long q12, .ref h5, .ref h6, .int (nI k15), .int (nI k16)]), (h1, aI Y 3640 f0), (h2, aZ Y 2 f1), (h3, aZ Y 80 f3), (h4, aB Y 1600 f4), (h5, aI Y 200 f13), (h6, aI Y 800 f14)] sz)) 0 0 (va_A [(h0, oC 13 [.ref h1, .ref h2, .int p2, .ref h3, .ref h4, .int (nI k5), .int (nI k6), .int p7, .int p8, .int p9, .int (nI k10), .int p11, .long q12, .ref h5, .ref h6, .int (nI k15), .int (nI k16)]), (h1, aI Y 3640 f0), (h2, aZ Y 2 f1), (h3, aZ Y 80 f3), (h4, aB Y 1600 f4), (h5, aI Y 200 f13), (h6, aI Y 800 f14)] sz) :=
  met_of  (by decide +kernel) (Nat.le_of_ble_eq_true rfl) (fun p e s m args below meth c B hin hsz => by
    have B : VB p s m args meth c D Y (va_A [(h0, oC 13 [.ref h1, .ref h2, .int p2, .ref h3, .ref h4, .int (nI k5), .int (nI k6), .int p7, .int p8, .int p9, .int (nI k10), .int p11, .long q12, .ref h5, .ref h6, .int (nI k15), .int (nI k16)]), (h1, aI Y 3640 f0), (h2, aZ Y 2 f1), (h3, aZ Y 80 f3), (h4, aB Y 1600 f4), (h5, aI Y 200 f13), (h6, aI Y 800 f14)] sz) cX12_errorPosition 1 RX12 (some .int) := B
    refine V_aload_n 0 B dX12_errorPosition_0 0 rfl ?_
    refine V_iconst 1 B (v := 0) dX12_errorPosition_1 (by decide +kernel) ?_
    refine V_put 2 B gp_RX12_38 0 rfl (Nat.le_of_ble_eq_true rfl) rfl rfl dX12_errorPosition_2 [(h0, oC 13 [.ref h1, .ref h2, .int 0, .ref h3, .ref h4, .int (nI k5), .int (nI k6), .int p7, .int p8, .int p9, .int (nI k10), .int p11, .long q12, .ref h5, .ref h6, .int (nI k15), .int (nI k16)]), (h1, aI Y 3640 f0), (h2, aZ Y 2 f1), (h3, aZ Y 80 f3), (h4, aB Y 1600 f4), (h5, aI Y 200 f13), (h6, aI Y 800 f14)] rfl ?_
    refine V_aload_n 5 B dX12_errorPosition_5 0 rfl ?_
    refine V_get 6 B gf_RX12_24 0 rfl rfl dX12_errorPosition_6 ?_
    exact V_iret 9 B dX12_errorPosition_9 (mkW [] [0] [] [] [] []) trivial rfl)
theorem dX12_byteAt_0 : decode cX12_byteAt 0 = .ok (.iload_n 1, 1) := by decide +kernel
theorem dX12_byteAt_1 : decode cX12_byteAt 1 = .ok (.aload_n 0, 1) := by decide +kernel
theorem dX12_byteAt_2 : decode cX12_byteAt 2 = .ok (.getfield 240, 3) := by decide +kernel
theorem dX12_byteAt_5 : decode cX12_byteAt 5 = .ok (.if_icmp .ge 16, 3) := by decide +kernel
theorem dX12_byteAt_21 : decode cX12_byteAt 21 = .ok (.iconst (-1), 1) := by decide +kernel
theorem dX12_byteAt_22 : decode cX12_byteAt 22 = .ok (.ireturn, 1) := by decide +kernel
theorem dX12_byteAt_8 : decode cX12_byteAt 8 = .ok (.aload_n 0, 1) := by decide +kernel
theorem dX12_byteAt_9 : decode cX12_byteAt 9 = .ok (.getfield 20, 3) := by decide +kernel
theorem dX12_byteAt_12 : decode cX12_byteAt 12 = .ok (.iload_n 1, 1) := by decide +kernel
theorem dX12_byteAt_13 : decode cX12_byteAt 13 = .ok (.baload, 1) := by decide +kernel
theorem dX12_byteAt_14 : decode cX12_byteAt 14 = .ok (.sipush 255, 3) := by decide +kernel
theorem dX12_byteAt_17 : decode cX12_byteAt 17 = .ok (.iand, 1) := by decide +kernel
theorem dX12_byteAt_18 : decode cX12_byteAt 18 = .ok (.goto 4, 3) := by decide +kernel
set_option maxRecDepth 100000 in
set_option maxHeartbeats 4000000 in
theorem rX12_byteAt (l : Launch) (D : va_G) (Y : Nat → ClassId) (h0 : Nat) (h1 : Nat) (h2 : Nat) (h3 : Nat) (h4 : Nat) (h5 : Nat) (h6 : Nat) (p2 : Int32) (k5 : Nat) (k6 : Nat) (p7 : Int32) (p8 : Int32) (p9 : Int32) (k10 : Nat) (p11 : Int32) (q12 : Int64) (k15 : Nat) (k16 : Nat) (f0 : Nat → Int32) (f1 : Nat → Int32) (f3 : Nat → Int32) (f4 : Nat → Int32) (f13 : Nat → Int32) (f14 : Nat → Int32) (ph : Nat → Int32) (HI : INV ph f0) (HL : k5 ≤ 1600) (HP : PLV f13) (s0 : Nat) (hn0 : s0 < 5000) (sz : Nat) : Met l yX12_byteAt (WSm yX12_byteAt cX12_byteAt 2 (some .int)) (mkR 0 0 0 0) (PreC D Y [.ref h0, .int (nI s0)] [(h0, oC 13 [.ref h1, .ref h2, .int p2, .ref h3, .ref h4, .int (nI k5), .int (nI k6), .int p7, .int p8, .int p9, .int (nI k10), .int p11, .long q12, .ref h5, .ref h6, .int (nI k15), .int (nI k16)]), (h1, aI Y 3640 f0), (h2, aZ Y 2 f1), (h3, aZ Y 80 f3), (h4, aB Y 1600 f4), (h5, aI Y 200 f13), (h6, aI Y 800 f14)] sz) (QI D (fun (r : Int32) (u : WU) => r = BY f4 k5 s0) (fun (u : WU) => [(h0, oC 13 [.ref h1, .ref h2, .int p2, .ref h3, .ref h4, .int (nI k5), .int (nI k6), .int p7, .int p8, .int p9, .int (nI k10), .int p11, .long q12, .ref h5, .ref h6, .int (nI k15), .int (nI k16)]), (h1, aI Y 3640 f0), (h2, aZ Y 2 f1), (h3, aZ Y 80 f3), (h4, aB Y 1600 f4), (h5, aI Y 200 f13), (h6, aI Y 800 f14)]) (va_A [(h0, oC 13 [.ref h1, .ref h2, .int p2, .ref h3, .ref h4, .int (nI k5), .int (nI k6), .int p7, .int p8, .int p9, .int (nI k10), .int p11, .long q12, .ref h5, .ref h6, .int (nI k15), .int (nI k16)]), (h1, aI Y 3640 f0), (h2, aZ Y 2 f1), (h3, aZ Y 80 f3), (h4, aB Y 1600 f4), (h5, aI Y 200 f13), (h6, aI Y 800 f14)] sz)) 0 0 (va_A [(h0, oC 13 [.ref h1, .ref h2, .int p2, .ref h3, .ref h4, .int (nI k5), .int (nI k6), .int p7, .int p8, .int p9, .int (nI k10), .int p11, .long q12, .ref h5, .ref h6, .int (nI k15), .int (nI k16)]), (h1, aI Y 3640 f0), (h2, aZ Y 2 f1), (h3, aZ Y 80 f3), (h4, aB Y 1600 f4), (h5, aI Y 200 f13), (h6, aI Y 800 f14)] sz) :=
  met_of  (by decide +kernel) (Nat.le_of_ble_eq_true rfl) (fun p e s m args below meth c B hin hsz => by
    have B : VB p s m args meth c D Y (va_A [(h0, oC 13 [.ref h1, .ref h2, .int p2, .ref h3, .ref h4, .int (nI k5), .int (nI k6), .int p7, .int p8, .int p9, .int (nI k10), .int p11, .long q12, .ref h5, .ref h6, .int (nI k15), .int (nI k16)]), (h1, aI Y 3640 f0), (h2, aZ Y 2 f1), (h3, aZ Y 80 f3), (h4, aB Y 1600 f4), (h5, aI Y 200 f13), (h6, aI Y 800 f14)] sz) cX12_byteAt 2 RX12 (some .int) := B
    refine V_iload_n 0 B dX12_byteAt_0 1 rfl ?_
    refine V_aload_n 1 B dX12_byteAt_1 0 rfl ?_
    refine V_get 2 B gf_RX12_240 0 rfl rfl dX12_byteAt_2 ?_
    refine V_icmp_ge 5 B 21 dX12_byteAt_5 (by decide) (fun kk0 => ?_) (fun kk0 => ?_)
    ·
      have x1 := n_le (a := k5) (b := s0) kk0 (by omega) (by omega)
      refine V_iconst 21 B (v := (-1)) dX12_byteAt_21 (by decide +kernel) ?_
      exact V_iret 22 B dX12_byteAt_22 (mkW [] [] [] [] [] []) (by unfold BY; rw [if_neg (by omega)]) rfl
    ·
      have x2 := n_nle (a := k5) (b := s0) kk0 (by omega) (by omega)
      refine V_aload_n 8 B dX12_byteAt_8 0 rfl ?_
      refine V_get 9 B gf_RX12_20 0 rfl rfl dX12_byteAt_9 ?_
      refine V_iload_n 12 B dX12_byteAt_12 1 rfl ?_
      refine V_bald 13 B 4 rfl (vp_in_nI (n := s0) (by omega) (by decide)) dX12_byteAt_13 rfl ?_
      refine V_nmi (fun j3 e4 => ?_)
      refine V_sipush 14 B (v := 255) dX12_byteAt_14 (by decide +kernel) ?_
      refine V_iand 17 B dX12_byteAt_17 rfl ?_
      refine V_nmi (fun j5 e6 => ?_)
      have x7 : 0 ≤ j5.toInt ∧ j5.toInt ≤ 255 := by rw [e6]; exact ⟨and255_lo _, and255_hi _⟩
      refine V_goto 18 B 22 dX12_byteAt_18 (by decide) ?_
      exact V_iret 22 B dX12_byteAt_22 (mkW [] [] [] [] [] []) (by rw [e6, e4, nI_clamp (show s0 < 2 ^ 31 by omega)]; unfold BY; rw [if_pos (by omega)]) rfl)
theorem dX12_isSmall_0 : decode cX12_isSmall 0 = .ok (.iload_n 0, 1) := by decide +kernel
theorem dX12_isSmall_1 : decode cX12_isSmall 1 = .ok (.i2l, 1) := by decide +kernel
theorem dX12_isSmall_2 : decode cX12_isSmall 2 = .ok (.ldc2_w 249, 3) := by decide +kernel
theorem dX12_isSmall_5 : decode cX12_isSmall 5 = .ok (.ldc2_w 251, 3) := by decide +kernel
theorem dX12_isSmall_8 : decode cX12_isSmall 8 = .ok (.invokestatic 41, 3) := by decide +kernel
theorem dX12_isSmall_11 : decode cX12_isSmall 11 = .ok (.ireturn, 1) := by decide +kernel
set_option maxRecDepth 100000 in
set_option maxHeartbeats 4000000 in
theorem rX12_isSmall (l : Launch) (D : va_G) (Y : Nat → ClassId)  (s0 : Int32)  (sz : Nat) : Met l yX12_isSmall (WSm yX12_isSmall cX12_isSmall 1 (some .boolean)) (mkR 1 0 0 25) (PreC D Y [.int s0] [] sz) (QI D (fun (r : Int32) (u : WU) => ((r = 0 ∧ ¬ (97 ≤ s0.toInt ∧ s0.toInt ≤ 122)) ∨ (r = 1 ∧ (97 ≤ s0.toInt ∧ s0.toInt ≤ 122)))) (fun (u : WU) => []) (va_A [] sz)) 0 0 (va_A [] sz) :=
  met_of  (by decide +kernel) (Nat.le_of_ble_eq_true rfl) (fun p e s m args below meth c B hin hsz => by
    have B : VB p s m args meth c D Y (va_A [] sz) cX12_isSmall 1 RX12 (some .boolean) := B
    refine V_iload_n 0 B dX12_isSmall_0 0 rfl ?_
    refine V_i2l 1 B dX12_isSmall_1 rfl ?_
    refine V_nml (fun o0 e1 => ?_)
    have x2 : o0.toInt = s0.toInt := by rw [e1, Int32.toInt_toInt64]
    refine V_ldc2 2 B (v := 97) dX12_isSmall_2 (mT9 211 rfl rfl) ?_
    refine V_ldc2 5 B (v := 122) dX12_isSmall_5 (mT9 212 rfl rfl) ?_
    refine V_csi 8 B (st := []) (As := [.long o0, .long 97, .long 122]) (fun sz => rX12_inRange l D Y o0 97 122 sz) glS_RX12_41 ⟨rfl, rfl⟩ ⟨(Nat.le_of_ble_eq_true rfl), (Nat.le_of_ble_eq_true rfl)⟩ ⟨(Nat.le_of_ble_eq_true rfl), (Nat.le_of_ble_eq_true rfl)⟩ [] rfl rfl (Nat.le_of_ble_eq_true rfl) rfl (fun _ _ _ => rfl) dX12_isSmall_8 (fun j3 u4 w5 => ?_)
    rcases w5 with ⟨rfl, x8⟩ | ⟨rfl, x6, x7⟩
    ·
      rw [show (97 : Int64).toInt = 97 by decide +kernel] at x8
      rw [show (122 : Int64).toInt = 122 by decide +kernel] at x8
      exact V_zret 11 B rfl dX12_isSmall_11 (mkW [] [] [] [] [] []) (Or.inl ⟨rfl, (by omega)⟩) rfl
    ·
      rw [show (97 : Int64).toInt = 97 by decide +kernel] at x6
      rw [show (122 : Int64).toInt = 122 by decide +kernel] at x7
      exact V_zret 11 B rfl dX12_isSmall_11 (mkW [] [] [] [] [] []) (Or.inr ⟨rfl, (by omega)⟩) rfl)
theorem dX12_isLetter_0 : decode cX12_isLetter 0 = .ok (.iload_n 0, 1) := by decide +kernel
theorem dX12_isLetter_1 : decode cX12_isLetter 1 = .ok (.invokestatic 253, 3) := by decide +kernel
theorem glS_RX12_253 : GLS RX12 253 yX12_isSmall cX12_isSmall 1 (some .boolean) 1 := ⟨⟨(mT9 208 rfl rfl), (mT9 209 rfl rfl), (mT1 13 rfl rfl), (mT9 210 rfl rfl)⟩, by decide +kernel⟩
theorem dX12_isLetter_4 : decode cX12_isLetter 4 = .ok (.ifCond .ne 17, 3) := by decide +kernel
theorem dX12_isLetter_7 : decode cX12_isLetter 7 = .ok (.iload_n 0, 1) := by decide +kernel
theorem dX12_isLetter_8 : decode cX12_isLetter 8 = .ok (.i2l, 1) := by decide +kernel
theorem dX12_isLetter_9 : decode cX12_isLetter 9 = .ok (.ldc2_w 256, 3) := by decide +kernel
theorem dX12_isLetter_12 : decode cX12_isLetter 12 = .ok (.ldc2_w 258, 3) := by decide +kernel
theorem dX12_isLetter_15 : decode cX12_isLetter 15 = .ok (.invokestatic 41, 3) := by decide +kernel
theorem dX12_isLetter_18 : decode cX12_isLetter 18 = .ok (.ifCond .eq 7, 3) := by decide +kernel
theorem dX12_isLetter_25 : decode cX12_isLetter 25 = .ok (.iconst 0, 1) := by decide +kernel
theorem dX12_isLetter_26 : decode cX12_isLetter 26 = .ok (.ireturn, 1) := by decide +kernel
theorem dX12_isLetter_21 : decode cX12_isLetter 21 = .ok (.iconst 1, 1) := by decide +kernel
theorem dX12_isLetter_22 : decode cX12_isLetter 22 = .ok (.goto 4, 3) := by decide +kernel
set_option maxRecDepth 100000 in
set_option maxHeartbeats 4000000 in
theorem rX12_isLetter (l : Launch) (D : va_G) (Y : Nat → ClassId)  (s0 : Int32)  (sz : Nat) : Met l yX12_isLetter (WSm yX12_isLetter cX12_isLetter 1 (some .boolean)) (mkR 2 0 0 45) (PreC D Y [.int s0] [] sz) (QI D (fun (r : Int32) (u : WU) => ((r = 0 ∧ ¬ LET s0) ∨ (r = 1 ∧ LET s0))) (fun (u : WU) => []) (va_A [] sz)) 0 0 (va_A [] sz) :=
  met_of  (by decide +kernel) (Nat.le_of_ble_eq_true rfl) (fun p e s m args below meth c B hin hsz => by
    have B : VB p s m args meth c D Y (va_A [] sz) cX12_isLetter 1 RX12 (some .boolean) := B
    refine V_iload_n 0 B dX12_isLetter_0 0 rfl ?_
    refine V_csi 1 B (st := []) (As := [.int s0]) (fun sz => rX12_isSmall l D Y s0 sz) glS_RX12_253 ⟨rfl, rfl⟩ ⟨(Nat.le_of_ble_eq_true rfl), (Nat.le_of_ble_eq_true rfl)⟩ ⟨(Nat.le_of_ble_eq_true rfl), (Nat.le_of_ble_eq_true rfl)⟩ [] rfl rfl (Nat.le_of_ble_eq_true rfl) rfl (fun _ _ _ => rfl) dX12_isLetter_1 (fun j0 u1 w2 => ?_)
    have x3 := w2
    clear w2
    rcases x3 with ⟨rfl, x4⟩ | ⟨rfl, x4⟩
    ·
      refine V_if_ne_f 4 B 21 dX12_isLetter_4 (by decide) (by decide +kernel) ?_
      refine V_iload_n 7 B dX12_isLetter_7 0 rfl ?_
      refine V_i2l 8 B dX12_isLetter_8 rfl ?_
      refine V_nml (fun o5 e6 => ?_)
      have x7 : o5.toInt = s0.toInt := by rw [e6, Int32.toInt_toInt64]
      refine V_ldc2 9 B (v := 65) dX12_isLetter_9 (mT9 213 rfl rfl) ?_
      refine V_ldc2 12 B (v := 90) dX12_isLetter_12 (mT9 214 rfl rfl) ?_
      refine V_csi 15 B (st := []) (As := [.long o5, .long 65, .long 90]) (fun sz => rX12_inRange l D Y o5 65 90 sz) glS_RX12_41 ⟨rfl, rfl⟩ ⟨(Nat.le_of_ble_eq_true rfl), (Nat.le_of_ble_eq_true rfl)⟩ ⟨(Nat.le_of_ble_eq_true rfl), (Nat.le_of_ble_eq_true rfl)⟩ [] rfl rfl (Nat.le_of_ble_eq_true rfl) rfl (fun _ _ _ => rfl) dX12_isLetter_15 (fun j8 u9 w10 => ?_)
      rcases w10 with ⟨rfl, x13⟩ | ⟨rfl, x11, x12⟩
      ·
        rw [show (65 : Int64).toInt = 65 by decide +kernel] at x13
        rw [show (90 : Int64).toInt = 90 by decide +kernel] at x13
        refine V_if_eq_t 18 B 25 dX12_isLetter_18 (by decide) (by decide +kernel) ?_
        refine V_iconst 25 B (v := 0) dX12_isLetter_25 (by decide +kernel) ?_
        exact V_zret 26 B rfl dX12_isLetter_26 (mkW [] [] [] [] [] []) (Or.inl ⟨rfl, (by unfold LET; omega)⟩) rfl
      ·
        rw [show (65 : Int64).toInt = 65 by decide +kernel] at x11
        rw [show (90 : Int64).toInt = 90 by decide +kernel] at x12
        refine V_if_eq_f 18 B 25 dX12_isLetter_18 (by decide) (by decide +kernel) ?_
        refine V_iconst 21 B (v := 1) dX12_isLetter_21 (by decide +kernel) ?_
        refine V_goto 22 B 26 dX12_isLetter_22 (by decide) ?_
        exact V_zret 26 B rfl dX12_isLetter_26 (mkW [] [] [] [] [] []) (Or.inr ⟨rfl, (by unfold LET; omega)⟩) rfl
    ·
      refine V_if_ne_t 4 B 21 dX12_isLetter_4 (by decide) (by decide +kernel) ?_
      refine V_iconst 21 B (v := 1) dX12_isLetter_21 (by decide +kernel) ?_
      refine V_goto 22 B 26 dX12_isLetter_22 (by decide) ?_
      exact V_zret 26 B rfl dX12_isLetter_26 (mkW [] [] [] [] [] []) (Or.inr ⟨rfl, (by unfold LET; omega)⟩) rfl)
theorem dX12_isDigit_0 : decode cX12_isDigit 0 = .ok (.iload_n 0, 1) := by decide +kernel
theorem dX12_isDigit_1 : decode cX12_isDigit 1 = .ok (.i2l, 1) := by decide +kernel
theorem dX12_isDigit_2 : decode cX12_isDigit 2 = .ok (.ldc2_w 260, 3) := by decide +kernel
theorem dX12_isDigit_5 : decode cX12_isDigit 5 = .ok (.ldc2_w 262, 3) := by decide +kernel
theorem dX12_isDigit_8 : decode cX12_isDigit 8 = .ok (.invokestatic 41, 3) := by decide +kernel
theorem dX12_isDigit_11 : decode cX12_isDigit 11 = .ok (.ireturn, 1) := by decide +kernel
set_option maxRecDepth 100000 in
set_option maxHeartbeats 4000000 in
theorem rX12_isDigit (l : Launch) (D : va_G) (Y : Nat → ClassId)  (s0 : Int32)  (sz : Nat) : Met l yX12_isDigit (WSm yX12_isDigit cX12_isDigit 1 (some .boolean)) (mkR 1 0 0 25) (PreC D Y [.int s0] [] sz) (QI D (fun (r : Int32) (u : WU) => ((r = 0 ∧ ¬ DIG s0) ∨ (r = 1 ∧ DIG s0))) (fun (u : WU) => []) (va_A [] sz)) 0 0 (va_A [] sz) :=
  met_of  (by decide +kernel) (Nat.le_of_ble_eq_true rfl) (fun p e s m args below meth c B hin hsz => by
    have B : VB p s m args meth c D Y (va_A [] sz) cX12_isDigit 1 RX12 (some .boolean) := B
    refine V_iload_n 0 B dX12_isDigit_0 0 rfl ?_
    refine V_i2l 1 B dX12_isDigit_1 rfl ?_
    refine V_nml (fun o0 e1 => ?_)
    have x2 : o0.toInt = s0.toInt := by rw [e1, Int32.toInt_toInt64]
    refine V_ldc2 2 B (v := 48) dX12_isDigit_2 (mT9 218 rfl rfl) ?_
    refine V_ldc2 5 B (v := 57) dX12_isDigit_5 (mT9 219 rfl rfl) ?_
    refine V_csi 8 B (st := []) (As := [.long o0, .long 48, .long 57]) (fun sz => rX12_inRange l D Y o0 48 57 sz) glS_RX12_41 ⟨rfl, rfl⟩ ⟨(Nat.le_of_ble_eq_true rfl), (Nat.le_of_ble_eq_true rfl)⟩ ⟨(Nat.le_of_ble_eq_true rfl), (Nat.le_of_ble_eq_true rfl)⟩ [] rfl rfl (Nat.le_of_ble_eq_true rfl) rfl (fun _ _ _ => rfl) dX12_isDigit_8 (fun j3 u4 w5 => ?_)
    rcases w5 with ⟨rfl, x8⟩ | ⟨rfl, x6, x7⟩
    ·
      rw [show (48 : Int64).toInt = 48 by decide +kernel] at x8
      rw [show (57 : Int64).toInt = 57 by decide +kernel] at x8
      exact V_zret 11 B rfl dX12_isDigit_11 (mkW [] [] [] [] [] []) (Or.inl ⟨rfl, (by unfold DIG; omega)⟩) rfl
    ·
      rw [show (48 : Int64).toInt = 48 by decide +kernel] at x6
      rw [show (57 : Int64).toInt = 57 by decide +kernel] at x7
      exact V_zret 11 B rfl dX12_isDigit_11 (mkW [] [] [] [] [] []) (Or.inr ⟨rfl, (by unfold DIG; omega)⟩) rfl)
theorem dX12_advance_0 : decode cX12_advance 0 = .ok (.aload_n 0, 1) := by decide +kernel
theorem dX12_advance_1 : decode cX12_advance 1 = .ok (.aload_n 0, 1) := by decide +kernel
theorem dX12_advance_2 : decode cX12_advance 2 = .ok (.getfield 264, 3) := by decide +kernel
theorem gf_RX12_264 : GF RX12 264 13 6 := ⟨RX12, TX12, 17, rfl, inw_X12, Nat.le_of_ble_eq_true rfl, (mT7 143 rfl rfl)⟩
theorem dX12_advance_5 : decode cX12_advance 5 = .ok (.invokevirtual 267, 3) := by decide +kernel
theorem glV_RX12_267 : GLV RX12 267 yX12_byteAt RX12 cX12_byteAt 2 (some .int) 1 := ⟨⟨(mT9 201 rfl rfl), (mT9 203 rfl rfl), (mTs 74 rfl rfl), (mT1 13 rfl rfl), (mT9 204 rfl rfl)⟩, by decide +kernel⟩
theorem dX12_advance_8 : decode cX12_advance 8 = .ok (.bipush 32, 2) := by decide +kernel
theorem dX12_advance_10 : decode cX12_advance 10 = .ok (.if_icmp .eq 16, 3) := by decide +kernel
theorem dX12_advance_26 : decode cX12_advance 26 = .ok (.aload_n 0, 1) := by decide +kernel
theorem dX12_advance_27 : decode cX12_advance 27 = .ok (.dup, 1) := by decide +kernel
theorem dX12_advance_28 : decode cX12_advance 28 = .ok (.getfield 264, 3) := by decide +kernel
theorem dX12_advance_31 : decode cX12_advance 31 = .ok (.iconst 1, 1) := by decide +kernel
theorem dX12_advance_32 : decode cX12_advance 32 = .ok (.iadd, 1) := by decide +kernel
theorem dX12_advance_33 : decode cX12_advance 33 = .ok (.putfield 264, 3) := by decide +kernel
theorem gp_RX12_264 : GP RX12 264 13 6 .int false := ⟨RX12, TX12, 17, ⟨rfl, inw_X12, Nat.le_of_ble_eq_true rfl, (mT7 143 rfl rfl)⟩, ⟨tyX12, tyX12_ok⟩, nmX12, rfl, by decide +kernel, fun h => nomatch h⟩
theorem dX12_advance_36 : decode cX12_advance 36 = .ok (.goto (-36), 3) := by decide +kernel
theorem dX12_advance_13 : decode cX12_advance 13 = .ok (.aload_n 0, 1) := by decide +kernel
theorem dX12_advance_14 : decode cX12_advance 14 = .ok (.aload_n 0, 1) := by decide +kernel
theorem dX12_advance_15 : decode cX12_advance 15 = .ok (.getfield 264, 3) := by decide +kernel
theorem dX12_advance_18 : decode cX12_advance 18 = .ok (.invokevirtual 267, 3) := by decide +kernel
theorem dX12_advance_21 : decode cX12_advance 21 = .ok (.bipush 10, 2) := by decide +kernel
theorem dX12_advance_23 : decode cX12_advance 23 = .ok (.if_icmp .ne 16, 3) := by decide +kernel
theorem dX12_advance_39 : decode cX12_advance 39 = .ok (.aload_n 0, 1) := by decide +kernel
theorem dX12_advance_40 : decode cX12_advance 40 = .ok (.aload_n 0, 1) := by decide +kernel
theorem dX12_advance_41 : decode cX12_advance 41 = .ok (.getfield 264, 3) := by decide +kernel
theorem dX12_advance_44 : decode cX12_advance 44 = .ok (.putfield 270, 3) := by decide +kernel
theorem gp_RX12_270 : GP RX12 270 13 10 .int false := ⟨RX12, TX12, 17, ⟨rfl, inw_X12, Nat.le_of_ble_eq_true rfl, (mT7 147 rfl rfl)⟩, ⟨tyX12, tyX12_ok⟩, nmX12, rfl, by decide +kernel, fun h => nomatch h⟩
theorem dX12_advance_47 : decode cX12_advance 47 = .ok (.aload_n 0, 1) := by decide +kernel
theorem dX12_advance_48 : decode cX12_advance 48 = .ok (.lconst 0, 1) := by decide +kernel
theorem dX12_advance_49 : decode cX12_advance 49 = .ok (.putfield 273, 3) := by decide +kernel
theorem gp_RX12_273 : GP RX12 273 13 12 .long false := ⟨RX12, TX12, 17, ⟨rfl, inw_X12, Nat.le_of_ble_eq_true rfl, (mT7 149 rfl rfl)⟩, ⟨tyX12, tyX12_ok⟩, nmX12, rfl, by decide +kernel, fun h => nomatch h⟩
theorem dX12_advance_52 : decode cX12_advance 52 = .ok (.aload_n 0, 1) := by decide +kernel
theorem dX12_advance_53 : decode cX12_advance 53 = .ok (.aload_n 0, 1) := by decide +kernel
theorem dX12_advance_54 : decode cX12_advance 54 = .ok (.getfield 270, 3) := by decide +kernel
theorem gf_RX12_270 : GF RX12 270 13 10 := ⟨RX12, TX12, 17, rfl, inw_X12, Nat.le_of_ble_eq_true rfl, (mT7 147 rfl rfl)⟩
theorem dX12_advance_57 : decode cX12_advance 57 = .ok (.invokevirtual 267, 3) := by decide +kernel
theorem dX12_advance_60 : decode cX12_advance 60 = .ok (.istore_n 1, 1) := by decide +kernel
theorem dX12_advance_61 : decode cX12_advance 61 = .ok (.aload_n 0, 1) := by decide +kernel
theorem dX12_advance_62 : decode cX12_advance 62 = .ok (.iload_n 1, 1) := by decide +kernel
theorem dX12_advance_63 : decode cX12_advance 63 = .ok (.iconst (-1), 1) := by decide +kernel
theorem dX12_advance_64 : decode cX12_advance 64 = .ok (.if_icmp .ne 7, 3) := by decide +kernel
theorem dX12_advance_71 : decode cX12_advance 71 = .ok (.iload_n 1, 1) := by decide +kernel
theorem dX12_advance_72 : decode cX12_advance 72 = .ok (.invokestatic 277, 3) := by decide +kernel
theorem glS_RX12_277 : GLS RX12 277 yX12_isLetter cX12_isLetter 1 (some .boolean) 1 := ⟨⟨(mT9 205 rfl rfl), (mT9 206 rfl rfl), (mT1 13 rfl rfl), (mT9 207 rfl rfl)⟩, by decide +kernel⟩
theorem dX12_advance_75 : decode cX12_advance 75 = .ok (.ifCond .eq 7, 3) := by decide +kernel
theorem dX12_advance_82 : decode cX12_advance 82 = .ok (.iload_n 1, 1) := by decide +kernel
theorem dX12_advance_83 : decode cX12_advance 83 = .ok (.invokestatic 280, 3) := by decide +kernel
theorem glS_RX12_280 : GLS RX12 280 yX12_isDigit cX12_isDigit 1 (some .boolean) 1 := ⟨⟨(mT9 215 rfl rfl), (mT9 216 rfl rfl), (mT1 13 rfl rfl), (mT9 217 rfl rfl)⟩, by decide +kernel⟩
theorem dX12_advance_86 : decode cX12_advance 86 = .ok (.ifCond .eq 7, 3) := by decide +kernel
theorem dX12_advance_93 : decode cX12_advance 93 = .ok (.iload_n 1, 1) := by decide +kernel
theorem dX12_advance_94 : decode cX12_advance 94 = .ok (.bipush 59, 2) := by decide +kernel
theorem dX12_advance_96 : decode cX12_advance 96 = .ok (.if_icmp .ne 7, 3) := by decide +kernel
theorem dX12_advance_103 : decode cX12_advance 103 = .ok (.iconst 4, 1) := by decide +kernel
theorem dX12_advance_104 : decode cX12_advance 104 = .ok (.putfield 283, 3) := by decide +kernel
theorem gp_RX12_283 : GP RX12 283 13 9 .int false := ⟨RX12, TX12, 17, ⟨rfl, inw_X12, Nat.le_of_ble_eq_true rfl, (mT7 146 rfl rfl)⟩, ⟨tyX12, tyX12_ok⟩, nmX12, rfl, by decide +kernel, fun h => nomatch h⟩
theorem dX12_advance_107 : decode cX12_advance 107 = .ok (.aload_n 0, 1) := by decide +kernel
theorem dX12_advance_108 : decode cX12_advance 108 = .ok (.getfield 283, 3) := by decide +kernel
theorem gf_RX12_283 : GF RX12 283 13 9 := ⟨RX12, TX12, 17, rfl, inw_X12, Nat.le_of_ble_eq_true rfl, (mT7 146 rfl rfl)⟩
theorem dX12_advance_111 : decode cX12_advance 111 = .ok (.iconst 2, 1) := by decide +kernel
theorem dX12_advance_112 : decode cX12_advance 112 = .ok (.if_icmp .le 13, 3) := by decide +kernel
theorem dX12_advance_115 : decode cX12_advance 115 = .ok (.aload_n 0, 1) := by decide +kernel
theorem dX12_advance_116 : decode cX12_advance 116 = .ok (.dup, 1) := by decide +kernel
theorem dX12_advance_117 : decode cX12_advance 117 = .ok (.getfield 264, 3) := by decide +kernel
theorem dX12_advance_120 : decode cX12_advance 120 = .ok (.iconst 1, 1) := by decide +kernel
theorem dX12_advance_121 : decode cX12_advance 121 = .ok (.iadd, 1) := by decide +kernel
theorem dX12_advance_122 : decode cX12_advance 122 = .ok (.putfield 264, 3) := by decide +kernel
theorem dX12_advance_125 : decode cX12_advance 125 = .ok (.aload_n 0, 1) := by decide +kernel
theorem dX12_advance_126 : decode cX12_advance 126 = .ok (.getfield 283, 3) := by decide +kernel
theorem dX12_advance_129 : decode cX12_advance 129 = .ok (.iconst 1, 1) := by decide +kernel
theorem dX12_advance_130 : decode cX12_advance 130 = .ok (.if_icmp .ne 65, 3) := by decide +kernel
theorem dX12_advance_195 : decode cX12_advance 195 = .ok (.aload_n 0, 1) := by decide +kernel
theorem dX12_advance_196 : decode cX12_advance 196 = .ok (.getfield 283, 3) := by decide +kernel
theorem dX12_advance_199 : decode cX12_advance 199 = .ok (.iconst 2, 1) := by decide +kernel
theorem dX12_advance_200 : decode cX12_advance 200 = .ok (.if_icmp .ne 69, 3) := by decide +kernel
theorem dX12_advance_269 : decode cX12_advance 269 = .ok (.aload_n 0, 1) := by decide +kernel
theorem dX12_advance_270 : decode cX12_advance 270 = .ok (.getfield 283, 3) := by decide +kernel
theorem dX12_advance_273 : decode cX12_advance 273 = .ok (.iconst 1, 1) := by decide +kernel
theorem dX12_advance_274 : decode cX12_advance 274 = .ok (.if_icmp .ne 17, 3) := by decide +kernel
theorem dX12_advance_291 : decode cX12_advance 291 = .ok (.aload_n 0, 1) := by decide +kernel
theorem dX12_advance_292 : decode cX12_advance 292 = .ok (.getfield 283, 3) := by decide +kernel
theorem dX12_advance_295 : decode cX12_advance 295 = .ok (.iconst 2, 1) := by decide +kernel
theorem dX12_advance_296 : decode cX12_advance 296 = .ok (.if_icmp .ne 21, 3) := by decide +kernel
theorem dX12_advance_317 : decode cX12_advance 317 = .ok (.return_, 1) := by decide +kernel
theorem dX12_advance_99 : decode cX12_advance 99 = .ok (.iconst 3, 1) := by decide +kernel
theorem dX12_advance_100 : decode cX12_advance 100 = .ok (.goto 4, 3) := by decide +kernel
theorem dX12_advance_89 : decode cX12_advance 89 = .ok (.iconst 2, 1) := by decide +kernel
theorem dX12_advance_90 : decode cX12_advance 90 = .ok (.goto 14, 3) := by decide +kernel
theorem dX12_advance_203 : decode cX12_advance 203 = .ok (.aload_n 0, 1) := by decide +kernel
theorem dX12_advance_204 : decode cX12_advance 204 = .ok (.aload_n 0, 1) := by decide +kernel
theorem dX12_advance_205 : decode cX12_advance 205 = .ok (.getfield 264, 3) := by decide +kernel
theorem dX12_advance_208 : decode cX12_advance 208 = .ok (.invokevirtual 267, 3) := by decide +kernel
theorem dX12_advance_211 : decode cX12_advance 211 = .ok (.invokestatic 280, 3) := by decide +kernel
theorem dX12_advance_214 : decode cX12_advance 214 = .ok (.ifCond .eq 55, 3) := by decide +kernel
theorem dX12_advance_299 : decode cX12_advance 299 = .ok (.aload_n 0, 1) := by decide +kernel
theorem dX12_advance_300 : decode cX12_advance 300 = .ok (.getfield 264, 3) := by decide +kernel
theorem dX12_advance_303 : decode cX12_advance 303 = .ok (.aload_n 0, 1) := by decide +kernel
theorem dX12_advance_304 : decode cX12_advance 304 = .ok (.getfield 270, 3) := by decide +kernel
theorem dX12_advance_307 : decode cX12_advance 307 = .ok (.isub, 1) := by decide +kernel
theorem dX12_advance_308 : decode cX12_advance 308 = .ok (.iconst 3, 1) := by decide +kernel
theorem dX12_advance_309 : decode cX12_advance 309 = .ok (.if_icmp .le 8, 3) := by decide +kernel
theorem dX12_advance_312 : decode cX12_advance 312 = .ok (.aload_n 0, 1) := by decide +kernel
theorem dX12_advance_313 : decode cX12_advance 313 = .ok (.iconst 4, 1) := by decide +kernel
theorem dX12_advance_314 : decode cX12_advance 314 = .ok (.putfield 283, 3) := by decide +kernel
theorem dX12_advance_217 : decode cX12_advance 217 = .ok (.aload_n 0, 1) := by decide +kernel
theorem dX12_advance_218 : decode cX12_advance 218 = .ok (.getfield 264, 3) := by decide +kernel
theorem dX12_advance_221 : decode cX12_advance 221 = .ok (.aload_n 0, 1) := by decide +kernel
theorem dX12_advance_222 : decode cX12_advance 222 = .ok (.getfield 270, 3) := by decide +kernel
theorem dX12_advance_225 : decode cX12_advance 225 = .ok (.isub, 1) := by decide +kernel
theorem dX12_advance_226 : decode cX12_advance 226 = .ok (.iconst 3, 1) := by decide +kernel
theorem dX12_advance_227 : decode cX12_advance 227 = .ok (.if_icmp .ge 29, 3) := by decide +kernel
theorem dX12_advance_256 : decode cX12_advance 256 = .ok (.aload_n 0, 1) := by decide +kernel
theorem dX12_advance_257 : decode cX12_advance 257 = .ok (.dup, 1) := by decide +kernel
theorem dX12_advance_258 : decode cX12_advance 258 = .ok (.getfield 264, 3) := by decide +kernel
theorem dX12_advance_261 : decode cX12_advance 261 = .ok (.iconst 1, 1) := by decide +kernel
theorem dX12_advance_262 : decode cX12_advance 262 = .ok (.iadd, 1) := by decide +kernel
theorem dX12_advance_263 : decode cX12_advance 263 = .ok (.putfield 264, 3) := by decide +kernel
theorem dX12_advance_266 : decode cX12_advance 266 = .ok (.goto (-71), 3) := by decide +kernel
theorem dX12_advance_230 : decode cX12_advance 230 = .ok (.aload_n 0, 1) := by decide +kernel
theorem dX12_advance_231 : decode cX12_advance 231 = .ok (.aload_n 0, 1) := by decide +kernel
theorem dX12_advance_232 : decode cX12_advance 232 = .ok (.getfield 273, 3) := by decide +kernel
theorem gf_RX12_273 : GF RX12 273 13 12 := ⟨RX12, TX12, 17, rfl, inw_X12, Nat.le_of_ble_eq_true rfl, (mT7 149 rfl rfl)⟩
theorem dX12_advance_235 : decode cX12_advance 235 = .ok (.ldc2_w 286, 3) := by decide +kernel
theorem dX12_advance_238 : decode cX12_advance 238 = .ok (.lmul, 1) := by decide +kernel
theorem dX12_advance_239 : decode cX12_advance 239 = .ok (.aload_n 0, 1) := by decide +kernel
theorem dX12_advance_240 : decode cX12_advance 240 = .ok (.aload_n 0, 1) := by decide +kernel
theorem dX12_advance_241 : decode cX12_advance 241 = .ok (.getfield 264, 3) := by decide +kernel
theorem dX12_advance_244 : decode cX12_advance 244 = .ok (.invokevirtual 267, 3) := by decide +kernel
theorem dX12_advance_247 : decode cX12_advance 247 = .ok (.i2l, 1) := by decide +kernel
theorem dX12_advance_248 : decode cX12_advance 248 = .ok (.ladd, 1) := by decide +kernel
theorem dX12_advance_249 : decode cX12_advance 249 = .ok (.ldc2_w 260, 3) := by decide +kernel
theorem dX12_advance_252 : decode cX12_advance 252 = .ok (.lsub, 1) := by decide +kernel
theorem dX12_advance_253 : decode cX12_advance 253 = .ok (.putfield 273, 3) := by decide +kernel
theorem dX12_advance_78 : decode cX12_advance 78 = .ok (.iconst 1, 1) := by decide +kernel
theorem dX12_advance_79 : decode cX12_advance 79 = .ok (.goto 25, 3) := by decide +kernel
theorem dX12_advance_133 : decode cX12_advance 133 = .ok (.aload_n 0, 1) := by decide +kernel
theorem dX12_advance_134 : decode cX12_advance 134 = .ok (.aload_n 0, 1) := by decide +kernel
