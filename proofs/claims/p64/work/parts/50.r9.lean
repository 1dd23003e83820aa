theorem dX12_tick_0 : decode cX12_tick 0 = .ok (.aload_n 0, 1) := by decide +kernel
theorem dX12_tick_1 : decode cX12_tick 1 = .ok (.iconst 0, 1) := by decide +kernel
theorem dX12_tick_2 : decode cX12_tick 2 = .ok (.putfield 38, 3) := by decide +kernel
theorem dX12_tick_5 : decode cX12_tick 5 = .ok (.aload_n 0, 1) := by decide +kernel
theorem dX12_tick_6 : decode cX12_tick 6 = .ok (.iload_n 1, 1) := by decide +kernel
theorem dX12_tick_7 : decode cX12_tick 7 = .ok (.i2l, 1) := by decide +kernel
theorem dX12_tick_8 : decode cX12_tick 8 = .ok (.lconst 1, 1) := by decide +kernel
theorem dX12_tick_9 : decode cX12_tick 9 = .ok (.ldc2_w 224, 3) := by decide +kernel
theorem dX12_tick_12 : decode cX12_tick 12 = .ok (.invokestatic 41, 3) := by decide +kernel
theorem dX12_tick_15 : decode cX12_tick 15 = .ok (.ifCond .ne 7, 3) := by decide +kernel
theorem dX12_tick_18 : decode cX12_tick 18 = .ok (.iconst 1, 1) := by decide +kernel
theorem dX12_tick_19 : decode cX12_tick 19 = .ok (.goto 4, 3) := by decide +kernel
theorem dX12_tick_23 : decode cX12_tick 23 = .ok (.iconst 1, 1) := by decide +kernel
theorem dX12_tick_24 : decode cX12_tick 24 = .ok (.invokevirtual 69, 3) := by decide +kernel
theorem dX12_tick_27 : decode cX12_tick 27 = .ok (.ifCond .eq 5, 3) := by decide +kernel
theorem dX12_tick_30 : decode cX12_tick 30 = .ok (.iconst 0, 1) := by decide +kernel
theorem dX12_tick_31 : decode cX12_tick 31 = .ok (.ireturn, 1) := by decide +kernel
theorem dX12_tick_22 : decode cX12_tick 22 = .ok (.iconst 0, 1) := by decide +kernel
theorem dX12_tick_32 : decode cX12_tick 32 = .ok (.aload_n 0, 1) := by decide +kernel
theorem dX12_tick_33 : decode cX12_tick 33 = .ok (.getfield 9, 3) := by decide +kernel
theorem dX12_tick_36 : decode cX12_tick 36 = .ok (.bipush 9, 2) := by decide +kernel
theorem dX12_tick_38 : decode cX12_tick 38 = .ok (.iaload, 1) := by decide +kernel
theorem dX12_tick_39 : decode cX12_tick 39 = .ok (.iload_n 1, 1) := by decide +kernel
theorem dX12_tick_40 : decode cX12_tick 40 = .ok (.iadd, 1) := by decide +kernel
theorem dX12_tick_41 : decode cX12_tick 41 = .ok (.ldc 184, 2) := by decide +kernel
theorem dX12_tick_43 : decode cX12_tick 43 = .ok (.if_icmp .le 6, 3) := by decide +kernel
theorem dX12_tick_49 : decode cX12_tick 49 = .ok (.aload_n 0, 1) := by decide +kernel
theorem dX12_tick_50 : decode cX12_tick 50 = .ok (.getfield 9, 3) := by decide +kernel
theorem dX12_tick_53 : decode cX12_tick 53 = .ok (.bipush 9, 2) := by decide +kernel
theorem dX12_tick_55 : decode cX12_tick 55 = .ok (.dup2, 1) := by decide +kernel
theorem dX12_tick_56 : decode cX12_tick 56 = .ok (.iaload, 1) := by decide +kernel
theorem dX12_tick_57 : decode cX12_tick 57 = .ok (.iload_n 1, 1) := by decide +kernel
theorem dX12_tick_58 : decode cX12_tick 58 = .ok (.iadd, 1) := by decide +kernel
theorem dX12_tick_59 : decode cX12_tick 59 = .ok (.iastore, 1) := by decide +kernel
theorem dX12_tick_60 : decode cX12_tick 60 = .ok (.aload_n 0, 1) := by decide +kernel
theorem dX12_tick_61 : decode cX12_tick 61 = .ok (.invokevirtual 226, 3) := by decide +kernel
theorem glV_RX12_226 : GLV RX12 226 yX12_dropLate RX12 cX12_dropLate 1 none 0 := ⟨⟨(mT9 122 rfl rfl), (mT9 124 rfl rfl), (mTs 69 rfl rfl), (mT1 13 rfl rfl), (mT9 125 rfl rfl)⟩, by decide +kernel⟩
theorem dX12_tick_64 : decode cX12_tick 64 = .ok (.aload_n 0, 1) := by decide +kernel
theorem dX12_tick_65 : decode cX12_tick 65 = .ok (.getfield 9, 3) := by decide +kernel
theorem dX12_tick_68 : decode cX12_tick 68 = .ok (.bipush 9, 2) := by decide +kernel
theorem dX12_tick_70 : decode cX12_tick 70 = .ok (.iaload, 1) := by decide +kernel
theorem dX12_tick_71 : decode cX12_tick 71 = .ok (.ireturn, 1) := by decide +kernel
theorem dX12_tick_46 : decode cX12_tick 46 = .ok (.bipush (-2), 2) := by decide +kernel
theorem dX12_tick_48 : decode cX12_tick 48 = .ok (.ireturn, 1) := by decide +kernel
set_option maxRecDepth 100000 in
set_option maxHeartbeats 4000000 in
theorem rX12_tick (l : Launch) (D : va_G) (Y : Nat → ClassId) (h0 : Nat) (h1 : Nat) (h2 : Nat) (h3 : Nat) (h4 : Nat) (h5 : Nat) (h6 : Nat) (p2 : Int32) (k5 : Nat) (k6 : Nat) (p7 : Int32) (p8 : Int32) (p9 : Int32) (k10 : Nat) (p11 : Int32) (q12 : Int64) (k15 : Nat) (k16 : Nat) (f0 : Nat → Int32) (f1 : Nat → Int32) (f3 : Nat → Int32) (f4 : Nat → Int32) (f13 : Nat → Int32) (f14 : Nat → Int32) (HI : INV f0) (HL : k5 ≤ 1600) (HP : PLV f13) (s0 : Int32)  (sz : Nat) : Met l yX12_tick (WSm yX12_tick cX12_tick 2 (some .int)) (mkR 1 0 0 25) (PreC D Y [.ref h0, .int s0] [(h0, oC 13 [.ref h1, .ref h2, .int p2, .ref h3, .ref h4, .int (nI k5), .int (nI k6), .int p7, .int p8, .int p9, .int (nI k10), .int p11, .long q12, .ref h5, .ref h6, .int (nI k15), .int (nI k16)]), (h1, aI Y 3640 f0), (h2, aZ Y 2 f1), (h3, aZ Y 80 f3), (h4, aB Y 1600 f4), (h5, aI Y 200 f13), (h6, aI Y 800 f14)] sz) (QI D (fun (r : Int32) (u : WU) => INV (u.2.2.2.1 0)) (fun (u : WU) => [(h0, oC 13 [.ref h1, .ref h2, .int (u.2.1 0), .ref h3, .ref h4, .int (nI k5), .int (nI k6), .int p7, .int p8, .int p9, .int (nI k10), .int p11, .long q12, .ref h5, .ref h6, .int (nI k15), .int (nI k16)]), (h1, aI Y 3640 (u.2.2.2.1 0)), (h2, aZ Y 2 f1), (h3, aZ Y 80 f3), (h4, aB Y 1600 f4), (h5, aI Y 200 f13), (h6, aI Y 800 f14)]) (va_A [(h0, oC 13 [.ref h1, .ref h2, .int p2, .ref h3, .ref h4, .int (nI k5), .int (nI k6), .int p7, .int p8, .int p9, .int (nI k10), .int p11, .long q12, .ref h5, .ref h6, .int (nI k15), .int (nI k16)]), (h1, aI Y 3640 f0), (h2, aZ Y 2 f1), (h3, aZ Y 80 f3), (h4, aB Y 1600 f4), (h5, aI Y 200 f13), (h6, aI Y 800 f14)] sz)) 0 0 (va_A [(h0, oC 13 [.ref h1, .ref h2, .int p2, .ref h3, .ref h4, .int (nI k5), .int (nI k6), .int p7, .int p8, .int p9, .int (nI k10), .int p11, .long q12, .ref h5, .ref h6, .int (nI k15), .int (nI k16)]), (h1, aI Y 3640 f0), (h2, aZ Y 2 f1), (h3, aZ Y 80 f3), (h4, aB Y 1600 f4), (h5, aI Y 200 f13), (h6, aI Y 800 f14)] sz) :=
  met_of (by decide +kernel) (Nat.le_of_ble_eq_true rfl) (fun p e s m args below meth c B hin hsz => by
    have B : VB p s m args meth c D Y (va_A [(h0, oC 13 [.ref h1, .ref h2, .int p2, .ref h3, .ref h4, .int (nI k5), .int (nI k6), .int p7, .int p8, .int p9, .int (nI k10), .int p11, .long q12, .ref h5, .ref h6, .int (nI k15), .int (nI k16)]), (h1, aI Y 3640 f0), (h2, aZ Y 2 f1), (h3, aZ Y 80 f3), (h4, aB Y 1600 f4), (h5, aI Y 200 f13), (h6, aI Y 800 f14)] sz) cX12_tick 2 RX12 (some .int) := B
    refine V_aload_n 0 B dX12_tick_0 0 rfl ?_
    refine V_iconst 1 B (v := 0) dX12_tick_1 (by decide +kernel) ?_
    refine V_put 2 B gp_RX12_38 0 rfl (Nat.le_of_ble_eq_true rfl) rfl rfl dX12_tick_2 [(h0, oC 13 [.ref h1, .ref h2, .int 0, .ref h3, .ref h4, .int (nI k5), .int (nI k6), .int p7, .int p8, .int p9, .int (nI k10), .int p11, .long q12, .ref h5, .ref h6, .int (nI k15), .int (nI k16)]), (h1, aI Y 3640 f0), (h2, aZ Y 2 f1), (h3, aZ Y 80 f3), (h4, aB Y 1600 f4), (h5, aI Y 200 f13), (h6, aI Y 800 f14)] rfl ?_
    refine V_aload_n 5 B dX12_tick_5 0 rfl ?_
    refine V_iload_n 6 B dX12_tick_6 1 rfl ?_
    refine V_i2l 7 B dX12_tick_7 rfl ?_
    refine V_nml (fun o0 e1 => ?_)
    have x2 : o0.toInt = s0.toInt := by rw [e1, Int32.toInt_toInt64]
    refine V_lconst 8 B (v := 1) dX12_tick_8 (by decide +kernel) ?_
    refine V_ldc2 9 B (v := 1000) dX12_tick_9 (mT9 121 rfl rfl) ?_
    refine V_csi 12 B (st := [.ref h0]) (As := [.long o0, .long 1, .long 1000]) (fun sz => rX12_inRange l D Y o0 1 1000 sz) glS_RX12_41 ⟨rfl, rfl⟩ ⟨(Nat.le_of_ble_eq_true rfl), (Nat.le_of_ble_eq_true rfl)⟩ ⟨(Nat.le_of_ble_eq_true rfl), (Nat.le_of_ble_eq_true rfl)⟩ [] rfl rfl (Nat.le_of_ble_eq_true rfl) rfl (fun _ _ _ => rfl) dX12_tick_12 (fun j3 u4 w5 => ?_)
    refine V_ws [(h0, oC 13 [.ref h1, .ref h2, .int 0, .ref h3, .ref h4, .int (nI k5), .int (nI k6), .int p7, .int p8, .int p9, .int (nI k10), .int p11, .long q12, .ref h5, .ref h6, .int (nI k15), .int (nI k16)]), (h1, aI Y 3640 f0), (h2, aZ Y 2 f1), (h3, aZ Y 80 f3), (h4, aB Y 1600 f4), (h5, aI Y 200 f13), (h6, aI Y 800 f14)] rfl ?_
    rcases w5 with rfl | ⟨rfl, x6, x7⟩
    ·
      refine V_if_ne_f 15 B 22 dX12_tick_15 (by decide) (by decide +kernel) ?_
      refine V_iconst 18 B (v := 1) dX12_tick_18 (by decide +kernel) ?_
      refine V_goto 19 B 23 dX12_tick_19 (by decide) ?_
      refine V_iconst 23 B (v := 1) dX12_tick_23 (by decide +kernel) ?_
      refine V_cvi 24 B (st := []) (As := [.int 1, .int 1]) (fun sz => rX12_throwsIf_1 l D Y h0 h1 h2 h3 h4 h5 h6 0 k5 k6 p7 p8 p9 k10 p11 q12 k15 k16 f0 f1 f3 f4 f13 f14 HI (by omega) HP 1 sz) glV_RX12_69 ⟨rfl, rfl⟩ ⟨(Nat.le_of_ble_eq_true rfl), (Nat.le_of_ble_eq_true rfl)⟩ ⟨(Nat.le_of_ble_eq_true rfl), (Nat.le_of_ble_eq_true rfl)⟩ [0, 0, 0, 0, 0, 0, 0] rfl 13 0 rfl rfl rfl rfl (Nat.le_of_ble_eq_true rfl) rfl (fun _ _ _ => rfl) dX12_tick_24 (fun j8 u9 w10 => ?_)
      refine V_ws [(h0, oC 13 [.ref h1, .ref h2, .int (u9.2.1 0), .ref h3, .ref h4, .int (nI k5), .int (nI k6), .int p7, .int p8, .int p9, .int (nI k10), .int p11, .long q12, .ref h5, .ref h6, .int (nI k15), .int (nI k16)]), (h1, aI Y 3640 f0), (h2, aZ Y 2 f1), (h3, aZ Y 80 f3), (h4, aB Y 1600 f4), (h5, aI Y 200 f13), (h6, aI Y 800 f14)] rfl ?_
      have x11 := w10
      obtain rfl := x11
      refine V_if_eq_f 27 B 32 dX12_tick_27 (by decide) (by decide +kernel) ?_
      refine V_iconst 30 B (v := 0) dX12_tick_30 (by decide +kernel) ?_
      exact V_iret 31 B dX12_tick_31 (mkW [] [(u9.2.1 0)] [] [f0] [] []) HI rfl
    ·
      rw [show (1 : Int64).toInt = 1 by decide +kernel] at x6
      rw [show (1000 : Int64).toInt = 1000 by decide +kernel] at x7
      refine V_if_ne_t 15 B 22 dX12_tick_15 (by decide) (by decide +kernel) ?_
      refine V_iconst 22 B (v := 0) dX12_tick_22 (by decide +kernel) ?_
      refine V_iconst 23 B (v := 1) dX12_tick_23 (by decide +kernel) ?_
      refine V_cvi 24 B (st := []) (As := [.int 0, .int 1]) (fun sz => rX12_throwsIf_0 l D Y h0 h1 h2 h3 h4 h5 h6 0 k5 k6 p7 p8 p9 k10 p11 q12 k15 k16 f0 f1 f3 f4 f13 f14 HI (by omega) HP 1 sz) glV_RX12_69 ⟨rfl, rfl⟩ ⟨(Nat.le_of_ble_eq_true rfl), (Nat.le_of_ble_eq_true rfl)⟩ ⟨(Nat.le_of_ble_eq_true rfl), (Nat.le_of_ble_eq_true rfl)⟩ [0, 0, 0, 0, 0, 0, 0] rfl 13 0 rfl rfl rfl rfl (Nat.le_of_ble_eq_true rfl) rfl (fun _ _ _ => rfl) dX12_tick_24 (fun j12 u13 w14 => ?_)
      refine V_ws [(h0, oC 13 [.ref h1, .ref h2, .int (u13.2.1 0), .ref h3, .ref h4, .int (nI k5), .int (nI k6), .int p7, .int p8, .int p9, .int (nI k10), .int p11, .long q12, .ref h5, .ref h6, .int (nI k15), .int (nI k16)]), (h1, aI Y 3640 f0), (h2, aZ Y 2 f1), (h3, aZ Y 80 f3), (h4, aB Y 1600 f4), (h5, aI Y 200 f13), (h6, aI Y 800 f14)] rfl ?_
      have x15 := w14
      obtain rfl := x15
      refine V_if_eq_t 27 B 32 dX12_tick_27 (by decide) (by decide +kernel) ?_
      refine V_aload_n 32 B dX12_tick_32 0 rfl ?_
      refine V_get 33 B gf_RX12_9 0 rfl rfl dX12_tick_33 ?_
      refine V_bipush 36 B (v := 9) dX12_tick_36 (by decide +kernel) ?_
      refine V_iald 38 B (v := f0 (9)) 1 rfl (vpin _ _ (by decide +kernel)) dX12_tick_38 (by rfl) ?_
      refine V_nmi (fun j16 e17 => ?_)
      refine V_iload_n 39 B dX12_tick_39 1 rfl ?_
      refine V_iadd 40 B dX12_tick_40 rfl ?_
      refine V_nmi (fun j18 e19 => ?_)
      refine V_ldc 41 B (v := 1000000) dX12_tick_41 (mT9 25 rfl rfl) ?_
      refine V_icmp_le 43 B 49 dX12_tick_43 (by decide) (fun kk20 => ?_) (fun kk20 => ?_)
      ·
        have x21 := x_le kk20
        rw [show (1000000 : Int32).toInt = 1000000 by decide +kernel] at x21
        refine V_aload_n 49 B dX12_tick_49 0 rfl ?_
        refine V_get 50 B gf_RX12_9 0 rfl rfl dX12_tick_50 ?_
        refine V_bipush 53 B (v := 9) dX12_tick_53 (by decide +kernel) ?_
        refine V_dup2_11 55 B dX12_tick_55 rfl rfl ?_
        refine V_iald 56 B (v := f0 (9)) 1 rfl (vpin _ _ (by decide +kernel)) dX12_tick_56 (by rfl) ?_
        refine V_nmi (fun j22 e23 => ?_)
        refine V_iload_n 57 B dX12_tick_57 1 rfl ?_
        refine V_iadd 58 B dX12_tick_58 rfl ?_
        refine V_nmi (fun j24 e25 => ?_)
        have hv26 : INV (upd f0 9 j24) := INV_free HI (show bd 9 = FREE by decide +kernel)
        refine V_iast 59 B 1 rfl (vpin _ _ (by decide +kernel)) dX12_tick_59 [(h0, oC 13 [.ref h1, .ref h2, .int (u13.2.1 0), .ref h3, .ref h4, .int (nI k5), .int (nI k6), .int p7, .int p8, .int p9, .int (nI k10), .int p11, .long q12, .ref h5, .ref h6, .int (nI k15), .int (nI k16)]), (h1, aI Y 3640 (upd f0 9 j24)), (h2, aZ Y 2 f1), (h3, aZ Y 80 f3), (h4, aB Y 1600 f4), (h5, aI Y 200 f13), (h6, aI Y 800 f14)] rfl ?_
        refine V_aload_n 60 B dX12_tick_60 0 rfl ?_
        refine V_cvv 61 B (st := []) (As := []) (fun sz => rX12_dropLate l D Y h0 h1 h2 h3 h4 h5 h6 (u13.2.1 0) k5 k6 p7 p8 p9 k10 p11 q12 k15 k16 (upd f0 9 j24) f1 f3 f4 f13 f14 hv26 (by omega) HP sz) glV_RX12_226 ⟨rfl, rfl⟩ ⟨(Nat.le_of_ble_eq_true rfl), (Nat.le_of_ble_eq_true rfl)⟩ ⟨(Nat.le_of_ble_eq_true rfl), (Nat.le_of_ble_eq_true rfl)⟩ [0, 0, 0, 0, 0, 0, 0] rfl 13 0 rfl rfl rfl rfl (Nat.le_of_ble_eq_true rfl) rfl (fun _ _ => rfl) dX12_tick_61 (fun u28 w29 => ?_)
        refine V_ws [(h0, oC 13 [.ref h1, .ref h2, .int (u13.2.1 0), .ref h3, .ref h4, .int (nI k5), .int (nI k6), .int p7, .int p8, .int p9, .int (nI k10), .int p11, .long q12, .ref h5, .ref h6, .int (nI k15), .int (nI k16)]), (h1, aI Y 3640 (u28.2.2.2.1 0)), (h2, aZ Y 2 f1), (h3, aZ Y 80 f3), (h4, aB Y 1600 f4), (h5, aI Y 200 f13), (h6, aI Y 800 f14)] rfl ?_
        have x30 := w29
        refine V_aload_n 64 B dX12_tick_64 0 rfl ?_
        refine V_get 65 B gf_RX12_9 0 rfl rfl dX12_tick_65 ?_
        refine V_bipush 68 B (v := 9) dX12_tick_68 (by decide +kernel) ?_
        refine V_iald 70 B (v := (u28.2.2.2.1 0) (9)) 1 rfl (vpin _ _ (by decide +kernel)) dX12_tick_70 (by rfl) ?_
        refine V_nmi (fun j31 e32 => ?_)
        exact V_iret 71 B dX12_tick_71 (mkW [] [(u13.2.1 0)] [] [(u28.2.2.2.1 0)] [] []) x30 rfl
      ·
        have x33 := x_nle kk20
        rw [show (1000000 : Int32).toInt = 1000000 by decide +kernel] at x33
        refine V_bipush 46 B (v := (-2)) dX12_tick_46 (by decide +kernel) ?_
        exact V_iret 48 B dX12_tick_48 (mkW [] [(u13.2.1 0)] [] [f0] [] []) HI rfl)
theorem dX12_typing_0 : decode cX12_typing 0 = .ok (.aload_n 0, 1) := by decide +kernel
theorem dX12_typing_1 : decode cX12_typing 1 = .ok (.iconst 0, 1) := by decide +kernel
theorem dX12_typing_2 : decode cX12_typing 2 = .ok (.putfield 38, 3) := by decide +kernel
theorem dX12_typing_5 : decode cX12_typing 5 = .ok (.iload_n 1, 1) := by decide +kernel
theorem dX12_typing_6 : decode cX12_typing 6 = .ok (.tableswitch 82 0 4 #[34, 42, 50, 58, 66], 34) := by decide +kernel
theorem dX12_typing_40 : decode cX12_typing 40 = .ok (.aload_n 0, 1) := by decide +kernel
theorem dX12_typing_41 : decode cX12_typing 41 = .ok (.getfield 9, 3) := by decide +kernel
theorem dX12_typing_44 : decode cX12_typing 44 = .ok (.bipush 6, 2) := by decide +kernel
theorem dX12_typing_46 : decode cX12_typing 46 = .ok (.iaload, 1) := by decide +kernel
theorem dX12_typing_47 : decode cX12_typing 47 = .ok (.ireturn, 1) := by decide +kernel
theorem dX12_typing_48 : decode cX12_typing 48 = .ok (.aload_n 0, 1) := by decide +kernel
theorem dX12_typing_49 : decode cX12_typing 49 = .ok (.getfield 9, 3) := by decide +kernel
theorem dX12_typing_52 : decode cX12_typing 52 = .ok (.bipush 11, 2) := by decide +kernel
theorem dX12_typing_54 : decode cX12_typing 54 = .ok (.iaload, 1) := by decide +kernel
theorem dX12_typing_55 : decode cX12_typing 55 = .ok (.ireturn, 1) := by decide +kernel
theorem dX12_typing_56 : decode cX12_typing 56 = .ok (.aload_n 0, 1) := by decide +kernel
theorem dX12_typing_57 : decode cX12_typing 57 = .ok (.getfield 9, 3) := by decide +kernel
theorem dX12_typing_60 : decode cX12_typing 60 = .ok (.bipush 12, 2) := by decide +kernel
theorem dX12_typing_62 : decode cX12_typing 62 = .ok (.iaload, 1) := by decide +kernel
theorem dX12_typing_63 : decode cX12_typing 63 = .ok (.ireturn, 1) := by decide +kernel
theorem dX12_typing_64 : decode cX12_typing 64 = .ok (.aload_n 0, 1) := by decide +kernel
theorem dX12_typing_65 : decode cX12_typing 65 = .ok (.getfield 9, 3) := by decide +kernel
theorem dX12_typing_68 : decode cX12_typing 68 = .ok (.bipush 13, 2) := by decide +kernel
theorem dX12_typing_70 : decode cX12_typing 70 = .ok (.iaload, 1) := by decide +kernel
theorem dX12_typing_71 : decode cX12_typing 71 = .ok (.ireturn, 1) := by decide +kernel
theorem dX12_typing_72 : decode cX12_typing 72 = .ok (.aload_n 0, 1) := by decide +kernel
theorem dX12_typing_73 : decode cX12_typing 73 = .ok (.getfield 9, 3) := by decide +kernel
theorem dX12_typing_76 : decode cX12_typing 76 = .ok (.bipush 9, 2) := by decide +kernel
theorem dX12_typing_78 : decode cX12_typing 78 = .ok (.iaload, 1) := by decide +kernel
theorem dX12_typing_79 : decode cX12_typing 79 = .ok (.aload_n 0, 1) := by decide +kernel
theorem dX12_typing_80 : decode cX12_typing 80 = .ok (.getfield 9, 3) := by decide +kernel
theorem dX12_typing_83 : decode cX12_typing 83 = .ok (.bipush 10, 2) := by decide +kernel
theorem dX12_typing_85 : decode cX12_typing 85 = .ok (.iaload, 1) := by decide +kernel
theorem dX12_typing_86 : decode cX12_typing 86 = .ok (.isub, 1) := by decide +kernel
theorem dX12_typing_87 : decode cX12_typing 87 = .ok (.ireturn, 1) := by decide +kernel
theorem dX12_typing_88 : decode cX12_typing 88 = .ok (.iconst (-1), 1) := by decide +kernel
theorem dX12_typing_89 : decode cX12_typing 89 = .ok (.ireturn, 1) := by decide +kernel
set_option maxRecDepth 100000 in
set_option maxHeartbeats 4000000 in
theorem rX12_typing (l : Launch) (D : va_G) (Y : Nat → ClassId) (h0 : Nat) (h1 : Nat) (h2 : Nat) (h3 : Nat) (h4 : Nat) (h5 : Nat) (h6 : Nat) (p2 : Int32) (k5 : Nat) (k6 : Nat) (p7 : Int32) (p8 : Int32) (p9 : Int32) (k10 : Nat) (p11 : Int32) (q12 : Int64) (k15 : Nat) (k16 : Nat) (f0 : Nat → Int32) (f1 : Nat → Int32) (f3 : Nat → Int32) (f4 : Nat → Int32) (f13 : Nat → Int32) (f14 : Nat → Int32) (HI : INV f0) (HL : k5 ≤ 1600) (HP : PLV f13) (s0 : Int32)  (sz : Nat) : Met l yX12_typing (WSm yX12_typing cX12_typing 2 (some .int)) (mkR 0 0 0 0) (PreC D Y [.ref h0, .int s0] [(h0, oC 13 [.ref h1, .ref h2, .int p2, .ref h3, .ref h4, .int (nI k5), .int (nI k6), .int p7, .int p8, .int p9, .int (nI k10), .int p11, .long q12, .ref h5, .ref h6, .int (nI k15), .int (nI k16)]), (h1, aI Y 3640 f0), (h2, aZ Y 2 f1), (h3, aZ Y 80 f3), (h4, aB Y 1600 f4), (h5, aI Y 200 f13), (h6, aI Y 800 f14)] sz) (QI D (fun (r : Int32) (u : WU) => True) (fun (u : WU) => [(h0, oC 13 [.ref h1, .ref h2, .int (u.2.1 0), .ref h3, .ref h4, .int (nI k5), .int (nI k6), .int p7, .int p8, .int p9, .int (nI k10), .int p11, .long q12, .ref h5, .ref h6, .int (nI k15), .int (nI k16)]), (h1, aI Y 3640 f0), (h2, aZ Y 2 f1), (h3, aZ Y 80 f3), (h4, aB Y 1600 f4), (h5, aI Y 200 f13), (h6, aI Y 800 f14)]) (va_A [(h0, oC 13 [.ref h1, .ref h2, .int p2, .ref h3, .ref h4, .int (nI k5), .int (nI k6), .int p7, .int p8, .int p9, .int (nI k10), .int p11, .long q12, .ref h5, .ref h6, .int (nI k15), .int (nI k16)]), (h1, aI Y 3640 f0), (h2, aZ Y 2 f1), (h3, aZ Y 80 f3), (h4, aB Y 1600 f4), (h5, aI Y 200 f13), (h6, aI Y 800 f14)] sz)) 0 0 (va_A [(h0, oC 13 [.ref h1, .ref h2, .int p2, .ref h3, .ref h4, .int (nI k5), .int (nI k6), .int p7, .int p8, .int p9, .int (nI k10), .int p11, .long q12, .ref h5, .ref h6, .int (nI k15), .int (nI k16)]), (h1, aI Y 3640 f0), (h2, aZ Y 2 f1), (h3, aZ Y 80 f3), (h4, aB Y 1600 f4), (h5, aI Y 200 f13), (h6, aI Y 800 f14)] sz) :=
  met_of (by decide +kernel) (Nat.le_of_ble_eq_true rfl) (fun p e s m args below meth c B hin hsz => by
    have B : VB p s m args meth c D Y (va_A [(h0, oC 13 [.ref h1, .ref h2, .int p2, .ref h3, .ref h4, .int (nI k5), .int (nI k6), .int p7, .int p8, .int p9, .int (nI k10), .int p11, .long q12, .ref h5, .ref h6, .int (nI k15), .int (nI k16)]), (h1, aI Y 3640 f0), (h2, aZ Y 2 f1), (h3, aZ Y 80 f3), (h4, aB Y 1600 f4), (h5, aI Y 200 f13), (h6, aI Y 800 f14)] sz) cX12_typing 2 RX12 (some .int) := B
    refine V_aload_n 0 B dX12_typing_0 0 rfl ?_
    refine V_iconst 1 B (v := 0) dX12_typing_1 (by decide +kernel) ?_
    refine V_put 2 B gp_RX12_38 0 rfl (Nat.le_of_ble_eq_true rfl) rfl rfl dX12_typing_2 [(h0, oC 13 [.ref h1, .ref h2, .int 0, .ref h3, .ref h4, .int (nI k5), .int (nI k6), .int p7, .int p8, .int p9, .int (nI k10), .int p11, .long q12, .ref h5, .ref h6, .int (nI k15), .int (nI k16)]), (h1, aI Y 3640 f0), (h2, aZ Y 2 f1), (h3, aZ Y 80 f3), (h4, aB Y 1600 f4), (h5, aI Y 200 f13), (h6, aI Y 800 f14)] rfl ?_
    refine V_iload_n 5 B dX12_typing_5 1 rfl ?_
    by_cases kk0 : s0 = 0
    ·
      refine V_eqi _ 0 kk0 ?_
      refine V_tableIn 6 B 40 dX12_typing_6 (by decide +kernel) (by decide +kernel) (off := 34) (by decide +kernel) (by decide) ?_
      refine V_aload_n 40 B dX12_typing_40 0 rfl ?_
      refine V_get 41 B gf_RX12_9 0 rfl rfl dX12_typing_41 ?_
      refine V_bipush 44 B (v := 6) dX12_typing_44 (by decide +kernel) ?_
      refine V_iald 46 B (v := f0 (6)) 1 rfl (vpin _ _ (by decide +kernel)) dX12_typing_46 (by rfl) ?_
      refine V_nmi (fun j1 e2 => ?_)
      have x3 : (-1) ≤ j1.toInt ∧ j1.toInt ≤ 5 := by rw [e2]; exact ⟨INV_lo HI (by omega) (show bd 6 = ((-1), 5) by decide +kernel), INV_hi HI (by omega) (show bd 6 = ((-1), 5) by decide +kernel)⟩
      exact V_iret 47 B dX12_typing_47 (mkW [] [0] [] [] [] []) trivial rfl
    ·
      by_cases kk4 : s0 = 1
      ·
        refine V_eqi _ 1 kk4 ?_
        refine V_tableIn 6 B 48 dX12_typing_6 (by decide +kernel) (by decide +kernel) (off := 42) (by decide +kernel) (by decide) ?_
        refine V_aload_n 48 B dX12_typing_48 0 rfl ?_
        refine V_get 49 B gf_RX12_9 0 rfl rfl dX12_typing_49 ?_
        refine V_bipush 52 B (v := 11) dX12_typing_52 (by decide +kernel) ?_
        refine V_iald 54 B (v := f0 (11)) 1 rfl (vpin _ _ (by decide +kernel)) dX12_typing_54 (by rfl) ?_
        refine V_nmi (fun j5 e6 => ?_)
        exact V_iret 55 B dX12_typing_55 (mkW [] [0] [] [] [] []) trivial rfl
      ·
        by_cases kk7 : s0 = 2
        ·
          refine V_eqi _ 2 kk7 ?_
          refine V_tableIn 6 B 56 dX12_typing_6 (by decide +kernel) (by decide +kernel) (off := 50) (by decide +kernel) (by decide) ?_
          refine V_aload_n 56 B dX12_typing_56 0 rfl ?_
          refine V_get 57 B gf_RX12_9 0 rfl rfl dX12_typing_57 ?_
          refine V_bipush 60 B (v := 12) dX12_typing_60 (by decide +kernel) ?_
          refine V_iald 62 B (v := f0 (12)) 1 rfl (vpin _ _ (by decide +kernel)) dX12_typing_62 (by rfl) ?_
          refine V_nmi (fun j8 e9 => ?_)
          exact V_iret 63 B dX12_typing_63 (mkW [] [0] [] [] [] []) trivial rfl
        ·
          by_cases kk10 : s0 = 3
          ·
            refine V_eqi _ 3 kk10 ?_
            refine V_tableIn 6 B 64 dX12_typing_6 (by decide +kernel) (by decide +kernel) (off := 58) (by decide +kernel) (by decide) ?_
            refine V_aload_n 64 B dX12_typing_64 0 rfl ?_
            refine V_get 65 B gf_RX12_9 0 rfl rfl dX12_typing_65 ?_
            refine V_bipush 68 B (v := 13) dX12_typing_68 (by decide +kernel) ?_
            refine V_iald 70 B (v := f0 (13)) 1 rfl (vpin _ _ (by decide +kernel)) dX12_typing_70 (by rfl) ?_
            refine V_nmi (fun j11 e12 => ?_)
            exact V_iret 71 B dX12_typing_71 (mkW [] [0] [] [] [] []) trivial rfl
          ·
            by_cases kk13 : s0 = 4
            ·
              refine V_eqi _ 4 kk13 ?_
              refine V_tableIn 6 B 72 dX12_typing_6 (by decide +kernel) (by decide +kernel) (off := 66) (by decide +kernel) (by decide) ?_
              refine V_aload_n 72 B dX12_typing_72 0 rfl ?_
              refine V_get 73 B gf_RX12_9 0 rfl rfl dX12_typing_73 ?_
              refine V_bipush 76 B (v := 9) dX12_typing_76 (by decide +kernel) ?_
              refine V_iald 78 B (v := f0 (9)) 1 rfl (vpin _ _ (by decide +kernel)) dX12_typing_78 (by rfl) ?_
              refine V_nmi (fun j14 e15 => ?_)
              refine V_aload_n 79 B dX12_typing_79 0 rfl ?_
              refine V_get 80 B gf_RX12_9 0 rfl rfl dX12_typing_80 ?_
              refine V_bipush 83 B (v := 10) dX12_typing_83 (by decide +kernel) ?_
              refine V_iald 85 B (v := f0 (10)) 1 rfl (vpin _ _ (by decide +kernel)) dX12_typing_85 (by rfl) ?_
              refine V_nmi (fun j16 e17 => ?_)
              refine V_isub 86 B dX12_typing_86 rfl ?_
              refine V_nmi (fun j18 e19 => ?_)
              exact V_iret 87 B dX12_typing_87 (mkW [] [0] [] [] [] []) trivial rfl
            ·
              refine V_tableOut 6 B 88 dX12_typing_6 (sw_out_0_4 kk0 kk4 kk7 kk10 kk13) (by decide) ?_
              refine V_iconst 88 B (v := (-1)) dX12_typing_88 (by decide +kernel) ?_
              exact V_iret 89 B dX12_typing_89 (mkW [] [0] [] [] [] []) trivial rfl)
theorem dX12_pending_0 : decode cX12_pending 0 = .ok (.aload_n 0, 1) := by decide +kernel
theorem dX12_pending_1 : decode cX12_pending 1 = .ok (.iconst 0, 1) := by decide +kernel
theorem dX12_pending_2 : decode cX12_pending 2 = .ok (.putfield 38, 3) := by decide +kernel
theorem dX12_pending_5 : decode cX12_pending 5 = .ok (.iload_n 1, 1) := by decide +kernel
theorem dX12_pending_6 : decode cX12_pending 6 = .ok (.i2l, 1) := by decide +kernel
theorem dX12_pending_7 : decode cX12_pending 7 = .ok (.lconst 0, 1) := by decide +kernel
theorem dX12_pending_8 : decode cX12_pending 8 = .ok (.aload_n 0, 1) := by decide +kernel
theorem dX12_pending_9 : decode cX12_pending 9 = .ok (.getfield 9, 3) := by decide +kernel
theorem dX12_pending_12 : decode cX12_pending 12 = .ok (.bipush 8, 2) := by decide +kernel
theorem dX12_pending_14 : decode cX12_pending 14 = .ok (.iaload, 1) := by decide +kernel
theorem dX12_pending_15 : decode cX12_pending 15 = .ok (.iconst 1, 1) := by decide +kernel
theorem dX12_pending_16 : decode cX12_pending 16 = .ok (.isub, 1) := by decide +kernel
theorem dX12_pending_17 : decode cX12_pending 17 = .ok (.i2l, 1) := by decide +kernel
theorem dX12_pending_18 : decode cX12_pending 18 = .ok (.invokestatic 41, 3) := by decide +kernel
theorem dX12_pending_21 : decode cX12_pending 21 = .ok (.ifCond .eq 15, 3) := by decide +kernel
theorem dX12_pending_36 : decode cX12_pending 36 = .ok (.iconst (-1), 1) := by decide +kernel
theorem dX12_pending_37 : decode cX12_pending 37 = .ok (.ireturn, 1) := by decide +kernel
theorem dX12_pending_24 : decode cX12_pending 24 = .ok (.aload_n 0, 1) := by decide +kernel
theorem dX12_pending_25 : decode cX12_pending 25 = .ok (.getfield 9, 3) := by decide +kernel
theorem dX12_pending_28 : decode cX12_pending 28 = .ok (.bipush 30, 2) := by decide +kernel
theorem dX12_pending_30 : decode cX12_pending 30 = .ok (.iload_n 1, 1) := by decide +kernel
theorem dX12_pending_31 : decode cX12_pending 31 = .ok (.iadd, 1) := by decide +kernel
theorem dX12_pending_32 : decode cX12_pending 32 = .ok (.iaload, 1) := by decide +kernel
theorem rl16 : ∀ z0, z0 < 4 → bd (30 + z0) = FREE := by decide +kernel
theorem dX12_pending_33 : decode cX12_pending 33 = .ok (.goto 4, 3) := by decide +kernel
set_option maxRecDepth 100000 in
set_option maxHeartbeats 4000000 in
theorem rX12_pending (l : Launch) (D : va_G) (Y : Nat → ClassId) (h0 : Nat) (h1 : Nat) (h2 : Nat) (h3 : Nat) (h4 : Nat) (h5 : Nat) (h6 : Nat) (p2 : Int32) (k5 : Nat) (k6 : Nat) (p7 : Int32) (p8 : Int32) (p9 : Int32) (k10 : Nat) (p11 : Int32) (q12 : Int64) (k15 : Nat) (k16 : Nat) (f0 : Nat → Int32) (f1 : Nat → Int32) (f3 : Nat → Int32) (f4 : Nat → Int32) (f13 : Nat → Int32) (f14 : Nat → Int32) (HI : INV f0) (HL : k5 ≤ 1600) (HP : PLV f13) (s0 : Int32)  (sz : Nat) : Met l yX12_pending (WSm yX12_pending cX12_pending 2 (some .int)) (mkR 1 0 0 25) (PreC D Y [.ref h0, .int s0] [(h0, oC 13 [.ref h1, .ref h2, .int p2, .ref h3, .ref h4, .int (nI k5), .int (nI k6), .int p7, .int p8, .int p9, .int (nI k10), .int p11, .long q12, .ref h5, .ref h6, .int (nI k15), .int (nI k16)]), (h1, aI Y 3640 f0), (h2, aZ Y 2 f1), (h3, aZ Y 80 f3), (h4, aB Y 1600 f4), (h5, aI Y 200 f13), (h6, aI Y 800 f14)] sz) (QI D (fun (r : Int32) (u : WU) => True) (fun (u : WU) => [(h0, oC 13 [.ref h1, .ref h2, .int (u.2.1 0), .ref h3, .ref h4, .int (nI k5), .int (nI k6), .int p7, .int p8, .int p9, .int (nI k10), .int p11, .long q12, .ref h5, .ref h6, .int (nI k15), .int (nI k16)]), (h1, aI Y 3640 f0), (h2, aZ Y 2 f1), (h3, aZ Y 80 f3), (h4, aB Y 1600 f4), (h5, aI Y 200 f13), (h6, aI Y 800 f14)]) (va_A [(h0, oC 13 [.ref h1, .ref h2, .int p2, .ref h3, .ref h4, .int (nI k5), .int (nI k6), .int p7, .int p8, .int p9, .int (nI k10), .int p11, .long q12, .ref h5, .ref h6, .int (nI k15), .int (nI k16)]), (h1, aI Y 3640 f0), (h2, aZ Y 2 f1), (h3, aZ Y 80 f3), (h4, aB Y 1600 f4), (h5, aI Y 200 f13), (h6, aI Y 800 f14)] sz)) 0 0 (va_A [(h0, oC 13 [.ref h1, .ref h2, .int p2, .ref h3, .ref h4, .int (nI k5), .int (nI k6), .int p7, .int p8, .int p9, .int (nI k10), .int p11, .long q12, .ref h5, .ref h6, .int (nI k15), .int (nI k16)]), (h1, aI Y 3640 f0), (h2, aZ Y 2 f1), (h3, aZ Y 80 f3), (h4, aB Y 1600 f4), (h5, aI Y 200 f13), (h6, aI Y 800 f14)] sz) :=
  met_of (by decide +kernel) (Nat.le_of_ble_eq_true rfl) (fun p e s m args below meth c B hin hsz => by
    have B : VB p s m args meth c D Y (va_A [(h0, oC 13 [.ref h1, .ref h2, .int p2, .ref h3, .ref h4, .int (nI k5), .int (nI k6), .int p7, .int p8, .int p9, .int (nI k10), .int p11, .long q12, .ref h5, .ref h6, .int (nI k15), .int (nI k16)]), (h1, aI Y 3640 f0), (h2, aZ Y 2 f1), (h3, aZ Y 80 f3), (h4, aB Y 1600 f4), (h5, aI Y 200 f13), (h6, aI Y 800 f14)] sz) cX12_pending 2 RX12 (some .int) := B
    refine V_aload_n 0 B dX12_pending_0 0 rfl ?_
    refine V_iconst 1 B (v := 0) dX12_pending_1 (by decide +kernel) ?_
    refine V_put 2 B gp_RX12_38 0 rfl (Nat.le_of_ble_eq_true rfl) rfl rfl dX12_pending_2 [(h0, oC 13 [.ref h1, .ref h2, .int 0, .ref h3, .ref h4, .int (nI k5), .int (nI k6), .int p7, .int p8, .int p9, .int (nI k10), .int p11, .long q12, .ref h5, .ref h6, .int (nI k15), .int (nI k16)]), (h1, aI Y 3640 f0), (h2, aZ Y 2 f1), (h3, aZ Y 80 f3), (h4, aB Y 1600 f4), (h5, aI Y 200 f13), (h6, aI Y 800 f14)] rfl ?_
    refine V_iload_n 5 B dX12_pending_5 1 rfl ?_
    refine V_i2l 6 B dX12_pending_6 rfl ?_
    refine V_nml (fun o0 e1 => ?_)
    have x2 : o0.toInt = s0.toInt := by rw [e1, Int32.toInt_toInt64]
    refine V_lconst 7 B (v := 0) dX12_pending_7 (by decide +kernel) ?_
    refine V_aload_n 8 B dX12_pending_8 0 rfl ?_
    refine V_get 9 B gf_RX12_9 0 rfl rfl dX12_pending_9 ?_
    refine V_bipush 12 B (v := 8) dX12_pending_12 (by decide +kernel) ?_
    have x3 : (gN f0 8) ≤ 3 := gN_le HI (by omega) (show bd 8 = (0, ((3 : Nat) : Int)) by decide +kernel)
    refine V_iald 14 B (v := (nI (gN f0 8))) 1 rfl (vpin _ _ (by decide +kernel)) dX12_pending_14 (by show f0 8 = _; exact gN_eq HI (by omega) (show bd 8 = (0, ((3 : Nat) : Int)) by decide +kernel)) ?_
    refine V_iconst 15 B (v := 1) dX12_pending_15 (by decide +kernel) ?_
    refine V_isub 16 B dX12_pending_16 rfl ?_
    refine V_nmi (fun j4 e5 => ?_)
    have x6 : j4.toInt = (((gN f0 8) : Nat) : Int) - ((1 : Nat) : Int) := by rw [e5]; exact nI_subT (a := (gN f0 8)) (b := 1) (by omega) (by omega)
    refine V_i2l 17 B dX12_pending_17 rfl ?_
    refine V_nml (fun o7 e8 => ?_)
    have x9 : o7.toInt = j4.toInt := by rw [e8, Int32.toInt_toInt64]
    refine V_csi 18 B (st := []) (As := [.long o0, .long 0, .long o7]) (fun sz => rX12_inRange l D Y o0 0 o7 sz) glS_RX12_41 ⟨rfl, rfl⟩ ⟨(Nat.le_of_ble_eq_true rfl), (Nat.le_of_ble_eq_true rfl)⟩ ⟨(Nat.le_of_ble_eq_true rfl), (Nat.le_of_ble_eq_true rfl)⟩ [] rfl rfl (Nat.le_of_ble_eq_true rfl) rfl (fun _ _ _ => rfl) dX12_pending_18 (fun j10 u11 w12 => ?_)
    refine V_ws [(h0, oC 13 [.ref h1, .ref h2, .int 0, .ref h3, .ref h4, .int (nI k5), .int (nI k6), .int p7, .int p8, .int p9, .int (nI k10), .int p11, .long q12, .ref h5, .ref h6, .int (nI k15), .int (nI k16)]), (h1, aI Y 3640 f0), (h2, aZ Y 2 f1), (h3, aZ Y 80 f3), (h4, aB Y 1600 f4), (h5, aI Y 200 f13), (h6, aI Y 800 f14)] rfl ?_
    rcases w12 with rfl | ⟨rfl, x13, x14⟩
    ·
      refine V_if_eq_t 21 B 36 dX12_pending_21 (by decide) (by decide +kernel) ?_
      refine V_iconst 36 B (v := (-1)) dX12_pending_36 (by decide +kernel) ?_
      exact V_iret 37 B dX12_pending_37 (mkW [] [0] [] [] [] []) trivial rfl
    ·
      rw [show (0 : Int64).toInt = 0 by decide +kernel] at x13
      refine V_if_eq_f 21 B 36 dX12_pending_21 (by decide) (by decide +kernel) ?_
      refine V_aload_n 24 B dX12_pending_24 0 rfl ?_
      refine V_get 25 B gf_RX12_9 0 rfl rfl dX12_pending_25 ?_
      refine V_bipush 28 B (v := 30) dX12_pending_28 (by decide +kernel) ?_
      refine V_iload_n 30 B dX12_pending_30 1 rfl ?_
      obtain ⟨n15, x16, rfl⟩ := nat_of (x := s0) (n := 3) (by omega) (by omega)
      have e17 := nI_toInt (show n15 < 2 ^ 31 by omega)
      refine V_iadd 31 B (v := (nI (30 + n15))) dX12_pending_31 (nI_addE (a := 30) (b := n15) (by omega)) ?_
      refine V_iald 32 B (v := f0 (30 + n15)) 1 rfl (vp_in_nI (n := 30 + n15) (by omega) (by decide)) dX12_pending_32 (by rw [nI_clamp (show 30 + n15 < 2 ^ 31 by omega)]) ?_
      refine V_nmi (fun j18 e19 => ?_)
      refine V_goto 33 B 37 dX12_pending_33 (by decide) ?_
      exact V_iret 37 B dX12_pending_37 (mkW [] [0] [] [] [] []) trivial rfl)
theorem dX12_backTo_0 : decode cX12_backTo 0 = .ok (.aload_n 0, 1) := by decide +kernel
theorem dX12_backTo_1 : decode cX12_backTo 1 = .ok (.iconst 0, 1) := by decide +kernel
theorem dX12_backTo_2 : decode cX12_backTo 2 = .ok (.putfield 38, 3) := by decide +kernel
theorem dX12_backTo_5 : decode cX12_backTo 5 = .ok (.iload_n 1, 1) := by decide +kernel
theorem dX12_backTo_6 : decode cX12_backTo 6 = .ok (.i2l, 1) := by decide +kernel
theorem dX12_backTo_7 : decode cX12_backTo 7 = .ok (.lconst 0, 1) := by decide +kernel
theorem dX12_backTo_8 : decode cX12_backTo 8 = .ok (.aload_n 0, 1) := by decide +kernel
theorem dX12_backTo_9 : decode cX12_backTo 9 = .ok (.getfield 9, 3) := by decide +kernel
theorem dX12_backTo_12 : decode cX12_backTo 12 = .ok (.bipush 7, 2) := by decide +kernel
theorem dX12_backTo_14 : decode cX12_backTo 14 = .ok (.iaload, 1) := by decide +kernel
theorem dX12_backTo_15 : decode cX12_backTo 15 = .ok (.iconst 1, 1) := by decide +kernel
theorem dX12_backTo_16 : decode cX12_backTo 16 = .ok (.isub, 1) := by decide +kernel
theorem dX12_backTo_17 : decode cX12_backTo 17 = .ok (.i2l, 1) := by decide +kernel
theorem dX12_backTo_18 : decode cX12_backTo 18 = .ok (.invokestatic 41, 3) := by decide +kernel
theorem dX12_backTo_21 : decode cX12_backTo 21 = .ok (.ifCond .eq 25, 3) := by decide +kernel
theorem dX12_backTo_46 : decode cX12_backTo 46 = .ok (.iconst (-1), 1) := by decide +kernel
theorem dX12_backTo_47 : decode cX12_backTo 47 = .ok (.ireturn, 1) := by decide +kernel
theorem dX12_backTo_24 : decode cX12_backTo 24 = .ok (.aload_n 0, 1) := by decide +kernel
theorem dX12_backTo_25 : decode cX12_backTo 25 = .ok (.getfield 9, 3) := by decide +kernel
theorem dX12_backTo_28 : decode cX12_backTo 28 = .ok (.bipush 22, 2) := by decide +kernel
theorem dX12_backTo_30 : decode cX12_backTo 30 = .ok (.aload_n 0, 1) := by decide +kernel
theorem dX12_backTo_31 : decode cX12_backTo 31 = .ok (.getfield 9, 3) := by decide +kernel
theorem dX12_backTo_34 : decode cX12_backTo 34 = .ok (.bipush 7, 2) := by decide +kernel
theorem dX12_backTo_36 : decode cX12_backTo 36 = .ok (.iaload, 1) := by decide +kernel
theorem dX12_backTo_37 : decode cX12_backTo 37 = .ok (.iadd, 1) := by decide +kernel
theorem dX12_backTo_38 : decode cX12_backTo 38 = .ok (.iconst 1, 1) := by decide +kernel
theorem dX12_backTo_39 : decode cX12_backTo 39 = .ok (.isub, 1) := by decide +kernel
theorem dX12_backTo_40 : decode cX12_backTo 40 = .ok (.iload_n 1, 1) := by decide +kernel
theorem dX12_backTo_41 : decode cX12_backTo 41 = .ok (.isub, 1) := by decide +kernel
theorem dX12_backTo_42 : decode cX12_backTo 42 = .ok (.iaload, 1) := by decide +kernel
theorem dX12_setTimeout_0 : decode cX12_setTimeout 0 = .ok (.aload_n 0, 1) := by decide +kernel
theorem dX12_setTimeout_1 : decode cX12_setTimeout 1 = .ok (.iconst 0, 1) := by decide +kernel
theorem dX12_setTimeout_2 : decode cX12_setTimeout 2 = .ok (.putfield 38, 3) := by decide +kernel
theorem dX12_setTimeout_5 : decode cX12_setTimeout 5 = .ok (.aload_n 0, 1) := by decide +kernel
theorem dX12_setTimeout_6 : decode cX12_setTimeout 6 = .ok (.iload_n 1, 1) := by decide +kernel
theorem dX12_setTimeout_7 : decode cX12_setTimeout 7 = .ok (.i2l, 1) := by decide +kernel
theorem dX12_setTimeout_8 : decode cX12_setTimeout 8 = .ok (.lconst 0, 1) := by decide +kernel
theorem dX12_setTimeout_9 : decode cX12_setTimeout 9 = .ok (.ldc2_w 229, 3) := by decide +kernel
theorem dX12_setTimeout_12 : decode cX12_setTimeout 12 = .ok (.invokestatic 41, 3) := by decide +kernel
theorem dX12_setTimeout_15 : decode cX12_setTimeout 15 = .ok (.ifCond .ne 7, 3) := by decide +kernel
theorem dX12_setTimeout_18 : decode cX12_setTimeout 18 = .ok (.iconst 1, 1) := by decide +kernel
theorem dX12_setTimeout_19 : decode cX12_setTimeout 19 = .ok (.goto 4, 3) := by decide +kernel
theorem dX12_setTimeout_23 : decode cX12_setTimeout 23 = .ok (.iconst 1, 1) := by decide +kernel
theorem dX12_setTimeout_24 : decode cX12_setTimeout 24 = .ok (.invokevirtual 69, 3) := by decide +kernel
theorem dX12_setTimeout_27 : decode cX12_setTimeout 27 = .ok (.ifCond .eq 5, 3) := by decide +kernel
theorem dX12_setTimeout_30 : decode cX12_setTimeout 30 = .ok (.iconst 0, 1) := by decide +kernel
theorem dX12_setTimeout_31 : decode cX12_setTimeout 31 = .ok (.ireturn, 1) := by decide +kernel
theorem dX12_setTimeout_22 : decode cX12_setTimeout 22 = .ok (.iconst 0, 1) := by decide +kernel
theorem dX12_setTimeout_32 : decode cX12_setTimeout 32 = .ok (.aload_n 0, 1) := by decide +kernel
theorem dX12_setTimeout_33 : decode cX12_setTimeout 33 = .ok (.getfield 9, 3) := by decide +kernel
theorem dX12_setTimeout_36 : decode cX12_setTimeout 36 = .ok (.iconst 5, 1) := by decide +kernel
theorem dX12_setTimeout_37 : decode cX12_setTimeout 37 = .ok (.iaload, 1) := by decide +kernel
theorem dX12_setTimeout_38 : decode cX12_setTimeout 38 = .ok (.istore_n 2, 1) := by decide +kernel
theorem dX12_setTimeout_39 : decode cX12_setTimeout 39 = .ok (.aload_n 0, 1) := by decide +kernel
theorem dX12_setTimeout_40 : decode cX12_setTimeout 40 = .ok (.getfield 9, 3) := by decide +kernel
theorem dX12_setTimeout_43 : decode cX12_setTimeout 43 = .ok (.iconst 5, 1) := by decide +kernel
theorem dX12_setTimeout_44 : decode cX12_setTimeout 44 = .ok (.iload_n 1, 1) := by decide +kernel
theorem dX12_setTimeout_45 : decode cX12_setTimeout 45 = .ok (.iastore, 1) := by decide +kernel
theorem dX12_setTimeout_46 : decode cX12_setTimeout 46 = .ok (.aload_n 0, 1) := by decide +kernel
theorem dX12_setTimeout_47 : decode cX12_setTimeout 47 = .ok (.invokevirtual 226, 3) := by decide +kernel
theorem dX12_setTimeout_50 : decode cX12_setTimeout 50 = .ok (.iload_n 2, 1) := by decide +kernel
theorem dX12_setTimeout_51 : decode cX12_setTimeout 51 = .ok (.ireturn, 1) := by decide +kernel
set_option maxRecDepth 100000 in
set_option maxHeartbeats 4000000 in
theorem rX12_setTimeout (l : Launch) (D : va_G) (Y : Nat → ClassId) (h0 : Nat) (h1 : Nat) (h2 : Nat) (h3 : Nat) (h4 : Nat) (h5 : Nat) (h6 : Nat) (p2 : Int32) (k5 : Nat) (k6 : Nat) (p7 : Int32) (p8 : Int32) (p9 : Int32) (k10 : Nat) (p11 : Int32) (q12 : Int64) (k15 : Nat) (k16 : Nat) (f0 : Nat → Int32) (f1 : Nat → Int32) (f3 : Nat → Int32) (f4 : Nat → Int32) (f13 : Nat → Int32) (f14 : Nat → Int32) (HI : INV f0) (HL : k5 ≤ 1600) (HP : PLV f13) (s0 : Int32)  (sz : Nat) : Met l yX12_setTimeout (WSm yX12_setTimeout cX12_setTimeout 3 (some .int)) (mkR 1 0 0 25) (PreC D Y [.ref h0, .int s0] [(h0, oC 13 [.ref h1, .ref h2, .int p2, .ref h3, .ref h4, .int (nI k5), .int (nI k6), .int p7, .int p8, .int p9, .int (nI k10), .int p11, .long q12, .ref h5, .ref h6, .int (nI k15), .int (nI k16)]), (h1, aI Y 3640 f0), (h2, aZ Y 2 f1), (h3, aZ Y 80 f3), (h4, aB Y 1600 f4), (h5, aI Y 200 f13), (h6, aI Y 800 f14)] sz) (QI D (fun (r : Int32) (u : WU) => INV (u.2.2.2.1 0)) (fun (u : WU) => [(h0, oC 13 [.ref h1, .ref h2, .int (u.2.1 0), .ref h3, .ref h4, .int (nI k5), .int (nI k6), .int p7, .int p8, .int p9, .int (nI k10), .int p11, .long q12, .ref h5, .ref h6, .int (nI k15), .int (nI k16)]), (h1, aI Y 3640 (u.2.2.2.1 0)), (h2, aZ Y 2 f1), (h3, aZ Y 80 f3), (h4, aB Y 1600 f4), (h5, aI Y 200 f13), (h6, aI Y 800 f14)]) (va_A [(h0, oC 13 [.ref h1, .ref h2, .int p2, .ref h3, .ref h4, .int (nI k5), .int (nI k6), .int p7, .int p8, .int p9, .int (nI k10), .int p11, .long q12, .ref h5, .ref h6, .int (nI k15), .int (nI k16)]), (h1, aI Y 3640 f0), (h2, aZ Y 2 f1), (h3, aZ Y 80 f3), (h4, aB Y 1600 f4), (h5, aI Y 200 f13), (h6, aI Y 800 f14)] sz)) 0 0 (va_A [(h0, oC 13 [.ref h1, .ref h2, .int p2, .ref h3, .ref h4, .int (nI k5), .int (nI k6), .int p7, .int p8, .int p9, .int (nI k10), .int p11, .long q12, .ref h5, .ref h6, .int (nI k15), .int (nI k16)]), (h1, aI Y 3640 f0), (h2, aZ Y 2 f1), (h3, aZ Y 80 f3), (h4, aB Y 1600 f4), (h5, aI Y 200 f13), (h6, aI Y 800 f14)] sz) :=
  met_of (by decide +kernel) (Nat.le_of_ble_eq_true rfl) (fun p e s m args below meth c B hin hsz => by
    have B : VB p s m args meth c D Y (va_A [(h0, oC 13 [.ref h1, .ref h2, .int p2, .ref h3, .ref h4, .int (nI k5), .int (nI k6), .int p7, .int p8, .int p9, .int (nI k10), .int p11, .long q12, .ref h5, .ref h6, .int (nI k15), .int (nI k16)]), (h1, aI Y 3640 f0), (h2, aZ Y 2 f1), (h3, aZ Y 80 f3), (h4, aB Y 1600 f4), (h5, aI Y 200 f13), (h6, aI Y 800 f14)] sz) cX12_setTimeout 3 RX12 (some .int) := B
    refine V_aload_n 0 B dX12_setTimeout_0 0 rfl ?_
    refine V_iconst 1 B (v := 0) dX12_setTimeout_1 (by decide +kernel) ?_
    refine V_put 2 B gp_RX12_38 0 rfl (Nat.le_of_ble_eq_true rfl) rfl rfl dX12_setTimeout_2 [(h0, oC 13 [.ref h1, .ref h2, .int 0, .ref h3, .ref h4, .int (nI k5), .int (nI k6), .int p7, .int p8, .int p9, .int (nI k10), .int p11, .long q12, .ref h5, .ref h6, .int (nI k15), .int (nI k16)]), (h1, aI Y 3640 f0), (h2, aZ Y 2 f1), (h3, aZ Y 80 f3), (h4, aB Y 1600 f4), (h5, aI Y 200 f13), (h6, aI Y 800 f14)] rfl ?_
    refine V_aload_n 5 B dX12_setTimeout_5 0 rfl ?_
    refine V_iload_n 6 B dX12_setTimeout_6 1 rfl ?_
    refine V_i2l 7 B dX12_setTimeout_7 rfl ?_
    refine V_nml (fun o0 e1 => ?_)
    have x2 : o0.toInt = s0.toInt := by rw [e1, Int32.toInt_toInt64]
    refine V_lconst 8 B (v := 0) dX12_setTimeout_8 (by decide +kernel) ?_
    refine V_ldc2 9 B (v := 999) dX12_setTimeout_9 (mT9 142 rfl rfl) ?_
    refine V_csi 12 B (st := [.ref h0]) (As := [.long o0, .long 0, .long 999]) (fun sz => rX12_inRange l D Y o0 0 999 sz) glS_RX12_41 ⟨rfl, rfl⟩ ⟨(Nat.le_of_ble_eq_true rfl), (Nat.le_of_ble_eq_true rfl)⟩ ⟨(Nat.le_of_ble_eq_true rfl), (Nat.le_of_ble_eq_true rfl)⟩ [] rfl rfl (Nat.le_of_ble_eq_true rfl) rfl (fun _ _ _ => rfl) dX12_setTimeout_12 (fun j3 u4 w5 => ?_)
    refine V_ws [(h0, oC 13 [.ref h1, .ref h2, .int 0, .ref h3, .ref h4, .int (nI k5), .int (nI k6), .int p7, .int p8, .int p9, .int (nI k10), .int p11, .long q12, .ref h5, .ref h6, .int (nI k15), .int (nI k16)]), (h1, aI Y 3640 f0), (h2, aZ Y 2 f1), (h3, aZ Y 80 f3), (h4, aB Y 1600 f4), (h5, aI Y 200 f13), (h6, aI Y 800 f14)] rfl ?_
    rcases w5 with rfl | ⟨rfl, x6, x7⟩
    ·
      refine V_if_ne_f 15 B 22 dX12_setTimeout_15 (by decide) (by decide +kernel) ?_
      refine V_iconst 18 B (v := 1) dX12_setTimeout_18 (by decide +kernel) ?_
      refine V_goto 19 B 23 dX12_setTimeout_19 (by decide) ?_
      refine V_iconst 23 B (v := 1) dX12_setTimeout_23 (by decide +kernel) ?_
      refine V_cvi 24 B (st := []) (As := [.int 1, .int 1]) (fun sz => rX12_throwsIf_1 l D Y h0 h1 h2 h3 h4 h5 h6 0 k5 k6 p7 p8 p9 k10 p11 q12 k15 k16 f0 f1 f3 f4 f13 f14 HI (by omega) HP 1 sz) glV_RX12_69 ⟨rfl, rfl⟩ ⟨(Nat.le_of_ble_eq_true rfl), (Nat.le_of_ble_eq_true rfl)⟩ ⟨(Nat.le_of_ble_eq_true rfl), (Nat.le_of_ble_eq_true rfl)⟩ [0, 0, 0, 0, 0, 0, 0] rfl 13 0 rfl rfl rfl rfl (Nat.le_of_ble_eq_true rfl) rfl (fun _ _ _ => rfl) dX12_setTimeout_24 (fun j8 u9 w10 => ?_)
      refine V_ws [(h0, oC 13 [.ref h1, .ref h2, .int (u9.2.1 0), .ref h3, .ref h4, .int (nI k5), .int (nI k6), .int p7, .int p8, .int p9, .int (nI k10), .int p11, .long q12, .ref h5, .ref h6, .int (nI k15), .int (nI k16)]), (h1, aI Y 3640 f0), (h2, aZ Y 2 f1), (h3, aZ Y 80 f3), (h4, aB Y 1600 f4), (h5, aI Y 200 f13), (h6, aI Y 800 f14)] rfl ?_
      have x11 := w10
      obtain rfl := x11
      refine V_if_eq_f 27 B 32 dX12_setTimeout_27 (by decide) (by decide +kernel) ?_
      refine V_iconst 30 B (v := 0) dX12_setTimeout_30 (by decide +kernel) ?_
      exact V_iret 31 B dX12_setTimeout_31 (mkW [] [(u9.2.1 0)] [] [f0] [] []) HI rfl
    ·
      rw [show (0 : Int64).toInt = 0 by decide +kernel] at x6
      rw [show (999 : Int64).toInt = 999 by decide +kernel] at x7
      refine V_if_ne_t 15 B 22 dX12_setTimeout_15 (by decide) (by decide +kernel) ?_
      refine V_iconst 22 B (v := 0) dX12_setTimeout_22 (by decide +kernel) ?_
      refine V_iconst 23 B (v := 1) dX12_setTimeout_23 (by decide +kernel) ?_
      refine V_cvi 24 B (st := []) (As := [.int 0, .int 1]) (fun sz => rX12_throwsIf_0 l D Y h0 h1 h2 h3 h4 h5 h6 0 k5 k6 p7 p8 p9 k10 p11 q12 k15 k16 f0 f1 f3 f4 f13 f14 HI (by omega) HP 1 sz) glV_RX12_69 ⟨rfl, rfl⟩ ⟨(Nat.le_of_ble_eq_true rfl), (Nat.le_of_ble_eq_true rfl)⟩ ⟨(Nat.le_of_ble_eq_true rfl), (Nat.le_of_ble_eq_true rfl)⟩ [0, 0, 0, 0, 0, 0, 0] rfl 13 0 rfl rfl rfl rfl (Nat.le_of_ble_eq_true rfl) rfl (fun _ _ _ => rfl) dX12_setTimeout_24 (fun j12 u13 w14 => ?_)
      refine V_ws [(h0, oC 13 [.ref h1, .ref h2, .int (u13.2.1 0), .ref h3, .ref h4, .int (nI k5), .int (nI k6), .int p7, .int p8, .int p9, .int (nI k10), .int p11, .long q12, .ref h5, .ref h6, .int (nI k15), .int (nI k16)]), (h1, aI Y 3640 f0), (h2, aZ Y 2 f1), (h3, aZ Y 80 f3), (h4, aB Y 1600 f4), (h5, aI Y 200 f13), (h6, aI Y 800 f14)] rfl ?_
      have x15 := w14
      obtain rfl := x15
      refine V_if_eq_t 27 B 32 dX12_setTimeout_27 (by decide) (by decide +kernel) ?_
      refine V_aload_n 32 B dX12_setTimeout_32 0 rfl ?_
      refine V_get 33 B gf_RX12_9 0 rfl rfl dX12_setTimeout_33 ?_
      refine V_iconst 36 B (v := 5) dX12_setTimeout_36 (by decide +kernel) ?_
      refine V_iald 37 B (v := f0 (5)) 1 rfl (vpin _ _ (by decide +kernel)) dX12_setTimeout_37 (by rfl) ?_
      refine V_nmi (fun j16 e17 => ?_)
      refine V_istore_n 38 B (lv2 := [(2, .int j16), (0, .ref h0), (1, .int s0)]) dX12_setTimeout_38 (by decide) rfl ?_
      refine V_aload_n 39 B dX12_setTimeout_39 1 rfl ?_
      refine V_get 40 B gf_RX12_9 0 rfl rfl dX12_setTimeout_40 ?_
      refine V_iconst 43 B (v := 5) dX12_setTimeout_43 (by decide +kernel) ?_
      refine V_iload_n 44 B dX12_setTimeout_44 2 rfl ?_
      have hv18 : INV (upd f0 5 s0) := INV_free HI (show bd 5 = FREE by decide +kernel)
      refine V_iast 45 B 1 rfl (vpin _ _ (by decide +kernel)) dX12_setTimeout_45 [(h0, oC 13 [.ref h1, .ref h2, .int (u13.2.1 0), .ref h3, .ref h4, .int (nI k5), .int (nI k6), .int p7, .int p8, .int p9, .int (nI k10), .int p11, .long q12, .ref h5, .ref h6, .int (nI k15), .int (nI k16)]), (h1, aI Y 3640 (upd f0 5 s0)), (h2, aZ Y 2 f1), (h3, aZ Y 80 f3), (h4, aB Y 1600 f4), (h5, aI Y 200 f13), (h6, aI Y 800 f14)] rfl ?_
      refine V_aload_n 46 B dX12_setTimeout_46 1 rfl ?_
      refine V_cvv 47 B (st := []) (As := []) (fun sz => rX12_dropLate l D Y h0 h1 h2 h3 h4 h5 h6 (u13.2.1 0) k5 k6 p7 p8 p9 k10 p11 q12 k15 k16 (upd f0 5 s0) f1 f3 f4 f13 f14 hv18 (by omega) HP sz) glV_RX12_226 ⟨rfl, rfl⟩ ⟨(Nat.le_of_ble_eq_true rfl), (Nat.le_of_ble_eq_true rfl)⟩ ⟨(Nat.le_of_ble_eq_true rfl), (Nat.le_of_ble_eq_true rfl)⟩ [0, 0, 0, 0, 0, 0, 0] rfl 13 0 rfl rfl rfl rfl (Nat.le_of_ble_eq_true rfl) rfl (fun _ _ => rfl) dX12_setTimeout_47 (fun u20 w21 => ?_)
      refine V_ws [(h0, oC 13 [.ref h1, .ref h2, .int (u13.2.1 0), .ref h3, .ref h4, .int (nI k5), .int (nI k6), .int p7, .int p8, .int p9, .int (nI k10), .int p11, .long q12, .ref h5, .ref h6, .int (nI k15), .int (nI k16)]), (h1, aI Y 3640 (u20.2.2.2.1 0)), (h2, aZ Y 2 f1), (h3, aZ Y 80 f3), (h4, aB Y 1600 f4), (h5, aI Y 200 f13), (h6, aI Y 800 f14)] rfl ?_
      have x22 := w21
      refine V_iload_n 50 B dX12_setTimeout_50 0 rfl ?_
      exact V_iret 51 B dX12_setTimeout_51 (mkW [] [(u13.2.1 0)] [] [(u20.2.2.2.1 0)] [] []) x22 rfl)
theorem dX12_wishAt_0 : decode cX12_wishAt 0 = .ok (.sipush 856, 3) := by decide +kernel
theorem dX12_wishAt_3 : decode cX12_wishAt 3 = .ok (.iconst 5, 1) := by decide +kernel
theorem dX12_wishAt_4 : decode cX12_wishAt 4 = .ok (.iload_n 0, 1) := by decide +kernel
theorem dX12_wishAt_5 : decode cX12_wishAt 5 = .ok (.imul, 1) := by decide +kernel
theorem dX12_wishAt_6 : decode cX12_wishAt 6 = .ok (.iadd, 1) := by decide +kernel
theorem dX12_wishAt_7 : decode cX12_wishAt 7 = .ok (.ireturn, 1) := by decide +kernel
set_option maxRecDepth 100000 in
set_option maxHeartbeats 4000000 in
theorem rX12_wishAt (l : Launch) (D : va_G) (Y : Nat → ClassId)  (s0 : Nat) (hn0 : s0 < 11) (sz : Nat) : Met l yX12_wishAt (WSm yX12_wishAt cX12_wishAt 1 (some .int)) (mkR 0 0 0 0) (PreC D Y [.int (nI s0)] [] sz) (QI D (fun (r : Int32) (u : WU) => r = nI (856 + 5 * s0)) (fun (u : WU) => []) (va_A [] sz)) 0 0 (va_A [] sz) :=
  met_of (by decide +kernel) (Nat.le_of_ble_eq_true rfl) (fun p e s m args below meth c B hin hsz => by
    have B : VB p s m args meth c D Y (va_A [] sz) cX12_wishAt 1 RX12 (some .int) := B
    refine V_sipush 0 B (v := 856) dX12_wishAt_0 (by decide +kernel) ?_
    refine V_iconst 3 B (v := 5) dX12_wishAt_3 (by decide +kernel) ?_
    refine V_iload_n 4 B dX12_wishAt_4 0 rfl ?_
    refine V_imul 5 B (v := (nI (5 * s0))) dX12_wishAt_5 (nI_mulE (a := 5) (b := s0) (by omega)) ?_
    refine V_iadd 6 B (v := (nI (856 + 5 * s0))) dX12_wishAt_6 (nI_addE (a := 856) (b := 5 * s0) (by omega)) ?_
    exact V_iret 7 B dX12_wishAt_7 (mkW [] [] [] [] [] []) (congrArg nI (by omega)) rfl)
theorem dX12_wish_0 : decode cX12_wish 0 = .ok (.aload_n 0, 1) := by decide +kernel
theorem dX12_wish_1 : decode cX12_wish 1 = .ok (.iconst 0, 1) := by decide +kernel
theorem dX12_wish_2 : decode cX12_wish 2 = .ok (.putfield 38, 3) := by decide +kernel
theorem dX12_wish_5 : decode cX12_wish 5 = .ok (.aload_n 0, 1) := by decide +kernel
theorem dX12_wish_6 : decode cX12_wish 6 = .ok (.invokevirtual 125, 3) := by decide +kernel
theorem dX12_wish_9 : decode cX12_wish 9 = .ok (.ifCond .eq 6, 3) := by decide +kernel
theorem dX12_wish_15 : decode cX12_wish 15 = .ok (.aload_n 0, 1) := by decide +kernel
theorem dX12_wish_16 : decode cX12_wish 16 = .ok (.getfield 9, 3) := by decide +kernel
theorem dX12_wish_19 : decode cX12_wish 19 = .ok (.bipush 15, 2) := by decide +kernel
theorem dX12_wish_21 : decode cX12_wish 21 = .ok (.iaload, 1) := by decide +kernel
theorem dX12_wish_22 : decode cX12_wish 22 = .ok (.bipush 10, 2) := by decide +kernel
theorem dX12_wish_24 : decode cX12_wish 24 = .ok (.if_icmp .ne 6, 3) := by decide +kernel
theorem dX12_wish_30 : decode cX12_wish 30 = .ok (.aload_n 0, 1) := by decide +kernel
theorem dX12_wish_31 : decode cX12_wish 31 = .ok (.sipush 3624, 3) := by decide +kernel
theorem dX12_wish_34 : decode cX12_wish 34 = .ok (.aload_n 0, 1) := by decide +kernel
theorem dX12_wish_35 : decode cX12_wish 35 = .ok (.getfield 9, 3) := by decide +kernel
theorem dX12_wish_38 : decode cX12_wish 38 = .ok (.bipush 15, 2) := by decide +kernel
theorem dX12_wish_40 : decode cX12_wish 40 = .ok (.iaload, 1) := by decide +kernel
theorem dX12_wish_41 : decode cX12_wish 41 = .ok (.invokestatic 231, 3) := by decide +kernel
theorem glS_RX12_231 : GLS RX12 231 yX12_wishAt cX12_wishAt 1 (some .int) 1 := ⟨⟨(mT9 147 rfl rfl), (mT9 148 rfl rfl), (mT1 13 rfl rfl), (mT9 149 rfl rfl)⟩, by decide +kernel⟩
theorem dX12_wish_44 : decode cX12_wish 44 = .ok (.invokevirtual 88, 3) := by decide +kernel
theorem rl17 : ∀ z0, z0 < 10 → SQ (856 + 5 * z0) := by unfold SQ; decide +kernel
theorem dX12_wish_47 : decode cX12_wish 47 = .ok (.aload_n 0, 1) := by decide +kernel
theorem dX12_wish_48 : decode cX12_wish 48 = .ok (.getfield 9, 3) := by decide +kernel
theorem dX12_wish_51 : decode cX12_wish 51 = .ok (.bipush 15, 2) := by decide +kernel
theorem dX12_wish_53 : decode cX12_wish 53 = .ok (.dup2, 1) := by decide +kernel
theorem dX12_wish_54 : decode cX12_wish 54 = .ok (.iaload, 1) := by decide +kernel
theorem dX12_wish_55 : decode cX12_wish 55 = .ok (.iconst 1, 1) := by decide +kernel
theorem dX12_wish_56 : decode cX12_wish 56 = .ok (.iadd, 1) := by decide +kernel
theorem dX12_wish_57 : decode cX12_wish 57 = .ok (.iastore, 1) := by decide +kernel
theorem dX12_wish_58 : decode cX12_wish 58 = .ok (.aload_n 0, 1) := by decide +kernel
theorem dX12_wish_59 : decode cX12_wish 59 = .ok (.getfield 9, 3) := by decide +kernel
theorem dX12_wish_62 : decode cX12_wish 62 = .ok (.bipush 15, 2) := by decide +kernel
theorem dX12_wish_64 : decode cX12_wish 64 = .ok (.iaload, 1) := by decide +kernel
theorem dX12_wish_65 : decode cX12_wish 65 = .ok (.iconst 1, 1) := by decide +kernel
theorem dX12_wish_66 : decode cX12_wish 66 = .ok (.isub, 1) := by decide +kernel
theorem dX12_wish_67 : decode cX12_wish 67 = .ok (.ireturn, 1) := by decide +kernel
theorem dX12_wish_27 : decode cX12_wish 27 = .ok (.bipush (-2), 2) := by decide +kernel
theorem dX12_wish_29 : decode cX12_wish 29 = .ok (.ireturn, 1) := by decide +kernel
theorem dX12_wish_12 : decode cX12_wish 12 = .ok (.bipush (-4), 2) := by decide +kernel
theorem dX12_wish_14 : decode cX12_wish 14 = .ok (.ireturn, 1) := by decide +kernel
set_option maxRecDepth 100000 in
set_option maxHeartbeats 4000000 in
theorem rX12_wish (l : Launch) (D : va_G) (Y : Nat → ClassId) (h0 : Nat) (h1 : Nat) (h2 : Nat) (h3 : Nat) (h4 : Nat) (h5 : Nat) (h6 : Nat) (p2 : Int32) (k5 : Nat) (k6 : Nat) (p7 : Int32) (p8 : Int32) (p9 : Int32) (k10 : Nat) (p11 : Int32) (q12 : Int64) (k15 : Nat) (k16 : Nat) (f0 : Nat → Int32) (f1 : Nat → Int32) (f3 : Nat → Int32) (f4 : Nat → Int32) (f13 : Nat → Int32) (f14 : Nat → Int32) (HI : INV f0) (HL : k5 ≤ 1600) (HP : PLV f13)   (sz : Nat) : Met l yX12_wish (WSm yX12_wish cX12_wish 1 (some .int)) (mkR 1 0 0 23) (PreC D Y [.ref h0] [(h0, oC 13 [.ref h1, .ref h2, .int p2, .ref h3, .ref h4, .int (nI k5), .int (nI k6), .int p7, .int p8, .int p9, .int (nI k10), .int p11, .long q12, .ref h5, .ref h6, .int (nI k15), .int (nI k16)]), (h1, aI Y 3640 f0), (h2, aZ Y 2 f1), (h3, aZ Y 80 f3), (h4, aB Y 1600 f4), (h5, aI Y 200 f13), (h6, aI Y 800 f14)] sz) (QI D (fun (r : Int32) (u : WU) => INV (u.2.2.2.1 0)) (fun (u : WU) => [(h0, oC 13 [.ref h1, .ref h2, .int (u.2.1 0), .ref h3, .ref h4, .int (nI k5), .int (nI k6), .int p7, .int p8, .int p9, .int (nI k10), .int p11, .long q12, .ref h5, .ref h6, .int (nI k15), .int (nI k16)]), (h1, aI Y 3640 (u.2.2.2.1 0)), (h2, aZ Y 2 f1), (h3, aZ Y 80 f3), (h4, aB Y 1600 f4), (h5, aI Y 200 f13), (h6, aI Y 800 f14)]) (va_A [(h0, oC 13 [.ref h1, .ref h2, .int p2, .ref h3, .ref h4, .int (nI k5), .int (nI k6), .int p7, .int p8, .int p9, .int (nI k10), .int p11, .long q12, .ref h5, .ref h6, .int (nI k15), .int (nI k16)]), (h1, aI Y 3640 f0), (h2, aZ Y 2 f1), (h3, aZ Y 80 f3), (h4, aB Y 1600 f4), (h5, aI Y 200 f13), (h6, aI Y 800 f14)] sz)) 0 0 (va_A [(h0, oC 13 [.ref h1, .ref h2, .int p2, .ref h3, .ref h4, .int (nI k5), .int (nI k6), .int p7, .int p8, .int p9, .int (nI k10), .int p11, .long q12, .ref h5, .ref h6, .int (nI k15), .int (nI k16)]), (h1, aI Y 3640 f0), (h2, aZ Y 2 f1), (h3, aZ Y 80 f3), (h4, aB Y 1600 f4), (h5, aI Y 200 f13), (h6, aI Y 800 f14)] sz) :=
  met_of (by decide +kernel) (Nat.le_of_ble_eq_true rfl) (fun p e s m args below meth c B hin hsz => by
    have B : VB p s m args meth c D Y (va_A [(h0, oC 13 [.ref h1, .ref h2, .int p2, .ref h3, .ref h4, .int (nI k5), .int (nI k6), .int p7, .int p8, .int p9, .int (nI k10), .int p11, .long q12, .ref h5, .ref h6, .int (nI k15), .int (nI k16)]), (h1, aI Y 3640 f0), (h2, aZ Y 2 f1), (h3, aZ Y 80 f3), (h4, aB Y 1600 f4), (h5, aI Y 200 f13), (h6, aI Y 800 f14)] sz) cX12_wish 1 RX12 (some .int) := B
    refine V_aload_n 0 B dX12_wish_0 0 rfl ?_
    refine V_iconst 1 B (v := 0) dX12_wish_1 (by decide +kernel) ?_
    refine V_put 2 B gp_RX12_38 0 rfl (Nat.le_of_ble_eq_true rfl) rfl rfl dX12_wish_2 [(h0, oC 13 [.ref h1, .ref h2, .int 0, .ref h3, .ref h4, .int (nI k5), .int (nI k6), .int p7, .int p8, .int p9, .int (nI k10), .int p11, .long q12, .ref h5, .ref h6, .int (nI k15), .int (nI k16)]), (h1, aI Y 3640 f0), (h2, aZ Y 2 f1), (h3, aZ Y 80 f3), (h4, aB Y 1600 f4), (h5, aI Y 200 f13), (h6, aI Y 800 f14)] rfl ?_
    refine V_aload_n 5 B dX12_wish_5 0 rfl ?_
    refine V_cvi 6 B (st := []) (As := []) (fun sz => rX12_hasNoDraft l D Y h0 h1 h2 h3 h4 h5 h6 0 k5 k6 p7 p8 p9 k10 p11 q12 k15 k16 f0 f1 f3 f4 f13 f14 HI (by omega) HP sz) glV_RX12_125 ⟨rfl, rfl⟩ ⟨(Nat.le_of_ble_eq_true rfl), (Nat.le_of_ble_eq_true rfl)⟩ ⟨(Nat.le_of_ble_eq_true rfl), (Nat.le_of_ble_eq_true rfl)⟩ [0, 0, 0, 0, 0, 0, 0] rfl 13 0 rfl rfl rfl rfl (Nat.le_of_ble_eq_true rfl) rfl (fun _ _ _ => rfl) dX12_wish_6 (fun j0 u1 w2 => ?_)
    refine V_ws [(h0, oC 13 [.ref h1, .ref h2, .int 0, .ref h3, .ref h4, .int (nI k5), .int (nI k6), .int p7, .int p8, .int p9, .int (nI k10), .int p11, .long q12, .ref h5, .ref h6, .int (nI k15), .int (nI k16)]), (h1, aI Y 3640 f0), (h2, aZ Y 2 f1), (h3, aZ Y 80 f3), (h4, aB Y 1600 f4), (h5, aI Y 200 f13), (h6, aI Y 800 f14)] rfl ?_
    have x3 := w2
    rcases x3 with rfl | rfl
    ·
      refine V_if_eq_t 9 B 15 dX12_wish_9 (by decide) (by decide +kernel) ?_
      refine V_aload_n 15 B dX12_wish_15 0 rfl ?_
      refine V_get 16 B gf_RX12_9 0 rfl rfl dX12_wish_16 ?_
      refine V_bipush 19 B (v := 15) dX12_wish_19 (by decide +kernel) ?_
      have x4 : (gN f0 15) ≤ 10 := gN_le HI (by omega) (show bd 15 = (0, ((10 : Nat) : Int)) by decide +kernel)
      refine V_iald 21 B (v := (nI (gN f0 15))) 1 rfl (vpin _ _ (by decide +kernel)) dX12_wish_21 (by show f0 15 = _; exact gN_eq HI (by omega) (show bd 15 = (0, ((10 : Nat) : Int)) by decide +kernel)) ?_
      refine V_bipush 22 B (v := 10) dX12_wish_22 (by decide +kernel) ?_
      refine V_icmp_ne 24 B 30 dX12_wish_24 (by decide) (fun kk5 => ?_) (fun kk5 => ?_)
      ·
        have x6 := n_ne (a := (gN f0 15)) (b := 10) kk5
        refine V_aload_n 30 B dX12_wish_30 0 rfl ?_
        refine V_sipush 31 B (v := 3624) dX12_wish_31 (by decide +kernel) ?_
        refine V_aload_n 34 B dX12_wish_34 0 rfl ?_
        refine V_get 35 B gf_RX12_9 0 rfl rfl dX12_wish_35 ?_
        refine V_bipush 38 B (v := 15) dX12_wish_38 (by decide +kernel) ?_
        have x7 : (gN f0 15) ≤ 10 := gN_le HI (by omega) (show bd 15 = (0, ((10 : Nat) : Int)) by decide +kernel)
        refine V_iald 40 B (v := (nI (gN f0 15))) 1 rfl (vpin _ _ (by decide +kernel)) dX12_wish_40 (by show f0 15 = _; exact gN_eq HI (by omega) (show bd 15 = (0, ((10 : Nat) : Int)) by decide +kernel)) ?_
        refine V_csi 41 B (st := [.int 3624, .ref h0]) (As := [.int (nI (gN f0 15))]) (fun sz => rX12_wishAt l D Y (gN f0 15) (by omega) sz) glS_RX12_231 ⟨rfl, rfl⟩ ⟨(Nat.le_of_ble_eq_true rfl), (Nat.le_of_ble_eq_true rfl)⟩ ⟨(Nat.le_of_ble_eq_true rfl), (Nat.le_of_ble_eq_true rfl)⟩ [] rfl rfl (Nat.le_of_ble_eq_true rfl) rfl (fun _ _ _ => rfl) dX12_wish_41 (fun j8 u9 w10 => ?_)
        refine V_ws [(h0, oC 13 [.ref h1, .ref h2, .int 0, .ref h3, .ref h4, .int (nI k5), .int (nI k6), .int p7, .int p8, .int p9, .int (nI k10), .int p11, .long q12, .ref h5, .ref h6, .int (nI k15), .int (nI k16)]), (h1, aI Y 3640 f0), (h2, aZ Y 2 f1), (h3, aZ Y 80 f3), (h4, aB Y 1600 f4), (h5, aI Y 200 f13), (h6, aI Y 800 f14)] rfl ?_
        have x11 := w10
        obtain rfl := x11
        refine V_cvv 44 B (st := []) (As := [.int 3624, .int (nI (856 + 5 * (gN f0 15)))]) (fun sz => rX12_copySequence l D Y h0 h1 h2 h3 h4 h5 h6 0 k5 k6 p7 p8 p9 k10 p11 q12 k15 k16 f0 f1 f3 f4 f13 f14 HI (by omega) HP 3624 (856 + 5 * (gN f0 15)) (show SQ 3624 by unfold SQ; decide +kernel) (rl17 (gN f0 15) (by omega)) sz) glV_RX12_88 ⟨rfl, rfl⟩ ⟨(Nat.le_of_ble_eq_true rfl), (Nat.le_of_ble_eq_true rfl)⟩ ⟨(Nat.le_of_ble_eq_true rfl), (Nat.le_of_ble_eq_true rfl)⟩ [0, 0, 0, 0, 0, 0, 0] rfl 13 0 rfl rfl rfl rfl (Nat.le_of_ble_eq_true rfl) rfl (fun _ _ => rfl) dX12_wish_44 (fun u13 w14 => ?_)
        refine V_ws [(h0, oC 13 [.ref h1, .ref h2, .int 0, .ref h3, .ref h4, .int (nI k5), .int (nI k6), .int p7, .int p8, .int p9, .int (nI k10), .int p11, .long q12, .ref h5, .ref h6, .int (nI k15), .int (nI k16)]), (h1, aI Y 3640 (u13.2.2.2.1 0)), (h2, aZ Y 2 f1), (h3, aZ Y 80 f3), (h4, aB Y 1600 f4), (h5, aI Y 200 f13), (h6, aI Y 800 f14)] rfl ?_
        obtain ⟨x15, x16⟩ := w14
        refine V_aload_n 47 B dX12_wish_47 0 rfl ?_
        refine V_get 48 B gf_RX12_9 0 rfl rfl dX12_wish_48 ?_
        refine V_bipush 51 B (v := 15) dX12_wish_51 (by decide +kernel) ?_
        refine V_dup2_11 53 B dX12_wish_53 rfl rfl ?_
        have x17 : (gN f0 15) ≤ 10 := gN_le HI (by omega) (show bd 15 = (0, ((10 : Nat) : Int)) by decide +kernel)
        refine V_iald 54 B (v := (nI (gN f0 15))) 1 rfl (vpin _ _ (by decide +kernel)) dX12_wish_54 (by show (u13.2.2.2.1 0) 15 = _; rw [x16 _ (by omega)]; exact gN_eq HI (by omega) (show bd 15 = (0, ((10 : Nat) : Int)) by decide +kernel)) ?_
        refine V_iconst 55 B (v := 1) dX12_wish_55 (by decide +kernel) ?_
        refine V_iadd 56 B (v := (nI (1 + (gN f0 15)))) dX12_wish_56 (nI_addE (a := (gN f0 15)) (b := 1) (by omega)) ?_
        have hv18 : INV (upd (u13.2.2.2.1 0) 15 (nI (1 + (gN f0 15)))) := INV_nat (v := 1 + (gN f0 15)) x15 (show bd 15 = (0, ((10 : Nat) : Int)) by decide +kernel) (by omega) (by decide)
        refine V_iast 57 B 1 rfl (vpin _ _ (by decide +kernel)) dX12_wish_57 [(h0, oC 13 [.ref h1, .ref h2, .int 0, .ref h3, .ref h4, .int (nI k5), .int (nI k6), .int p7, .int p8, .int p9, .int (nI k10), .int p11, .long q12, .ref h5, .ref h6, .int (nI k15), .int (nI k16)]), (h1, aI Y 3640 (upd (u13.2.2.2.1 0) 15 (nI (1 + (gN f0 15))))), (h2, aZ Y 2 f1), (h3, aZ Y 80 f3), (h4, aB Y 1600 f4), (h5, aI Y 200 f13), (h6, aI Y 800 f14)] rfl ?_
        refine V_aload_n 58 B dX12_wish_58 0 rfl ?_
        refine V_get 59 B gf_RX12_9 0 rfl rfl dX12_wish_59 ?_
        refine V_bipush 62 B (v := 15) dX12_wish_62 (by decide +kernel) ?_
        refine V_iald 64 B (v := (nI (1 + (gN f0 15)))) 1 rfl (vpin _ _ (by decide +kernel)) dX12_wish_64 (by show (upd (u13.2.2.2.1 0) 15 (nI (1 + (gN f0 15)))) 15 = _; exact upd_at) ?_
        refine V_iconst 65 B (v := 1) dX12_wish_65 (by decide +kernel) ?_
        refine V_isub 66 B (v := (nI (gN f0 15))) dX12_wish_66 (nI_subE (a := 1 + (gN f0 15)) (b := 1) (by omega)) ?_
        exact V_iret 67 B dX12_wish_67 (mkW [] [0] [] [(upd (u13.2.2.2.1 0) 15 (nI (1 + (gN f0 15))))] [] []) hv18 rfl
      ·
        have x19 := n_eq (a := (gN f0 15)) (b := 10) kk5 (by omega) (by omega)
        refine V_bipush 27 B (v := (-2)) dX12_wish_27 (by decide +kernel) ?_
        exact V_iret 29 B dX12_wish_29 (mkW [] [0] [] [f0] [] []) HI rfl
    ·
      refine V_if_eq_f 9 B 15 dX12_wish_9 (by decide) (by decide +kernel) ?_
      refine V_bipush 12 B (v := (-4)) dX12_wish_12 (by decide +kernel) ?_
      exact V_iret 14 B dX12_wish_14 (mkW [] [0] [] [f0] [] []) HI rfl)
theorem dX12_clearWishes_0 : decode cX12_clearWishes 0 = .ok (.aload_n 0, 1) := by decide +kernel
theorem dX12_clearWishes_1 : decode cX12_clearWishes 1 = .ok (.iconst 0, 1) := by decide +kernel
theorem dX12_clearWishes_2 : decode cX12_clearWishes 2 = .ok (.putfield 38, 3) := by decide +kernel
theorem dX12_clearWishes_5 : decode cX12_clearWishes 5 = .ok (.aload_n 0, 1) := by decide +kernel
theorem dX12_clearWishes_6 : decode cX12_clearWishes 6 = .ok (.getfield 9, 3) := by decide +kernel
theorem dX12_clearWishes_9 : decode cX12_clearWishes 9 = .ok (.bipush 15, 2) := by decide +kernel
theorem dX12_clearWishes_11 : decode cX12_clearWishes 11 = .ok (.iaload, 1) := by decide +kernel
theorem dX12_clearWishes_12 : decode cX12_clearWishes 12 = .ok (.istore_n 1, 1) := by decide +kernel
theorem dX12_clearWishes_13 : decode cX12_clearWishes 13 = .ok (.aload_n 0, 1) := by decide +kernel
theorem dX12_clearWishes_14 : decode cX12_clearWishes 14 = .ok (.getfield 9, 3) := by decide +kernel
theorem dX12_clearWishes_17 : decode cX12_clearWishes 17 = .ok (.bipush 15, 2) := by decide +kernel
theorem dX12_clearWishes_19 : decode cX12_clearWishes 19 = .ok (.iconst 0, 1) := by decide +kernel
theorem dX12_clearWishes_20 : decode cX12_clearWishes 20 = .ok (.iastore, 1) := by decide +kernel
theorem dX12_clearWishes_21 : decode cX12_clearWishes 21 = .ok (.iload_n 1, 1) := by decide +kernel
theorem dX12_clearWishes_22 : decode cX12_clearWishes 22 = .ok (.ireturn, 1) := by decide +kernel
set_option maxRecDepth 100000 in
set_option maxHeartbeats 4000000 in
theorem rX12_clearWishes (l : Launch) (D : va_G) (Y : Nat → ClassId) (h0 : Nat) (h1 : Nat) (h2 : Nat) (h3 : Nat) (h4 : Nat) (h5 : Nat) (h6 : Nat) (p2 : Int32) (k5 : Nat) (k6 : Nat) (p7 : Int32) (p8 : Int32) (p9 : Int32) (k10 : Nat) (p11 : Int32) (q12 : Int64) (k15 : Nat) (k16 : Nat) (f0 : Nat → Int32) (f1 : Nat → Int32) (f3 : Nat → Int32) (f4 : Nat → Int32) (f13 : Nat → Int32) (f14 : Nat → Int32) (HI : INV f0) (HL : k5 ≤ 1600) (HP : PLV f13)   (sz : Nat) : Met l yX12_clearWishes (WSm yX12_clearWishes cX12_clearWishes 2 (some .int)) (mkR 0 0 0 0) (PreC D Y [.ref h0] [(h0, oC 13 [.ref h1, .ref h2, .int p2, .ref h3, .ref h4, .int (nI k5), .int (nI k6), .int p7, .int p8, .int p9, .int (nI k10), .int p11, .long q12, .ref h5, .ref h6, .int (nI k15), .int (nI k16)]), (h1, aI Y 3640 f0), (h2, aZ Y 2 f1), (h3, aZ Y 80 f3), (h4, aB Y 1600 f4), (h5, aI Y 200 f13), (h6, aI Y 800 f14)] sz) (QI D (fun (r : Int32) (u : WU) => INV (u.2.2.2.1 0)) (fun (u : WU) => [(h0, oC 13 [.ref h1, .ref h2, .int (u.2.1 0), .ref h3, .ref h4, .int (nI k5), .int (nI k6), .int p7, .int p8, .int p9, .int (nI k10), .int p11, .long q12, .ref h5, .ref h6, .int (nI k15), .int (nI k16)]), (h1, aI Y 3640 (u.2.2.2.1 0)), (h2, aZ Y 2 f1), (h3, aZ Y 80 f3), (h4, aB Y 1600 f4), (h5, aI Y 200 f13), (h6, aI Y 800 f14)]) (va_A [(h0, oC 13 [.ref h1, .ref h2, .int p2, .ref h3, .ref h4, .int (nI k5), .int (nI k6), .int p7, .int p8, .int p9, .int (nI k10), .int p11, .long q12, .ref h5, .ref h6, .int (nI k15), .int (nI k16)]), (h1, aI Y 3640 f0), (h2, aZ Y 2 f1), (h3, aZ Y 80 f3), (h4, aB Y 1600 f4), (h5, aI Y 200 f13), (h6, aI Y 800 f14)] sz)) 0 0 (va_A [(h0, oC 13 [.ref h1, .ref h2, .int p2, .ref h3, .ref h4, .int (nI k5), .int (nI k6), .int p7, .int p8, .int p9, .int (nI k10), .int p11, .long q12, .ref h5, .ref h6, .int (nI k15), .int (nI k16)]), (h1, aI Y 3640 f0), (h2, aZ Y 2 f1), (h3, aZ Y 80 f3), (h4, aB Y 1600 f4), (h5, aI Y 200 f13), (h6, aI Y 800 f14)] sz) :=
  met_of (by decide +kernel) (Nat.le_of_ble_eq_true rfl) (fun p e s m args below meth c B hin hsz => by
    have B : VB p s m args meth c D Y (va_A [(h0, oC 13 [.ref h1, .ref h2, .int p2, .ref h3, .ref h4, .int (nI k5), .int (nI k6), .int p7, .int p8, .int p9, .int (nI k10), .int p11, .long q12, .ref h5, .ref h6, .int (nI k15), .int (nI k16)]), (h1, aI Y 3640 f0), (h2, aZ Y 2 f1), (h3, aZ Y 80 f3), (h4, aB Y 1600 f4), (h5, aI Y 200 f13), (h6, aI Y 800 f14)] sz) cX12_clearWishes 2 RX12 (some .int) := B
    refine V_aload_n 0 B dX12_clearWishes_0 0 rfl ?_
    refine V_iconst 1 B (v := 0) dX12_clearWishes_1 (by decide +kernel) ?_
    refine V_put 2 B gp_RX12_38 0 rfl (Nat.le_of_ble_eq_true rfl) rfl rfl dX12_clearWishes_2 [(h0, oC 13 [.ref h1, .ref h2, .int 0, .ref h3, .ref h4, .int (nI k5), .int (nI k6), .int p7, .int p8, .int p9, .int (nI k10), .int p11, .long q12, .ref h5, .ref h6, .int (nI k15), .int (nI k16)]), (h1, aI Y 3640 f0), (h2, aZ Y 2 f1), (h3, aZ Y 80 f3), (h4, aB Y 1600 f4), (h5, aI Y 200 f13), (h6, aI Y 800 f14)] rfl ?_
    refine V_aload_n 5 B dX12_clearWishes_5 0 rfl ?_
    refine V_get 6 B gf_RX12_9 0 rfl rfl dX12_clearWishes_6 ?_
    refine V_bipush 9 B (v := 15) dX12_clearWishes_9 (by decide +kernel) ?_
    have x0 : (gN f0 15) ≤ 10 := gN_le HI (by omega) (show bd 15 = (0, ((10 : Nat) : Int)) by decide +kernel)
    refine V_iald 11 B (v := (nI (gN f0 15))) 1 rfl (vpin _ _ (by decide +kernel)) dX12_clearWishes_11 (by show f0 15 = _; exact gN_eq HI (by omega) (show bd 15 = (0, ((10 : Nat) : Int)) by decide +kernel)) ?_
    refine V_istore_n 12 B (lv2 := [(1, .int (nI (gN f0 15))), (0, .ref h0)]) dX12_clearWishes_12 (by decide) rfl ?_
    refine V_aload_n 13 B dX12_clearWishes_13 1 rfl ?_
    refine V_get 14 B gf_RX12_9 0 rfl rfl dX12_clearWishes_14 ?_
    refine V_bipush 17 B (v := 15) dX12_clearWishes_17 (by decide +kernel) ?_
    refine V_iconst 19 B (v := 0) dX12_clearWishes_19 (by decide +kernel) ?_
    have hv1 : INV (upd f0 15 0) := INV_nat (v := 0) HI (show bd 15 = (0, ((10 : Nat) : Int)) by decide +kernel) (by omega) (by decide)
    refine V_iast 20 B 1 rfl (vpin _ _ (by decide +kernel)) dX12_clearWishes_20 [(h0, oC 13 [.ref h1, .ref h2, .int 0, .ref h3, .ref h4, .int (nI k5), .int (nI k6), .int p7, .int p8, .int p9, .int (nI k10), .int p11, .long q12, .ref h5, .ref h6, .int (nI k15), .int (nI k16)]), (h1, aI Y 3640 (upd f0 15 0)), (h2, aZ Y 2 f1), (h3, aZ Y 80 f3), (h4, aB Y 1600 f4), (h5, aI Y 200 f13), (h6, aI Y 800 f14)] rfl ?_
    refine V_iload_n 21 B dX12_clearWishes_21 0 rfl ?_
    exact V_iret 22 B dX12_clearWishes_22 (mkW [] [0] [] [(upd f0 15 0)] [] []) hv1 rfl)
theorem dX12_bitsOf_0 : decode cX12_bitsOf 0 = .ok (.iconst 0, 1) := by decide +kernel
theorem dX12_bitsOf_1 : decode cX12_bitsOf 1 = .ok (.istore_n 1, 1) := by decide +kernel
theorem dX12_bitsOf_2 : decode cX12_bitsOf 2 = .ok (.iload_n 0, 1) := by decide +kernel
theorem dX12_bitsOf_3 : decode cX12_bitsOf 3 = .ok (.istore_n 2, 1) := by decide +kernel
theorem dX12_bitsOf_4 : decode cX12_bitsOf 4 = .ok (.iload_n 2, 1) := by decide +kernel
theorem dX12_bitsOf_5 : decode cX12_bitsOf 5 = .ok (.ifCond .le 16, 3) := by decide +kernel
theorem dX12_bitsOf_21 : decode cX12_bitsOf 21 = .ok (.iload_n 1, 1) := by decide +kernel
theorem dX12_bitsOf_22 : decode cX12_bitsOf 22 = .ok (.ireturn, 1) := by decide +kernel
theorem dX12_bitsOf_8 : decode cX12_bitsOf 8 = .ok (.iload_n 1, 1) := by decide +kernel
theorem dX12_bitsOf_9 : decode cX12_bitsOf 9 = .ok (.iload_n 2, 1) := by decide +kernel
theorem dX12_bitsOf_10 : decode cX12_bitsOf 10 = .ok (.iconst 2, 1) := by decide +kernel
theorem dX12_bitsOf_11 : decode cX12_bitsOf 11 = .ok (.irem, 1) := by decide +kernel
theorem dX12_bitsOf_12 : decode cX12_bitsOf 12 = .ok (.iadd, 1) := by decide +kernel
theorem dX12_bitsOf_13 : decode cX12_bitsOf 13 = .ok (.istore_n 1, 1) := by decide +kernel
theorem dX12_bitsOf_14 : decode cX12_bitsOf 14 = .ok (.iload_n 2, 1) := by decide +kernel
theorem dX12_bitsOf_15 : decode cX12_bitsOf 15 = .ok (.iconst 2, 1) := by decide +kernel
theorem dX12_bitsOf_16 : decode cX12_bitsOf 16 = .ok (.idiv, 1) := by decide +kernel
theorem dX12_bitsOf_17 : decode cX12_bitsOf 17 = .ok (.istore_n 2, 1) := by decide +kernel
theorem dX12_bitsOf_18 : decode cX12_bitsOf 18 = .ok (.goto (-14), 3) := by decide +kernel
set_option maxRecDepth 100000 in
set_option maxHeartbeats 4000000 in
theorem rX12_bitsOf (l : Launch) (D : va_G) (Y : Nat → ClassId)  (s0 : Int32)  (sz : Nat) : Met l yX12_bitsOf (WSm yX12_bitsOf cX12_bitsOf 3 (some .int)) (mkR 0 0 0 0) (PreC D Y [.int s0] [] sz) (QI D (fun (r : Int32) (u : WU) => True) (fun (u : WU) => []) (va_A [] sz)) 0 0 (va_A [] sz) :=
  met_of (by decide +kernel) (Nat.le_of_ble_eq_true rfl) (fun p e s m args below meth c B hin hsz => by
    have B : VB p s m args meth c D Y (va_A [] sz) cX12_bitsOf 3 RX12 (some .int) := B
    refine V_iconst 0 B (v := 0) dX12_bitsOf_0 (by decide +kernel) ?_
    refine V_istore_n 1 B (lv2 := [(1, .int 0), (0, .int s0)]) dX12_bitsOf_1 (by decide) rfl ?_
    refine V_iload_n 2 B dX12_bitsOf_2 1 rfl ?_
    refine V_istore_n 3 B (lv2 := [(2, .int s0), (1, .int 0), (0, .int s0)]) dX12_bitsOf_3 (by decide) rfl ?_
    refine V_wloop (α := WU) (fun a => ((a.2.1 0)).toInt.toNat) (fun a => True) (fun a => [(2, .int (a.2.1 0)), (1, .int (a.2.1 1)), (0, .int s0)]) (fun a => []) (mkW [] [s0, 0] [] [] [] []) trivial rfl rfl (fun a0 hI2 IH1 => ?_)
    refine V_lv [(2, .int (a0.2.1 0)), (1, .int (a0.2.1 1)), (0, .int s0)] [0, 1, 2] rfl ?_
    refine V_iload_n 4 B dX12_bitsOf_4 0 rfl ?_
    refine V_if_le 5 B 21 dX12_bitsOf_5 (by decide) (fun kk3 => ?_) (fun kk3 => ?_)
    ·
      have x4 := x_le kk3
      rw [show (0 : Int32).toInt = 0 by decide +kernel] at x4
      refine V_iload_n 21 B dX12_bitsOf_21 1 rfl ?_
      exact V_iret 22 B dX12_bitsOf_22 (mkW [] [] [] [] [] []) trivial rfl
    ·
      have x5 := x_nle kk3
      rw [show (0 : Int32).toInt = 0 by decide +kernel] at x5
      refine V_iload_n 8 B dX12_bitsOf_8 1 rfl ?_
      refine V_iload_n 9 B dX12_bitsOf_9 0 rfl ?_
      refine V_iconst 10 B (v := 2) dX12_bitsOf_10 (by decide +kernel) ?_
      refine V_irem 11 B dX12_bitsOf_11 (by decide +kernel) rfl ?_
      refine V_nmi (fun j6 e7 => ?_)
      refine V_iadd 12 B dX12_bitsOf_12 rfl ?_
      refine V_nmi (fun j8 e9 => ?_)
      refine V_istore_n 13 B (lv2 := [(1, .int j8), (2, .int (a0.2.1 0)), (0, .int s0)]) dX12_bitsOf_13 (by decide) rfl ?_
      refine V_iload_n 14 B dX12_bitsOf_14 1 rfl ?_
      refine V_iconst 15 B (v := 2) dX12_bitsOf_15 (by decide +kernel) ?_
      refine V_idiv 16 B dX12_bitsOf_16 (by decide +kernel) rfl ?_
      refine V_nmi (fun j10 e11 => ?_)
      have x12 : 0 ≤ j10.toInt ∧ j10.toInt < (a0.2.1 0).toInt := by rw [e11]; exact half_dec (by omega)
      refine V_istore_n 17 B (lv2 := [(2, .int j10), (1, .int j8), (0, .int s0)]) dX12_bitsOf_17 (by decide) rfl ?_
      refine V_goto 18 B 4 dX12_bitsOf_18 (by decide) ?_
      refine V_lv [(2, .int j10), (1, .int j8), (0, .int s0)] [0, 1, 2] rfl ?_
      exact IH1 (mkW [] [j10, j8] [] [] [] []) trivial (by show (j10).toInt.toNat < _; omega))
theorem dX12_doFit_0 : decode cX12_doFit 0 = .ok (.iconst 0, 1) := by decide +kernel
theorem dX12_doFit_1 : decode cX12_doFit 1 = .ok (.istore_n 3, 1) := by decide +kernel
theorem dX12_doFit_2 : decode cX12_doFit 2 = .ok (.iload_n 3, 1) := by decide +kernel
theorem dX12_doFit_3 : decode cX12_doFit 3 = .ok (.aload_n 0, 1) := by decide +kernel
theorem dX12_doFit_4 : decode cX12_doFit 4 = .ok (.getfield 9, 3) := by decide +kernel
theorem dX12_doFit_7 : decode cX12_doFit 7 = .ok (.bipush 15, 2) := by decide +kernel
theorem dX12_doFit_9 : decode cX12_doFit 9 = .ok (.iaload, 1) := by decide +kernel
theorem dX12_doFit_10 : decode cX12_doFit 10 = .ok (.if_icmp .ge 77, 3) := by decide +kernel
theorem dX12_doFit_87 : decode cX12_doFit 87 = .ok (.iconst 1, 1) := by decide +kernel
theorem dX12_doFit_88 : decode cX12_doFit 88 = .ok (.ireturn, 1) := by decide +kernel
theorem dX12_doFit_13 : decode cX12_doFit 13 = .ok (.iload_n 2, 1) := by decide +kernel
theorem dX12_doFit_14 : decode cX12_doFit 14 = .ok (.iload_n 3, 1) := by decide +kernel
theorem dX12_doFit_15 : decode cX12_doFit 15 = .ok (.ishr, 1) := by decide +kernel
theorem dX12_doFit_16 : decode cX12_doFit 16 = .ok (.iconst 1, 1) := by decide +kernel
theorem dX12_doFit_17 : decode cX12_doFit 17 = .ok (.iand, 1) := by decide +kernel
theorem dX12_doFit_18 : decode cX12_doFit 18 = .ok (.iconst 1, 1) := by decide +kernel
theorem dX12_doFit_19 : decode cX12_doFit 19 = .ok (.if_icmp .ne 6, 3) := by decide +kernel
theorem dX12_doFit_25 : decode cX12_doFit 25 = .ok (.aload_n 0, 1) := by decide +kernel
theorem dX12_doFit_26 : decode cX12_doFit 26 = .ok (.iload_n 1, 1) := by decide +kernel
theorem dX12_doFit_27 : decode cX12_doFit 27 = .ok (.iload_n 3, 1) := by decide +kernel
theorem dX12_doFit_28 : decode cX12_doFit 28 = .ok (.invokestatic 231, 3) := by decide +kernel
theorem dX12_doFit_31 : decode cX12_doFit 31 = .ok (.invokevirtual 129, 3) := by decide +kernel
theorem dX12_doFit_34 : decode cX12_doFit 34 = .ok (.ifCond .ne 5, 3) := by decide +kernel
theorem dX12_doFit_37 : decode cX12_doFit 37 = .ok (.iconst 0, 1) := by decide +kernel
theorem dX12_doFit_38 : decode cX12_doFit 38 = .ok (.ireturn, 1) := by decide +kernel
theorem dX12_doFit_39 : decode cX12_doFit 39 = .ok (.iconst 0, 1) := by decide +kernel
theorem dX12_doFit_40 : decode cX12_doFit 40 = .ok (.istore 4, 2) := by decide +kernel
theorem dX12_doFit_42 : decode cX12_doFit 42 = .ok (.iload 4, 2) := by decide +kernel
theorem dX12_doFit_44 : decode cX12_doFit 44 = .ok (.iload_n 3, 1) := by decide +kernel
theorem dX12_doFit_45 : decode cX12_doFit 45 = .ok (.if_icmp .ge 36, 3) := by decide +kernel
theorem dX12_doFit_81 : decode cX12_doFit 81 = .ok (.iinc 3 1, 3) := by decide +kernel
theorem dX12_doFit_84 : decode cX12_doFit 84 = .ok (.goto (-82), 3) := by decide +kernel
theorem dX12_doFit_48 : decode cX12_doFit 48 = .ok (.iload_n 2, 1) := by decide +kernel
theorem dX12_doFit_49 : decode cX12_doFit 49 = .ok (.iload 4, 2) := by decide +kernel
theorem dX12_doFit_51 : decode cX12_doFit 51 = .ok (.ishr, 1) := by decide +kernel
theorem dX12_doFit_52 : decode cX12_doFit 52 = .ok (.iconst 1, 1) := by decide +kernel
theorem dX12_doFit_53 : decode cX12_doFit 53 = .ok (.iand, 1) := by decide +kernel
theorem dX12_doFit_54 : decode cX12_doFit 54 = .ok (.ifCond .ne 21, 3) := by decide +kernel
theorem dX12_doFit_75 : decode cX12_doFit 75 = .ok (.iinc 4 1, 3) := by decide +kernel
theorem dX12_doFit_78 : decode cX12_doFit 78 = .ok (.goto (-36), 3) := by decide +kernel
theorem dX12_doFit_57 : decode cX12_doFit 57 = .ok (.aload_n 0, 1) := by decide +kernel
theorem dX12_doFit_58 : decode cX12_doFit 58 = .ok (.iload 4, 2) := by decide +kernel
theorem dX12_doFit_60 : decode cX12_doFit 60 = .ok (.invokestatic 231, 3) := by decide +kernel
theorem dX12_doFit_63 : decode cX12_doFit 63 = .ok (.iload_n 3, 1) := by decide +kernel
theorem dX12_doFit_64 : decode cX12_doFit 64 = .ok (.invokestatic 231, 3) := by decide +kernel
theorem dX12_doFit_67 : decode cX12_doFit 67 = .ok (.invokevirtual 111, 3) := by decide +kernel
theorem rl18 : ∀ z0, z0 < 9 → SQ (856 + 5 * z0) := by unfold SQ; decide +kernel
theorem dX12_doFit_70 : decode cX12_doFit 70 = .ok (.ifCond .eq 5, 3) := by decide +kernel
theorem dX12_doFit_73 : decode cX12_doFit 73 = .ok (.iconst 0, 1) := by decide +kernel
theorem dX12_doFit_74 : decode cX12_doFit 74 = .ok (.ireturn, 1) := by decide +kernel
theorem dX12_doFit_22 : decode cX12_doFit 22 = .ok (.goto 59, 3) := by decide +kernel
set_option maxRecDepth 100000 in
set_option maxHeartbeats 4000000 in
theorem rX12_doFit (l : Launch) (D : va_G) (Y : Nat → ClassId) (h0 : Nat) (h1 : Nat) (h2 : Nat) (h3 : Nat) (h4 : Nat) (h5 : Nat) (h6 : Nat) (p2 : Int32) (k5 : Nat) (k6 : Nat) (p7 : Int32) (p8 : Int32) (p9 : Int32) (k10 : Nat) (p11 : Int32) (q12 : Int64) (k15 : Nat) (k16 : Nat) (f0 : Nat → Int32) (f1 : Nat → Int32) (f3 : Nat → Int32) (f4 : Nat → Int32) (f13 : Nat → Int32) (f14 : Nat → Int32) (HI : INV f0) (HL : k5 ≤ 1600) (HP : PLV f13) (s0 : Int32) (s1 : Int32)  (sz : Nat) : Met l yX12_doFit (WSm yX12_doFit cX12_doFit 5 (some .boolean)) (mkR 5 0 0 112) (PreC D Y [.ref h0, .int s0, .int s1] [(h0, oC 13 [.ref h1, .ref h2, .int p2, .ref h3, .ref h4, .int (nI k5), .int (nI k6), .int p7, .int p8, .int p9, .int (nI k10), .int p11, .long q12, .ref h5, .ref h6, .int (nI k15), .int (nI k16)]), (h1, aI Y 3640 f0), (h2, aZ Y 2 f1), (h3, aZ Y 80 f3), (h4, aB Y 1600 f4), (h5, aI Y 200 f13), (h6, aI Y 800 f14)] sz) (QI D (fun (r : Int32) (u : WU) => (r = 0 ∨ r = 1)) (fun (u : WU) => [(h0, oC 13 [.ref h1, .ref h2, .int p2, .ref h3, .ref h4, .int (nI k5), .int (nI k6), .int p7, .int p8, .int p9, .int (nI k10), .int p11, .long q12, .ref h5, .ref h6, .int (nI k15), .int (nI k16)]), (h1, aI Y 3640 f0), (h2, aZ Y 2 f1), (h3, aZ Y 80 f3), (h4, aB Y 1600 f4), (h5, aI Y 200 f13), (h6, aI Y 800 f14)]) (va_A [(h0, oC 13 [.ref h1, .ref h2, .int p2, .ref h3, .ref h4, .int (nI k5), .int (nI k6), .int p7, .int p8, .int p9, .int (nI k10), .int p11, .long q12, .ref h5, .ref h6, .int (nI k15), .int (nI k16)]), (h1, aI Y 3640 f0), (h2, aZ Y 2 f1), (h3, aZ Y 80 f3), (h4, aB Y 1600 f4), (h5, aI Y 200 f13), (h6, aI Y 800 f14)] sz)) 0 0 (va_A [(h0, oC 13 [.ref h1, .ref h2, .int p2, .ref h3, .ref h4, .int (nI k5), .int (nI k6), .int p7, .int p8, .int p9, .int (nI k10), .int p11, .long q12, .ref h5, .ref h6, .int (nI k15), .int (nI k16)]), (h1, aI Y 3640 f0), (h2, aZ Y 2 f1), (h3, aZ Y 80 f3), (h4, aB Y 1600 f4), (h5, aI Y 200 f13), (h6, aI Y 800 f14)] sz) :=
  met_of (by decide +kernel) (Nat.le_of_ble_eq_true rfl) (fun p e s m args below meth c B hin hsz => by
    have B : VB p s m args meth c D Y (va_A [(h0, oC 13 [.ref h1, .ref h2, .int p2, .ref h3, .ref h4, .int (nI k5), .int (nI k6), .int p7, .int p8, .int p9, .int (nI k10), .int p11, .long q12, .ref h5, .ref h6, .int (nI k15), .int (nI k16)]), (h1, aI Y 3640 f0), (h2, aZ Y 2 f1), (h3, aZ Y 80 f3), (h4, aB Y 1600 f4), (h5, aI Y 200 f13), (h6, aI Y 800 f14)] sz) cX12_doFit 5 RX12 (some .boolean) := B
    refine V_iconst 0 B (v := 0) dX12_doFit_0 (by decide +kernel) ?_
    refine V_istore_n 1 B (lv2 := [(3, .int 0), (0, .ref h0), (1, .int s0), (2, .int s1)]) dX12_doFit_1 (by decide) rfl ?_
    refine V_wloop (α := WU) (fun a => 100000 - (a.1 0)) (fun a => (a.1 0) ≤ 4000) (fun a => [(3, .int (nI (a.1 0))), (0, .ref h0), (1, .int s0), (2, .int s1)]) (fun a => [(h0, oC 13 [.ref h1, .ref h2, .int p2, .ref h3, .ref h4, .int (nI k5), .int (nI k6), .int p7, .int p8, .int p9, .int (nI k10), .int p11, .long q12, .ref h5, .ref h6, .int (nI k15), .int (nI k16)]), (h1, aI Y 3640 f0), (h2, aZ Y 2 f1), (h3, aZ Y 80 f3), (h4, aB Y 1600 f4), (h5, aI Y 200 f13), (h6, aI Y 800 f14)]) (mkW [0] [] [] [] [] []) (show 0 ≤ 4000 by omega) rfl rfl (fun a0 hI2 IH1 => ?_)
    refine V_lv [(3, .int (nI (a0.1 0))), (0, .ref h0), (1, .int s0), (2, .int s1)] [0, 1, 2, 3] rfl ?_
    refine V_ws [(h0, oC 13 [.ref h1, .ref h2, .int p2, .ref h3, .ref h4, .int (nI k5), .int (nI k6), .int p7, .int p8, .int p9, .int (nI k10), .int p11, .long q12, .ref h5, .ref h6, .int (nI k15), .int (nI k16)]), (h1, aI Y 3640 f0), (h2, aZ Y 2 f1), (h3, aZ Y 80 f3), (h4, aB Y 1600 f4), (h5, aI Y 200 f13), (h6, aI Y 800 f14)] rfl ?_
    have x3 := hI2
    refine V_iload_n 2 B dX12_doFit_2 0 rfl ?_
    refine V_aload_n 3 B dX12_doFit_3 1 rfl ?_
    refine V_get 4 B gf_RX12_9 0 rfl rfl dX12_doFit_4 ?_
    refine V_bipush 7 B (v := 15) dX12_doFit_7 (by decide +kernel) ?_
    have x4 : (gN f0 15) ≤ 10 := gN_le HI (by omega) (show bd 15 = (0, ((10 : Nat) : Int)) by decide +kernel)
    refine V_iald 9 B (v := (nI (gN f0 15))) 1 rfl (vpin _ _ (by decide +kernel)) dX12_doFit_9 (by show f0 15 = _; exact gN_eq HI (by omega) (show bd 15 = (0, ((10 : Nat) : Int)) by decide +kernel)) ?_
    refine V_icmp_ge 10 B 87 dX12_doFit_10 (by decide) (fun kk5 => ?_) (fun kk5 => ?_)
    ·
      have x6 := n_le (a := (gN f0 15)) (b := (a0.1 0)) kk5 (by omega) (by omega)
      refine V_iconst 87 B (v := 1) dX12_doFit_87 (by decide +kernel) ?_
      exact V_zret 88 B rfl dX12_doFit_88 (mkW [] [] [] [] [] []) (Or.inr rfl) rfl
    ·
      have x7 := n_nle (a := (gN f0 15)) (b := (a0.1 0)) kk5 (by omega) (by omega)
      refine V_iload_n 13 B dX12_doFit_13 3 rfl ?_
      refine V_iload_n 14 B dX12_doFit_14 0 rfl ?_
      refine V_ishr 15 B dX12_doFit_15 rfl ?_
      refine V_nmi (fun j8 _ => ?_)
      refine V_iconst 16 B (v := 1) dX12_doFit_16 (by decide +kernel) ?_
      refine V_iand 17 B dX12_doFit_17 rfl ?_
      refine V_nmi (fun j9 e10 => ?_)
      refine V_iconst 18 B (v := 1) dX12_doFit_18 (by decide +kernel) ?_
      refine V_icmp_ne 19 B 25 dX12_doFit_19 (by decide) (fun kk11 => ?_) (fun kk11 => ?_)
      ·
        have x12 := x_ne kk11
        rw [show (1 : Int32).toInt = 1 by decide +kernel] at x12
        refine V_aload_n 25 B dX12_doFit_25 1 rfl ?_
        refine V_iload_n 26 B dX12_doFit_26 2 rfl ?_
        refine V_iload_n 27 B dX12_doFit_27 0 rfl ?_
        refine V_csi 28 B (st := [.int s0, .ref h0]) (As := [.int (nI (a0.1 0))]) (fun sz => rX12_wishAt l D Y (a0.1 0) (by omega) sz) glS_RX12_231 ⟨rfl, rfl⟩ ⟨(Nat.le_of_ble_eq_true rfl), (Nat.le_of_ble_eq_true rfl)⟩ ⟨(Nat.le_of_ble_eq_true rfl), (Nat.le_of_ble_eq_true rfl)⟩ [] rfl rfl (Nat.le_of_ble_eq_true rfl) rfl (fun _ _ _ => rfl) dX12_doFit_28 (fun j13 u14 w15 => ?_)
        refine V_ws [(h0, oC 13 [.ref h1, .ref h2, .int p2, .ref h3, .ref h4, .int (nI k5), .int (nI k6), .int p7, .int p8, .int p9, .int (nI k10), .int p11, .long q12, .ref h5, .ref h6, .int (nI k15), .int (nI k16)]), (h1, aI Y 3640 f0), (h2, aZ Y 2 f1), (h3, aZ Y 80 f3), (h4, aB Y 1600 f4), (h5, aI Y 200 f13), (h6, aI Y 800 f14)] rfl ?_
        have x16 := w15
        obtain rfl := x16
        refine V_cvi 31 B (st := []) (As := [.int s0, .int (nI (856 + 5 * (a0.1 0)))]) (fun sz => rX12_canBind l D Y h0 h1 h2 h3 h4 h5 h6 p2 k5 k6 p7 p8 p9 k10 p11 q12 k15 k16 f0 f1 f3 f4 f13 f14 HI (by omega) HP s0 (856 + 5 * (a0.1 0)) (rl17 (a0.1 0) (by omega)) sz) glV_RX12_129 ⟨rfl, rfl⟩ ⟨(Nat.le_of_ble_eq_true rfl), (Nat.le_of_ble_eq_true rfl)⟩ ⟨(Nat.le_of_ble_eq_true rfl), (Nat.le_of_ble_eq_true rfl)⟩ [0, 0, 0, 0, 0, 0, 0] rfl 13 0 rfl rfl rfl rfl (Nat.le_of_ble_eq_true rfl) rfl (fun _ _ _ => rfl) dX12_doFit_31 (fun j17 u18 w19 => ?_)
        refine V_ws [(h0, oC 13 [.ref h1, .ref h2, .int p2, .ref h3, .ref h4, .int (nI k5), .int (nI k6), .int p7, .int p8, .int p9, .int (nI k10), .int p11, .long q12, .ref h5, .ref h6, .int (nI k15), .int (nI k16)]), (h1, aI Y 3640 f0), (h2, aZ Y 2 f1), (h3, aZ Y 80 f3), (h4, aB Y 1600 f4), (h5, aI Y 200 f13), (h6, aI Y 800 f14)] rfl ?_
        have x20 := w19
        rcases x20 with rfl | rfl
        ·
          refine V_if_ne_f 34 B 39 dX12_doFit_34 (by decide) (by decide +kernel) ?_
          refine V_iconst 37 B (v := 0) dX12_doFit_37 (by decide +kernel) ?_
          exact V_zret 38 B rfl dX12_doFit_38 (mkW [] [] [] [] [] []) (Or.inl rfl) rfl
        ·
          refine V_if_ne_t 34 B 39 dX12_doFit_34 (by decide) (by decide +kernel) ?_
          refine V_iconst 39 B (v := 0) dX12_doFit_39 (by decide +kernel) ?_
          refine V_istore 40 B (lv2 := [(4, .int 0), (3, .int (nI (a0.1 0))), (0, .ref h0), (1, .int s0), (2, .int s1)]) dX12_doFit_40 (by decide) rfl ?_
          refine V_wloop (α := WU) (fun a => 100000 - (a.1 0)) (fun a => (a.1 0) ≤ 4000) (fun a => [(4, .int (nI (a.1 0))), (3, .int (nI (a0.1 0))), (0, .ref h0), (1, .int s0), (2, .int s1)]) (fun a => [(h0, oC 13 [.ref h1, .ref h2, .int p2, .ref h3, .ref h4, .int (nI k5), .int (nI k6), .int p7, .int p8, .int p9, .int (nI k10), .int p11, .long q12, .ref h5, .ref h6, .int (nI k15), .int (nI k16)]), (h1, aI Y 3640 f0), (h2, aZ Y 2 f1), (h3, aZ Y 80 f3), (h4, aB Y 1600 f4), (h5, aI Y 200 f13), (h6, aI Y 800 f14)]) (mkW [0] [] [] [] [] []) (show 0 ≤ 4000 by omega) rfl rfl (fun a21 hI23 IH22 => ?_)
          refine V_lv [(4, .int (nI (a21.1 0))), (3, .int (nI (a0.1 0))), (0, .ref h0), (1, .int s0), (2, .int s1)] [0, 1, 2, 3, 4] rfl ?_
          refine V_ws [(h0, oC 13 [.ref h1, .ref h2, .int p2, .ref h3, .ref h4, .int (nI k5), .int (nI k6), .int p7, .int p8, .int p9, .int (nI k10), .int p11, .long q12, .ref h5, .ref h6, .int (nI k15), .int (nI k16)]), (h1, aI Y 3640 f0), (h2, aZ Y 2 f1), (h3, aZ Y 80 f3), (h4, aB Y 1600 f4), (h5, aI Y 200 f13), (h6, aI Y 800 f14)] rfl ?_
          have x24 := hI23
          refine V_iload 42 B dX12_doFit_42 0 rfl ?_
          refine V_iload_n 44 B dX12_doFit_44 1 rfl ?_
          refine V_icmp_ge 45 B 81 dX12_doFit_45 (by decide) (fun kk25 => ?_) (fun kk25 => ?_)
          ·
            have x26 := n_le (a := (a0.1 0)) (b := (a21.1 0)) kk25 (by omega) (by omega)
            refine V_iinc 81 B (v := (nI (1 + (a0.1 0)))) (lv2 := [(3, .int (nI (1 + (a0.1 0)))), (4, .int (nI (a21.1 0))), (0, .ref h0), (1, .int s0), (2, .int s1)]) dX12_doFit_81 1 rfl (nI_addE (a := (a0.1 0)) (b := 1) (by omega)) (by decide) rfl ?_
            refine V_goto 84 B 2 dX12_doFit_84 (by decide) ?_
            refine V_lv [(3, .int (nI (1 + (a0.1 0)))), (0, .ref h0), (1, .int s0), (2, .int s1)] [0, 2, 3, 4] rfl ?_
            exact IH1 (mkW [1 + (a0.1 0)] [] [] [] [] []) (show 1 + (a0.1 0) ≤ 4000 by omega) (by show 100000 - (1 + (a0.1 0)) < 100000 - (a0.1 0); omega)
          ·
            have x27 := n_nle (a := (a0.1 0)) (b := (a21.1 0)) kk25 (by omega) (by omega)
            refine V_iload_n 48 B dX12_doFit_48 4 rfl ?_
            refine V_iload 49 B dX12_doFit_49 0 rfl ?_
            refine V_ishr 51 B dX12_doFit_51 rfl ?_
            refine V_nmi (fun j28 _ => ?_)
            refine V_iconst 52 B (v := 1) dX12_doFit_52 (by decide +kernel) ?_
            refine V_iand 53 B dX12_doFit_53 rfl ?_
            refine V_nmi (fun j29 e30 => ?_)
            refine V_if_ne 54 B 75 dX12_doFit_54 (by decide) (fun kk31 => ?_) (fun kk31 => ?_)
            ·
              have x32 := x_ne kk31
              rw [show (0 : Int32).toInt = 0 by decide +kernel] at x32
              refine V_iinc 75 B (v := (nI (1 + (a21.1 0)))) (lv2 := [(4, .int (nI (1 + (a21.1 0)))), (3, .int (nI (a0.1 0))), (0, .ref h0), (1, .int s0), (2, .int s1)]) dX12_doFit_75 0 rfl (nI_addE (a := (a21.1 0)) (b := 1) (by omega)) (by decide) rfl ?_
              refine V_goto 78 B 42 dX12_doFit_78 (by decide) ?_
              refine V_lv [(4, .int (nI (1 + (a21.1 0)))), (3, .int (nI (a0.1 0))), (0, .ref h0), (1, .int s0), (2, .int s1)] [0, 1, 2, 3, 4] rfl ?_
              exact IH22 (mkW [1 + (a21.1 0)] [] [] [] [] []) (show 1 + (a21.1 0) ≤ 4000 by omega) (by show 100000 - (1 + (a21.1 0)) < 100000 - (a21.1 0); omega)
            ·
              obtain rfl : j29 = 0 := kk31
              have e34 : (0 : Int32).toInt = 0 := by decide +kernel
              refine V_aload_n 57 B dX12_doFit_57 2 rfl ?_
              refine V_iload 58 B dX12_doFit_58 0 rfl ?_
              refine V_csi 60 B (st := [.ref h0]) (As := [.int (nI (a21.1 0))]) (fun sz => rX12_wishAt l D Y (a21.1 0) (by omega) sz) glS_RX12_231 ⟨rfl, rfl⟩ ⟨(Nat.le_of_ble_eq_true rfl), (Nat.le_of_ble_eq_true rfl)⟩ ⟨(Nat.le_of_ble_eq_true rfl), (Nat.le_of_ble_eq_true rfl)⟩ [] rfl rfl (Nat.le_of_ble_eq_true rfl) rfl (fun _ _ _ => rfl) dX12_doFit_60 (fun j35 u36 w37 => ?_)
              refine V_ws [(h0, oC 13 [.ref h1, .ref h2, .int p2, .ref h3, .ref h4, .int (nI k5), .int (nI k6), .int p7, .int p8, .int p9, .int (nI k10), .int p11, .long q12, .ref h5, .ref h6, .int (nI k15), .int (nI k16)]), (h1, aI Y 3640 f0), (h2, aZ Y 2 f1), (h3, aZ Y 80 f3), (h4, aB Y 1600 f4), (h5, aI Y 200 f13), (h6, aI Y 800 f14)] rfl ?_
              have x38 := w37
              obtain rfl := x38
              refine V_iload_n 63 B dX12_doFit_63 1 rfl ?_
              refine V_csi 64 B (st := [.int (nI (856 + 5 * (a21.1 0))), .ref h0]) (As := [.int (nI (a0.1 0))]) (fun sz => rX12_wishAt l D Y (a0.1 0) (by omega) sz) glS_RX12_231 ⟨rfl, rfl⟩ ⟨(Nat.le_of_ble_eq_true rfl), (Nat.le_of_ble_eq_true rfl)⟩ ⟨(Nat.le_of_ble_eq_true rfl), (Nat.le_of_ble_eq_true rfl)⟩ [] rfl rfl (Nat.le_of_ble_eq_true rfl) rfl (fun _ _ _ => rfl) dX12_doFit_64 (fun j39 u40 w41 => ?_)
              refine V_ws [(h0, oC 13 [.ref h1, .ref h2, .int p2, .ref h3, .ref h4, .int (nI k5), .int (nI k6), .int p7, .int p8, .int p9, .int (nI k10), .int p11, .long q12, .ref h5, .ref h6, .int (nI k15), .int (nI k16)]), (h1, aI Y 3640 f0), (h2, aZ Y 2 f1), (h3, aZ Y 80 f3), (h4, aB Y 1600 f4), (h5, aI Y 200 f13), (h6, aI Y 800 f14)] rfl ?_
              have x42 := w41
              obtain rfl := x42
              refine V_cvi 67 B (st := []) (As := [.int (nI (856 + 5 * (a21.1 0))), .int (nI (856 + 5 * (a0.1 0)))]) (fun sz => rX12_doClash l D Y h0 h1 h2 h3 h4 h5 h6 p2 k5 k6 p7 p8 p9 k10 p11 q12 k15 k16 f0 f1 f3 f4 f13 f14 HI (by omega) HP (856 + 5 * (a21.1 0)) (856 + 5 * (a0.1 0)) (rl18 (a21.1 0) (by omega)) (rl17 (a0.1 0) (by omega)) sz) glV_RX12_111 ⟨rfl, rfl⟩ ⟨(Nat.le_of_ble_eq_true rfl), (Nat.le_of_ble_eq_true rfl)⟩ ⟨(Nat.le_of_ble_eq_true rfl), (Nat.le_of_ble_eq_true rfl)⟩ [0, 0, 0, 0, 0, 0, 0] rfl 13 0 rfl rfl rfl rfl (Nat.le_of_ble_eq_true rfl) rfl (fun _ _ _ => rfl) dX12_doFit_67 (fun j43 u44 w45 => ?_)
              refine V_ws [(h0, oC 13 [.ref h1, .ref h2, .int p2, .ref h3, .ref h4, .int (nI k5), .int (nI k6), .int p7, .int p8, .int p9, .int (nI k10), .int p11, .long q12, .ref h5, .ref h6, .int (nI k15), .int (nI k16)]), (h1, aI Y 3640 f0), (h2, aZ Y 2 f1), (h3, aZ Y 80 f3), (h4, aB Y 1600 f4), (h5, aI Y 200 f13), (h6, aI Y 800 f14)] rfl ?_
              have x46 := w45
              rcases x46 with ⟨rfl, x47⟩ | ⟨rfl, x47⟩
              ·
                refine V_if_eq_t 70 B 75 dX12_doFit_70 (by decide) (by decide +kernel) ?_
                refine V_iinc 75 B (v := (nI (1 + (a21.1 0)))) (lv2 := [(4, .int (nI (1 + (a21.1 0)))), (3, .int (nI (a0.1 0))), (0, .ref h0), (1, .int s0), (2, .int s1)]) dX12_doFit_75 0 rfl (nI_addE (a := (a21.1 0)) (b := 1) (by omega)) (by decide) rfl ?_
                refine V_goto 78 B 42 dX12_doFit_78 (by decide) ?_
                refine V_lv [(4, .int (nI (1 + (a21.1 0)))), (3, .int (nI (a0.1 0))), (0, .ref h0), (1, .int s0), (2, .int s1)] [0, 1, 2, 3, 4] rfl ?_
                exact IH22 (mkW [1 + (a21.1 0)] [] [] [] [] []) (show 1 + (a21.1 0) ≤ 4000 by omega) (by show 100000 - (1 + (a21.1 0)) < 100000 - (a21.1 0); omega)
              ·
                refine V_if_eq_f 70 B 75 dX12_doFit_70 (by decide) (by decide +kernel) ?_
                refine V_iconst 73 B (v := 0) dX12_doFit_73 (by decide +kernel) ?_
                exact V_zret 74 B rfl dX12_doFit_74 (mkW [] [] [] [] [] []) (Or.inl rfl) rfl
      ·
        obtain rfl : j9 = 1 := kk11
        have e49 : (1 : Int32).toInt = 1 := by decide +kernel
        refine V_goto 22 B 81 dX12_doFit_22 (by decide) ?_
        refine V_iinc 81 B (v := (nI (1 + (a0.1 0)))) (lv2 := [(3, .int (nI (1 + (a0.1 0)))), (0, .ref h0), (1, .int s0), (2, .int s1)]) dX12_doFit_81 0 rfl (nI_addE (a := (a0.1 0)) (b := 1) (by omega)) (by decide) rfl ?_
        refine V_goto 84 B 2 dX12_doFit_84 (by decide) ?_
        refine V_lv [(3, .int (nI (1 + (a0.1 0)))), (0, .ref h0), (1, .int s0), (2, .int s1)] [0, 1, 2, 3] rfl ?_
        exact IH1 (mkW [1 + (a0.1 0)] [] [] [] [] []) (show 1 + (a0.1 0) ≤ 4000 by omega) (by show 100000 - (1 + (a0.1 0)) < 100000 - (a0.1 0); omega))
theorem dX12_leastDrop_0 : decode cX12_leastDrop 0 = .ok (.aload_n 0, 1) := by decide +kernel
theorem dX12_leastDrop_1 : decode cX12_leastDrop 1 = .ok (.iconst 0, 1) := by decide +kernel
theorem dX12_leastDrop_2 : decode cX12_leastDrop 2 = .ok (.putfield 38, 3) := by decide +kernel
theorem dX12_leastDrop_5 : decode cX12_leastDrop 5 = .ok (.aload_n 0, 1) := by decide +kernel
theorem dX12_leastDrop_6 : decode cX12_leastDrop 6 = .ok (.aload_n 0, 1) := by decide +kernel
theorem dX12_leastDrop_7 : decode cX12_leastDrop 7 = .ok (.iload_n 1, 1) := by decide +kernel
theorem dX12_leastDrop_8 : decode cX12_leastDrop 8 = .ok (.invokevirtual 91, 3) := by decide +kernel
theorem dX12_leastDrop_11 : decode cX12_leastDrop 11 = .ok (.ifCond .ne 7, 3) := by decide +kernel
theorem dX12_leastDrop_14 : decode cX12_leastDrop 14 = .ok (.iconst 1, 1) := by decide +kernel
theorem dX12_leastDrop_15 : decode cX12_leastDrop 15 = .ok (.goto 4, 3) := by decide +kernel
theorem dX12_leastDrop_19 : decode cX12_leastDrop 19 = .ok (.iconst 1, 1) := by decide +kernel
theorem dX12_leastDrop_20 : decode cX12_leastDrop 20 = .ok (.invokevirtual 69, 3) := by decide +kernel
theorem dX12_leastDrop_23 : decode cX12_leastDrop 23 = .ok (.ifCond .eq 5, 3) := by decide +kernel
theorem dX12_leastDrop_26 : decode cX12_leastDrop 26 = .ok (.iconst 0, 1) := by decide +kernel
theorem dX12_leastDrop_27 : decode cX12_leastDrop 27 = .ok (.ireturn, 1) := by decide +kernel
theorem dX12_leastDrop_18 : decode cX12_leastDrop 18 = .ok (.iconst 0, 1) := by decide +kernel
theorem dX12_leastDrop_28 : decode cX12_leastDrop 28 = .ok (.iconst 1, 1) := by decide +kernel
theorem dX12_leastDrop_29 : decode cX12_leastDrop 29 = .ok (.aload_n 0, 1) := by decide +kernel
theorem dX12_leastDrop_30 : decode cX12_leastDrop 30 = .ok (.getfield 9, 3) := by decide +kernel
theorem dX12_leastDrop_33 : decode cX12_leastDrop 33 = .ok (.bipush 15, 2) := by decide +kernel
theorem dX12_leastDrop_35 : decode cX12_leastDrop 35 = .ok (.iaload, 1) := by decide +kernel
theorem dX12_leastDrop_36 : decode cX12_leastDrop 36 = .ok (.ishl, 1) := by decide +kernel
theorem dX12_leastDrop_37 : decode cX12_leastDrop 37 = .ok (.iconst 1, 1) := by decide +kernel
theorem dX12_leastDrop_38 : decode cX12_leastDrop 38 = .ok (.isub, 1) := by decide +kernel
theorem dX12_leastDrop_39 : decode cX12_leastDrop 39 = .ok (.istore_n 2, 1) := by decide +kernel
theorem dX12_leastDrop_40 : decode cX12_leastDrop 40 = .ok (.iload_n 2, 1) := by decide +kernel
theorem dX12_leastDrop_41 : decode cX12_leastDrop 41 = .ok (.iconst 1, 1) := by decide +kernel
theorem dX12_leastDrop_42 : decode cX12_leastDrop 42 = .ok (.isub, 1) := by decide +kernel
theorem dX12_leastDrop_43 : decode cX12_leastDrop 43 = .ok (.istore_n 3, 1) := by decide +kernel
theorem dX12_leastDrop_44 : decode cX12_leastDrop 44 = .ok (.iload_n 3, 1) := by decide +kernel
theorem dX12_draftWish_0 : decode cX12_draftWish 0 = .ok (.aload_n 0, 1) := by decide +kernel
theorem dX12_draftWish_1 : decode cX12_draftWish 1 = .ok (.iconst 0, 1) := by decide +kernel
theorem dX12_draftWish_2 : decode cX12_draftWish 2 = .ok (.putfield 38, 3) := by decide +kernel
theorem dX12_draftWish_5 : decode cX12_draftWish 5 = .ok (.aload_n 0, 1) := by decide +kernel
theorem dX12_draftWish_6 : decode cX12_draftWish 6 = .ok (.iload_n 1, 1) := by decide +kernel
theorem dX12_draftWish_7 : decode cX12_draftWish 7 = .ok (.i2l, 1) := by decide +kernel
theorem dX12_draftWish_8 : decode cX12_draftWish 8 = .ok (.lconst 0, 1) := by decide +kernel
theorem dX12_draftWish_9 : decode cX12_draftWish 9 = .ok (.aload_n 0, 1) := by decide +kernel
theorem dX12_draftWish_10 : decode cX12_draftWish 10 = .ok (.getfield 9, 3) := by decide +kernel
theorem dX12_draftWish_13 : decode cX12_draftWish 13 = .ok (.bipush 15, 2) := by decide +kernel
theorem dX12_draftWish_15 : decode cX12_draftWish 15 = .ok (.iaload, 1) := by decide +kernel
theorem dX12_draftWish_16 : decode cX12_draftWish 16 = .ok (.iconst 1, 1) := by decide +kernel
theorem dX12_draftWish_17 : decode cX12_draftWish 17 = .ok (.isub, 1) := by decide +kernel
theorem dX12_draftWish_18 : decode cX12_draftWish 18 = .ok (.i2l, 1) := by decide +kernel
theorem dX12_draftWish_19 : decode cX12_draftWish 19 = .ok (.invokestatic 41, 3) := by decide +kernel
theorem dX12_draftWish_22 : decode cX12_draftWish 22 = .ok (.ifCond .ne 7, 3) := by decide +kernel
theorem dX12_draftWish_25 : decode cX12_draftWish 25 = .ok (.iconst 1, 1) := by decide +kernel
theorem dX12_draftWish_26 : decode cX12_draftWish 26 = .ok (.goto 4, 3) := by decide +kernel
theorem dX12_draftWish_30 : decode cX12_draftWish 30 = .ok (.iconst 1, 1) := by decide +kernel
theorem dX12_draftWish_31 : decode cX12_draftWish 31 = .ok (.invokevirtual 69, 3) := by decide +kernel
theorem dX12_draftWish_34 : decode cX12_draftWish 34 = .ok (.ifCond .eq 5, 3) := by decide +kernel
theorem dX12_draftWish_37 : decode cX12_draftWish 37 = .ok (.iconst 0, 1) := by decide +kernel
theorem dX12_draftWish_38 : decode cX12_draftWish 38 = .ok (.ireturn, 1) := by decide +kernel
theorem dX12_draftWish_29 : decode cX12_draftWish 29 = .ok (.iconst 0, 1) := by decide +kernel
theorem dX12_draftWish_39 : decode cX12_draftWish 39 = .ok (.aload_n 0, 1) := by decide +kernel
theorem dX12_draftWish_40 : decode cX12_draftWish 40 = .ok (.iload_n 1, 1) := by decide +kernel
theorem dX12_draftWish_41 : decode cX12_draftWish 41 = .ok (.invokestatic 231, 3) := by decide +kernel
theorem dX12_draftWish_44 : decode cX12_draftWish 44 = .ok (.sipush 3624, 3) := by decide +kernel
theorem dX12_draftWish_47 : decode cX12_draftWish 47 = .ok (.invokevirtual 88, 3) := by decide +kernel
theorem rl19 : ∀ z0, z0 < 11 → SQ (856 + 5 * z0) := by unfold SQ; decide +kernel
theorem dX12_draftWish_50 : decode cX12_draftWish 50 = .ok (.aload_n 0, 1) := by decide +kernel
theorem dX12_draftWish_51 : decode cX12_draftWish 51 = .ok (.getfield 9, 3) := by decide +kernel
theorem dX12_draftWish_54 : decode cX12_draftWish 54 = .ok (.sipush 3624, 3) := by decide +kernel
theorem dX12_draftWish_57 : decode cX12_draftWish 57 = .ok (.iaload, 1) := by decide +kernel
theorem dX12_draftWish_58 : decode cX12_draftWish 58 = .ok (.ireturn, 1) := by decide +kernel
set_option maxRecDepth 100000 in
set_option maxHeartbeats 4000000 in
theorem rX12_draftWish (l : Launch) (D : va_G) (Y : Nat → ClassId) (h0 : Nat) (h1 : Nat) (h2 : Nat) (h3 : Nat) (h4 : Nat) (h5 : Nat) (h6 : Nat) (p2 : Int32) (k5 : Nat) (k6 : Nat) (p7 : Int32) (p8 : Int32) (p9 : Int32) (k10 : Nat) (p11 : Int32) (q12 : Int64) (k15 : Nat) (k16 : Nat) (f0 : Nat → Int32) (f1 : Nat → Int32) (f3 : Nat → Int32) (f4 : Nat → Int32) (f13 : Nat → Int32) (f14 : Nat → Int32) (HI : INV f0) (HL : k5 ≤ 1600) (HP : PLV f13) (s0 : Int32)  (sz : Nat) : Met l yX12_draftWish (WSm yX12_draftWish cX12_draftWish 2 (some .int)) (mkR 1 0 0 25) (PreC D Y [.ref h0, .int s0] [(h0, oC 13 [.ref h1, .ref h2, .int p2, .ref h3, .ref h4, .int (nI k5), .int (nI k6), .int p7, .int p8, .int p9, .int (nI k10), .int p11, .long q12, .ref h5, .ref h6, .int (nI k15), .int (nI k16)]), (h1, aI Y 3640 f0), (h2, aZ Y 2 f1), (h3, aZ Y 80 f3), (h4, aB Y 1600 f4), (h5, aI Y 200 f13), (h6, aI Y 800 f14)] sz) (QI D (fun (r : Int32) (u : WU) => INV (u.2.2.2.1 0)) (fun (u : WU) => [(h0, oC 13 [.ref h1, .ref h2, .int (u.2.1 0), .ref h3, .ref h4, .int (nI k5), .int (nI k6), .int p7, .int p8, .int p9, .int (nI k10), .int p11, .long q12, .ref h5, .ref h6, .int (nI k15), .int (nI k16)]), (h1, aI Y 3640 (u.2.2.2.1 0)), (h2, aZ Y 2 f1), (h3, aZ Y 80 f3), (h4, aB Y 1600 f4), (h5, aI Y 200 f13), (h6, aI Y 800 f14)]) (va_A [(h0, oC 13 [.ref h1, .ref h2, .int p2, .ref h3, .ref h4, .int (nI k5), .int (nI k6), .int p7, .int p8, .int p9, .int (nI k10), .int p11, .long q12, .ref h5, .ref h6, .int (nI k15), .int (nI k16)]), (h1, aI Y 3640 f0), (h2, aZ Y 2 f1), (h3, aZ Y 80 f3), (h4, aB Y 1600 f4), (h5, aI Y 200 f13), (h6, aI Y 800 f14)] sz)) 0 0 (va_A [(h0, oC 13 [.ref h1, .ref h2, .int p2, .ref h3, .ref h4, .int (nI k5), .int (nI k6), .int p7, .int p8, .int p9, .int (nI k10), .int p11, .long q12, .ref h5, .ref h6, .int (nI k15), .int (nI k16)]), (h1, aI Y 3640 f0), (h2, aZ Y 2 f1), (h3, aZ Y 80 f3), (h4, aB Y 1600 f4), (h5, aI Y 200 f13), (h6, aI Y 800 f14)] sz) :=
  met_of (by decide +kernel) (Nat.le_of_ble_eq_true rfl) (fun p e s m args below meth c B hin hsz => by
    have B : VB p s m args meth c D Y (va_A [(h0, oC 13 [.ref h1, .ref h2, .int p2, .ref h3, .ref h4, .int (nI k5), .int (nI k6), .int p7, .int p8, .int p9, .int (nI k10), .int p11, .long q12, .ref h5, .ref h6, .int (nI k15), .int (nI k16)]), (h1, aI Y 3640 f0), (h2, aZ Y 2 f1), (h3, aZ Y 80 f3), (h4, aB Y 1600 f4), (h5, aI Y 200 f13), (h6, aI Y 800 f14)] sz) cX12_draftWish 2 RX12 (some .int) := B
    refine V_aload_n 0 B dX12_draftWish_0 0 rfl ?_
    refine V_iconst 1 B (v := 0) dX12_draftWish_1 (by decide +kernel) ?_
    refine V_put 2 B gp_RX12_38 0 rfl (Nat.le_of_ble_eq_true rfl) rfl rfl dX12_draftWish_2 [(h0, oC 13 [.ref h1, .ref h2, .int 0, .ref h3, .ref h4, .int (nI k5), .int (nI k6), .int p7, .int p8, .int p9, .int (nI k10), .int p11, .long q12, .ref h5, .ref h6, .int (nI k15), .int (nI k16)]), (h1, aI Y 3640 f0), (h2, aZ Y 2 f1), (h3, aZ Y 80 f3), (h4, aB Y 1600 f4), (h5, aI Y 200 f13), (h6, aI Y 800 f14)] rfl ?_
    refine V_aload_n 5 B dX12_draftWish_5 0 rfl ?_
    refine V_iload_n 6 B dX12_draftWish_6 1 rfl ?_
    refine V_i2l 7 B dX12_draftWish_7 rfl ?_
    refine V_nml (fun o0 e1 => ?_)
    have x2 : o0.toInt = s0.toInt := by rw [e1, Int32.toInt_toInt64]
    refine V_lconst 8 B (v := 0) dX12_draftWish_8 (by decide +kernel) ?_
    refine V_aload_n 9 B dX12_draftWish_9 0 rfl ?_
    refine V_get 10 B gf_RX12_9 0 rfl rfl dX12_draftWish_10 ?_
    refine V_bipush 13 B (v := 15) dX12_draftWish_13 (by decide +kernel) ?_
    have x3 : (gN f0 15) ≤ 10 := gN_le HI (by omega) (show bd 15 = (0, ((10 : Nat) : Int)) by decide +kernel)
    refine V_iald 15 B (v := (nI (gN f0 15))) 1 rfl (vpin _ _ (by decide +kernel)) dX12_draftWish_15 (by show f0 15 = _; exact gN_eq HI (by omega) (show bd 15 = (0, ((10 : Nat) : Int)) by decide +kernel)) ?_
    refine V_iconst 16 B (v := 1) dX12_draftWish_16 (by decide +kernel) ?_
    refine V_isub 17 B dX12_draftWish_17 rfl ?_
    refine V_nmi (fun j4 e5 => ?_)
    have x6 : j4.toInt = (((gN f0 15) : Nat) : Int) - ((1 : Nat) : Int) := by rw [e5]; exact nI_subT (a := (gN f0 15)) (b := 1) (by omega) (by omega)
    refine V_i2l 18 B dX12_draftWish_18 rfl ?_
    refine V_nml (fun o7 e8 => ?_)
    have x9 : o7.toInt = j4.toInt := by rw [e8, Int32.toInt_toInt64]
    refine V_csi 19 B (st := [.ref h0]) (As := [.long o0, .long 0, .long o7]) (fun sz => rX12_inRange l D Y o0 0 o7 sz) glS_RX12_41 ⟨rfl, rfl⟩ ⟨(Nat.le_of_ble_eq_true rfl), (Nat.le_of_ble_eq_true rfl)⟩ ⟨(Nat.le_of_ble_eq_true rfl), (Nat.le_of_ble_eq_true rfl)⟩ [] rfl rfl (Nat.le_of_ble_eq_true rfl) rfl (fun _ _ _ => rfl) dX12_draftWish_19 (fun j10 u11 w12 => ?_)
    refine V_ws [(h0, oC 13 [.ref h1, .ref h2, .int 0, .ref h3, .ref h4, .int (nI k5), .int (nI k6), .int p7, .int p8, .int p9, .int (nI k10), .int p11, .long q12, .ref h5, .ref h6, .int (nI k15), .int (nI k16)]), (h1, aI Y 3640 f0), (h2, aZ Y 2 f1), (h3, aZ Y 80 f3), (h4, aB Y 1600 f4), (h5, aI Y 200 f13), (h6, aI Y 800 f14)] rfl ?_
    rcases w12 with rfl | ⟨rfl, x13, x14⟩
    ·
      refine V_if_ne_f 22 B 29 dX12_draftWish_22 (by decide) (by decide +kernel) ?_
      refine V_iconst 25 B (v := 1) dX12_draftWish_25 (by decide +kernel) ?_
      refine V_goto 26 B 30 dX12_draftWish_26 (by decide) ?_
      refine V_iconst 30 B (v := 1) dX12_draftWish_30 (by decide +kernel) ?_
      refine V_cvi 31 B (st := []) (As := [.int 1, .int 1]) (fun sz => rX12_throwsIf_1 l D Y h0 h1 h2 h3 h4 h5 h6 0 k5 k6 p7 p8 p9 k10 p11 q12 k15 k16 f0 f1 f3 f4 f13 f14 HI (by omega) HP 1 sz) glV_RX12_69 ⟨rfl, rfl⟩ ⟨(Nat.le_of_ble_eq_true rfl), (Nat.le_of_ble_eq_true rfl)⟩ ⟨(Nat.le_of_ble_eq_true rfl), (Nat.le_of_ble_eq_true rfl)⟩ [0, 0, 0, 0, 0, 0, 0] rfl 13 0 rfl rfl rfl rfl (Nat.le_of_ble_eq_true rfl) rfl (fun _ _ _ => rfl) dX12_draftWish_31 (fun j15 u16 w17 => ?_)
      refine V_ws [(h0, oC 13 [.ref h1, .ref h2, .int (u16.2.1 0), .ref h3, .ref h4, .int (nI k5), .int (nI k6), .int p7, .int p8, .int p9, .int (nI k10), .int p11, .long q12, .ref h5, .ref h6, .int (nI k15), .int (nI k16)]), (h1, aI Y 3640 f0), (h2, aZ Y 2 f1), (h3, aZ Y 80 f3), (h4, aB Y 1600 f4), (h5, aI Y 200 f13), (h6, aI Y 800 f14)] rfl ?_
      have x18 := w17
      obtain rfl := x18
      refine V_if_eq_f 34 B 39 dX12_draftWish_34 (by decide) (by decide +kernel) ?_
      refine V_iconst 37 B (v := 0) dX12_draftWish_37 (by decide +kernel) ?_
      exact V_iret 38 B dX12_draftWish_38 (mkW [] [(u16.2.1 0)] [] [f0] [] []) HI rfl
    ·
      rw [show (0 : Int64).toInt = 0 by decide +kernel] at x13
      refine V_if_ne_t 22 B 29 dX12_draftWish_22 (by decide) (by decide +kernel) ?_
      refine V_iconst 29 B (v := 0) dX12_draftWish_29 (by decide +kernel) ?_
      refine V_iconst 30 B (v := 1) dX12_draftWish_30 (by decide +kernel) ?_
      refine V_cvi 31 B (st := []) (As := [.int 0, .int 1]) (fun sz => rX12_throwsIf_0 l D Y h0 h1 h2 h3 h4 h5 h6 0 k5 k6 p7 p8 p9 k10 p11 q12 k15 k16 f0 f1 f3 f4 f13 f14 HI (by omega) HP 1 sz) glV_RX12_69 ⟨rfl, rfl⟩ ⟨(Nat.le_of_ble_eq_true rfl), (Nat.le_of_ble_eq_true rfl)⟩ ⟨(Nat.le_of_ble_eq_true rfl), (Nat.le_of_ble_eq_true rfl)⟩ [0, 0, 0, 0, 0, 0, 0] rfl 13 0 rfl rfl rfl rfl (Nat.le_of_ble_eq_true rfl) rfl (fun _ _ _ => rfl) dX12_draftWish_31 (fun j19 u20 w21 => ?_)
      refine V_ws [(h0, oC 13 [.ref h1, .ref h2, .int (u20.2.1 0), .ref h3, .ref h4, .int (nI k5), .int (nI k6), .int p7, .int p8, .int p9, .int (nI k10), .int p11, .long q12, .ref h5, .ref h6, .int (nI k15), .int (nI k16)]), (h1, aI Y 3640 f0), (h2, aZ Y 2 f1), (h3, aZ Y 80 f3), (h4, aB Y 1600 f4), (h5, aI Y 200 f13), (h6, aI Y 800 f14)] rfl ?_
      have x22 := w21
      obtain rfl := x22
      refine V_if_eq_t 34 B 39 dX12_draftWish_34 (by decide) (by decide +kernel) ?_
      refine V_aload_n 39 B dX12_draftWish_39 0 rfl ?_
      refine V_iload_n 40 B dX12_draftWish_40 1 rfl ?_
      obtain ⟨n23, x24, rfl⟩ := nat_of (x := s0) (n := 10) (by omega) (by omega)
      have e25 := nI_toInt (show n23 < 2 ^ 31 by omega)
      refine V_csi 41 B (st := [.ref h0]) (As := [.int (nI n23)]) (fun sz => rX12_wishAt l D Y n23 (by omega) sz) glS_RX12_231 ⟨rfl, rfl⟩ ⟨(Nat.le_of_ble_eq_true rfl), (Nat.le_of_ble_eq_true rfl)⟩ ⟨(Nat.le_of_ble_eq_true rfl), (Nat.le_of_ble_eq_true rfl)⟩ [] rfl rfl (Nat.le_of_ble_eq_true rfl) rfl (fun _ _ _ => rfl) dX12_draftWish_41 (fun j26 u27 w28 => ?_)
      refine V_ws [(h0, oC 13 [.ref h1, .ref h2, .int (u20.2.1 0), .ref h3, .ref h4, .int (nI k5), .int (nI k6), .int p7, .int p8, .int p9, .int (nI k10), .int p11, .long q12, .ref h5, .ref h6, .int (nI k15), .int (nI k16)]), (h1, aI Y 3640 f0), (h2, aZ Y 2 f1), (h3, aZ Y 80 f3), (h4, aB Y 1600 f4), (h5, aI Y 200 f13), (h6, aI Y 800 f14)] rfl ?_
      have x29 := w28
      obtain rfl := x29
      refine V_sipush 44 B (v := 3624) dX12_draftWish_44 (by decide +kernel) ?_
      refine V_cvv 47 B (st := []) (As := [.int (nI (856 + 5 * n23)), .int 3624]) (fun sz => rX12_copySequence l D Y h0 h1 h2 h3 h4 h5 h6 (u20.2.1 0) k5 k6 p7 p8 p9 k10 p11 q12 k15 k16 f0 f1 f3 f4 f13 f14 HI (by omega) HP (856 + 5 * n23) 3624 (rl19 n23 (by omega)) (show SQ 3624 by unfold SQ; decide +kernel) sz) glV_RX12_88 ⟨rfl, rfl⟩ ⟨(Nat.le_of_ble_eq_true rfl), (Nat.le_of_ble_eq_true rfl)⟩ ⟨(Nat.le_of_ble_eq_true rfl), (Nat.le_of_ble_eq_true rfl)⟩ [0, 0, 0, 0, 0, 0, 0] rfl 13 0 rfl rfl rfl rfl (Nat.le_of_ble_eq_true rfl) rfl (fun _ _ => rfl) dX12_draftWish_47 (fun u31 w32 => ?_)
      refine V_ws [(h0, oC 13 [.ref h1, .ref h2, .int (u20.2.1 0), .ref h3, .ref h4, .int (nI k5), .int (nI k6), .int p7, .int p8, .int p9, .int (nI k10), .int p11, .long q12, .ref h5, .ref h6, .int (nI k15), .int (nI k16)]), (h1, aI Y 3640 (u31.2.2.2.1 0)), (h2, aZ Y 2 f1), (h3, aZ Y 80 f3), (h4, aB Y 1600 f4), (h5, aI Y 200 f13), (h6, aI Y 800 f14)] rfl ?_
      obtain ⟨x33, x34⟩ := w32
      refine V_aload_n 50 B dX12_draftWish_50 0 rfl ?_
      refine V_get 51 B gf_RX12_9 0 rfl rfl dX12_draftWish_51 ?_
      refine V_sipush 54 B (v := 3624) dX12_draftWish_54 (by decide +kernel) ?_
      have x35 : (gN (u31.2.2.2.1 0) 3624) ≤ 4 := gN_le x33 (by omega) (show bd 3624 = (0, ((4 : Nat) : Int)) by decide +kernel)
      refine V_iald 57 B (v := (nI ((gN (u31.2.2.2.1 0) 3624)))) 1 rfl (vpin _ _ (by decide +kernel)) dX12_draftWish_57 (by show (u31.2.2.2.1 0) 3624 = _; exact gN_eq x33 (by omega) (show bd 3624 = (0, ((4 : Nat) : Int)) by decide +kernel)) ?_
      exact V_iret 58 B dX12_draftWish_58 (mkW [] [(u20.2.1 0)] [] [(u31.2.2.2.1 0)] [] []) x33 rfl)
theorem dX12_appendBytes_0 : decode cX12_appendBytes 0 = .ok (.bipush 24, 2) := by decide +kernel
theorem dX12_appendBytes_2 : decode cX12_appendBytes 2 = .ok (.istore_n 2, 1) := by decide +kernel
theorem dX12_appendBytes_3 : decode cX12_appendBytes 3 = .ok (.iload_n 2, 1) := by decide +kernel
theorem dX12_appendInput_0 : decode cX12_appendInput 0 = .ok (.aload_n 0, 1) := by decide +kernel
theorem dX12_appendInput_1 : decode cX12_appendInput 1 = .ok (.iconst 0, 1) := by decide +kernel
theorem dX12_appendInput_2 : decode cX12_appendInput 2 = .ok (.putfield 38, 3) := by decide +kernel
theorem dX12_appendInput_5 : decode cX12_appendInput 5 = .ok (.aload_n 0, 1) := by decide +kernel
theorem dX12_appendInput_6 : decode cX12_appendInput 6 = .ok (.getfield 240, 3) := by decide +kernel
theorem gf_RX12_240 : GF RX12 240 13 5 := ⟨RX12, TX12, 17, rfl, inw_X12, Nat.le_of_ble_eq_true rfl, (mT7 142 rfl rfl)⟩
theorem dX12_appendInput_9 : decode cX12_appendInput 9 = .ok (.bipush 20, 2) := by decide +kernel
theorem dX12_appendInput_11 : decode cX12_appendInput 11 = .ok (.iadd, 1) := by decide +kernel
theorem dX12_appendInput_12 : decode cX12_appendInput 12 = .ok (.sipush 1600, 3) := by decide +kernel
theorem dX12_appendInput_15 : decode cX12_appendInput 15 = .ok (.if_icmp .le 5, 3) := by decide +kernel
theorem dX12_appendInput_20 : decode cX12_appendInput 20 = .ok (.aload_n 0, 1) := by decide +kernel
theorem dX12_appendInput_21 : decode cX12_appendInput 21 = .ok (.iload_n 1, 1) := by decide +kernel
theorem dX12_appendInput_22 : decode cX12_appendInput 22 = .ok (.invokevirtual 243, 3) := by decide +kernel
theorem dX12_truncateInput_0 : decode cX12_truncateInput 0 = .ok (.aload_n 0, 1) := by decide +kernel
theorem dX12_truncateInput_1 : decode cX12_truncateInput 1 = .ok (.iconst 0, 1) := by decide +kernel
theorem dX12_truncateInput_2 : decode cX12_truncateInput 2 = .ok (.putfield 38, 3) := by decide +kernel
theorem dX12_truncateInput_5 : decode cX12_truncateInput 5 = .ok (.iload_n 1, 1) := by decide +kernel
theorem dX12_truncateInput_6 : decode cX12_truncateInput 6 = .ok (.i2l, 1) := by decide +kernel
theorem dX12_truncateInput_7 : decode cX12_truncateInput 7 = .ok (.lconst 0, 1) := by decide +kernel
theorem dX12_truncateInput_8 : decode cX12_truncateInput 8 = .ok (.aload_n 0, 1) := by decide +kernel
theorem dX12_truncateInput_9 : decode cX12_truncateInput 9 = .ok (.getfield 240, 3) := by decide +kernel
theorem dX12_truncateInput_12 : decode cX12_truncateInput 12 = .ok (.i2l, 1) := by decide +kernel
theorem dX12_truncateInput_13 : decode cX12_truncateInput 13 = .ok (.invokestatic 41, 3) := by decide +kernel
theorem dX12_truncateInput_16 : decode cX12_truncateInput 16 = .ok (.ifCond .ne 5, 3) := by decide +kernel
theorem dX12_truncateInput_19 : decode cX12_truncateInput 19 = .ok (.iconst (-1), 1) := by decide +kernel
theorem dX12_truncateInput_20 : decode cX12_truncateInput 20 = .ok (.ireturn, 1) := by decide +kernel
theorem dX12_truncateInput_21 : decode cX12_truncateInput 21 = .ok (.aload_n 0, 1) := by decide +kernel
theorem dX12_truncateInput_22 : decode cX12_truncateInput 22 = .ok (.iload_n 1, 1) := by decide +kernel
theorem dX12_truncateInput_23 : decode cX12_truncateInput 23 = .ok (.putfield 240, 3) := by decide +kernel
theorem gp_RX12_240 : GP RX12 240 13 5 .int false := ⟨RX12, TX12, 17, ⟨rfl, inw_X12, Nat.le_of_ble_eq_true rfl, (mT7 142 rfl rfl)⟩, ⟨tyX12, tyX12_ok⟩, nmX12, rfl, by decide +kernel, fun h => nomatch h⟩
theorem dX12_truncateInput_26 : decode cX12_truncateInput 26 = .ok (.iload_n 1, 1) := by decide +kernel
theorem dX12_truncateInput_27 : decode cX12_truncateInput 27 = .ok (.ireturn, 1) := by decide +kernel
set_option maxRecDepth 100000 in
set_option maxHeartbeats 4000000 in
theorem rX12_truncateInput (l : Launch) (D : va_G) (Y : Nat → ClassId) (h0 : Nat) (h1 : Nat) (h2 : Nat) (h3 : Nat) (h4 : Nat) (h5 : Nat) (h6 : Nat) (p2 : Int32) (k5 : Nat) (k6 : Nat) (p7 : Int32) (p8 : Int32) (p9 : Int32) (k10 : Nat) (p11 : Int32) (q12 : Int64) (k15 : Nat) (k16 : Nat) (f0 : Nat → Int32) (f1 : Nat → Int32) (f3 : Nat → Int32) (f4 : Nat → Int32) (f13 : Nat → Int32) (f14 : Nat → Int32) (HI : INV f0) (HL : k5 ≤ 1600) (HP : PLV f13) (s0 : Int32)  (sz : Nat) : Met l yX12_truncateInput (WSm yX12_truncateInput cX12_truncateInput 2 (some .int)) (mkR 1 0 0 25) (PreC D Y [.ref h0, .int s0] [(h0, oC 13 [.ref h1, .ref h2, .int p2, .ref h3, .ref h4, .int (nI k5), .int (nI k6), .int p7, .int p8, .int p9, .int (nI k10), .int p11, .long q12, .ref h5, .ref h6, .int (nI k15), .int (nI k16)]), (h1, aI Y 3640 f0), (h2, aZ Y 2 f1), (h3, aZ Y 80 f3), (h4, aB Y 1600 f4), (h5, aI Y 200 f13), (h6, aI Y 800 f14)] sz) (QI D (fun (r : Int32) (u : WU) => (u.1 0) ≤ 1600) (fun (u : WU) => [(h0, oC 13 [.ref h1, .ref h2, .int (u.2.1 0), .ref h3, .ref h4, .int (nI (u.1 0)), .int (nI k6), .int p7, .int p8, .int p9, .int (nI k10), .int p11, .long q12, .ref h5, .ref h6, .int (nI k15), .int (nI k16)]), (h1, aI Y 3640 f0), (h2, aZ Y 2 f1), (h3, aZ Y 80 f3), (h4, aB Y 1600 f4), (h5, aI Y 200 f13), (h6, aI Y 800 f14)]) (va_A [(h0, oC 13 [.ref h1, .ref h2, .int p2, .ref h3, .ref h4, .int (nI k5), .int (nI k6), .int p7, .int p8, .int p9, .int (nI k10), .int p11, .long q12, .ref h5, .ref h6, .int (nI k15), .int (nI k16)]), (h1, aI Y 3640 f0), (h2, aZ Y 2 f1), (h3, aZ Y 80 f3), (h4, aB Y 1600 f4), (h5, aI Y 200 f13), (h6, aI Y 800 f14)] sz)) 0 0 (va_A [(h0, oC 13 [.ref h1, .ref h2, .int p2, .ref h3, .ref h4, .int (nI k5), .int (nI k6), .int p7, .int p8, .int p9, .int (nI k10), .int p11, .long q12, .ref h5, .ref h6, .int (nI k15), .int (nI k16)]), (h1, aI Y 3640 f0), (h2, aZ Y 2 f1), (h3, aZ Y 80 f3), (h4, aB Y 1600 f4), (h5, aI Y 200 f13), (h6, aI Y 800 f14)] sz) :=
  met_of (by decide +kernel) (Nat.le_of_ble_eq_true rfl) (fun p e s m args below meth c B hin hsz => by
    have B : VB p s m args meth c D Y (va_A [(h0, oC 13 [.ref h1, .ref h2, .int p2, .ref h3, .ref h4, .int (nI k5), .int (nI k6), .int p7, .int p8, .int p9, .int (nI k10), .int p11, .long q12, .ref h5, .ref h6, .int (nI k15), .int (nI k16)]), (h1, aI Y 3640 f0), (h2, aZ Y 2 f1), (h3, aZ Y 80 f3), (h4, aB Y 1600 f4), (h5, aI Y 200 f13), (h6, aI Y 800 f14)] sz) cX12_truncateInput 2 RX12 (some .int) := B
    refine V_aload_n 0 B dX12_truncateInput_0 0 rfl ?_
    refine V_iconst 1 B (v := 0) dX12_truncateInput_1 (by decide +kernel) ?_
    refine V_put 2 B gp_RX12_38 0 rfl (Nat.le_of_ble_eq_true rfl) rfl rfl dX12_truncateInput_2 [(h0, oC 13 [.ref h1, .ref h2, .int 0, .ref h3, .ref h4, .int (nI k5), .int (nI k6), .int p7, .int p8, .int p9, .int (nI k10), .int p11, .long q12, .ref h5, .ref h6, .int (nI k15), .int (nI k16)]), (h1, aI Y 3640 f0), (h2, aZ Y 2 f1), (h3, aZ Y 80 f3), (h4, aB Y 1600 f4), (h5, aI Y 200 f13), (h6, aI Y 800 f14)] rfl ?_
    refine V_iload_n 5 B dX12_truncateInput_5 1 rfl ?_
    refine V_i2l 6 B dX12_truncateInput_6 rfl ?_
    refine V_nml (fun o0 e1 => ?_)
    have x2 : o0.toInt = s0.toInt := by rw [e1, Int32.toInt_toInt64]
    refine V_lconst 7 B (v := 0) dX12_truncateInput_7 (by decide +kernel) ?_
    refine V_aload_n 8 B dX12_truncateInput_8 0 rfl ?_
    refine V_get 9 B gf_RX12_240 0 rfl rfl dX12_truncateInput_9 ?_
    refine V_i2l 12 B dX12_truncateInput_12 rfl ?_
    refine V_nml (fun o3 e4 => ?_)
    have x5 : o3.toInt = ((k5 : Nat) : Int) := by rw [e4, Int32.toInt_toInt64]; exact nI_toInt (by omega)
    refine V_csi 13 B (st := []) (As := [.long o0, .long 0, .long o3]) (fun sz => rX12_inRange l D Y o0 0 o3 sz) glS_RX12_41 ⟨rfl, rfl⟩ ⟨(Nat.le_of_ble_eq_true rfl), (Nat.le_of_ble_eq_true rfl)⟩ ⟨(Nat.le_of_ble_eq_true rfl), (Nat.le_of_ble_eq_true rfl)⟩ [] rfl rfl (Nat.le_of_ble_eq_true rfl) rfl (fun _ _ _ => rfl) dX12_truncateInput_13 (fun j6 u7 w8 => ?_)
    refine V_ws [(h0, oC 13 [.ref h1, .ref h2, .int 0, .ref h3, .ref h4, .int (nI k5), .int (nI k6), .int p7, .int p8, .int p9, .int (nI k10), .int p11, .long q12, .ref h5, .ref h6, .int (nI k15), .int (nI k16)]), (h1, aI Y 3640 f0), (h2, aZ Y 2 f1), (h3, aZ Y 80 f3), (h4, aB Y 1600 f4), (h5, aI Y 200 f13), (h6, aI Y 800 f14)] rfl ?_
    rcases w8 with rfl | ⟨rfl, x9, x10⟩
    ·
      refine V_if_ne_f 16 B 21 dX12_truncateInput_16 (by decide) (by decide +kernel) ?_
      refine V_iconst 19 B (v := (-1)) dX12_truncateInput_19 (by decide +kernel) ?_
      exact V_iret 20 B dX12_truncateInput_20 (mkW [k5] [0] [] [] [] []) (by omega) rfl
    ·
      rw [show (0 : Int64).toInt = 0 by decide +kernel] at x9
      refine V_if_ne_t 16 B 21 dX12_truncateInput_16 (by decide) (by decide +kernel) ?_
      refine V_aload_n 21 B dX12_truncateInput_21 0 rfl ?_
      refine V_iload_n 22 B dX12_truncateInput_22 1 rfl ?_
      obtain ⟨n11, x12, rfl⟩ := nat_of (x := s0) (n := 1600) (by omega) (by omega)
      have e13 := nI_toInt (show n11 < 2 ^ 31 by omega)
      refine V_put 23 B gp_RX12_240 0 rfl (Nat.le_of_ble_eq_true rfl) rfl rfl dX12_truncateInput_23 [(h0, oC 13 [.ref h1, .ref h2, .int 0, .ref h3, .ref h4, .int (nI n11), .int (nI k6), .int p7, .int p8, .int p9, .int (nI k10), .int p11, .long q12, .ref h5, .ref h6, .int (nI k15), .int (nI k16)]), (h1, aI Y 3640 f0), (h2, aZ Y 2 f1), (h3, aZ Y 80 f3), (h4, aB Y 1600 f4), (h5, aI Y 200 f13), (h6, aI Y 800 f14)] rfl ?_
      refine V_iload_n 26 B dX12_truncateInput_26 1 rfl ?_
      exact V_iret 27 B dX12_truncateInput_27 (mkW [n11] [0] [] [] [] []) (by omega) rfl)
theorem dX12_errorCode_0 : decode cX12_errorCode 0 = .ok (.aload_n 0, 1) := by decide +kernel
theorem dX12_errorCode_1 : decode cX12_errorCode 1 = .ok (.iconst 0, 1) := by decide +kernel
theorem dX12_errorCode_2 : decode cX12_errorCode 2 = .ok (.putfield 38, 3) := by decide +kernel
theorem dX12_errorCode_5 : decode cX12_errorCode 5 = .ok (.aload_n 0, 1) := by decide +kernel
theorem dX12_errorCode_6 : decode cX12_errorCode 6 = .ok (.getfield 246, 3) := by decide +kernel
theorem gf_RX12_246 : GF RX12 246 13 7 := ⟨RX12, TX12, 17, rfl, inw_X12, Nat.le_of_ble_eq_true rfl, (mT7 144 rfl rfl)⟩
theorem dX12_errorCode_9 : decode cX12_errorCode 9 = .ok (.ireturn, 1) := by decide +kernel
set_option maxRecDepth 100000 in
set_option maxHeartbeats 4000000 in
theorem rX12_errorCode (l : Launch) (D : va_G) (Y : Nat → ClassId) (h0 : Nat) (h1 : Nat) (h2 : Nat) (h3 : Nat) (h4 : Nat) (h5 : Nat) (h6 : Nat) (p2 : Int32) (k5 : Nat) (k6 : Nat) (p7 : Int32) (p8 : Int32) (p9 : Int32) (k10 : Nat) (p11 : Int32) (q12 : Int64) (k15 : Nat) (k16 : Nat) (f0 : Nat → Int32) (f1 : Nat → Int32) (f3 : Nat → Int32) (f4 : Nat → Int32) (f13 : Nat → Int32) (f14 : Nat → Int32) (HI : INV f0) (HL : k5 ≤ 1600) (HP : PLV f13)   (sz : Nat) : Met l yX12_errorCode (WSm yX12_errorCode cX12_errorCode 1 (some .int)) (mkR 0 0 0 0) (PreC D Y [.ref h0] [(h0, oC 13 [.ref h1, .ref h2, .int p2, .ref h3, .ref h4, .int (nI k5), .int (nI k6), .int p7, .int p8, .int p9, .int (nI k10), .int p11, .long q12, .ref h5, .ref h6, .int (nI k15), .int (nI k16)]), (h1, aI Y 3640 f0), (h2, aZ Y 2 f1), (h3, aZ Y 80 f3), (h4, aB Y 1600 f4), (h5, aI Y 200 f13), (h6, aI Y 800 f14)] sz) (QI D (fun (r : Int32) (u : WU) => True) (fun (u : WU) => [(h0, oC 13 [.ref h1, .ref h2, .int (u.2.1 0), .ref h3, .ref h4, .int (nI k5), .int (nI k6), .int p7, .int p8, .int p9, .int (nI k10), .int p11, .long q12, .ref h5, .ref h6, .int (nI k15), .int (nI k16)]), (h1, aI Y 3640 f0), (h2, aZ Y 2 f1), (h3, aZ Y 80 f3), (h4, aB Y 1600 f4), (h5, aI Y 200 f13), (h6, aI Y 800 f14)]) (va_A [(h0, oC 13 [.ref h1, .ref h2, .int p2, .ref h3, .ref h4, .int (nI k5), .int (nI k6), .int p7, .int p8, .int p9, .int (nI k10), .int p11, .long q12, .ref h5, .ref h6, .int (nI k15), .int (nI k16)]), (h1, aI Y 3640 f0), (h2, aZ Y 2 f1), (h3, aZ Y 80 f3), (h4, aB Y 1600 f4), (h5, aI Y 200 f13), (h6, aI Y 800 f14)] sz)) 0 0 (va_A [(h0, oC 13 [.ref h1, .ref h2, .int p2, .ref h3, .ref h4, .int (nI k5), .int (nI k6), .int p7, .int p8, .int p9, .int (nI k10), .int p11, .long q12, .ref h5, .ref h6, .int (nI k15), .int (nI k16)]), (h1, aI Y 3640 f0), (h2, aZ Y 2 f1), (h3, aZ Y 80 f3), (h4, aB Y 1600 f4), (h5, aI Y 200 f13), (h6, aI Y 800 f14)] sz) :=
  met_of (by decide +kernel) (Nat.le_of_ble_eq_true rfl) (fun p e s m args below meth c B hin hsz => by
    have B : VB p s m args meth c D Y (va_A [(h0, oC 13 [.ref h1, .ref h2, .int p2, .ref h3, .ref h4, .int (nI k5), .int (nI k6), .int p7, .int p8, .int p9, .int (nI k10), .int p11, .long q12, .ref h5, .ref h6, .int (nI k15), .int (nI k16)]), (h1, aI Y 3640 f0), (h2, aZ Y 2 f1), (h3, aZ Y 80 f3), (h4, aB Y 1600 f4), (h5, aI Y 200 f13), (h6, aI Y 800 f14)] sz) cX12_errorCode 1 RX12 (some .int) := B
    refine V_aload_n 0 B dX12_errorCode_0 0 rfl ?_
    refine V_iconst 1 B (v := 0) dX12_errorCode_1 (by decide +kernel) ?_
    refine V_put 2 B gp_RX12_38 0 rfl (Nat.le_of_ble_eq_true rfl) rfl rfl dX12_errorCode_2 [(h0, oC 13 [.ref h1, .ref h2, .int 0, .ref h3, .ref h4, .int (nI k5), .int (nI k6), .int p7, .int p8, .int p9, .int (nI k10), .int p11, .long q12, .ref h5, .ref h6, .int (nI k15), .int (nI k16)]), (h1, aI Y 3640 f0), (h2, aZ Y 2 f1), (h3, aZ Y 80 f3), (h4, aB Y 1600 f4), (h5, aI Y 200 f13), (h6, aI Y 800 f14)] rfl ?_
    refine V_aload_n 5 B dX12_errorCode_5 0 rfl ?_
    refine V_get 6 B gf_RX12_246 0 rfl rfl dX12_errorCode_6 ?_
    exact V_iret 9 B dX12_errorCode_9 (mkW [] [0] [] [] [] []) trivial rfl)
theorem dX12_errorPosition_0 : decode cX12_errorPosition 0 = .ok (.aload_n 0, 1) := by decide +kernel
theorem dX12_errorPosition_1 : decode cX12_errorPosition 1 = .ok (.iconst 0, 1) := by decide +kernel
theorem dX12_errorPosition_2 : decode cX12_errorPosition 2 = .ok (.putfield 38, 3) := by decide +kernel
theorem dX12_errorPosition_5 : decode cX12_errorPosition 5 = .ok (.aload_n 0, 1) := by decide +kernel
theorem dX12_errorPosition_6 : decode cX12_errorPosition 6 = .ok (.getfield 24, 3) := by decide +kernel
theorem gf_RX12_24 : GF RX12 24 13 8 := ⟨RX12, TX12, 17, rfl, inw_X12, Nat.le_of_ble_eq_true rfl, (mT7 145 rfl rfl)⟩
theorem dX12_errorPosition_9 : decode cX12_errorPosition 9 = .ok (.ireturn, 1) := by decide +kernel
set_option maxRecDepth 100000 in
set_option maxHeartbeats 4000000 in
theorem rX12_errorPosition (l : Launch) (D : va_G) (Y : Nat → ClassId) (h0 : Nat) (h1 : Nat) (h2 : Nat) (h3 : Nat) (h4 : Nat) (h5 : Nat) (h6 : Nat) (p2 : Int32) (k5 : Nat) (k6 : Nat) (p7 : Int32) (p8 : Int32) (p9 : Int32) (k10 : Nat) (p11 : Int32) (q12 : Int64) (k15 : Nat) (k16 : Nat) (f0 : Nat → Int32) (f1 : Nat → Int32) (f3 : Nat → Int32) (f4 : Nat → Int32) (f13 : Nat → Int32) (f14 : Nat → Int32) (HI : INV f0) (HL : k5 ≤ 1600) (HP : PLV f13)   (sz : Nat) : Met l yX12_errorPosition (WSm yX12_errorPosition cX12_errorPosition 1 (some .int)) (mkR 0 0 0 0) (PreC D Y [.ref h0] [(h0, oC 13 [.ref h1, .ref h2, .int p2, .ref h3, .ref h4, .int (nI k5), .int (nI k6), .int p7, .int p8, .int p9, .int (nI k10), .int p11, .long q12, .ref h5, .ref h6, .int (nI k15), .int (nI k16)]), (h1, aI Y 3640 f0), (h2, aZ Y 2 f1), (h3, aZ Y 80 f3), (h4, aB Y 1600 f4), (h5, aI Y 200 f13), (h6, aI Y 800 f14)] sz) (QI D (fun (r : Int32) (u : WU) => True) (fun (u : WU) => [(h0, oC 13 [.ref h1, .ref h2, .int (u.2.1 0), .ref h3, .ref h4, .int (nI k5), .int (nI k6), .int p7, .int p8, .int p9, .int (nI k10), .int p11, .long q12, .ref h5, .ref h6, .int (nI k15), .int (nI k16)]), (h1, aI Y 3640 f0), (h2, aZ Y 2 f1), (h3, aZ Y 80 f3), (h4, aB Y 1600 f4), (h5, aI Y 200 f13), (h6, aI Y 800 f14)]) (va_A [(h0, oC 13 [.ref h1, .ref h2, .int p2, .ref h3, .ref h4, .int (nI k5), .int (nI k6), .int p7, .int p8, .int p9, .int (nI k10), .int p11, .long q12, .ref h5, .ref h6, .int (nI k15), .int (nI k16)]), (h1, aI Y 3640 f0), (h2, aZ Y 2 f1), (h3, aZ Y 80 f3), (h4, aB Y 1600 f4), (h5, aI Y 200 f13), (h6, aI Y 800 f14)] sz)) 0 0 (va_A [(h0, oC 13 [.ref h1, .ref h2, .int p2, .ref h3, .ref h4, .int (nI k5), .int (nI k6), .int p7, .int p8, .int p9, .int (nI k10), .int p11, .long q12, .ref h5, .ref h6, .int (nI k15), .int (nI k16)]), (h1, aI Y 3640 f0), (h2, aZ Y 2 f1), (h3, aZ Y 80 f3), (h4, aB Y 1600 f4), (h5, aI Y 200 f13), (h6, aI Y 800 f14)] sz) :=
  met_of (by decide +kernel) (Nat.le_of_ble_eq_true rfl) (fun p e s m args below meth c B hin hsz => by
    have B : VB p s m args meth c D Y (va_A [(h0, oC 13 [.ref h1, .ref h2, .int p2, .ref h3, .ref h4, .int (nI k5), .int (nI k6), .int p7, .int p8, .int p9, .int (nI k10), .int p11, .long q12, .ref h5, .ref h6, .int (nI k15), .int (nI k16)]), (h1, aI Y 3640 f0), (h2, aZ Y 2 f1), (h3, aZ Y 80 f3), (h4, aB Y 1600 f4), (h5, aI Y 200 f13), (h6, aI Y 800 f14)] sz) cX12_errorPosition 1 RX12 (some .int) := B
    refine V_aload_n 0 B dX12_errorPosition_0 0 rfl ?_
    refine V_iconst 1 B (v := 0) dX12_errorPosition_1 (by decide +kernel) ?_
    refine V_put 2 B gp_RX12_38 0 rfl (Nat.le_of_ble_eq_true rfl) rfl rfl dX12_errorPosition_2 [(h0, oC 13 [.ref h1, .ref h2, .int 0, .ref h3, .ref h4, .int (nI k5), .int (nI k6), .int p7, .int p8, .int p9, .int (nI k10), .int p11, .long q12, .ref h5, .ref h6, .int (nI k15), .int (nI k16)]), (h1, aI Y 3640 f0), (h2, aZ Y 2 f1), (h3, aZ Y 80 f3), (h4, aB Y 1600 f4), (h5, aI Y 200 f13), (h6, aI Y 800 f14)] rfl ?_
    refine V_aload_n 5 B dX12_errorPosition_5 0 rfl ?_
    refine V_get 6 B gf_RX12_24 0 rfl rfl dX12_errorPosition_6 ?_
    exact V_iret 9 B dX12_errorPosition_9 (mkW [] [0] [] [] [] []) trivial rfl)
theorem dX12_byteAt_0 : decode cX12_byteAt 0 = .ok (.iload_n 1, 1) := by decide +kernel
theorem dX12_byteAt_1 : decode cX12_byteAt 1 = .ok (.aload_n 0, 1) := by decide +kernel
theorem dX12_byteAt_2 : decode cX12_byteAt 2 = .ok (.getfield 240, 3) := by decide +kernel
theorem dX12_byteAt_5 : decode cX12_byteAt 5 = .ok (.if_icmp .ge 16, 3) := by decide +kernel
theorem dX12_byteAt_21 : decode cX12_byteAt 21 = .ok (.iconst (-1), 1) := by decide +kernel
theorem dX12_byteAt_22 : decode cX12_byteAt 22 = .ok (.ireturn, 1) := by decide +kernel
theorem dX12_byteAt_8 : decode cX12_byteAt 8 = .ok (.aload_n 0, 1) := by decide +kernel
theorem dX12_byteAt_9 : decode cX12_byteAt 9 = .ok (.getfield 20, 3) := by decide +kernel
theorem gf_RX12_20 : GF RX12 20 13 4 := ⟨RX12, TX12, 17, rfl, inw_X12, Nat.le_of_ble_eq_true rfl, (mT7 141 rfl rfl)⟩
theorem dX12_byteAt_12 : decode cX12_byteAt 12 = .ok (.iload_n 1, 1) := by decide +kernel
theorem dX12_byteAt_13 : decode cX12_byteAt 13 = .ok (.baload, 1) := by decide +kernel
theorem dX12_isSmall_0 : decode cX12_isSmall 0 = .ok (.iload_n 0, 1) := by decide +kernel
theorem dX12_isSmall_1 : decode cX12_isSmall 1 = .ok (.i2l, 1) := by decide +kernel
theorem dX12_isSmall_2 : decode cX12_isSmall 2 = .ok (.ldc2_w 249, 3) := by decide +kernel
theorem dX12_isSmall_5 : decode cX12_isSmall 5 = .ok (.ldc2_w 251, 3) := by decide +kernel
theorem dX12_isSmall_8 : decode cX12_isSmall 8 = .ok (.invokestatic 41, 3) := by decide +kernel
theorem dX12_isSmall_11 : decode cX12_isSmall 11 = .ok (.ireturn, 1) := by decide +kernel
set_option maxRecDepth 100000 in
set_option maxHeartbeats 4000000 in
theorem rX12_isSmall (l : Launch) (D : va_G) (Y : Nat → ClassId)  (s0 : Int32)  (sz : Nat) : Met l yX12_isSmall (WSm yX12_isSmall cX12_isSmall 1 (some .boolean)) (mkR 1 0 0 25) (PreC D Y [.int s0] [] sz) (QI D (fun (r : Int32) (u : WU) => (r = 0 ∨ r = 1)) (fun (u : WU) => []) (va_A [] sz)) 0 0 (va_A [] sz) :=
  met_of (by decide +kernel) (Nat.le_of_ble_eq_true rfl) (fun p e s m args below meth c B hin hsz => by
    have B : VB p s m args meth c D Y (va_A [] sz) cX12_isSmall 1 RX12 (some .boolean) := B
    refine V_iload_n 0 B dX12_isSmall_0 0 rfl ?_
    refine V_i2l 1 B dX12_isSmall_1 rfl ?_
    refine V_nml (fun o0 e1 => ?_)
    have x2 : o0.toInt = s0.toInt := by rw [e1, Int32.toInt_toInt64]
    refine V_ldc2 2 B (v := 97) dX12_isSmall_2 (mT9 211 rfl rfl) ?_
    refine V_ldc2 5 B (v := 122) dX12_isSmall_5 (mT9 212 rfl rfl) ?_
    refine V_csi 8 B (st := []) (As := [.long o0, .long 97, .long 122]) (fun sz => rX12_inRange l D Y o0 97 122 sz) glS_RX12_41 ⟨rfl, rfl⟩ ⟨(Nat.le_of_ble_eq_true rfl), (Nat.le_of_ble_eq_true rfl)⟩ ⟨(Nat.le_of_ble_eq_true rfl), (Nat.le_of_ble_eq_true rfl)⟩ [] rfl rfl (Nat.le_of_ble_eq_true rfl) rfl (fun _ _ _ => rfl) dX12_isSmall_8 (fun j3 u4 w5 => ?_)
    rcases w5 with rfl | ⟨rfl, x6, x7⟩
    ·
      exact V_zret 11 B rfl dX12_isSmall_11 (mkW [] [] [] [] [] []) (Or.inl rfl) rfl
    ·
      rw [show (97 : Int64).toInt = 97 by decide +kernel] at x6
      rw [show (122 : Int64).toInt = 122 by decide +kernel] at x7
      exact V_zret 11 B rfl dX12_isSmall_11 (mkW [] [] [] [] [] []) (Or.inr rfl) rfl)
