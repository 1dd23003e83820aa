theorem glV_RX12_69 : GLV RX12 69 yX12_throwsIf RX12 cX12_throwsIf 3 (some .boolean) 2 := ⟨⟨(mT7 213 rfl rfl), (mT7 215 rfl rfl), (mTs 29 rfl rfl), (mT1 13 rfl rfl), (mT7 216 rfl rfl)⟩, by decide +kernel⟩
theorem dX12_draft_22 : decode cX12_draft 22 = .ok (.ifCond .eq 5, 3) := by decide +kernel
theorem dX12_draft_25 : decode cX12_draft 25 = .ok (.iconst 0, 1) := by decide +kernel
theorem dX12_draft_26 : decode cX12_draft 26 = .ok (.ireturn, 1) := by decide +kernel
theorem dX12_draft_17 : decode cX12_draft 17 = .ok (.iconst 0, 1) := by decide +kernel
set_option maxRecDepth 100000 in
set_option maxHeartbeats 4000000 in
theorem rX12_throwsIf_0 (l : Launch) (D : va_G) (Y : Nat → ClassId) (h0 : Nat) (h1 : Nat) (h2 : Nat) (h3 : Nat) (h4 : Nat) (h5 : Nat) (h6 : Nat) (p2 : Int32) (k5 : Nat) (k6 : Nat) (p7 : Int32) (p8 : Int32) (p9 : Int32) (k10 : Nat) (p11 : Int32) (q12 : Int64) (k15 : Nat) (k16 : Nat) (f0 : Nat → Int32) (f1 : Nat → Int32) (f3 : Nat → Int32) (f4 : Nat → Int32) (f13 : Nat → Int32) (f14 : Nat → Int32) (HI : INV f0) (HL : k5 ≤ 1600) (HP : PLV f13) (s1 : Int32)  (sz : Nat) : Met l yX12_throwsIf (WSm yX12_throwsIf cX12_throwsIf 3 (some .boolean)) (mkR 0 0 0 0) (PreC D Y [.ref h0, .int 0, .int s1] [(h0, oC 13 [.ref h1, .ref h2, .int p2, .ref h3, .ref h4, .int (nI k5), .int (nI k6), .int p7, .int p8, .int p9, .int (nI k10), .int p11, .long q12, .ref h5, .ref h6, .int (nI k15), .int (nI k16)]), (h1, aI Y 3640 f0), (h2, aZ Y 2 f1), (h3, aZ Y 80 f3), (h4, aB Y 1600 f4), (h5, aI Y 200 f13), (h6, aI Y 800 f14)] sz) (QI D (fun (r : Int32) (u : WU) => r = 0) (fun (u : WU) => [(h0, oC 13 [.ref h1, .ref h2, .int (u.2.1 0), .ref h3, .ref h4, .int (nI k5), .int (nI k6), .int p7, .int p8, .int p9, .int (nI k10), .int p11, .long q12, .ref h5, .ref h6, .int (nI k15), .int (nI k16)]), (h1, aI Y 3640 f0), (h2, aZ Y 2 f1), (h3, aZ Y 80 f3), (h4, aB Y 1600 f4), (h5, aI Y 200 f13), (h6, aI Y 800 f14)]) (va_A [(h0, oC 13 [.ref h1, .ref h2, .int p2, .ref h3, .ref h4, .int (nI k5), .int (nI k6), .int p7, .int p8, .int p9, .int (nI k10), .int p11, .long q12, .ref h5, .ref h6, .int (nI k15), .int (nI k16)]), (h1, aI Y 3640 f0), (h2, aZ Y 2 f1), (h3, aZ Y 80 f3), (h4, aB Y 1600 f4), (h5, aI Y 200 f13), (h6, aI Y 800 f14)] sz)) 0 0 (va_A [(h0, oC 13 [.ref h1, .ref h2, .int p2, .ref h3, .ref h4, .int (nI k5), .int (nI k6), .int p7, .int p8, .int p9, .int (nI k10), .int p11, .long q12, .ref h5, .ref h6, .int (nI k15), .int (nI k16)]), (h1, aI Y 3640 f0), (h2, aZ Y 2 f1), (h3, aZ Y 80 f3), (h4, aB Y 1600 f4), (h5, aI Y 200 f13), (h6, aI Y 800 f14)] sz) :=
  met_of (by decide +kernel) (Nat.le_of_ble_eq_true rfl) (fun p e s m args below meth c B hin hsz => by
    have B : VB p s m args meth c D Y (va_A [(h0, oC 13 [.ref h1, .ref h2, .int p2, .ref h3, .ref h4, .int (nI k5), .int (nI k6), .int p7, .int p8, .int p9, .int (nI k10), .int p11, .long q12, .ref h5, .ref h6, .int (nI k15), .int (nI k16)]), (h1, aI Y 3640 f0), (h2, aZ Y 2 f1), (h3, aZ Y 80 f3), (h4, aB Y 1600 f4), (h5, aI Y 200 f13), (h6, aI Y 800 f14)] sz) cX12_throwsIf 3 RX12 (some .boolean) := B
    refine V_iload_n 0 B dX12_throwsIf_0 1 rfl ?_
    refine V_if_eq_t 1 B 9 dX12_throwsIf_1 (by decide) (by decide +kernel) ?_
    refine V_iload_n 9 B dX12_throwsIf_9 1 rfl ?_
    exact V_zret 10 B rfl dX12_throwsIf_10 (mkW [] [p2] [] [] [] []) rfl rfl)
theorem dX12_draft_27 : decode cX12_draft 27 = .ok (.aload_n 0, 1) := by decide +kernel
theorem dX12_draft_28 : decode cX12_draft 28 = .ok (.getfield 9, 3) := by decide +kernel
theorem dX12_draft_31 : decode cX12_draft 31 = .ok (.sipush 3624, 3) := by decide +kernel
theorem dX12_draft_34 : decode cX12_draft 34 = .ok (.iaload, 1) := by decide +kernel
theorem dX12_draft_35 : decode cX12_draft 35 = .ok (.iconst 4, 1) := by decide +kernel
theorem dX12_draft_36 : decode cX12_draft 36 = .ok (.if_icmp .ne 6, 3) := by decide +kernel
theorem dX12_draft_42 : decode cX12_draft 42 = .ok (.aload_n 0, 1) := by decide +kernel
theorem dX12_draft_43 : decode cX12_draft 43 = .ok (.getfield 9, 3) := by decide +kernel
theorem dX12_draft_46 : decode cX12_draft 46 = .ok (.sipush 3624, 3) := by decide +kernel
theorem dX12_draft_49 : decode cX12_draft 49 = .ok (.dup2, 1) := by decide +kernel
theorem dX12_draft_50 : decode cX12_draft 50 = .ok (.iaload, 1) := by decide +kernel
theorem dX12_draft_51 : decode cX12_draft 51 = .ok (.iconst 1, 1) := by decide +kernel
theorem dX12_draft_52 : decode cX12_draft 52 = .ok (.iadd, 1) := by decide +kernel
theorem dX12_draft_53 : decode cX12_draft 53 = .ok (.iastore, 1) := by decide +kernel
theorem dX12_draft_54 : decode cX12_draft 54 = .ok (.aload_n 0, 1) := by decide +kernel
theorem dX12_draft_55 : decode cX12_draft 55 = .ok (.getfield 9, 3) := by decide +kernel
theorem dX12_draft_58 : decode cX12_draft 58 = .ok (.sipush 3624, 3) := by decide +kernel
theorem dX12_draft_61 : decode cX12_draft 61 = .ok (.aload_n 0, 1) := by decide +kernel
theorem dX12_draft_62 : decode cX12_draft 62 = .ok (.getfield 9, 3) := by decide +kernel
theorem dX12_draft_65 : decode cX12_draft 65 = .ok (.sipush 3624, 3) := by decide +kernel
theorem dX12_draft_68 : decode cX12_draft 68 = .ok (.iaload, 1) := by decide +kernel
theorem dX12_draft_69 : decode cX12_draft 69 = .ok (.iadd, 1) := by decide +kernel
theorem dX12_draft_70 : decode cX12_draft 70 = .ok (.iload_n 1, 1) := by decide +kernel
theorem dX12_draft_71 : decode cX12_draft 71 = .ok (.iastore, 1) := by decide +kernel
theorem rl0 : ∀ z0, z0 < 4 → bd (3625 + z0) = FREE := by decide +kernel
theorem dX12_draft_72 : decode cX12_draft 72 = .ok (.aload_n 0, 1) := by decide +kernel
theorem dX12_draft_73 : decode cX12_draft 73 = .ok (.getfield 9, 3) := by decide +kernel
theorem dX12_draft_76 : decode cX12_draft 76 = .ok (.sipush 3624, 3) := by decide +kernel
theorem dX12_draft_79 : decode cX12_draft 79 = .ok (.iaload, 1) := by decide +kernel
theorem dX12_draft_80 : decode cX12_draft 80 = .ok (.ireturn, 1) := by decide +kernel
theorem dX12_draft_39 : decode cX12_draft 39 = .ok (.bipush (-2), 2) := by decide +kernel
theorem dX12_draft_41 : decode cX12_draft 41 = .ok (.ireturn, 1) := by decide +kernel
set_option maxRecDepth 100000 in
set_option maxHeartbeats 4000000 in
theorem rX12_draft (l : Launch) (D : va_G) (Y : Nat → ClassId) (h0 : Nat) (h1 : Nat) (h2 : Nat) (h3 : Nat) (h4 : Nat) (h5 : Nat) (h6 : Nat) (p2 : Int32) (k5 : Nat) (k6 : Nat) (p7 : Int32) (p8 : Int32) (p9 : Int32) (k10 : Nat) (p11 : Int32) (q12 : Int64) (k15 : Nat) (k16 : Nat) (f0 : Nat → Int32) (f1 : Nat → Int32) (f3 : Nat → Int32) (f4 : Nat → Int32) (f13 : Nat → Int32) (f14 : Nat → Int32) (HI : INV f0) (HL : k5 ≤ 1600) (HP : PLV f13) (s0 : Int32)  (sz : Nat) : Met l yX12_draft (WSm yX12_draft cX12_draft 2 (some .int)) (mkR 2 0 0 45) (PreC D Y [.ref h0, .int s0] [(h0, oC 13 [.ref h1, .ref h2, .int p2, .ref h3, .ref h4, .int (nI k5), .int (nI k6), .int p7, .int p8, .int p9, .int (nI k10), .int p11, .long q12, .ref h5, .ref h6, .int (nI k15), .int (nI k16)]), (h1, aI Y 3640 f0), (h2, aZ Y 2 f1), (h3, aZ Y 80 f3), (h4, aB Y 1600 f4), (h5, aI Y 200 f13), (h6, aI Y 800 f14)] sz) (QI D (fun (r : Int32) (u : WU) => INV (u.2.2.2.1 0)) (fun (u : WU) => [(h0, oC 13 [.ref h1, .ref h2, .int (u.2.1 0), .ref h3, .ref h4, .int (nI k5), .int (nI k6), .int p7, .int p8, .int p9, .int (nI k10), .int p11, .long q12, .ref h5, .ref h6, .int (nI k15), .int (nI k16)]), (h1, aI Y 3640 (u.2.2.2.1 0)), (h2, aZ Y 2 f1), (h3, aZ Y 80 f3), (h4, aB Y 1600 f4), (h5, aI Y 200 f13), (h6, aI Y 800 f14)]) (va_A [(h0, oC 13 [.ref h1, .ref h2, .int p2, .ref h3, .ref h4, .int (nI k5), .int (nI k6), .int p7, .int p8, .int p9, .int (nI k10), .int p11, .long q12, .ref h5, .ref h6, .int (nI k15), .int (nI k16)]), (h1, aI Y 3640 f0), (h2, aZ Y 2 f1), (h3, aZ Y 80 f3), (h4, aB Y 1600 f4), (h5, aI Y 200 f13), (h6, aI Y 800 f14)] sz)) 0 0 (va_A [(h0, oC 13 [.ref h1, .ref h2, .int p2, .ref h3, .ref h4, .int (nI k5), .int (nI k6), .int p7, .int p8, .int p9, .int (nI k10), .int p11, .long q12, .ref h5, .ref h6, .int (nI k15), .int (nI k16)]), (h1, aI Y 3640 f0), (h2, aZ Y 2 f1), (h3, aZ Y 80 f3), (h4, aB Y 1600 f4), (h5, aI Y 200 f13), (h6, aI Y 800 f14)] sz) :=
  met_of (by decide +kernel) (Nat.le_of_ble_eq_true rfl) (fun p e s m args below meth c B hin hsz => by
    have B : VB p s m args meth c D Y (va_A [(h0, oC 13 [.ref h1, .ref h2, .int p2, .ref h3, .ref h4, .int (nI k5), .int (nI k6), .int p7, .int p8, .int p9, .int (nI k10), .int p11, .long q12, .ref h5, .ref h6, .int (nI k15), .int (nI k16)]), (h1, aI Y 3640 f0), (h2, aZ Y 2 f1), (h3, aZ Y 80 f3), (h4, aB Y 1600 f4), (h5, aI Y 200 f13), (h6, aI Y 800 f14)] sz) cX12_draft 2 RX12 (some .int) := B
    refine V_aload_n 0 B dX12_draft_0 0 rfl ?_
    refine V_iconst 1 B (v := 0) dX12_draft_1 (by decide +kernel) ?_
    refine V_put 2 B gp_RX12_38 0 rfl (Nat.le_of_ble_eq_true rfl) rfl rfl dX12_draft_2 [(h0, oC 13 [.ref h1, .ref h2, .int 0, .ref h3, .ref h4, .int (nI k5), .int (nI k6), .int p7, .int p8, .int p9, .int (nI k10), .int p11, .long q12, .ref h5, .ref h6, .int (nI k15), .int (nI k16)]), (h1, aI Y 3640 f0), (h2, aZ Y 2 f1), (h3, aZ Y 80 f3), (h4, aB Y 1600 f4), (h5, aI Y 200 f13), (h6, aI Y 800 f14)] rfl ?_
    refine V_aload_n 5 B dX12_draft_5 0 rfl ?_
    refine V_iload_n 6 B dX12_draft_6 1 rfl ?_
    refine V_csi 7 B (st := [.ref h0]) (As := [.int s0]) (fun sz => rX12_isStroke l D Y s0 sz) glS_RX12_65 ⟨rfl, rfl⟩ ⟨(Nat.le_of_ble_eq_true rfl), (Nat.le_of_ble_eq_true rfl)⟩ ⟨(Nat.le_of_ble_eq_true rfl), (Nat.le_of_ble_eq_true rfl)⟩ [] rfl rfl (Nat.le_of_ble_eq_true rfl) rfl (fun _ _ _ => rfl) dX12_draft_7 (fun j0 u1 w2 => ?_)
    refine V_ws [(h0, oC 13 [.ref h1, .ref h2, .int 0, .ref h3, .ref h4, .int (nI k5), .int (nI k6), .int p7, .int p8, .int p9, .int (nI k10), .int p11, .long q12, .ref h5, .ref h6, .int (nI k15), .int (nI k16)]), (h1, aI Y 3640 f0), (h2, aZ Y 2 f1), (h3, aZ Y 80 f3), (h4, aB Y 1600 f4), (h5, aI Y 200 f13), (h6, aI Y 800 f14)] rfl ?_
    have x3 := w2
    rcases x3 with rfl | rfl
    ·
      refine V_if_ne_f 10 B 17 dX12_draft_10 (by decide) (by decide +kernel) ?_
      refine V_iconst 13 B (v := 1) dX12_draft_13 (by decide +kernel) ?_
      refine V_goto 14 B 18 dX12_draft_14 (by decide) ?_
      refine V_iconst 18 B (v := 1) dX12_draft_18 (by decide +kernel) ?_
      refine V_cvi 19 B (st := []) (As := [.int 1, .int 1]) (fun sz => rX12_throwsIf_1 l D Y h0 h1 h2 h3 h4 h5 h6 0 k5 k6 p7 p8 p9 k10 p11 q12 k15 k16 f0 f1 f3 f4 f13 f14 HI (by omega) HP 1 sz) glV_RX12_69 ⟨rfl, rfl⟩ ⟨(Nat.le_of_ble_eq_true rfl), (Nat.le_of_ble_eq_true rfl)⟩ ⟨(Nat.le_of_ble_eq_true rfl), (Nat.le_of_ble_eq_true rfl)⟩ [0, 0, 0, 0, 0, 0, 0] rfl 13 0 rfl rfl rfl rfl (Nat.le_of_ble_eq_true rfl) rfl (fun _ _ _ => rfl) dX12_draft_19 (fun j4 u5 w6 => ?_)
      refine V_ws [(h0, oC 13 [.ref h1, .ref h2, .int (u5.2.1 0), .ref h3, .ref h4, .int (nI k5), .int (nI k6), .int p7, .int p8, .int p9, .int (nI k10), .int p11, .long q12, .ref h5, .ref h6, .int (nI k15), .int (nI k16)]), (h1, aI Y 3640 f0), (h2, aZ Y 2 f1), (h3, aZ Y 80 f3), (h4, aB Y 1600 f4), (h5, aI Y 200 f13), (h6, aI Y 800 f14)] rfl ?_
      have x7 := w6
      obtain rfl := x7
      refine V_if_eq_f 22 B 27 dX12_draft_22 (by decide) (by decide +kernel) ?_
      refine V_iconst 25 B (v := 0) dX12_draft_25 (by decide +kernel) ?_
      exact V_iret 26 B dX12_draft_26 (mkW [] [(u5.2.1 0)] [] [f0] [] []) HI rfl
    ·
      refine V_if_ne_t 10 B 17 dX12_draft_10 (by decide) (by decide +kernel) ?_
      refine V_iconst 17 B (v := 0) dX12_draft_17 (by decide +kernel) ?_
      refine V_iconst 18 B (v := 1) dX12_draft_18 (by decide +kernel) ?_
      refine V_cvi 19 B (st := []) (As := [.int 0, .int 1]) (fun sz => rX12_throwsIf_0 l D Y h0 h1 h2 h3 h4 h5 h6 0 k5 k6 p7 p8 p9 k10 p11 q12 k15 k16 f0 f1 f3 f4 f13 f14 HI (by omega) HP 1 sz) glV_RX12_69 ⟨rfl, rfl⟩ ⟨(Nat.le_of_ble_eq_true rfl), (Nat.le_of_ble_eq_true rfl)⟩ ⟨(Nat.le_of_ble_eq_true rfl), (Nat.le_of_ble_eq_true rfl)⟩ [0, 0, 0, 0, 0, 0, 0] rfl 13 0 rfl rfl rfl rfl (Nat.le_of_ble_eq_true rfl) rfl (fun _ _ _ => rfl) dX12_draft_19 (fun j8 u9 w10 => ?_)
      refine V_ws [(h0, oC 13 [.ref h1, .ref h2, .int (u9.2.1 0), .ref h3, .ref h4, .int (nI k5), .int (nI k6), .int p7, .int p8, .int p9, .int (nI k10), .int p11, .long q12, .ref h5, .ref h6, .int (nI k15), .int (nI k16)]), (h1, aI Y 3640 f0), (h2, aZ Y 2 f1), (h3, aZ Y 80 f3), (h4, aB Y 1600 f4), (h5, aI Y 200 f13), (h6, aI Y 800 f14)] rfl ?_
      have x11 := w10
      obtain rfl := x11
      refine V_if_eq_t 22 B 27 dX12_draft_22 (by decide) (by decide +kernel) ?_
      refine V_aload_n 27 B dX12_draft_27 0 rfl ?_
      refine V_get 28 B gf_RX12_9 0 rfl rfl dX12_draft_28 ?_
      refine V_sipush 31 B (v := 3624) dX12_draft_31 (by decide +kernel) ?_
      have x12 : (gN f0 3624) ≤ 4 := gN_le HI (by omega) (show bd 3624 = (0, ((4 : Nat) : Int)) by decide +kernel)
      refine V_iald 34 B (v := (nI (gN f0 3624))) 1 rfl (vpin _ _ (by decide +kernel)) dX12_draft_34 (by show f0 3624 = _; exact gN_eq HI (by omega) (show bd 3624 = (0, ((4 : Nat) : Int)) by decide +kernel)) ?_
      refine V_iconst 35 B (v := 4) dX12_draft_35 (by decide +kernel) ?_
      refine V_icmp_ne 36 B 42 dX12_draft_36 (by decide) (fun kk13 => ?_) (fun kk13 => ?_)
      ·
        have x14 := n_ne (a := (gN f0 3624)) (b := 4) kk13
        refine V_aload_n 42 B dX12_draft_42 0 rfl ?_
        refine V_get 43 B gf_RX12_9 0 rfl rfl dX12_draft_43 ?_
        refine V_sipush 46 B (v := 3624) dX12_draft_46 (by decide +kernel) ?_
        refine V_dup2_11 49 B dX12_draft_49 rfl rfl ?_
        have x15 : (gN f0 3624) ≤ 4 := gN_le HI (by omega) (show bd 3624 = (0, ((4 : Nat) : Int)) by decide +kernel)
        refine V_iald 50 B (v := (nI (gN f0 3624))) 1 rfl (vpin _ _ (by decide +kernel)) dX12_draft_50 (by show f0 3624 = _; exact gN_eq HI (by omega) (show bd 3624 = (0, ((4 : Nat) : Int)) by decide +kernel)) ?_
        refine V_iconst 51 B (v := 1) dX12_draft_51 (by decide +kernel) ?_
        refine V_iadd 52 B (v := (nI (1 + (gN f0 3624)))) dX12_draft_52 (nI_addE (a := (gN f0 3624)) (b := 1) (by omega)) ?_
        have hv16 : INV (upd f0 3624 (nI (1 + (gN f0 3624)))) := INV_nat (v := 1 + (gN f0 3624)) HI (show bd 3624 = (0, ((4 : Nat) : Int)) by decide +kernel) (by omega) (by decide)
        refine V_iast 53 B 1 rfl (vpin _ _ (by decide +kernel)) dX12_draft_53 [(h0, oC 13 [.ref h1, .ref h2, .int (u9.2.1 0), .ref h3, .ref h4, .int (nI k5), .int (nI k6), .int p7, .int p8, .int p9, .int (nI k10), .int p11, .long q12, .ref h5, .ref h6, .int (nI k15), .int (nI k16)]), (h1, aI Y 3640 (upd f0 3624 (nI (1 + (gN f0 3624))))), (h2, aZ Y 2 f1), (h3, aZ Y 80 f3), (h4, aB Y 1600 f4), (h5, aI Y 200 f13), (h6, aI Y 800 f14)] rfl ?_
        refine V_aload_n 54 B dX12_draft_54 0 rfl ?_
        refine V_get 55 B gf_RX12_9 0 rfl rfl dX12_draft_55 ?_
        refine V_sipush 58 B (v := 3624) dX12_draft_58 (by decide +kernel) ?_
        refine V_aload_n 61 B dX12_draft_61 0 rfl ?_
        refine V_get 62 B gf_RX12_9 0 rfl rfl dX12_draft_62 ?_
        refine V_sipush 65 B (v := 3624) dX12_draft_65 (by decide +kernel) ?_
        refine V_iald 68 B (v := (nI (1 + (gN f0 3624)))) 1 rfl (vpin _ _ (by decide +kernel)) dX12_draft_68 (by show (upd f0 3624 (nI (1 + (gN f0 3624)))) 3624 = _; exact upd_at) ?_
        refine V_iadd 69 B (v := (nI (3625 + (gN f0 3624)))) dX12_draft_69 (nI_addE (a := 3624) (b := 1 + (gN f0 3624)) (by omega)) ?_
        refine V_iload_n 70 B dX12_draft_70 1 rfl ?_
        have hv17 : INV (upd (upd f0 3624 (nI (1 + (gN f0 3624)))) (3625 + (gN f0 3624)) s0) := INV_free hv16 (rl0 (gN f0 3624) (by omega))
        refine V_iast 71 B 1 rfl (vp_in_nI (n := 3625 + (gN f0 3624)) (by omega) (by decide)) dX12_draft_71 [(h0, oC 13 [.ref h1, .ref h2, .int (u9.2.1 0), .ref h3, .ref h4, .int (nI k5), .int (nI k6), .int p7, .int p8, .int p9, .int (nI k10), .int p11, .long q12, .ref h5, .ref h6, .int (nI k15), .int (nI k16)]), (h1, aI Y 3640 (upd (upd f0 3624 (nI (1 + (gN f0 3624)))) (3625 + (gN f0 3624)) s0)), (h2, aZ Y 2 f1), (h3, aZ Y 80 f3), (h4, aB Y 1600 f4), (h5, aI Y 200 f13), (h6, aI Y 800 f14)] (by rw [nI_clamp (show 3625 + (gN f0 3624) < 2 ^ 31 by omega)]; rfl) ?_
        refine V_aload_n 72 B dX12_draft_72 0 rfl ?_
        refine V_get 73 B gf_RX12_9 0 rfl rfl dX12_draft_73 ?_
        refine V_sipush 76 B (v := 3624) dX12_draft_76 (by decide +kernel) ?_
        refine V_iald 79 B (v := (nI (1 + (gN f0 3624)))) 1 rfl (vpin _ _ (by decide +kernel)) dX12_draft_79 (by show (upd (upd f0 3624 (nI (1 + (gN f0 3624)))) (3625 + (gN f0 3624)) s0) 3624 = _; rw [upd_ne (by omega)]; exact upd_at) ?_
        exact V_iret 80 B dX12_draft_80 (mkW [] [(u9.2.1 0)] [] [(upd (upd f0 3624 (nI (1 + (gN f0 3624)))) (3625 + (gN f0 3624)) s0)] [] []) hv17 rfl
      ·
        have x18 := n_eq (a := (gN f0 3624)) (b := 4) kk13 (by omega) (by omega)
        refine V_bipush 39 B (v := (-2)) dX12_draft_39 (by decide +kernel) ?_
        exact V_iret 41 B dX12_draft_41 (mkW [] [(u9.2.1 0)] [] [f0] [] []) HI rfl)
theorem dX12_clearDraft_0 : decode cX12_clearDraft 0 = .ok (.aload_n 0, 1) := by decide +kernel
theorem dX12_clearDraft_1 : decode cX12_clearDraft 1 = .ok (.iconst 0, 1) := by decide +kernel
theorem dX12_clearDraft_2 : decode cX12_clearDraft 2 = .ok (.putfield 38, 3) := by decide +kernel
theorem dX12_clearDraft_5 : decode cX12_clearDraft 5 = .ok (.aload_n 0, 1) := by decide +kernel
theorem dX12_clearDraft_6 : decode cX12_clearDraft 6 = .ok (.getfield 9, 3) := by decide +kernel
theorem dX12_clearDraft_9 : decode cX12_clearDraft 9 = .ok (.sipush 3624, 3) := by decide +kernel
theorem dX12_clearDraft_12 : decode cX12_clearDraft 12 = .ok (.iaload, 1) := by decide +kernel
theorem dX12_clearDraft_13 : decode cX12_clearDraft 13 = .ok (.istore_n 1, 1) := by decide +kernel
theorem dX12_clearDraft_14 : decode cX12_clearDraft 14 = .ok (.aload_n 0, 1) := by decide +kernel
theorem dX12_clearDraft_15 : decode cX12_clearDraft 15 = .ok (.getfield 9, 3) := by decide +kernel
theorem dX12_clearDraft_18 : decode cX12_clearDraft 18 = .ok (.sipush 3624, 3) := by decide +kernel
theorem dX12_clearDraft_21 : decode cX12_clearDraft 21 = .ok (.iconst 0, 1) := by decide +kernel
theorem dX12_clearDraft_22 : decode cX12_clearDraft 22 = .ok (.iastore, 1) := by decide +kernel
theorem dX12_clearDraft_23 : decode cX12_clearDraft 23 = .ok (.iload_n 1, 1) := by decide +kernel
theorem dX12_clearDraft_24 : decode cX12_clearDraft 24 = .ok (.ireturn, 1) := by decide +kernel
set_option maxRecDepth 100000 in
set_option maxHeartbeats 4000000 in
theorem rX12_clearDraft (l : Launch) (D : va_G) (Y : Nat → ClassId) (h0 : Nat) (h1 : Nat) (h2 : Nat) (h3 : Nat) (h4 : Nat) (h5 : Nat) (h6 : Nat) (p2 : Int32) (k5 : Nat) (k6 : Nat) (p7 : Int32) (p8 : Int32) (p9 : Int32) (k10 : Nat) (p11 : Int32) (q12 : Int64) (k15 : Nat) (k16 : Nat) (f0 : Nat → Int32) (f1 : Nat → Int32) (f3 : Nat → Int32) (f4 : Nat → Int32) (f13 : Nat → Int32) (f14 : Nat → Int32) (HI : INV f0) (HL : k5 ≤ 1600) (HP : PLV f13)   (sz : Nat) : Met l yX12_clearDraft (WSm yX12_clearDraft cX12_clearDraft 2 (some .int)) (mkR 0 0 0 0) (PreC D Y [.ref h0] [(h0, oC 13 [.ref h1, .ref h2, .int p2, .ref h3, .ref h4, .int (nI k5), .int (nI k6), .int p7, .int p8, .int p9, .int (nI k10), .int p11, .long q12, .ref h5, .ref h6, .int (nI k15), .int (nI k16)]), (h1, aI Y 3640 f0), (h2, aZ Y 2 f1), (h3, aZ Y 80 f3), (h4, aB Y 1600 f4), (h5, aI Y 200 f13), (h6, aI Y 800 f14)] sz) (QI D (fun (r : Int32) (u : WU) => INV (u.2.2.2.1 0)) (fun (u : WU) => [(h0, oC 13 [.ref h1, .ref h2, .int (u.2.1 0), .ref h3, .ref h4, .int (nI k5), .int (nI k6), .int p7, .int p8, .int p9, .int (nI k10), .int p11, .long q12, .ref h5, .ref h6, .int (nI k15), .int (nI k16)]), (h1, aI Y 3640 (u.2.2.2.1 0)), (h2, aZ Y 2 f1), (h3, aZ Y 80 f3), (h4, aB Y 1600 f4), (h5, aI Y 200 f13), (h6, aI Y 800 f14)]) (va_A [(h0, oC 13 [.ref h1, .ref h2, .int p2, .ref h3, .ref h4, .int (nI k5), .int (nI k6), .int p7, .int p8, .int p9, .int (nI k10), .int p11, .long q12, .ref h5, .ref h6, .int (nI k15), .int (nI k16)]), (h1, aI Y 3640 f0), (h2, aZ Y 2 f1), (h3, aZ Y 80 f3), (h4, aB Y 1600 f4), (h5, aI Y 200 f13), (h6, aI Y 800 f14)] sz)) 0 0 (va_A [(h0, oC 13 [.ref h1, .ref h2, .int p2, .ref h3, .ref h4, .int (nI k5), .int (nI k6), .int p7, .int p8, .int p9, .int (nI k10), .int p11, .long q12, .ref h5, .ref h6, .int (nI k15), .int (nI k16)]), (h1, aI Y 3640 f0), (h2, aZ Y 2 f1), (h3, aZ Y 80 f3), (h4, aB Y 1600 f4), (h5, aI Y 200 f13), (h6, aI Y 800 f14)] sz) :=
  met_of (by decide +kernel) (Nat.le_of_ble_eq_true rfl) (fun p e s m args below meth c B hin hsz => by
    have B : VB p s m args meth c D Y (va_A [(h0, oC 13 [.ref h1, .ref h2, .int p2, .ref h3, .ref h4, .int (nI k5), .int (nI k6), .int p7, .int p8, .int p9, .int (nI k10), .int p11, .long q12, .ref h5, .ref h6, .int (nI k15), .int (nI k16)]), (h1, aI Y 3640 f0), (h2, aZ Y 2 f1), (h3, aZ Y 80 f3), (h4, aB Y 1600 f4), (h5, aI Y 200 f13), (h6, aI Y 800 f14)] sz) cX12_clearDraft 2 RX12 (some .int) := B
    refine V_aload_n 0 B dX12_clearDraft_0 0 rfl ?_
    refine V_iconst 1 B (v := 0) dX12_clearDraft_1 (by decide +kernel) ?_
    refine V_put 2 B gp_RX12_38 0 rfl (Nat.le_of_ble_eq_true rfl) rfl rfl dX12_clearDraft_2 [(h0, oC 13 [.ref h1, .ref h2, .int 0, .ref h3, .ref h4, .int (nI k5), .int (nI k6), .int p7, .int p8, .int p9, .int (nI k10), .int p11, .long q12, .ref h5, .ref h6, .int (nI k15), .int (nI k16)]), (h1, aI Y 3640 f0), (h2, aZ Y 2 f1), (h3, aZ Y 80 f3), (h4, aB Y 1600 f4), (h5, aI Y 200 f13), (h6, aI Y 800 f14)] rfl ?_
    refine V_aload_n 5 B dX12_clearDraft_5 0 rfl ?_
    refine V_get 6 B gf_RX12_9 0 rfl rfl dX12_clearDraft_6 ?_
    refine V_sipush 9 B (v := 3624) dX12_clearDraft_9 (by decide +kernel) ?_
    have x0 : (gN f0 3624) ≤ 4 := gN_le HI (by omega) (show bd 3624 = (0, ((4 : Nat) : Int)) by decide +kernel)
    refine V_iald 12 B (v := (nI (gN f0 3624))) 1 rfl (vpin _ _ (by decide +kernel)) dX12_clearDraft_12 (by show f0 3624 = _; exact gN_eq HI (by omega) (show bd 3624 = (0, ((4 : Nat) : Int)) by decide +kernel)) ?_
    refine V_istore_n 13 B (lv2 := [(1, .int (nI (gN f0 3624))), (0, .ref h0)]) dX12_clearDraft_13 (by decide) rfl ?_
    refine V_aload_n 14 B dX12_clearDraft_14 1 rfl ?_
    refine V_get 15 B gf_RX12_9 0 rfl rfl dX12_clearDraft_15 ?_
    refine V_sipush 18 B (v := 3624) dX12_clearDraft_18 (by decide +kernel) ?_
    refine V_iconst 21 B (v := 0) dX12_clearDraft_21 (by decide +kernel) ?_
    have hv1 : INV (upd f0 3624 0) := INV_nat (v := 0) HI (show bd 3624 = (0, ((4 : Nat) : Int)) by decide +kernel) (by omega) (by decide)
    refine V_iast 22 B 1 rfl (vpin _ _ (by decide +kernel)) dX12_clearDraft_22 [(h0, oC 13 [.ref h1, .ref h2, .int 0, .ref h3, .ref h4, .int (nI k5), .int (nI k6), .int p7, .int p8, .int p9, .int (nI k10), .int p11, .long q12, .ref h5, .ref h6, .int (nI k15), .int (nI k16)]), (h1, aI Y 3640 (upd f0 3624 0)), (h2, aZ Y 2 f1), (h3, aZ Y 80 f3), (h4, aB Y 1600 f4), (h5, aI Y 200 f13), (h6, aI Y 800 f14)] rfl ?_
    refine V_iload_n 23 B dX12_clearDraft_23 0 rfl ?_
    exact V_iret 24 B dX12_clearDraft_24 (mkW [] [0] [] [(upd f0 3624 0)] [] []) hv1 rfl)
theorem dX12_draftStroke_0 : decode cX12_draftStroke 0 = .ok (.aload_n 0, 1) := by decide +kernel
theorem dX12_draftStroke_1 : decode cX12_draftStroke 1 = .ok (.iconst 0, 1) := by decide +kernel
theorem dX12_draftStroke_2 : decode cX12_draftStroke 2 = .ok (.putfield 38, 3) := by decide +kernel
theorem dX12_draftStroke_5 : decode cX12_draftStroke 5 = .ok (.aload_n 0, 1) := by decide +kernel
theorem dX12_draftStroke_6 : decode cX12_draftStroke 6 = .ok (.sipush 3624, 3) := by decide +kernel
theorem dX12_draftStroke_9 : decode cX12_draftStroke 9 = .ok (.iload_n 1, 1) := by decide +kernel
theorem dX12_draftStroke_10 : decode cX12_draftStroke 10 = .ok (.invokevirtual 73, 3) := by decide +kernel
theorem glV_RX12_73 : GLV RX12 73 yX12_strokeAt RX12 cX12_strokeAt 3 (some .int) 2 := ⟨⟨(mT7 225 rfl rfl), (mT7 227 rfl rfl), (mTs 30 rfl rfl), (mT1 13 rfl rfl), (mT7 228 rfl rfl)⟩, by decide +kernel⟩
theorem dX12_draftStroke_13 : decode cX12_draftStroke 13 = .ok (.ireturn, 1) := by decide +kernel
set_option maxRecDepth 100000 in
set_option maxHeartbeats 4000000 in
theorem rX12_draftStroke (l : Launch) (D : va_G) (Y : Nat → ClassId) (h0 : Nat) (h1 : Nat) (h2 : Nat) (h3 : Nat) (h4 : Nat) (h5 : Nat) (h6 : Nat) (p2 : Int32) (k5 : Nat) (k6 : Nat) (p7 : Int32) (p8 : Int32) (p9 : Int32) (k10 : Nat) (p11 : Int32) (q12 : Int64) (k15 : Nat) (k16 : Nat) (f0 : Nat → Int32) (f1 : Nat → Int32) (f3 : Nat → Int32) (f4 : Nat → Int32) (f13 : Nat → Int32) (f14 : Nat → Int32) (HI : INV f0) (HL : k5 ≤ 1600) (HP : PLV f13) (s0 : Int32)  (sz : Nat) : Met l yX12_draftStroke (WSm yX12_draftStroke cX12_draftStroke 2 (some .int)) (mkR 2 0 0 47) (PreC D Y [.ref h0, .int s0] [(h0, oC 13 [.ref h1, .ref h2, .int p2, .ref h3, .ref h4, .int (nI k5), .int (nI k6), .int p7, .int p8, .int p9, .int (nI k10), .int p11, .long q12, .ref h5, .ref h6, .int (nI k15), .int (nI k16)]), (h1, aI Y 3640 f0), (h2, aZ Y 2 f1), (h3, aZ Y 80 f3), (h4, aB Y 1600 f4), (h5, aI Y 200 f13), (h6, aI Y 800 f14)] sz) (QI D (fun (r : Int32) (u : WU) => True) (fun (u : WU) => [(h0, oC 13 [.ref h1, .ref h2, .int (u.2.1 0), .ref h3, .ref h4, .int (nI k5), .int (nI k6), .int p7, .int p8, .int p9, .int (nI k10), .int p11, .long q12, .ref h5, .ref h6, .int (nI k15), .int (nI k16)]), (h1, aI Y 3640 f0), (h2, aZ Y 2 f1), (h3, aZ Y 80 f3), (h4, aB Y 1600 f4), (h5, aI Y 200 f13), (h6, aI Y 800 f14)]) (va_A [(h0, oC 13 [.ref h1, .ref h2, .int p2, .ref h3, .ref h4, .int (nI k5), .int (nI k6), .int p7, .int p8, .int p9, .int (nI k10), .int p11, .long q12, .ref h5, .ref h6, .int (nI k15), .int (nI k16)]), (h1, aI Y 3640 f0), (h2, aZ Y 2 f1), (h3, aZ Y 80 f3), (h4, aB Y 1600 f4), (h5, aI Y 200 f13), (h6, aI Y 800 f14)] sz)) 0 0 (va_A [(h0, oC 13 [.ref h1, .ref h2, .int p2, .ref h3, .ref h4, .int (nI k5), .int (nI k6), .int p7, .int p8, .int p9, .int (nI k10), .int p11, .long q12, .ref h5, .ref h6, .int (nI k15), .int (nI k16)]), (h1, aI Y 3640 f0), (h2, aZ Y 2 f1), (h3, aZ Y 80 f3), (h4, aB Y 1600 f4), (h5, aI Y 200 f13), (h6, aI Y 800 f14)] sz) :=
  met_of (by decide +kernel) (Nat.le_of_ble_eq_true rfl) (fun p e s m args below meth c B hin hsz => by
    have B : VB p s m args meth c D Y (va_A [(h0, oC 13 [.ref h1, .ref h2, .int p2, .ref h3, .ref h4, .int (nI k5), .int (nI k6), .int p7, .int p8, .int p9, .int (nI k10), .int p11, .long q12, .ref h5, .ref h6, .int (nI k15), .int (nI k16)]), (h1, aI Y 3640 f0), (h2, aZ Y 2 f1), (h3, aZ Y 80 f3), (h4, aB Y 1600 f4), (h5, aI Y 200 f13), (h6, aI Y 800 f14)] sz) cX12_draftStroke 2 RX12 (some .int) := B
    refine V_aload_n 0 B dX12_draftStroke_0 0 rfl ?_
    refine V_iconst 1 B (v := 0) dX12_draftStroke_1 (by decide +kernel) ?_
    refine V_put 2 B gp_RX12_38 0 rfl (Nat.le_of_ble_eq_true rfl) rfl rfl dX12_draftStroke_2 [(h0, oC 13 [.ref h1, .ref h2, .int 0, .ref h3, .ref h4, .int (nI k5), .int (nI k6), .int p7, .int p8, .int p9, .int (nI k10), .int p11, .long q12, .ref h5, .ref h6, .int (nI k15), .int (nI k16)]), (h1, aI Y 3640 f0), (h2, aZ Y 2 f1), (h3, aZ Y 80 f3), (h4, aB Y 1600 f4), (h5, aI Y 200 f13), (h6, aI Y 800 f14)] rfl ?_
    refine V_aload_n 5 B dX12_draftStroke_5 0 rfl ?_
    refine V_sipush 6 B (v := 3624) dX12_draftStroke_6 (by decide +kernel) ?_
    refine V_iload_n 9 B dX12_draftStroke_9 1 rfl ?_
    refine V_cvi 10 B (st := []) (As := [.int 3624, .int s0]) (fun sz => rX12_strokeAt l D Y h0 h1 h2 h3 h4 h5 h6 0 k5 k6 p7 p8 p9 k10 p11 q12 k15 k16 f0 f1 f3 f4 f13 f14 HI (by omega) HP 3624 s0 (show SQ 3624 by unfold SQ; decide +kernel) sz) glV_RX12_73 ⟨rfl, rfl⟩ ⟨(Nat.le_of_ble_eq_true rfl), (Nat.le_of_ble_eq_true rfl)⟩ ⟨(Nat.le_of_ble_eq_true rfl), (Nat.le_of_ble_eq_true rfl)⟩ [0, 0, 0, 0, 0, 0, 0] rfl 13 0 rfl rfl rfl rfl (Nat.le_of_ble_eq_true rfl) rfl (fun _ _ _ => rfl) dX12_draftStroke_10 (fun j0 u1 w2 => ?_)
    refine V_ws [(h0, oC 13 [.ref h1, .ref h2, .int 0, .ref h3, .ref h4, .int (nI k5), .int (nI k6), .int p7, .int p8, .int p9, .int (nI k10), .int p11, .long q12, .ref h5, .ref h6, .int (nI k15), .int (nI k16)]), (h1, aI Y 3640 f0), (h2, aZ Y 2 f1), (h3, aZ Y 80 f3), (h4, aB Y 1600 f4), (h5, aI Y 200 f13), (h6, aI Y 800 f14)] rfl ?_
    exact V_iret 13 B dX12_draftStroke_13 (mkW [] [0] [] [] [] []) trivial rfl)
theorem dX12_draftCost_0 : decode cX12_draftCost 0 = .ok (.aload_n 0, 1) := by decide +kernel
theorem dX12_draftCost_1 : decode cX12_draftCost 1 = .ok (.iconst 0, 1) := by decide +kernel
theorem dX12_draftCost_2 : decode cX12_draftCost 2 = .ok (.putfield 38, 3) := by decide +kernel
theorem dX12_draftCost_5 : decode cX12_draftCost 5 = .ok (.aload_n 0, 1) := by decide +kernel
theorem dX12_draftCost_6 : decode cX12_draftCost 6 = .ok (.sipush 3624, 3) := by decide +kernel
theorem dX12_draftCost_9 : decode cX12_draftCost 9 = .ok (.invokevirtual 76, 3) := by decide +kernel
theorem glV_RX12_76 : GLV RX12 76 yX12_costOf RX12 cX12_costOf 4 (some .int) 1 := ⟨⟨(mT7 233 rfl rfl), (mT7 235 rfl rfl), (mTs 31 rfl rfl), (mT1 13 rfl rfl), (mT7 236 rfl rfl)⟩, by decide +kernel⟩
theorem dX12_draftCost_12 : decode cX12_draftCost 12 = .ok (.ireturn, 1) := by decide +kernel
set_option maxRecDepth 100000 in
set_option maxHeartbeats 4000000 in
theorem rX12_draftCost (l : Launch) (D : va_G) (Y : Nat → ClassId) (h0 : Nat) (h1 : Nat) (h2 : Nat) (h3 : Nat) (h4 : Nat) (h5 : Nat) (h6 : Nat) (p2 : Int32) (k5 : Nat) (k6 : Nat) (p7 : Int32) (p8 : Int32) (p9 : Int32) (k10 : Nat) (p11 : Int32) (q12 : Int64) (k15 : Nat) (k16 : Nat) (f0 : Nat → Int32) (f1 : Nat → Int32) (f3 : Nat → Int32) (f4 : Nat → Int32) (f13 : Nat → Int32) (f14 : Nat → Int32) (HI : INV f0) (HL : k5 ≤ 1600) (HP : PLV f13)   (sz : Nat) : Met l yX12_draftCost (WSm yX12_draftCost cX12_draftCost 1 (some .int)) (mkR 3 0 0 65) (PreC D Y [.ref h0] [(h0, oC 13 [.ref h1, .ref h2, .int p2, .ref h3, .ref h4, .int (nI k5), .int (nI k6), .int p7, .int p8, .int p9, .int (nI k10), .int p11, .long q12, .ref h5, .ref h6, .int (nI k15), .int (nI k16)]), (h1, aI Y 3640 f0), (h2, aZ Y 2 f1), (h3, aZ Y 80 f3), (h4, aB Y 1600 f4), (h5, aI Y 200 f13), (h6, aI Y 800 f14)] sz) (QI D (fun (r : Int32) (u : WU) => True) (fun (u : WU) => [(h0, oC 13 [.ref h1, .ref h2, .int (u.2.1 0), .ref h3, .ref h4, .int (nI k5), .int (nI k6), .int p7, .int p8, .int p9, .int (nI k10), .int p11, .long q12, .ref h5, .ref h6, .int (nI k15), .int (nI k16)]), (h1, aI Y 3640 f0), (h2, aZ Y 2 f1), (h3, aZ Y 80 f3), (h4, aB Y 1600 f4), (h5, aI Y 200 f13), (h6, aI Y 800 f14)]) (va_A [(h0, oC 13 [.ref h1, .ref h2, .int p2, .ref h3, .ref h4, .int (nI k5), .int (nI k6), .int p7, .int p8, .int p9, .int (nI k10), .int p11, .long q12, .ref h5, .ref h6, .int (nI k15), .int (nI k16)]), (h1, aI Y 3640 f0), (h2, aZ Y 2 f1), (h3, aZ Y 80 f3), (h4, aB Y 1600 f4), (h5, aI Y 200 f13), (h6, aI Y 800 f14)] sz)) 0 0 (va_A [(h0, oC 13 [.ref h1, .ref h2, .int p2, .ref h3, .ref h4, .int (nI k5), .int (nI k6), .int p7, .int p8, .int p9, .int (nI k10), .int p11, .long q12, .ref h5, .ref h6, .int (nI k15), .int (nI k16)]), (h1, aI Y 3640 f0), (h2, aZ Y 2 f1), (h3, aZ Y 80 f3), (h4, aB Y 1600 f4), (h5, aI Y 200 f13), (h6, aI Y 800 f14)] sz) :=
  met_of (by decide +kernel) (Nat.le_of_ble_eq_true rfl) (fun p e s m args below meth c B hin hsz => by
    have B : VB p s m args meth c D Y (va_A [(h0, oC 13 [.ref h1, .ref h2, .int p2, .ref h3, .ref h4, .int (nI k5), .int (nI k6), .int p7, .int p8, .int p9, .int (nI k10), .int p11, .long q12, .ref h5, .ref h6, .int (nI k15), .int (nI k16)]), (h1, aI Y 3640 f0), (h2, aZ Y 2 f1), (h3, aZ Y 80 f3), (h4, aB Y 1600 f4), (h5, aI Y 200 f13), (h6, aI Y 800 f14)] sz) cX12_draftCost 1 RX12 (some .int) := B
    refine V_aload_n 0 B dX12_draftCost_0 0 rfl ?_
    refine V_iconst 1 B (v := 0) dX12_draftCost_1 (by decide +kernel) ?_
    refine V_put 2 B gp_RX12_38 0 rfl (Nat.le_of_ble_eq_true rfl) rfl rfl dX12_draftCost_2 [(h0, oC 13 [.ref h1, .ref h2, .int 0, .ref h3, .ref h4, .int (nI k5), .int (nI k6), .int p7, .int p8, .int p9, .int (nI k10), .int p11, .long q12, .ref h5, .ref h6, .int (nI k15), .int (nI k16)]), (h1, aI Y 3640 f0), (h2, aZ Y 2 f1), (h3, aZ Y 80 f3), (h4, aB Y 1600 f4), (h5, aI Y 200 f13), (h6, aI Y 800 f14)] rfl ?_
    refine V_aload_n 5 B dX12_draftCost_5 0 rfl ?_
    refine V_sipush 6 B (v := 3624) dX12_draftCost_6 (by decide +kernel) ?_
    refine V_cvi 9 B (st := []) (As := [.int 3624]) (fun sz => rX12_costOf l D Y h0 h1 h2 h3 h4 h5 h6 0 k5 k6 p7 p8 p9 k10 p11 q12 k15 k16 f0 f1 f3 f4 f13 f14 HI (by omega) HP 3624 (show SQ 3624 by unfold SQ; decide +kernel) sz) glV_RX12_76 ⟨rfl, rfl⟩ ⟨(Nat.le_of_ble_eq_true rfl), (Nat.le_of_ble_eq_true rfl)⟩ ⟨(Nat.le_of_ble_eq_true rfl), (Nat.le_of_ble_eq_true rfl)⟩ [0, 0, 0, 0, 0, 0, 0] rfl 13 0 rfl rfl rfl rfl (Nat.le_of_ble_eq_true rfl) rfl (fun _ _ _ => rfl) dX12_draftCost_9 (fun j0 u1 w2 => ?_)
    refine V_ws [(h0, oC 13 [.ref h1, .ref h2, .int 0, .ref h3, .ref h4, .int (nI k5), .int (nI k6), .int p7, .int p8, .int p9, .int (nI k10), .int p11, .long q12, .ref h5, .ref h6, .int (nI k15), .int (nI k16)]), (h1, aI Y 3640 f0), (h2, aZ Y 2 f1), (h3, aZ Y 80 f3), (h4, aB Y 1600 f4), (h5, aI Y 200 f13), (h6, aI Y 800 f14)] rfl ?_
    exact V_iret 12 B dX12_draftCost_12 (mkW [] [0] [] [] [] []) trivial rfl)
theorem dX12_bindingAt_0 : decode cX12_bindingAt 0 = .ok (.sipush 184, 3) := by decide +kernel
theorem dX12_bindingAt_3 : decode cX12_bindingAt 3 = .ok (.bipush 7, 2) := by decide +kernel
theorem dX12_bindingAt_5 : decode cX12_bindingAt 5 = .ok (.iload_n 0, 1) := by decide +kernel
theorem dX12_bindingAt_6 : decode cX12_bindingAt 6 = .ok (.imul, 1) := by decide +kernel
theorem dX12_bindingAt_7 : decode cX12_bindingAt 7 = .ok (.iadd, 1) := by decide +kernel
theorem dX12_bindingAt_8 : decode cX12_bindingAt 8 = .ok (.ireturn, 1) := by decide +kernel
set_option maxRecDepth 100000 in
set_option maxHeartbeats 4000000 in
theorem rX12_bindingAt (l : Launch) (D : va_G) (Y : Nat → ClassId)  (s0 : Nat) (hn0 : s0 < 81) (sz : Nat) : Met l yX12_bindingAt (WSm yX12_bindingAt cX12_bindingAt 1 (some .int)) (mkR 0 0 0 0) (PreC D Y [.int (nI s0)] [] sz) (QI D (fun (r : Int32) (u : WU) => r = nI (184 + 7 * s0)) (fun (u : WU) => []) (va_A [] sz)) 0 0 (va_A [] sz) :=
  met_of (by decide +kernel) (Nat.le_of_ble_eq_true rfl) (fun p e s m args below meth c B hin hsz => by
    have B : VB p s m args meth c D Y (va_A [] sz) cX12_bindingAt 1 RX12 (some .int) := B
    refine V_sipush 0 B (v := 184) dX12_bindingAt_0 (by decide +kernel) ?_
    refine V_bipush 3 B (v := 7) dX12_bindingAt_3 (by decide +kernel) ?_
    refine V_iload_n 5 B dX12_bindingAt_5 0 rfl ?_
    refine V_imul 6 B (v := (nI (7 * s0))) dX12_bindingAt_6 (nI_mulE (a := 7) (b := s0) (by omega)) ?_
    refine V_iadd 7 B (v := (nI (184 + 7 * s0))) dX12_bindingAt_7 (nI_addE (a := 184) (b := 7 * s0) (by omega)) ?_
    exact V_iret 8 B dX12_bindingAt_8 (mkW [] [] [] [] [] []) (congrArg nI (by omega)) rfl)
theorem dX12_sequenceOf_0 : decode cX12_sequenceOf 0 = .ok (.iload_n 0, 1) := by decide +kernel
theorem dX12_sequenceOf_1 : decode cX12_sequenceOf 1 = .ok (.invokestatic 79, 3) := by decide +kernel
theorem glS_RX12_79 : GLS RX12 79 yX12_bindingAt cX12_bindingAt 1 (some .int) 1 := ⟨⟨(mT8 14 rfl rfl), (mT8 15 rfl rfl), (mT1 13 rfl rfl), (mT8 16 rfl rfl)⟩, by decide +kernel⟩
theorem dX12_sequenceOf_4 : decode cX12_sequenceOf 4 = .ok (.iconst 2, 1) := by decide +kernel
theorem dX12_sequenceOf_5 : decode cX12_sequenceOf 5 = .ok (.iadd, 1) := by decide +kernel
theorem dX12_sequenceOf_6 : decode cX12_sequenceOf 6 = .ok (.ireturn, 1) := by decide +kernel
set_option maxRecDepth 100000 in
set_option maxHeartbeats 4000000 in
theorem rX12_sequenceOf (l : Launch) (D : va_G) (Y : Nat → ClassId)  (s0 : Nat) (hn0 : s0 < 80) (sz : Nat) : Met l yX12_sequenceOf (WSm yX12_sequenceOf cX12_sequenceOf 1 (some .int)) (mkR 1 0 0 20) (PreC D Y [.int (nI s0)] [] sz) (QI D (fun (r : Int32) (u : WU) => r = nI (186 + 7 * s0)) (fun (u : WU) => []) (va_A [] sz)) 0 0 (va_A [] sz) :=
  met_of (by decide +kernel) (Nat.le_of_ble_eq_true rfl) (fun p e s m args below meth c B hin hsz => by
    have B : VB p s m args meth c D Y (va_A [] sz) cX12_sequenceOf 1 RX12 (some .int) := B
    refine V_iload_n 0 B dX12_sequenceOf_0 0 rfl ?_
    refine V_csi 1 B (st := []) (As := [.int (nI s0)]) (fun sz => rX12_bindingAt l D Y s0 (by omega) sz) glS_RX12_79 ⟨rfl, rfl⟩ ⟨(Nat.le_of_ble_eq_true rfl), (Nat.le_of_ble_eq_true rfl)⟩ ⟨(Nat.le_of_ble_eq_true rfl), (Nat.le_of_ble_eq_true rfl)⟩ [] rfl rfl (Nat.le_of_ble_eq_true rfl) rfl (fun _ _ _ => rfl) dX12_sequenceOf_1 (fun j0 u1 w2 => ?_)
    have x3 := w2
    obtain rfl := x3
    refine V_iconst 4 B (v := 2) dX12_sequenceOf_4 (by decide +kernel) ?_
    refine V_iadd 5 B (v := (nI (186 + 7 * s0))) dX12_sequenceOf_5 (nI_addE (a := 184 + 7 * s0) (b := 2) (by omega)) ?_
    exact V_iret 6 B dX12_sequenceOf_6 (mkW [] [] [] [] [] []) (congrArg nI (by omega)) rfl)
theorem dX12_modeOf_0 : decode cX12_modeOf 0 = .ok (.aload_n 0, 1) := by decide +kernel
theorem dX12_modeOf_1 : decode cX12_modeOf 1 = .ok (.getfield 9, 3) := by decide +kernel
theorem dX12_modeOf_4 : decode cX12_modeOf 4 = .ok (.iload_n 1, 1) := by decide +kernel
theorem dX12_modeOf_5 : decode cX12_modeOf 5 = .ok (.invokestatic 79, 3) := by decide +kernel
theorem dX12_modeOf_8 : decode cX12_modeOf 8 = .ok (.iconst 0, 1) := by decide +kernel
theorem dX12_modeOf_9 : decode cX12_modeOf 9 = .ok (.iadd, 1) := by decide +kernel
theorem dX12_modeOf_10 : decode cX12_modeOf 10 = .ok (.iaload, 1) := by decide +kernel
theorem rl1 : ∀ z0, z0 < 80 → bd (184 + 7 * z0) = FREE := by decide +kernel
theorem dX12_modeOf_11 : decode cX12_modeOf 11 = .ok (.ireturn, 1) := by decide +kernel
set_option maxRecDepth 100000 in
set_option maxHeartbeats 4000000 in
theorem rX12_modeOf (l : Launch) (D : va_G) (Y : Nat → ClassId) (h0 : Nat) (h1 : Nat) (h2 : Nat) (h3 : Nat) (h4 : Nat) (h5 : Nat) (h6 : Nat) (p2 : Int32) (k5 : Nat) (k6 : Nat) (p7 : Int32) (p8 : Int32) (p9 : Int32) (k10 : Nat) (p11 : Int32) (q12 : Int64) (k15 : Nat) (k16 : Nat) (f0 : Nat → Int32) (f1 : Nat → Int32) (f3 : Nat → Int32) (f4 : Nat → Int32) (f13 : Nat → Int32) (f14 : Nat → Int32) (HI : INV f0) (HL : k5 ≤ 1600) (HP : PLV f13) (s0 : Nat) (hn0 : s0 < 80) (sz : Nat) : Met l yX12_modeOf (WSm yX12_modeOf cX12_modeOf 2 (some .int)) (mkR 1 0 0 20) (PreC D Y [.ref h0, .int (nI s0)] [(h0, oC 13 [.ref h1, .ref h2, .int p2, .ref h3, .ref h4, .int (nI k5), .int (nI k6), .int p7, .int p8, .int p9, .int (nI k10), .int p11, .long q12, .ref h5, .ref h6, .int (nI k15), .int (nI k16)]), (h1, aI Y 3640 f0), (h2, aZ Y 2 f1), (h3, aZ Y 80 f3), (h4, aB Y 1600 f4), (h5, aI Y 200 f13), (h6, aI Y 800 f14)] sz) (QI D (fun (r : Int32) (u : WU) => r = f0 (184 + 7 * s0)) (fun (u : WU) => [(h0, oC 13 [.ref h1, .ref h2, .int p2, .ref h3, .ref h4, .int (nI k5), .int (nI k6), .int p7, .int p8, .int p9, .int (nI k10), .int p11, .long q12, .ref h5, .ref h6, .int (nI k15), .int (nI k16)]), (h1, aI Y 3640 f0), (h2, aZ Y 2 f1), (h3, aZ Y 80 f3), (h4, aB Y 1600 f4), (h5, aI Y 200 f13), (h6, aI Y 800 f14)]) (va_A [(h0, oC 13 [.ref h1, .ref h2, .int p2, .ref h3, .ref h4, .int (nI k5), .int (nI k6), .int p7, .int p8, .int p9, .int (nI k10), .int p11, .long q12, .ref h5, .ref h6, .int (nI k15), .int (nI k16)]), (h1, aI Y 3640 f0), (h2, aZ Y 2 f1), (h3, aZ Y 80 f3), (h4, aB Y 1600 f4), (h5, aI Y 200 f13), (h6, aI Y 800 f14)] sz)) 0 0 (va_A [(h0, oC 13 [.ref h1, .ref h2, .int p2, .ref h3, .ref h4, .int (nI k5), .int (nI k6), .int p7, .int p8, .int p9, .int (nI k10), .int p11, .long q12, .ref h5, .ref h6, .int (nI k15), .int (nI k16)]), (h1, aI Y 3640 f0), (h2, aZ Y 2 f1), (h3, aZ Y 80 f3), (h4, aB Y 1600 f4), (h5, aI Y 200 f13), (h6, aI Y 800 f14)] sz) :=
  met_of (by decide +kernel) (Nat.le_of_ble_eq_true rfl) (fun p e s m args below meth c B hin hsz => by
    have B : VB p s m args meth c D Y (va_A [(h0, oC 13 [.ref h1, .ref h2, .int p2, .ref h3, .ref h4, .int (nI k5), .int (nI k6), .int p7, .int p8, .int p9, .int (nI k10), .int p11, .long q12, .ref h5, .ref h6, .int (nI k15), .int (nI k16)]), (h1, aI Y 3640 f0), (h2, aZ Y 2 f1), (h3, aZ Y 80 f3), (h4, aB Y 1600 f4), (h5, aI Y 200 f13), (h6, aI Y 800 f14)] sz) cX12_modeOf 2 RX12 (some .int) := B
    refine V_aload_n 0 B dX12_modeOf_0 0 rfl ?_
    refine V_get 1 B gf_RX12_9 0 rfl rfl dX12_modeOf_1 ?_
    refine V_iload_n 4 B dX12_modeOf_4 1 rfl ?_
    refine V_csi 5 B (st := [.ref h1]) (As := [.int (nI s0)]) (fun sz => rX12_bindingAt l D Y s0 (by omega) sz) glS_RX12_79 ⟨rfl, rfl⟩ ⟨(Nat.le_of_ble_eq_true rfl), (Nat.le_of_ble_eq_true rfl)⟩ ⟨(Nat.le_of_ble_eq_true rfl), (Nat.le_of_ble_eq_true rfl)⟩ [] rfl rfl (Nat.le_of_ble_eq_true rfl) rfl (fun _ _ _ => rfl) dX12_modeOf_5 (fun j0 u1 w2 => ?_)
    refine V_ws [(h0, oC 13 [.ref h1, .ref h2, .int p2, .ref h3, .ref h4, .int (nI k5), .int (nI k6), .int p7, .int p8, .int p9, .int (nI k10), .int p11, .long q12, .ref h5, .ref h6, .int (nI k15), .int (nI k16)]), (h1, aI Y 3640 f0), (h2, aZ Y 2 f1), (h3, aZ Y 80 f3), (h4, aB Y 1600 f4), (h5, aI Y 200 f13), (h6, aI Y 800 f14)] rfl ?_
    have x3 := w2
    obtain rfl := x3
    refine V_iconst 8 B (v := 0) dX12_modeOf_8 (by decide +kernel) ?_
    refine V_iadd 9 B (v := (nI (184 + 7 * s0))) dX12_modeOf_9 (nI_addE (a := 184 + 7 * s0) (b := 0) (by omega)) ?_
    refine V_iald 10 B (v := f0 (184 + 7 * s0)) 1 rfl (vp_in_nI (n := 184 + 7 * s0) (by omega) (by decide)) dX12_modeOf_10 (by rw [nI_clamp (show 184 + 7 * s0 < 2 ^ 31 by omega)]) ?_
    refine V_nmi (fun j4 e5 => ?_)
    exact V_iret 11 B dX12_modeOf_11 (mkW [] [] [] [] [] []) e5 rfl)
theorem dX12_commandOf_0 : decode cX12_commandOf 0 = .ok (.aload_n 0, 1) := by decide +kernel
theorem dX12_commandOf_1 : decode cX12_commandOf 1 = .ok (.getfield 9, 3) := by decide +kernel
theorem dX12_commandOf_4 : decode cX12_commandOf 4 = .ok (.iload_n 1, 1) := by decide +kernel
theorem dX12_commandOf_5 : decode cX12_commandOf 5 = .ok (.invokestatic 79, 3) := by decide +kernel
theorem dX12_commandOf_8 : decode cX12_commandOf 8 = .ok (.iconst 1, 1) := by decide +kernel
theorem dX12_commandOf_9 : decode cX12_commandOf 9 = .ok (.iadd, 1) := by decide +kernel
theorem dX12_commandOf_10 : decode cX12_commandOf 10 = .ok (.iaload, 1) := by decide +kernel
theorem rl2 : ∀ z0, z0 < 80 → bd (185 + 7 * z0) = (0, ((39 : Nat) : Int)) := by decide +kernel
theorem dX12_commandOf_11 : decode cX12_commandOf 11 = .ok (.ireturn, 1) := by decide +kernel
set_option maxRecDepth 100000 in
set_option maxHeartbeats 4000000 in
theorem rX12_commandOf (l : Launch) (D : va_G) (Y : Nat → ClassId) (h0 : Nat) (h1 : Nat) (h2 : Nat) (h3 : Nat) (h4 : Nat) (h5 : Nat) (h6 : Nat) (p2 : Int32) (k5 : Nat) (k6 : Nat) (p7 : Int32) (p8 : Int32) (p9 : Int32) (k10 : Nat) (p11 : Int32) (q12 : Int64) (k15 : Nat) (k16 : Nat) (f0 : Nat → Int32) (f1 : Nat → Int32) (f3 : Nat → Int32) (f4 : Nat → Int32) (f13 : Nat → Int32) (f14 : Nat → Int32) (HI : INV f0) (HL : k5 ≤ 1600) (HP : PLV f13) (s0 : Nat) (hn0 : s0 < 80) (sz : Nat) : Met l yX12_commandOf (WSm yX12_commandOf cX12_commandOf 2 (some .int)) (mkR 1 0 0 20) (PreC D Y [.ref h0, .int (nI s0)] [(h0, oC 13 [.ref h1, .ref h2, .int p2, .ref h3, .ref h4, .int (nI k5), .int (nI k6), .int p7, .int p8, .int p9, .int (nI k10), .int p11, .long q12, .ref h5, .ref h6, .int (nI k15), .int (nI k16)]), (h1, aI Y 3640 f0), (h2, aZ Y 2 f1), (h3, aZ Y 80 f3), (h4, aB Y 1600 f4), (h5, aI Y 200 f13), (h6, aI Y 800 f14)] sz) (QI D (fun (r : Int32) (u : WU) => r = nI (gN f0 (185 + 7 * s0))) (fun (u : WU) => [(h0, oC 13 [.ref h1, .ref h2, .int p2, .ref h3, .ref h4, .int (nI k5), .int (nI k6), .int p7, .int p8, .int p9, .int (nI k10), .int p11, .long q12, .ref h5, .ref h6, .int (nI k15), .int (nI k16)]), (h1, aI Y 3640 f0), (h2, aZ Y 2 f1), (h3, aZ Y 80 f3), (h4, aB Y 1600 f4), (h5, aI Y 200 f13), (h6, aI Y 800 f14)]) (va_A [(h0, oC 13 [.ref h1, .ref h2, .int p2, .ref h3, .ref h4, .int (nI k5), .int (nI k6), .int p7, .int p8, .int p9, .int (nI k10), .int p11, .long q12, .ref h5, .ref h6, .int (nI k15), .int (nI k16)]), (h1, aI Y 3640 f0), (h2, aZ Y 2 f1), (h3, aZ Y 80 f3), (h4, aB Y 1600 f4), (h5, aI Y 200 f13), (h6, aI Y 800 f14)] sz)) 0 0 (va_A [(h0, oC 13 [.ref h1, .ref h2, .int p2, .ref h3, .ref h4, .int (nI k5), .int (nI k6), .int p7, .int p8, .int p9, .int (nI k10), .int p11, .long q12, .ref h5, .ref h6, .int (nI k15), .int (nI k16)]), (h1, aI Y 3640 f0), (h2, aZ Y 2 f1), (h3, aZ Y 80 f3), (h4, aB Y 1600 f4), (h5, aI Y 200 f13), (h6, aI Y 800 f14)] sz) :=
  met_of (by decide +kernel) (Nat.le_of_ble_eq_true rfl) (fun p e s m args below meth c B hin hsz => by
    have B : VB p s m args meth c D Y (va_A [(h0, oC 13 [.ref h1, .ref h2, .int p2, .ref h3, .ref h4, .int (nI k5), .int (nI k6), .int p7, .int p8, .int p9, .int (nI k10), .int p11, .long q12, .ref h5, .ref h6, .int (nI k15), .int (nI k16)]), (h1, aI Y 3640 f0), (h2, aZ Y 2 f1), (h3, aZ Y 80 f3), (h4, aB Y 1600 f4), (h5, aI Y 200 f13), (h6, aI Y 800 f14)] sz) cX12_commandOf 2 RX12 (some .int) := B
    refine V_aload_n 0 B dX12_commandOf_0 0 rfl ?_
    refine V_get 1 B gf_RX12_9 0 rfl rfl dX12_commandOf_1 ?_
    refine V_iload_n 4 B dX12_commandOf_4 1 rfl ?_
    refine V_csi 5 B (st := [.ref h1]) (As := [.int (nI s0)]) (fun sz => rX12_bindingAt l D Y s0 (by omega) sz) glS_RX12_79 ⟨rfl, rfl⟩ ⟨(Nat.le_of_ble_eq_true rfl), (Nat.le_of_ble_eq_true rfl)⟩ ⟨(Nat.le_of_ble_eq_true rfl), (Nat.le_of_ble_eq_true rfl)⟩ [] rfl rfl (Nat.le_of_ble_eq_true rfl) rfl (fun _ _ _ => rfl) dX12_commandOf_5 (fun j0 u1 w2 => ?_)
    refine V_ws [(h0, oC 13 [.ref h1, .ref h2, .int p2, .ref h3, .ref h4, .int (nI k5), .int (nI k6), .int p7, .int p8, .int p9, .int (nI k10), .int p11, .long q12, .ref h5, .ref h6, .int (nI k15), .int (nI k16)]), (h1, aI Y 3640 f0), (h2, aZ Y 2 f1), (h3, aZ Y 80 f3), (h4, aB Y 1600 f4), (h5, aI Y 200 f13), (h6, aI Y 800 f14)] rfl ?_
    have x3 := w2
    obtain rfl := x3
    refine V_iconst 8 B (v := 1) dX12_commandOf_8 (by decide +kernel) ?_
    refine V_iadd 9 B (v := (nI (185 + 7 * s0))) dX12_commandOf_9 (nI_addE (a := 184 + 7 * s0) (b := 1) (by omega)) ?_
    have x4 : (gN f0 (185 + 7 * s0)) ≤ 39 := gN_le HI (by omega) (rl2 s0 (by omega))
    refine V_iald 10 B (v := (nI ((gN f0 (185 + 7 * s0))))) 1 rfl (vp_in_nI (n := 185 + 7 * s0) (by omega) (by decide)) dX12_commandOf_10 (by rw [nI_clamp (show 185 + 7 * s0 < 2 ^ 31 by omega)]; exact gN_eq HI (by omega) (rl2 s0 (by omega))) ?_
    exact V_iret 11 B dX12_commandOf_11 (mkW [] [] [] [] [] []) rfl rfl)
theorem dX12_ofCommand_0 : decode cX12_ofCommand 0 = .ok (.aload_n 0, 1) := by decide +kernel
theorem dX12_ofCommand_1 : decode cX12_ofCommand 1 = .ok (.getfield 9, 3) := by decide +kernel
theorem dX12_ofCommand_4 : decode cX12_ofCommand 4 = .ok (.bipush 34, 2) := by decide +kernel
theorem dX12_ofCommand_6 : decode cX12_ofCommand 6 = .ok (.iconst 3, 1) := by decide +kernel
theorem dX12_ofCommand_7 : decode cX12_ofCommand 7 = .ok (.iload_n 1, 1) := by decide +kernel
theorem dX12_ofCommand_8 : decode cX12_ofCommand 8 = .ok (.imul, 1) := by decide +kernel
theorem dX12_ofCommand_9 : decode cX12_ofCommand 9 = .ok (.iadd, 1) := by decide +kernel
theorem dX12_ofCommand_10 : decode cX12_ofCommand 10 = .ok (.iload_n 2, 1) := by decide +kernel
theorem dX12_ofCommand_11 : decode cX12_ofCommand 11 = .ok (.iadd, 1) := by decide +kernel
theorem dX12_ofCommand_12 : decode cX12_ofCommand 12 = .ok (.iaload, 1) := by decide +kernel
theorem dX12_ofCommand_13 : decode cX12_ofCommand 13 = .ok (.ireturn, 1) := by decide +kernel
theorem rl3 : ∀ z0, z0 < 40 → bd (34 + 3 * z0 + 1) = (-1, 5) := by decide +kernel
set_option maxRecDepth 100000 in
set_option maxHeartbeats 4000000 in
theorem rX12_ofCommand (l : Launch) (D : va_G) (Y : Nat → ClassId) (h0 : Nat) (h1 : Nat) (h2 : Nat) (h3 : Nat) (h4 : Nat) (h5 : Nat) (h6 : Nat) (p2 : Int32) (k5 : Nat) (k6 : Nat) (p7 : Int32) (p8 : Int32) (p9 : Int32) (k10 : Nat) (p11 : Int32) (q12 : Int64) (k15 : Nat) (k16 : Nat) (f0 : Nat → Int32) (f1 : Nat → Int32) (f3 : Nat → Int32) (f4 : Nat → Int32) (f13 : Nat → Int32) (f14 : Nat → Int32) (HI : INV f0) (HL : k5 ≤ 1600) (HP : PLV f13) (s0 : Nat) (s1 : Nat) (hn0 : s0 < 40) (hn1 : s1 < 3) (sz : Nat) : Met l yX12_ofCommand (WSm yX12_ofCommand cX12_ofCommand 3 (some .int)) (mkR 0 0 0 0) (PreC D Y [.ref h0, .int (nI s0), .int (nI s1)] [(h0, oC 13 [.ref h1, .ref h2, .int p2, .ref h3, .ref h4, .int (nI k5), .int (nI k6), .int p7, .int p8, .int p9, .int (nI k10), .int p11, .long q12, .ref h5, .ref h6, .int (nI k15), .int (nI k16)]), (h1, aI Y 3640 f0), (h2, aZ Y 2 f1), (h3, aZ Y 80 f3), (h4, aB Y 1600 f4), (h5, aI Y 200 f13), (h6, aI Y 800 f14)] sz) (QI D (fun (r : Int32) (u : WU) => (s1 = 1 → -1 ≤ r.toInt ∧ r.toInt ≤ 5)) (fun (u : WU) => [(h0, oC 13 [.ref h1, .ref h2, .int p2, .ref h3, .ref h4, .int (nI k5), .int (nI k6), .int p7, .int p8, .int p9, .int (nI k10), .int p11, .long q12, .ref h5, .ref h6, .int (nI k15), .int (nI k16)]), (h1, aI Y 3640 f0), (h2, aZ Y 2 f1), (h3, aZ Y 80 f3), (h4, aB Y 1600 f4), (h5, aI Y 200 f13), (h6, aI Y 800 f14)]) (va_A [(h0, oC 13 [.ref h1, .ref h2, .int p2, .ref h3, .ref h4, .int (nI k5), .int (nI k6), .int p7, .int p8, .int p9, .int (nI k10), .int p11, .long q12, .ref h5, .ref h6, .int (nI k15), .int (nI k16)]), (h1, aI Y 3640 f0), (h2, aZ Y 2 f1), (h3, aZ Y 80 f3), (h4, aB Y 1600 f4), (h5, aI Y 200 f13), (h6, aI Y 800 f14)] sz)) 0 0 (va_A [(h0, oC 13 [.ref h1, .ref h2, .int p2, .ref h3, .ref h4, .int (nI k5), .int (nI k6), .int p7, .int p8, .int p9, .int (nI k10), .int p11, .long q12, .ref h5, .ref h6, .int (nI k15), .int (nI k16)]), (h1, aI Y 3640 f0), (h2, aZ Y 2 f1), (h3, aZ Y 80 f3), (h4, aB Y 1600 f4), (h5, aI Y 200 f13), (h6, aI Y 800 f14)] sz) :=
  met_of (by decide +kernel) (Nat.le_of_ble_eq_true rfl) (fun p e s m args below meth c B hin hsz => by
    have B : VB p s m args meth c D Y (va_A [(h0, oC 13 [.ref h1, .ref h2, .int p2, .ref h3, .ref h4, .int (nI k5), .int (nI k6), .int p7, .int p8, .int p9, .int (nI k10), .int p11, .long q12, .ref h5, .ref h6, .int (nI k15), .int (nI k16)]), (h1, aI Y 3640 f0), (h2, aZ Y 2 f1), (h3, aZ Y 80 f3), (h4, aB Y 1600 f4), (h5, aI Y 200 f13), (h6, aI Y 800 f14)] sz) cX12_ofCommand 3 RX12 (some .int) := B
    refine V_aload_n 0 B dX12_ofCommand_0 0 rfl ?_
    refine V_get 1 B gf_RX12_9 0 rfl rfl dX12_ofCommand_1 ?_
    refine V_bipush 4 B (v := 34) dX12_ofCommand_4 (by decide +kernel) ?_
    refine V_iconst 6 B (v := 3) dX12_ofCommand_6 (by decide +kernel) ?_
    refine V_iload_n 7 B dX12_ofCommand_7 1 rfl ?_
    refine V_imul 8 B (v := (nI (3 * s0))) dX12_ofCommand_8 (nI_mulE (a := 3) (b := s0) (by omega)) ?_
    refine V_iadd 9 B (v := (nI (34 + 3 * s0))) dX12_ofCommand_9 (nI_addE (a := 34) (b := 3 * s0) (by omega)) ?_
    refine V_iload_n 10 B dX12_ofCommand_10 2 rfl ?_
    refine V_iadd 11 B (v := (nI (34 + 3 * s0 + s1))) dX12_ofCommand_11 (nI_addE (a := 34 + 3 * s0) (b := s1) (by omega)) ?_
    refine V_iald 12 B (v := f0 (34 + 3 * s0 + s1)) 1 rfl (vp_in_nI (n := 34 + 3 * s0 + s1) (by omega) (by decide)) dX12_ofCommand_12 (by rw [nI_clamp (show 34 + 3 * s0 + s1 < 2 ^ 31 by omega)]) ?_
    refine V_nmi (fun j0 e1 => ?_)
    exact V_iret 13 B dX12_ofCommand_13 (mkW [] [] [] [] [] []) (fun e9 => by
      subst e9
      rw [e1]
      exact ⟨INV_lo HI (by omega) (by rw [show 34 + 3 * s0 + 1 = 34 + 3 * s0 + 1 by omega]; exact rl3 s0 (by omega)), INV_hi HI (by omega) (by rw [show 34 + 3 * s0 + 1 = 34 + 3 * s0 + 1 by omega]; exact rl3 s0 (by omega))⟩) rfl)
theorem dX12_ofLayer_0 : decode cX12_ofLayer 0 = .ok (.aload_n 0, 1) := by decide +kernel
theorem dX12_ofLayer_1 : decode cX12_ofLayer 1 = .ok (.getfield 9, 3) := by decide +kernel
theorem dX12_ofLayer_4 : decode cX12_ofLayer 4 = .ok (.sipush 744, 3) := by decide +kernel
theorem dX12_ofLayer_7 : decode cX12_ofLayer 7 = .ok (.bipush 28, 2) := by decide +kernel
theorem dX12_ofLayer_9 : decode cX12_ofLayer 9 = .ok (.iload_n 1, 1) := by decide +kernel
theorem dX12_ofLayer_10 : decode cX12_ofLayer 10 = .ok (.imul, 1) := by decide +kernel
theorem dX12_ofLayer_11 : decode cX12_ofLayer 11 = .ok (.iadd, 1) := by decide +kernel
theorem dX12_ofLayer_12 : decode cX12_ofLayer 12 = .ok (.iload_n 2, 1) := by decide +kernel
theorem dX12_ofLayer_13 : decode cX12_ofLayer 13 = .ok (.iadd, 1) := by decide +kernel
theorem dX12_ofLayer_14 : decode cX12_ofLayer 14 = .ok (.iaload, 1) := by decide +kernel
theorem rl4 : ∀ z0, z0 < 4 → ∀ z1, z1 < 28 → bd (744 + 28 * z0 + z1) = FREE := by decide +kernel
theorem dX12_ofLayer_15 : decode cX12_ofLayer 15 = .ok (.ireturn, 1) := by decide +kernel
set_option maxRecDepth 100000 in
set_option maxHeartbeats 4000000 in
theorem rX12_ofLayer (l : Launch) (D : va_G) (Y : Nat → ClassId) (h0 : Nat) (h1 : Nat) (h2 : Nat) (h3 : Nat) (h4 : Nat) (h5 : Nat) (h6 : Nat) (p2 : Int32) (k5 : Nat) (k6 : Nat) (p7 : Int32) (p8 : Int32) (p9 : Int32) (k10 : Nat) (p11 : Int32) (q12 : Int64) (k15 : Nat) (k16 : Nat) (f0 : Nat → Int32) (f1 : Nat → Int32) (f3 : Nat → Int32) (f4 : Nat → Int32) (f13 : Nat → Int32) (f14 : Nat → Int32) (HI : INV f0) (HL : k5 ≤ 1600) (HP : PLV f13) (s0 : Nat) (s1 : Nat) (hn0 : s0 < 4) (hn1 : s1 < 28) (sz : Nat) : Met l yX12_ofLayer (WSm yX12_ofLayer cX12_ofLayer 3 (some .int)) (mkR 0 0 0 0) (PreC D Y [.ref h0, .int (nI s0), .int (nI s1)] [(h0, oC 13 [.ref h1, .ref h2, .int p2, .ref h3, .ref h4, .int (nI k5), .int (nI k6), .int p7, .int p8, .int p9, .int (nI k10), .int p11, .long q12, .ref h5, .ref h6, .int (nI k15), .int (nI k16)]), (h1, aI Y 3640 f0), (h2, aZ Y 2 f1), (h3, aZ Y 80 f3), (h4, aB Y 1600 f4), (h5, aI Y 200 f13), (h6, aI Y 800 f14)] sz) (QI D (fun (r : Int32) (u : WU) => True) (fun (u : WU) => [(h0, oC 13 [.ref h1, .ref h2, .int p2, .ref h3, .ref h4, .int (nI k5), .int (nI k6), .int p7, .int p8, .int p9, .int (nI k10), .int p11, .long q12, .ref h5, .ref h6, .int (nI k15), .int (nI k16)]), (h1, aI Y 3640 f0), (h2, aZ Y 2 f1), (h3, aZ Y 80 f3), (h4, aB Y 1600 f4), (h5, aI Y 200 f13), (h6, aI Y 800 f14)]) (va_A [(h0, oC 13 [.ref h1, .ref h2, .int p2, .ref h3, .ref h4, .int (nI k5), .int (nI k6), .int p7, .int p8, .int p9, .int (nI k10), .int p11, .long q12, .ref h5, .ref h6, .int (nI k15), .int (nI k16)]), (h1, aI Y 3640 f0), (h2, aZ Y 2 f1), (h3, aZ Y 80 f3), (h4, aB Y 1600 f4), (h5, aI Y 200 f13), (h6, aI Y 800 f14)] sz)) 0 0 (va_A [(h0, oC 13 [.ref h1, .ref h2, .int p2, .ref h3, .ref h4, .int (nI k5), .int (nI k6), .int p7, .int p8, .int p9, .int (nI k10), .int p11, .long q12, .ref h5, .ref h6, .int (nI k15), .int (nI k16)]), (h1, aI Y 3640 f0), (h2, aZ Y 2 f1), (h3, aZ Y 80 f3), (h4, aB Y 1600 f4), (h5, aI Y 200 f13), (h6, aI Y 800 f14)] sz) :=
  met_of (by decide +kernel) (Nat.le_of_ble_eq_true rfl) (fun p e s m args below meth c B hin hsz => by
    have B : VB p s m args meth c D Y (va_A [(h0, oC 13 [.ref h1, .ref h2, .int p2, .ref h3, .ref h4, .int (nI k5), .int (nI k6), .int p7, .int p8, .int p9, .int (nI k10), .int p11, .long q12, .ref h5, .ref h6, .int (nI k15), .int (nI k16)]), (h1, aI Y 3640 f0), (h2, aZ Y 2 f1), (h3, aZ Y 80 f3), (h4, aB Y 1600 f4), (h5, aI Y 200 f13), (h6, aI Y 800 f14)] sz) cX12_ofLayer 3 RX12 (some .int) := B
    refine V_aload_n 0 B dX12_ofLayer_0 0 rfl ?_
    refine V_get 1 B gf_RX12_9 0 rfl rfl dX12_ofLayer_1 ?_
    refine V_sipush 4 B (v := 744) dX12_ofLayer_4 (by decide +kernel) ?_
    refine V_bipush 7 B (v := 28) dX12_ofLayer_7 (by decide +kernel) ?_
    refine V_iload_n 9 B dX12_ofLayer_9 1 rfl ?_
    refine V_imul 10 B (v := (nI (28 * s0))) dX12_ofLayer_10 (nI_mulE (a := 28) (b := s0) (by omega)) ?_
    refine V_iadd 11 B (v := (nI (744 + 28 * s0))) dX12_ofLayer_11 (nI_addE (a := 744) (b := 28 * s0) (by omega)) ?_
    refine V_iload_n 12 B dX12_ofLayer_12 2 rfl ?_
    refine V_iadd 13 B (v := (nI (744 + 28 * s0 + s1))) dX12_ofLayer_13 (nI_addE (a := 744 + 28 * s0) (b := s1) (by omega)) ?_
    refine V_iald 14 B (v := f0 (744 + 28 * s0 + s1)) 1 rfl (vp_in_nI (n := 744 + 28 * s0 + s1) (by omega) (by decide)) dX12_ofLayer_14 (by rw [nI_clamp (show 744 + 28 * s0 + s1 < 2 ^ 31 by omega)]) ?_
    refine V_nmi (fun j0 e1 => ?_)
    exact V_iret 15 B dX12_ofLayer_15 (mkW [] [] [] [] [] []) trivial rfl)
theorem dX12_isMode_0 : decode cX12_isMode 0 = .ok (.iload_n 1, 1) := by decide +kernel
theorem dX12_isMode_1 : decode cX12_isMode 1 = .ok (.i2l, 1) := by decide +kernel
theorem dX12_isMode_2 : decode cX12_isMode 2 = .ok (.lconst 0, 1) := by decide +kernel
theorem dX12_isMode_3 : decode cX12_isMode 3 = .ok (.aload_n 0, 1) := by decide +kernel
theorem dX12_isMode_4 : decode cX12_isMode 4 = .ok (.getfield 9, 3) := by decide +kernel
theorem dX12_isMode_7 : decode cX12_isMode 7 = .ok (.iconst 0, 1) := by decide +kernel
theorem dX12_isMode_8 : decode cX12_isMode 8 = .ok (.iaload, 1) := by decide +kernel
theorem dX12_isMode_9 : decode cX12_isMode 9 = .ok (.iconst 1, 1) := by decide +kernel
theorem dX12_isMode_10 : decode cX12_isMode 10 = .ok (.isub, 1) := by decide +kernel
theorem dX12_isMode_11 : decode cX12_isMode 11 = .ok (.i2l, 1) := by decide +kernel
theorem dX12_isMode_12 : decode cX12_isMode 12 = .ok (.invokestatic 41, 3) := by decide +kernel
theorem dX12_isMode_15 : decode cX12_isMode 15 = .ok (.ireturn, 1) := by decide +kernel
set_option maxRecDepth 100000 in
set_option maxHeartbeats 4000000 in
theorem rX12_isMode (l : Launch) (D : va_G) (Y : Nat → ClassId) (h0 : Nat) (h1 : Nat) (h2 : Nat) (h3 : Nat) (h4 : Nat) (h5 : Nat) (h6 : Nat) (p2 : Int32) (k5 : Nat) (k6 : Nat) (p7 : Int32) (p8 : Int32) (p9 : Int32) (k10 : Nat) (p11 : Int32) (q12 : Int64) (k15 : Nat) (k16 : Nat) (f0 : Nat → Int32) (f1 : Nat → Int32) (f3 : Nat → Int32) (f4 : Nat → Int32) (f13 : Nat → Int32) (f14 : Nat → Int32) (HI : INV f0) (HL : k5 ≤ 1600) (HP : PLV f13) (s0 : Int32)  (sz : Nat) : Met l yX12_isMode (WSm yX12_isMode cX12_isMode 2 (some .boolean)) (mkR 1 0 0 25) (PreC D Y [.ref h0, .int s0] [(h0, oC 13 [.ref h1, .ref h2, .int p2, .ref h3, .ref h4, .int (nI k5), .int (nI k6), .int p7, .int p8, .int p9, .int (nI k10), .int p11, .long q12, .ref h5, .ref h6, .int (nI k15), .int (nI k16)]), (h1, aI Y 3640 f0), (h2, aZ Y 2 f1), (h3, aZ Y 80 f3), (h4, aB Y 1600 f4), (h5, aI Y 200 f13), (h6, aI Y 800 f14)] sz) (QI D (fun (r : Int32) (u : WU) => (r = 0 ∨ (r = 1 ∧ ∃ m : Nat, s0 = nI m ∧ m < gN f0 0))) (fun (u : WU) => [(h0, oC 13 [.ref h1, .ref h2, .int p2, .ref h3, .ref h4, .int (nI k5), .int (nI k6), .int p7, .int p8, .int p9, .int (nI k10), .int p11, .long q12, .ref h5, .ref h6, .int (nI k15), .int (nI k16)]), (h1, aI Y 3640 f0), (h2, aZ Y 2 f1), (h3, aZ Y 80 f3), (h4, aB Y 1600 f4), (h5, aI Y 200 f13), (h6, aI Y 800 f14)]) (va_A [(h0, oC 13 [.ref h1, .ref h2, .int p2, .ref h3, .ref h4, .int (nI k5), .int (nI k6), .int p7, .int p8, .int p9, .int (nI k10), .int p11, .long q12, .ref h5, .ref h6, .int (nI k15), .int (nI k16)]), (h1, aI Y 3640 f0), (h2, aZ Y 2 f1), (h3, aZ Y 80 f3), (h4, aB Y 1600 f4), (h5, aI Y 200 f13), (h6, aI Y 800 f14)] sz)) 0 0 (va_A [(h0, oC 13 [.ref h1, .ref h2, .int p2, .ref h3, .ref h4, .int (nI k5), .int (nI k6), .int p7, .int p8, .int p9, .int (nI k10), .int p11, .long q12, .ref h5, .ref h6, .int (nI k15), .int (nI k16)]), (h1, aI Y 3640 f0), (h2, aZ Y 2 f1), (h3, aZ Y 80 f3), (h4, aB Y 1600 f4), (h5, aI Y 200 f13), (h6, aI Y 800 f14)] sz) :=
  met_of (by decide +kernel) (Nat.le_of_ble_eq_true rfl) (fun p e s m args below meth c B hin hsz => by
    have B : VB p s m args meth c D Y (va_A [(h0, oC 13 [.ref h1, .ref h2, .int p2, .ref h3, .ref h4, .int (nI k5), .int (nI k6), .int p7, .int p8, .int p9, .int (nI k10), .int p11, .long q12, .ref h5, .ref h6, .int (nI k15), .int (nI k16)]), (h1, aI Y 3640 f0), (h2, aZ Y 2 f1), (h3, aZ Y 80 f3), (h4, aB Y 1600 f4), (h5, aI Y 200 f13), (h6, aI Y 800 f14)] sz) cX12_isMode 2 RX12 (some .boolean) := B
    refine V_iload_n 0 B dX12_isMode_0 1 rfl ?_
    refine V_i2l 1 B dX12_isMode_1 rfl ?_
    refine V_nml (fun o0 e1 => ?_)
    have x2 : o0.toInt = s0.toInt := by rw [e1, Int32.toInt_toInt64]
    refine V_lconst 2 B (v := 0) dX12_isMode_2 (by decide +kernel) ?_
    refine V_aload_n 3 B dX12_isMode_3 0 rfl ?_
    refine V_get 4 B gf_RX12_9 0 rfl rfl dX12_isMode_4 ?_
    refine V_iconst 7 B (v := 0) dX12_isMode_7 (by decide +kernel) ?_
    have x3 : (gN f0 0) ≤ 6 := gN_le HI (by omega) (show bd 0 = (0, ((6 : Nat) : Int)) by decide +kernel)
    refine V_iald 8 B (v := (nI (gN f0 0))) 1 rfl (vpin _ _ (by decide +kernel)) dX12_isMode_8 (by show f0 0 = _; exact gN_eq HI (by omega) (show bd 0 = (0, ((6 : Nat) : Int)) by decide +kernel)) ?_
    refine V_iconst 9 B (v := 1) dX12_isMode_9 (by decide +kernel) ?_
    refine V_isub 10 B dX12_isMode_10 rfl ?_
    refine V_nmi (fun j4 e5 => ?_)
    have x6 : j4.toInt = (((gN f0 0) : Nat) : Int) - ((1 : Nat) : Int) := by rw [e5]; exact nI_subT (a := (gN f0 0)) (b := 1) (by omega) (by omega)
    refine V_i2l 11 B dX12_isMode_11 rfl ?_
    refine V_nml (fun o7 e8 => ?_)
    have x9 : o7.toInt = j4.toInt := by rw [e8, Int32.toInt_toInt64]
    refine V_csi 12 B (st := []) (As := [.long o0, .long 0, .long o7]) (fun sz => rX12_inRange l D Y o0 0 o7 sz) glS_RX12_41 ⟨rfl, rfl⟩ ⟨(Nat.le_of_ble_eq_true rfl), (Nat.le_of_ble_eq_true rfl)⟩ ⟨(Nat.le_of_ble_eq_true rfl), (Nat.le_of_ble_eq_true rfl)⟩ [] rfl rfl (Nat.le_of_ble_eq_true rfl) rfl (fun _ _ _ => rfl) dX12_isMode_12 (fun j10 u11 w12 => ?_)
    refine V_ws [(h0, oC 13 [.ref h1, .ref h2, .int p2, .ref h3, .ref h4, .int (nI k5), .int (nI k6), .int p7, .int p8, .int p9, .int (nI k10), .int p11, .long q12, .ref h5, .ref h6, .int (nI k15), .int (nI k16)]), (h1, aI Y 3640 f0), (h2, aZ Y 2 f1), (h3, aZ Y 80 f3), (h4, aB Y 1600 f4), (h5, aI Y 200 f13), (h6, aI Y 800 f14)] rfl ?_
    rcases w12 with rfl | ⟨rfl, x13, x14⟩
    ·
      exact V_zret 15 B rfl dX12_isMode_15 (mkW [] [] [] [] [] []) (Or.inl rfl) rfl
    ·
      rw [show (0 : Int64).toInt = 0 by decide +kernel] at x13
      exact V_zret 15 B rfl dX12_isMode_15 (mkW [] [] [] [] [] []) (Or.inr ⟨rfl, nat_lt (by omega) (by omega)⟩) rfl)
theorem dX12_isCommand_0 : decode cX12_isCommand 0 = .ok (.iload_n 1, 1) := by decide +kernel
theorem dX12_isCommand_1 : decode cX12_isCommand 1 = .ok (.i2l, 1) := by decide +kernel
theorem dX12_isCommand_2 : decode cX12_isCommand 2 = .ok (.lconst 0, 1) := by decide +kernel
theorem dX12_isCommand_3 : decode cX12_isCommand 3 = .ok (.aload_n 0, 1) := by decide +kernel
theorem dX12_isCommand_4 : decode cX12_isCommand 4 = .ok (.getfield 9, 3) := by decide +kernel
theorem dX12_isCommand_7 : decode cX12_isCommand 7 = .ok (.iconst 1, 1) := by decide +kernel
theorem dX12_isCommand_8 : decode cX12_isCommand 8 = .ok (.iaload, 1) := by decide +kernel
theorem dX12_isCommand_9 : decode cX12_isCommand 9 = .ok (.iconst 1, 1) := by decide +kernel
theorem dX12_isCommand_10 : decode cX12_isCommand 10 = .ok (.isub, 1) := by decide +kernel
theorem dX12_isCommand_11 : decode cX12_isCommand 11 = .ok (.i2l, 1) := by decide +kernel
theorem dX12_isCommand_12 : decode cX12_isCommand 12 = .ok (.invokestatic 41, 3) := by decide +kernel
theorem dX12_isCommand_15 : decode cX12_isCommand 15 = .ok (.ireturn, 1) := by decide +kernel
set_option maxRecDepth 100000 in
set_option maxHeartbeats 4000000 in
theorem rX12_isCommand (l : Launch) (D : va_G) (Y : Nat → ClassId) (h0 : Nat) (h1 : Nat) (h2 : Nat) (h3 : Nat) (h4 : Nat) (h5 : Nat) (h6 : Nat) (p2 : Int32) (k5 : Nat) (k6 : Nat) (p7 : Int32) (p8 : Int32) (p9 : Int32) (k10 : Nat) (p11 : Int32) (q12 : Int64) (k15 : Nat) (k16 : Nat) (f0 : Nat → Int32) (f1 : Nat → Int32) (f3 : Nat → Int32) (f4 : Nat → Int32) (f13 : Nat → Int32) (f14 : Nat → Int32) (HI : INV f0) (HL : k5 ≤ 1600) (HP : PLV f13) (s0 : Int32)  (sz : Nat) : Met l yX12_isCommand (WSm yX12_isCommand cX12_isCommand 2 (some .boolean)) (mkR 1 0 0 25) (PreC D Y [.ref h0, .int s0] [(h0, oC 13 [.ref h1, .ref h2, .int p2, .ref h3, .ref h4, .int (nI k5), .int (nI k6), .int p7, .int p8, .int p9, .int (nI k10), .int p11, .long q12, .ref h5, .ref h6, .int (nI k15), .int (nI k16)]), (h1, aI Y 3640 f0), (h2, aZ Y 2 f1), (h3, aZ Y 80 f3), (h4, aB Y 1600 f4), (h5, aI Y 200 f13), (h6, aI Y 800 f14)] sz) (QI D (fun (r : Int32) (u : WU) => (r = 0 ∨ (r = 1 ∧ ∃ m : Nat, s0 = nI m ∧ m < gN f0 1))) (fun (u : WU) => [(h0, oC 13 [.ref h1, .ref h2, .int p2, .ref h3, .ref h4, .int (nI k5), .int (nI k6), .int p7, .int p8, .int p9, .int (nI k10), .int p11, .long q12, .ref h5, .ref h6, .int (nI k15), .int (nI k16)]), (h1, aI Y 3640 f0), (h2, aZ Y 2 f1), (h3, aZ Y 80 f3), (h4, aB Y 1600 f4), (h5, aI Y 200 f13), (h6, aI Y 800 f14)]) (va_A [(h0, oC 13 [.ref h1, .ref h2, .int p2, .ref h3, .ref h4, .int (nI k5), .int (nI k6), .int p7, .int p8, .int p9, .int (nI k10), .int p11, .long q12, .ref h5, .ref h6, .int (nI k15), .int (nI k16)]), (h1, aI Y 3640 f0), (h2, aZ Y 2 f1), (h3, aZ Y 80 f3), (h4, aB Y 1600 f4), (h5, aI Y 200 f13), (h6, aI Y 800 f14)] sz)) 0 0 (va_A [(h0, oC 13 [.ref h1, .ref h2, .int p2, .ref h3, .ref h4, .int (nI k5), .int (nI k6), .int p7, .int p8, .int p9, .int (nI k10), .int p11, .long q12, .ref h5, .ref h6, .int (nI k15), .int (nI k16)]), (h1, aI Y 3640 f0), (h2, aZ Y 2 f1), (h3, aZ Y 80 f3), (h4, aB Y 1600 f4), (h5, aI Y 200 f13), (h6, aI Y 800 f14)] sz) :=
  met_of (by decide +kernel) (Nat.le_of_ble_eq_true rfl) (fun p e s m args below meth c B hin hsz => by
    have B : VB p s m args meth c D Y (va_A [(h0, oC 13 [.ref h1, .ref h2, .int p2, .ref h3, .ref h4, .int (nI k5), .int (nI k6), .int p7, .int p8, .int p9, .int (nI k10), .int p11, .long q12, .ref h5, .ref h6, .int (nI k15), .int (nI k16)]), (h1, aI Y 3640 f0), (h2, aZ Y 2 f1), (h3, aZ Y 80 f3), (h4, aB Y 1600 f4), (h5, aI Y 200 f13), (h6, aI Y 800 f14)] sz) cX12_isCommand 2 RX12 (some .boolean) := B
    refine V_iload_n 0 B dX12_isCommand_0 1 rfl ?_
    refine V_i2l 1 B dX12_isCommand_1 rfl ?_
    refine V_nml (fun o0 e1 => ?_)
    have x2 : o0.toInt = s0.toInt := by rw [e1, Int32.toInt_toInt64]
    refine V_lconst 2 B (v := 0) dX12_isCommand_2 (by decide +kernel) ?_
    refine V_aload_n 3 B dX12_isCommand_3 0 rfl ?_
    refine V_get 4 B gf_RX12_9 0 rfl rfl dX12_isCommand_4 ?_
    refine V_iconst 7 B (v := 1) dX12_isCommand_7 (by decide +kernel) ?_
    have x3 : (gN f0 1) ≤ 40 := gN_le HI (by omega) (show bd 1 = (0, ((40 : Nat) : Int)) by decide +kernel)
    refine V_iald 8 B (v := (nI (gN f0 1))) 1 rfl (vpin _ _ (by decide +kernel)) dX12_isCommand_8 (by show f0 1 = _; exact gN_eq HI (by omega) (show bd 1 = (0, ((40 : Nat) : Int)) by decide +kernel)) ?_
    refine V_iconst 9 B (v := 1) dX12_isCommand_9 (by decide +kernel) ?_
    refine V_isub 10 B dX12_isCommand_10 rfl ?_
    refine V_nmi (fun j4 e5 => ?_)
    have x6 : j4.toInt = (((gN f0 1) : Nat) : Int) - ((1 : Nat) : Int) := by rw [e5]; exact nI_subT (a := (gN f0 1)) (b := 1) (by omega) (by omega)
    refine V_i2l 11 B dX12_isCommand_11 rfl ?_
    refine V_nml (fun o7 e8 => ?_)
    have x9 : o7.toInt = j4.toInt := by rw [e8, Int32.toInt_toInt64]
    refine V_csi 12 B (st := []) (As := [.long o0, .long 0, .long o7]) (fun sz => rX12_inRange l D Y o0 0 o7 sz) glS_RX12_41 ⟨rfl, rfl⟩ ⟨(Nat.le_of_ble_eq_true rfl), (Nat.le_of_ble_eq_true rfl)⟩ ⟨(Nat.le_of_ble_eq_true rfl), (Nat.le_of_ble_eq_true rfl)⟩ [] rfl rfl (Nat.le_of_ble_eq_true rfl) rfl (fun _ _ _ => rfl) dX12_isCommand_12 (fun j10 u11 w12 => ?_)
    refine V_ws [(h0, oC 13 [.ref h1, .ref h2, .int p2, .ref h3, .ref h4, .int (nI k5), .int (nI k6), .int p7, .int p8, .int p9, .int (nI k10), .int p11, .long q12, .ref h5, .ref h6, .int (nI k15), .int (nI k16)]), (h1, aI Y 3640 f0), (h2, aZ Y 2 f1), (h3, aZ Y 80 f3), (h4, aB Y 1600 f4), (h5, aI Y 200 f13), (h6, aI Y 800 f14)] rfl ?_
    rcases w12 with rfl | ⟨rfl, x13, x14⟩
    ·
      exact V_zret 15 B rfl dX12_isCommand_15 (mkW [] [] [] [] [] []) (Or.inl rfl) rfl
    ·
      rw [show (0 : Int64).toInt = 0 by decide +kernel] at x13
      exact V_zret 15 B rfl dX12_isCommand_15 (mkW [] [] [] [] [] []) (Or.inr ⟨rfl, nat_lt (by omega) (by omega)⟩) rfl)
theorem dX12_isBinding_0 : decode cX12_isBinding 0 = .ok (.iload_n 1, 1) := by decide +kernel
theorem dX12_isBinding_1 : decode cX12_isBinding 1 = .ok (.i2l, 1) := by decide +kernel
theorem dX12_isBinding_2 : decode cX12_isBinding 2 = .ok (.lconst 0, 1) := by decide +kernel
theorem dX12_isBinding_3 : decode cX12_isBinding 3 = .ok (.aload_n 0, 1) := by decide +kernel
theorem dX12_isBinding_4 : decode cX12_isBinding 4 = .ok (.getfield 9, 3) := by decide +kernel
theorem dX12_isBinding_7 : decode cX12_isBinding 7 = .ok (.iconst 3, 1) := by decide +kernel
theorem dX12_isBinding_8 : decode cX12_isBinding 8 = .ok (.iaload, 1) := by decide +kernel
theorem dX12_isBinding_9 : decode cX12_isBinding 9 = .ok (.iconst 1, 1) := by decide +kernel
theorem dX12_isBinding_10 : decode cX12_isBinding 10 = .ok (.isub, 1) := by decide +kernel
theorem dX12_isBinding_11 : decode cX12_isBinding 11 = .ok (.i2l, 1) := by decide +kernel
theorem dX12_isBinding_12 : decode cX12_isBinding 12 = .ok (.invokestatic 41, 3) := by decide +kernel
theorem dX12_isBinding_15 : decode cX12_isBinding 15 = .ok (.ireturn, 1) := by decide +kernel
set_option maxRecDepth 100000 in
set_option maxHeartbeats 4000000 in
theorem rX12_isBinding (l : Launch) (D : va_G) (Y : Nat → ClassId) (h0 : Nat) (h1 : Nat) (h2 : Nat) (h3 : Nat) (h4 : Nat) (h5 : Nat) (h6 : Nat) (p2 : Int32) (k5 : Nat) (k6 : Nat) (p7 : Int32) (p8 : Int32) (p9 : Int32) (k10 : Nat) (p11 : Int32) (q12 : Int64) (k15 : Nat) (k16 : Nat) (f0 : Nat → Int32) (f1 : Nat → Int32) (f3 : Nat → Int32) (f4 : Nat → Int32) (f13 : Nat → Int32) (f14 : Nat → Int32) (HI : INV f0) (HL : k5 ≤ 1600) (HP : PLV f13) (s0 : Int32)  (sz : Nat) : Met l yX12_isBinding (WSm yX12_isBinding cX12_isBinding 2 (some .boolean)) (mkR 1 0 0 25) (PreC D Y [.ref h0, .int s0] [(h0, oC 13 [.ref h1, .ref h2, .int p2, .ref h3, .ref h4, .int (nI k5), .int (nI k6), .int p7, .int p8, .int p9, .int (nI k10), .int p11, .long q12, .ref h5, .ref h6, .int (nI k15), .int (nI k16)]), (h1, aI Y 3640 f0), (h2, aZ Y 2 f1), (h3, aZ Y 80 f3), (h4, aB Y 1600 f4), (h5, aI Y 200 f13), (h6, aI Y 800 f14)] sz) (QI D (fun (r : Int32) (u : WU) => (r = 0 ∨ (r = 1 ∧ ∃ m : Nat, s0 = nI m ∧ m < gN f0 3))) (fun (u : WU) => [(h0, oC 13 [.ref h1, .ref h2, .int p2, .ref h3, .ref h4, .int (nI k5), .int (nI k6), .int p7, .int p8, .int p9, .int (nI k10), .int p11, .long q12, .ref h5, .ref h6, .int (nI k15), .int (nI k16)]), (h1, aI Y 3640 f0), (h2, aZ Y 2 f1), (h3, aZ Y 80 f3), (h4, aB Y 1600 f4), (h5, aI Y 200 f13), (h6, aI Y 800 f14)]) (va_A [(h0, oC 13 [.ref h1, .ref h2, .int p2, .ref h3, .ref h4, .int (nI k5), .int (nI k6), .int p7, .int p8, .int p9, .int (nI k10), .int p11, .long q12, .ref h5, .ref h6, .int (nI k15), .int (nI k16)]), (h1, aI Y 3640 f0), (h2, aZ Y 2 f1), (h3, aZ Y 80 f3), (h4, aB Y 1600 f4), (h5, aI Y 200 f13), (h6, aI Y 800 f14)] sz)) 0 0 (va_A [(h0, oC 13 [.ref h1, .ref h2, .int p2, .ref h3, .ref h4, .int (nI k5), .int (nI k6), .int p7, .int p8, .int p9, .int (nI k10), .int p11, .long q12, .ref h5, .ref h6, .int (nI k15), .int (nI k16)]), (h1, aI Y 3640 f0), (h2, aZ Y 2 f1), (h3, aZ Y 80 f3), (h4, aB Y 1600 f4), (h5, aI Y 200 f13), (h6, aI Y 800 f14)] sz) :=
  met_of (by decide +kernel) (Nat.le_of_ble_eq_true rfl) (fun p e s m args below meth c B hin hsz => by
    have B : VB p s m args meth c D Y (va_A [(h0, oC 13 [.ref h1, .ref h2, .int p2, .ref h3, .ref h4, .int (nI k5), .int (nI k6), .int p7, .int p8, .int p9, .int (nI k10), .int p11, .long q12, .ref h5, .ref h6, .int (nI k15), .int (nI k16)]), (h1, aI Y 3640 f0), (h2, aZ Y 2 f1), (h3, aZ Y 80 f3), (h4, aB Y 1600 f4), (h5, aI Y 200 f13), (h6, aI Y 800 f14)] sz) cX12_isBinding 2 RX12 (some .boolean) := B
    refine V_iload_n 0 B dX12_isBinding_0 1 rfl ?_
    refine V_i2l 1 B dX12_isBinding_1 rfl ?_
    refine V_nml (fun o0 e1 => ?_)
    have x2 : o0.toInt = s0.toInt := by rw [e1, Int32.toInt_toInt64]
    refine V_lconst 2 B (v := 0) dX12_isBinding_2 (by decide +kernel) ?_
    refine V_aload_n 3 B dX12_isBinding_3 0 rfl ?_
    refine V_get 4 B gf_RX12_9 0 rfl rfl dX12_isBinding_4 ?_
    refine V_iconst 7 B (v := 3) dX12_isBinding_7 (by decide +kernel) ?_
    have x3 : (gN f0 3) ≤ 80 := gN_le HI (by omega) (show bd 3 = (0, ((80 : Nat) : Int)) by decide +kernel)
    refine V_iald 8 B (v := (nI (gN f0 3))) 1 rfl (vpin _ _ (by decide +kernel)) dX12_isBinding_8 (by show f0 3 = _; exact gN_eq HI (by omega) (show bd 3 = (0, ((80 : Nat) : Int)) by decide +kernel)) ?_
    refine V_iconst 9 B (v := 1) dX12_isBinding_9 (by decide +kernel) ?_
    refine V_isub 10 B dX12_isBinding_10 rfl ?_
    refine V_nmi (fun j4 e5 => ?_)
    have x6 : j4.toInt = (((gN f0 3) : Nat) : Int) - ((1 : Nat) : Int) := by rw [e5]; exact nI_subT (a := (gN f0 3)) (b := 1) (by omega) (by omega)
    refine V_i2l 11 B dX12_isBinding_11 rfl ?_
    refine V_nml (fun o7 e8 => ?_)
    have x9 : o7.toInt = j4.toInt := by rw [e8, Int32.toInt_toInt64]
    refine V_csi 12 B (st := []) (As := [.long o0, .long 0, .long o7]) (fun sz => rX12_inRange l D Y o0 0 o7 sz) glS_RX12_41 ⟨rfl, rfl⟩ ⟨(Nat.le_of_ble_eq_true rfl), (Nat.le_of_ble_eq_true rfl)⟩ ⟨(Nat.le_of_ble_eq_true rfl), (Nat.le_of_ble_eq_true rfl)⟩ [] rfl rfl (Nat.le_of_ble_eq_true rfl) rfl (fun _ _ _ => rfl) dX12_isBinding_12 (fun j10 u11 w12 => ?_)
    refine V_ws [(h0, oC 13 [.ref h1, .ref h2, .int p2, .ref h3, .ref h4, .int (nI k5), .int (nI k6), .int p7, .int p8, .int p9, .int (nI k10), .int p11, .long q12, .ref h5, .ref h6, .int (nI k15), .int (nI k16)]), (h1, aI Y 3640 f0), (h2, aZ Y 2 f1), (h3, aZ Y 80 f3), (h4, aB Y 1600 f4), (h5, aI Y 200 f13), (h6, aI Y 800 f14)] rfl ?_
    rcases w12 with rfl | ⟨rfl, x13, x14⟩
    ·
      exact V_zret 15 B rfl dX12_isBinding_15 (mkW [] [] [] [] [] []) (Or.inl rfl) rfl
    ·
      rw [show (0 : Int64).toInt = 0 by decide +kernel] at x13
      exact V_zret 15 B rfl dX12_isBinding_15 (mkW [] [] [] [] [] []) (Or.inr ⟨rfl, nat_lt (by omega) (by omega)⟩) rfl)
theorem dX12_isLayer_0 : decode cX12_isLayer 0 = .ok (.iload_n 1, 1) := by decide +kernel
theorem dX12_isLayer_1 : decode cX12_isLayer 1 = .ok (.i2l, 1) := by decide +kernel
theorem dX12_isLayer_2 : decode cX12_isLayer 2 = .ok (.lconst 0, 1) := by decide +kernel
theorem dX12_isLayer_3 : decode cX12_isLayer 3 = .ok (.aload_n 0, 1) := by decide +kernel
theorem dX12_isLayer_4 : decode cX12_isLayer 4 = .ok (.getfield 9, 3) := by decide +kernel
theorem dX12_isLayer_7 : decode cX12_isLayer 7 = .ok (.iconst 4, 1) := by decide +kernel
theorem dX12_isLayer_8 : decode cX12_isLayer 8 = .ok (.iaload, 1) := by decide +kernel
theorem dX12_isLayer_9 : decode cX12_isLayer 9 = .ok (.iconst 1, 1) := by decide +kernel
theorem dX12_isLayer_10 : decode cX12_isLayer 10 = .ok (.isub, 1) := by decide +kernel
theorem dX12_isLayer_11 : decode cX12_isLayer 11 = .ok (.i2l, 1) := by decide +kernel
theorem dX12_isLayer_12 : decode cX12_isLayer 12 = .ok (.invokestatic 41, 3) := by decide +kernel
theorem dX12_isLayer_15 : decode cX12_isLayer 15 = .ok (.ireturn, 1) := by decide +kernel
set_option maxRecDepth 100000 in
set_option maxHeartbeats 4000000 in
theorem rX12_isLayer (l : Launch) (D : va_G) (Y : Nat → ClassId) (h0 : Nat) (h1 : Nat) (h2 : Nat) (h3 : Nat) (h4 : Nat) (h5 : Nat) (h6 : Nat) (p2 : Int32) (k5 : Nat) (k6 : Nat) (p7 : Int32) (p8 : Int32) (p9 : Int32) (k10 : Nat) (p11 : Int32) (q12 : Int64) (k15 : Nat) (k16 : Nat) (f0 : Nat → Int32) (f1 : Nat → Int32) (f3 : Nat → Int32) (f4 : Nat → Int32) (f13 : Nat → Int32) (f14 : Nat → Int32) (HI : INV f0) (HL : k5 ≤ 1600) (HP : PLV f13) (s0 : Int32)  (sz : Nat) : Met l yX12_isLayer (WSm yX12_isLayer cX12_isLayer 2 (some .boolean)) (mkR 1 0 0 25) (PreC D Y [.ref h0, .int s0] [(h0, oC 13 [.ref h1, .ref h2, .int p2, .ref h3, .ref h4, .int (nI k5), .int (nI k6), .int p7, .int p8, .int p9, .int (nI k10), .int p11, .long q12, .ref h5, .ref h6, .int (nI k15), .int (nI k16)]), (h1, aI Y 3640 f0), (h2, aZ Y 2 f1), (h3, aZ Y 80 f3), (h4, aB Y 1600 f4), (h5, aI Y 200 f13), (h6, aI Y 800 f14)] sz) (QI D (fun (r : Int32) (u : WU) => (r = 0 ∨ (r = 1 ∧ ∃ m : Nat, s0 = nI m ∧ m < gN f0 4))) (fun (u : WU) => [(h0, oC 13 [.ref h1, .ref h2, .int p2, .ref h3, .ref h4, .int (nI k5), .int (nI k6), .int p7, .int p8, .int p9, .int (nI k10), .int p11, .long q12, .ref h5, .ref h6, .int (nI k15), .int (nI k16)]), (h1, aI Y 3640 f0), (h2, aZ Y 2 f1), (h3, aZ Y 80 f3), (h4, aB Y 1600 f4), (h5, aI Y 200 f13), (h6, aI Y 800 f14)]) (va_A [(h0, oC 13 [.ref h1, .ref h2, .int p2, .ref h3, .ref h4, .int (nI k5), .int (nI k6), .int p7, .int p8, .int p9, .int (nI k10), .int p11, .long q12, .ref h5, .ref h6, .int (nI k15), .int (nI k16)]), (h1, aI Y 3640 f0), (h2, aZ Y 2 f1), (h3, aZ Y 80 f3), (h4, aB Y 1600 f4), (h5, aI Y 200 f13), (h6, aI Y 800 f14)] sz)) 0 0 (va_A [(h0, oC 13 [.ref h1, .ref h2, .int p2, .ref h3, .ref h4, .int (nI k5), .int (nI k6), .int p7, .int p8, .int p9, .int (nI k10), .int p11, .long q12, .ref h5, .ref h6, .int (nI k15), .int (nI k16)]), (h1, aI Y 3640 f0), (h2, aZ Y 2 f1), (h3, aZ Y 80 f3), (h4, aB Y 1600 f4), (h5, aI Y 200 f13), (h6, aI Y 800 f14)] sz) :=
  met_of (by decide +kernel) (Nat.le_of_ble_eq_true rfl) (fun p e s m args below meth c B hin hsz => by
    have B : VB p s m args meth c D Y (va_A [(h0, oC 13 [.ref h1, .ref h2, .int p2, .ref h3, .ref h4, .int (nI k5), .int (nI k6), .int p7, .int p8, .int p9, .int (nI k10), .int p11, .long q12, .ref h5, .ref h6, .int (nI k15), .int (nI k16)]), (h1, aI Y 3640 f0), (h2, aZ Y 2 f1), (h3, aZ Y 80 f3), (h4, aB Y 1600 f4), (h5, aI Y 200 f13), (h6, aI Y 800 f14)] sz) cX12_isLayer 2 RX12 (some .boolean) := B
    refine V_iload_n 0 B dX12_isLayer_0 1 rfl ?_
    refine V_i2l 1 B dX12_isLayer_1 rfl ?_
    refine V_nml (fun o0 e1 => ?_)
    have x2 : o0.toInt = s0.toInt := by rw [e1, Int32.toInt_toInt64]
    refine V_lconst 2 B (v := 0) dX12_isLayer_2 (by decide +kernel) ?_
    refine V_aload_n 3 B dX12_isLayer_3 0 rfl ?_
    refine V_get 4 B gf_RX12_9 0 rfl rfl dX12_isLayer_4 ?_
    refine V_iconst 7 B (v := 4) dX12_isLayer_7 (by decide +kernel) ?_
    have x3 : (gN f0 4) ≤ 4 := gN_le HI (by omega) (show bd 4 = (0, ((4 : Nat) : Int)) by decide +kernel)
    refine V_iald 8 B (v := (nI (gN f0 4))) 1 rfl (vpin _ _ (by decide +kernel)) dX12_isLayer_8 (by show f0 4 = _; exact gN_eq HI (by omega) (show bd 4 = (0, ((4 : Nat) : Int)) by decide +kernel)) ?_
    refine V_iconst 9 B (v := 1) dX12_isLayer_9 (by decide +kernel) ?_
    refine V_isub 10 B dX12_isLayer_10 rfl ?_
    refine V_nmi (fun j4 e5 => ?_)
    have x6 : j4.toInt = (((gN f0 4) : Nat) : Int) - ((1 : Nat) : Int) := by rw [e5]; exact nI_subT (a := (gN f0 4)) (b := 1) (by omega) (by omega)
    refine V_i2l 11 B dX12_isLayer_11 rfl ?_
    refine V_nml (fun o7 e8 => ?_)
    have x9 : o7.toInt = j4.toInt := by rw [e8, Int32.toInt_toInt64]
    refine V_csi 12 B (st := []) (As := [.long o0, .long 0, .long o7]) (fun sz => rX12_inRange l D Y o0 0 o7 sz) glS_RX12_41 ⟨rfl, rfl⟩ ⟨(Nat.le_of_ble_eq_true rfl), (Nat.le_of_ble_eq_true rfl)⟩ ⟨(Nat.le_of_ble_eq_true rfl), (Nat.le_of_ble_eq_true rfl)⟩ [] rfl rfl (Nat.le_of_ble_eq_true rfl) rfl (fun _ _ _ => rfl) dX12_isLayer_12 (fun j10 u11 w12 => ?_)
    refine V_ws [(h0, oC 13 [.ref h1, .ref h2, .int p2, .ref h3, .ref h4, .int (nI k5), .int (nI k6), .int p7, .int p8, .int p9, .int (nI k10), .int p11, .long q12, .ref h5, .ref h6, .int (nI k15), .int (nI k16)]), (h1, aI Y 3640 f0), (h2, aZ Y 2 f1), (h3, aZ Y 80 f3), (h4, aB Y 1600 f4), (h5, aI Y 200 f13), (h6, aI Y 800 f14)] rfl ?_
    rcases w12 with rfl | ⟨rfl, x13, x14⟩
    ·
      exact V_zret 15 B rfl dX12_isLayer_15 (mkW [] [] [] [] [] []) (Or.inl rfl) rfl
    ·
      rw [show (0 : Int64).toInt = 0 by decide +kernel] at x13
      exact V_zret 15 B rfl dX12_isLayer_15 (mkW [] [] [] [] [] []) (Or.inr ⟨rfl, nat_lt (by omega) (by omega)⟩) rfl)
theorem dX12_draftFrom_0 : decode cX12_draftFrom 0 = .ok (.aload_n 0, 1) := by decide +kernel
theorem dX12_draftFrom_1 : decode cX12_draftFrom 1 = .ok (.iconst 0, 1) := by decide +kernel
theorem dX12_draftFrom_2 : decode cX12_draftFrom 2 = .ok (.putfield 38, 3) := by decide +kernel
theorem dX12_draftFrom_5 : decode cX12_draftFrom 5 = .ok (.aload_n 0, 1) := by decide +kernel
theorem dX12_draftFrom_6 : decode cX12_draftFrom 6 = .ok (.aload_n 0, 1) := by decide +kernel
theorem dX12_draftFrom_7 : decode cX12_draftFrom 7 = .ok (.iload_n 1, 1) := by decide +kernel
theorem dX12_draftFrom_8 : decode cX12_draftFrom 8 = .ok (.invokevirtual 82, 3) := by decide +kernel
theorem glV_RX12_82 : GLV RX12 82 yX12_isBinding RX12 cX12_isBinding 2 (some .boolean) 1 := ⟨⟨(mT8 7 rfl rfl), (mT8 9 rfl rfl), (mTs 32 rfl rfl), (mT1 13 rfl rfl), (mT8 10 rfl rfl)⟩, by decide +kernel⟩
theorem dX12_draftFrom_11 : decode cX12_draftFrom 11 = .ok (.ifCond .ne 7, 3) := by decide +kernel
theorem dX12_draftFrom_14 : decode cX12_draftFrom 14 = .ok (.iconst 1, 1) := by decide +kernel
theorem dX12_draftFrom_15 : decode cX12_draftFrom 15 = .ok (.goto 4, 3) := by decide +kernel
theorem dX12_draftFrom_19 : decode cX12_draftFrom 19 = .ok (.iconst 1, 1) := by decide +kernel
theorem dX12_draftFrom_20 : decode cX12_draftFrom 20 = .ok (.invokevirtual 69, 3) := by decide +kernel
theorem dX12_draftFrom_23 : decode cX12_draftFrom 23 = .ok (.ifCond .eq 5, 3) := by decide +kernel
theorem dX12_draftFrom_26 : decode cX12_draftFrom 26 = .ok (.iconst 0, 1) := by decide +kernel
theorem dX12_draftFrom_27 : decode cX12_draftFrom 27 = .ok (.ireturn, 1) := by decide +kernel
theorem dX12_draftFrom_18 : decode cX12_draftFrom 18 = .ok (.iconst 0, 1) := by decide +kernel
theorem dX12_draftFrom_28 : decode cX12_draftFrom 28 = .ok (.aload_n 0, 1) := by decide +kernel
theorem dX12_draftFrom_29 : decode cX12_draftFrom 29 = .ok (.iload_n 1, 1) := by decide +kernel
theorem dX12_draftFrom_30 : decode cX12_draftFrom 30 = .ok (.invokestatic 85, 3) := by decide +kernel
theorem glS_RX12_85 : GLS RX12 85 yX12_sequenceOf cX12_sequenceOf 1 (some .int) 1 := ⟨⟨(mT8 11 rfl rfl), (mT8 12 rfl rfl), (mT1 13 rfl rfl), (mT8 13 rfl rfl)⟩, by decide +kernel⟩
theorem dX12_draftFrom_33 : decode cX12_draftFrom 33 = .ok (.sipush 3624, 3) := by decide +kernel
theorem dX12_draftFrom_36 : decode cX12_draftFrom 36 = .ok (.invokevirtual 88, 3) := by decide +kernel
theorem rl5 : ∀ z0, z0 < 80 → SQ (186 + 7 * z0) := by unfold SQ; decide +kernel
theorem glV_RX12_88 : GLV RX12 88 yX12_copySequence RX12 cX12_copySequence 4 none 2 := ⟨⟨(mT8 17 rfl rfl), (mT8 19 rfl rfl), (mTs 33 rfl rfl), (mT1 13 rfl rfl), (mT8 20 rfl rfl)⟩, by decide +kernel⟩
theorem dX12_draftFrom_39 : decode cX12_draftFrom 39 = .ok (.aload_n 0, 1) := by decide +kernel
theorem dX12_draftFrom_40 : decode cX12_draftFrom 40 = .ok (.getfield 9, 3) := by decide +kernel
theorem dX12_draftFrom_43 : decode cX12_draftFrom 43 = .ok (.sipush 3624, 3) := by decide +kernel
theorem dX12_draftFrom_46 : decode cX12_draftFrom 46 = .ok (.iaload, 1) := by decide +kernel
theorem dX12_draftFrom_47 : decode cX12_draftFrom 47 = .ok (.ireturn, 1) := by decide +kernel
set_option maxRecDepth 100000 in
set_option maxHeartbeats 4000000 in
theorem rX12_draftFrom (l : Launch) (D : va_G) (Y : Nat → ClassId) (h0 : Nat) (h1 : Nat) (h2 : Nat) (h3 : Nat) (h4 : Nat) (h5 : Nat) (h6 : Nat) (p2 : Int32) (k5 : Nat) (k6 : Nat) (p7 : Int32) (p8 : Int32) (p9 : Int32) (k10 : Nat) (p11 : Int32) (q12 : Int64) (k15 : Nat) (k16 : Nat) (f0 : Nat → Int32) (f1 : Nat → Int32) (f3 : Nat → Int32) (f4 : Nat → Int32) (f13 : Nat → Int32) (f14 : Nat → Int32) (HI : INV f0) (HL : k5 ≤ 1600) (HP : PLV f13) (s0 : Int32)  (sz : Nat) : Met l yX12_draftFrom (WSm yX12_draftFrom cX12_draftFrom 2 (some .int)) (mkR 2 0 0 46) (PreC D Y [.ref h0, .int s0] [(h0, oC 13 [.ref h1, .ref h2, .int p2, .ref h3, .ref h4, .int (nI k5), .int (nI k6), .int p7, .int p8, .int p9, .int (nI k10), .int p11, .long q12, .ref h5, .ref h6, .int (nI k15), .int (nI k16)]), (h1, aI Y 3640 f0), (h2, aZ Y 2 f1), (h3, aZ Y 80 f3), (h4, aB Y 1600 f4), (h5, aI Y 200 f13), (h6, aI Y 800 f14)] sz) (QI D (fun (r : Int32) (u : WU) => INV (u.2.2.2.1 0)) (fun (u : WU) => [(h0, oC 13 [.ref h1, .ref h2, .int (u.2.1 0), .ref h3, .ref h4, .int (nI k5), .int (nI k6), .int p7, .int p8, .int p9, .int (nI k10), .int p11, .long q12, .ref h5, .ref h6, .int (nI k15), .int (nI k16)]), (h1, aI Y 3640 (u.2.2.2.1 0)), (h2, aZ Y 2 f1), (h3, aZ Y 80 f3), (h4, aB Y 1600 f4), (h5, aI Y 200 f13), (h6, aI Y 800 f14)]) (va_A [(h0, oC 13 [.ref h1, .ref h2, .int p2, .ref h3, .ref h4, .int (nI k5), .int (nI k6), .int p7, .int p8, .int p9, .int (nI k10), .int p11, .long q12, .ref h5, .ref h6, .int (nI k15), .int (nI k16)]), (h1, aI Y 3640 f0), (h2, aZ Y 2 f1), (h3, aZ Y 80 f3), (h4, aB Y 1600 f4), (h5, aI Y 200 f13), (h6, aI Y 800 f14)] sz)) 0 0 (va_A [(h0, oC 13 [.ref h1, .ref h2, .int p2, .ref h3, .ref h4, .int (nI k5), .int (nI k6), .int p7, .int p8, .int p9, .int (nI k10), .int p11, .long q12, .ref h5, .ref h6, .int (nI k15), .int (nI k16)]), (h1, aI Y 3640 f0), (h2, aZ Y 2 f1), (h3, aZ Y 80 f3), (h4, aB Y 1600 f4), (h5, aI Y 200 f13), (h6, aI Y 800 f14)] sz) :=
  met_of (by decide +kernel) (Nat.le_of_ble_eq_true rfl) (fun p e s m args below meth c B hin hsz => by
    have B : VB p s m args meth c D Y (va_A [(h0, oC 13 [.ref h1, .ref h2, .int p2, .ref h3, .ref h4, .int (nI k5), .int (nI k6), .int p7, .int p8, .int p9, .int (nI k10), .int p11, .long q12, .ref h5, .ref h6, .int (nI k15), .int (nI k16)]), (h1, aI Y 3640 f0), (h2, aZ Y 2 f1), (h3, aZ Y 80 f3), (h4, aB Y 1600 f4), (h5, aI Y 200 f13), (h6, aI Y 800 f14)] sz) cX12_draftFrom 2 RX12 (some .int) := B
    refine V_aload_n 0 B dX12_draftFrom_0 0 rfl ?_
    refine V_iconst 1 B (v := 0) dX12_draftFrom_1 (by decide +kernel) ?_
    refine V_put 2 B gp_RX12_38 0 rfl (Nat.le_of_ble_eq_true rfl) rfl rfl dX12_draftFrom_2 [(h0, oC 13 [.ref h1, .ref h2, .int 0, .ref h3, .ref h4, .int (nI k5), .int (nI k6), .int p7, .int p8, .int p9, .int (nI k10), .int p11, .long q12, .ref h5, .ref h6, .int (nI k15), .int (nI k16)]), (h1, aI Y 3640 f0), (h2, aZ Y 2 f1), (h3, aZ Y 80 f3), (h4, aB Y 1600 f4), (h5, aI Y 200 f13), (h6, aI Y 800 f14)] rfl ?_
    refine V_aload_n 5 B dX12_draftFrom_5 0 rfl ?_
    refine V_aload_n 6 B dX12_draftFrom_6 0 rfl ?_
    refine V_iload_n 7 B dX12_draftFrom_7 1 rfl ?_
    refine V_cvi 8 B (st := [.ref h0]) (As := [.int s0]) (fun sz => rX12_isBinding l D Y h0 h1 h2 h3 h4 h5 h6 0 k5 k6 p7 p8 p9 k10 p11 q12 k15 k16 f0 f1 f3 f4 f13 f14 HI (by omega) HP s0 sz) glV_RX12_82 ⟨rfl, rfl⟩ ⟨(Nat.le_of_ble_eq_true rfl), (Nat.le_of_ble_eq_true rfl)⟩ ⟨(Nat.le_of_ble_eq_true rfl), (Nat.le_of_ble_eq_true rfl)⟩ [0, 0, 0, 0, 0, 0, 0] rfl 13 0 rfl rfl rfl rfl (Nat.le_of_ble_eq_true rfl) rfl (fun _ _ _ => rfl) dX12_draftFrom_8 (fun j0 u1 w2 => ?_)
    refine V_ws [(h0, oC 13 [.ref h1, .ref h2, .int 0, .ref h3, .ref h4, .int (nI k5), .int (nI k6), .int p7, .int p8, .int p9, .int (nI k10), .int p11, .long q12, .ref h5, .ref h6, .int (nI k15), .int (nI k16)]), (h1, aI Y 3640 f0), (h2, aZ Y 2 f1), (h3, aZ Y 80 f3), (h4, aB Y 1600 f4), (h5, aI Y 200 f13), (h6, aI Y 800 f14)] rfl ?_
    have x3 := w2
    have x7 : (gN f0 3) ≤ 80 := gN_le HI (by omega) (show bd 3 = (0, ((80 : Nat) : Int)) by decide +kernel)
    rcases x3 with rfl | ⟨rfl, n4, rfl, x6⟩
    ·
      refine V_if_ne_f 11 B 18 dX12_draftFrom_11 (by decide) (by decide +kernel) ?_
      refine V_iconst 14 B (v := 1) dX12_draftFrom_14 (by decide +kernel) ?_
      refine V_goto 15 B 19 dX12_draftFrom_15 (by decide) ?_
      refine V_iconst 19 B (v := 1) dX12_draftFrom_19 (by decide +kernel) ?_
      refine V_cvi 20 B (st := []) (As := [.int 1, .int 1]) (fun sz => rX12_throwsIf_1 l D Y h0 h1 h2 h3 h4 h5 h6 0 k5 k6 p7 p8 p9 k10 p11 q12 k15 k16 f0 f1 f3 f4 f13 f14 HI (by omega) HP 1 sz) glV_RX12_69 ⟨rfl, rfl⟩ ⟨(Nat.le_of_ble_eq_true rfl), (Nat.le_of_ble_eq_true rfl)⟩ ⟨(Nat.le_of_ble_eq_true rfl), (Nat.le_of_ble_eq_true rfl)⟩ [0, 0, 0, 0, 0, 0, 0] rfl 13 0 rfl rfl rfl rfl (Nat.le_of_ble_eq_true rfl) rfl (fun _ _ _ => rfl) dX12_draftFrom_20 (fun j8 u9 w10 => ?_)
      refine V_ws [(h0, oC 13 [.ref h1, .ref h2, .int (u9.2.1 0), .ref h3, .ref h4, .int (nI k5), .int (nI k6), .int p7, .int p8, .int p9, .int (nI k10), .int p11, .long q12, .ref h5, .ref h6, .int (nI k15), .int (nI k16)]), (h1, aI Y 3640 f0), (h2, aZ Y 2 f1), (h3, aZ Y 80 f3), (h4, aB Y 1600 f4), (h5, aI Y 200 f13), (h6, aI Y 800 f14)] rfl ?_
      have x11 := w10
      obtain rfl := x11
      refine V_if_eq_f 23 B 28 dX12_draftFrom_23 (by decide) (by decide +kernel) ?_
      refine V_iconst 26 B (v := 0) dX12_draftFrom_26 (by decide +kernel) ?_
      exact V_iret 27 B dX12_draftFrom_27 (mkW [] [(u9.2.1 0)] [] [f0] [] []) HI rfl
    ·
      have e12 := nI_toInt (show n4 < 2 ^ 31 by omega)
      have x13 : (gN f0 3) ≤ 80 := gN_le HI (by omega) (show bd 3 = (0, ((80 : Nat) : Int)) by decide +kernel)
      refine V_if_ne_t 11 B 18 dX12_draftFrom_11 (by decide) (by decide +kernel) ?_
      refine V_iconst 18 B (v := 0) dX12_draftFrom_18 (by decide +kernel) ?_
      refine V_iconst 19 B (v := 1) dX12_draftFrom_19 (by decide +kernel) ?_
      refine V_cvi 20 B (st := []) (As := [.int 0, .int 1]) (fun sz => rX12_throwsIf_0 l D Y h0 h1 h2 h3 h4 h5 h6 0 k5 k6 p7 p8 p9 k10 p11 q12 k15 k16 f0 f1 f3 f4 f13 f14 HI (by omega) HP 1 sz) glV_RX12_69 ⟨rfl, rfl⟩ ⟨(Nat.le_of_ble_eq_true rfl), (Nat.le_of_ble_eq_true rfl)⟩ ⟨(Nat.le_of_ble_eq_true rfl), (Nat.le_of_ble_eq_true rfl)⟩ [0, 0, 0, 0, 0, 0, 0] rfl 13 0 rfl rfl rfl rfl (Nat.le_of_ble_eq_true rfl) rfl (fun _ _ _ => rfl) dX12_draftFrom_20 (fun j14 u15 w16 => ?_)
      refine V_ws [(h0, oC 13 [.ref h1, .ref h2, .int (u15.2.1 0), .ref h3, .ref h4, .int (nI k5), .int (nI k6), .int p7, .int p8, .int p9, .int (nI k10), .int p11, .long q12, .ref h5, .ref h6, .int (nI k15), .int (nI k16)]), (h1, aI Y 3640 f0), (h2, aZ Y 2 f1), (h3, aZ Y 80 f3), (h4, aB Y 1600 f4), (h5, aI Y 200 f13), (h6, aI Y 800 f14)] rfl ?_
      have x17 := w16
      obtain rfl := x17
      refine V_if_eq_t 23 B 28 dX12_draftFrom_23 (by decide) (by decide +kernel) ?_
      refine V_aload_n 28 B dX12_draftFrom_28 0 rfl ?_
      refine V_iload_n 29 B dX12_draftFrom_29 1 rfl ?_
      refine V_csi 30 B (st := [.ref h0]) (As := [.int (nI n4)]) (fun sz => rX12_sequenceOf l D Y n4 (by omega) sz) glS_RX12_85 ⟨rfl, rfl⟩ ⟨(Nat.le_of_ble_eq_true rfl), (Nat.le_of_ble_eq_true rfl)⟩ ⟨(Nat.le_of_ble_eq_true rfl), (Nat.le_of_ble_eq_true rfl)⟩ [] rfl rfl (Nat.le_of_ble_eq_true rfl) rfl (fun _ _ _ => rfl) dX12_draftFrom_30 (fun j18 u19 w20 => ?_)
      refine V_ws [(h0, oC 13 [.ref h1, .ref h2, .int (u15.2.1 0), .ref h3, .ref h4, .int (nI k5), .int (nI k6), .int p7, .int p8, .int p9, .int (nI k10), .int p11, .long q12, .ref h5, .ref h6, .int (nI k15), .int (nI k16)]), (h1, aI Y 3640 f0), (h2, aZ Y 2 f1), (h3, aZ Y 80 f3), (h4, aB Y 1600 f4), (h5, aI Y 200 f13), (h6, aI Y 800 f14)] rfl ?_
      have x21 := w20
      obtain rfl := x21
      refine V_sipush 33 B (v := 3624) dX12_draftFrom_33 (by decide +kernel) ?_
      refine V_cvv 36 B (st := []) (As := [.int (nI (186 + 7 * n4)), .int 3624]) (fun sz => rX12_copySequence l D Y h0 h1 h2 h3 h4 h5 h6 (u15.2.1 0) k5 k6 p7 p8 p9 k10 p11 q12 k15 k16 f0 f1 f3 f4 f13 f14 HI (by omega) HP (186 + 7 * n4) 3624 (rl5 n4 (by omega)) (show SQ 3624 by unfold SQ; decide +kernel) sz) glV_RX12_88 ⟨rfl, rfl⟩ ⟨(Nat.le_of_ble_eq_true rfl), (Nat.le_of_ble_eq_true rfl)⟩ ⟨(Nat.le_of_ble_eq_true rfl), (Nat.le_of_ble_eq_true rfl)⟩ [0, 0, 0, 0, 0, 0, 0] rfl 13 0 rfl rfl rfl rfl (Nat.le_of_ble_eq_true rfl) rfl (fun _ _ => rfl) dX12_draftFrom_36 (fun u23 w24 => ?_)
      refine V_ws [(h0, oC 13 [.ref h1, .ref h2, .int (u15.2.1 0), .ref h3, .ref h4, .int (nI k5), .int (nI k6), .int p7, .int p8, .int p9, .int (nI k10), .int p11, .long q12, .ref h5, .ref h6, .int (nI k15), .int (nI k16)]), (h1, aI Y 3640 (u23.2.2.2.1 0)), (h2, aZ Y 2 f1), (h3, aZ Y 80 f3), (h4, aB Y 1600 f4), (h5, aI Y 200 f13), (h6, aI Y 800 f14)] rfl ?_
      obtain ⟨x25, x26⟩ := w24
      refine V_aload_n 39 B dX12_draftFrom_39 0 rfl ?_
      refine V_get 40 B gf_RX12_9 0 rfl rfl dX12_draftFrom_40 ?_
      refine V_sipush 43 B (v := 3624) dX12_draftFrom_43 (by decide +kernel) ?_
      have x27 : (gN (u23.2.2.2.1 0) 3624) ≤ 4 := gN_le x25 (by omega) (show bd 3624 = (0, ((4 : Nat) : Int)) by decide +kernel)
      refine V_iald 46 B (v := (nI ((gN (u23.2.2.2.1 0) 3624)))) 1 rfl (vpin _ _ (by decide +kernel)) dX12_draftFrom_46 (by show (u23.2.2.2.1 0) 3624 = _; exact gN_eq x25 (by omega) (show bd 3624 = (0, ((4 : Nat) : Int)) by decide +kernel)) ?_
      exact V_iret 47 B dX12_draftFrom_47 (mkW [] [(u15.2.1 0)] [] [(u23.2.2.2.1 0)] [] []) x25 rfl)
theorem dX12_count_0 : decode cX12_count 0 = .ok (.aload_n 0, 1) := by decide +kernel
theorem dX12_count_1 : decode cX12_count 1 = .ok (.iconst 0, 1) := by decide +kernel
theorem dX12_count_2 : decode cX12_count 2 = .ok (.putfield 38, 3) := by decide +kernel
theorem dX12_count_5 : decode cX12_count 5 = .ok (.iload_n 1, 1) := by decide +kernel
theorem dX12_count_6 : decode cX12_count 6 = .ok (.tableswitch 141 0 10 #[58, 65, 72, 79, 86, 93, 101, 109, 117, 125, 132], 58) := by decide +kernel
theorem dX12_count_64 : decode cX12_count 64 = .ok (.aload_n 0, 1) := by decide +kernel
theorem dX12_count_65 : decode cX12_count 65 = .ok (.getfield 9, 3) := by decide +kernel
theorem dX12_count_68 : decode cX12_count 68 = .ok (.iconst 0, 1) := by decide +kernel
theorem dX12_count_69 : decode cX12_count 69 = .ok (.iaload, 1) := by decide +kernel
theorem dX12_count_70 : decode cX12_count 70 = .ok (.ireturn, 1) := by decide +kernel
theorem dX12_count_71 : decode cX12_count 71 = .ok (.aload_n 0, 1) := by decide +kernel
theorem dX12_count_72 : decode cX12_count 72 = .ok (.getfield 9, 3) := by decide +kernel
theorem dX12_count_75 : decode cX12_count 75 = .ok (.iconst 4, 1) := by decide +kernel
theorem dX12_count_76 : decode cX12_count 76 = .ok (.iaload, 1) := by decide +kernel
theorem dX12_count_77 : decode cX12_count 77 = .ok (.ireturn, 1) := by decide +kernel
theorem dX12_count_78 : decode cX12_count 78 = .ok (.aload_n 0, 1) := by decide +kernel
theorem dX12_count_79 : decode cX12_count 79 = .ok (.getfield 9, 3) := by decide +kernel
theorem dX12_count_82 : decode cX12_count 82 = .ok (.iconst 1, 1) := by decide +kernel
theorem dX12_count_83 : decode cX12_count 83 = .ok (.iaload, 1) := by decide +kernel
theorem dX12_count_84 : decode cX12_count 84 = .ok (.ireturn, 1) := by decide +kernel
theorem dX12_count_85 : decode cX12_count 85 = .ok (.aload_n 0, 1) := by decide +kernel
theorem dX12_count_86 : decode cX12_count 86 = .ok (.getfield 9, 3) := by decide +kernel
theorem dX12_count_89 : decode cX12_count 89 = .ok (.iconst 3, 1) := by decide +kernel
theorem dX12_count_90 : decode cX12_count 90 = .ok (.iaload, 1) := by decide +kernel
theorem dX12_count_91 : decode cX12_count 91 = .ok (.ireturn, 1) := by decide +kernel
theorem dX12_count_92 : decode cX12_count 92 = .ok (.aload_n 0, 1) := by decide +kernel
theorem dX12_count_93 : decode cX12_count 93 = .ok (.getfield 9, 3) := by decide +kernel
theorem dX12_count_96 : decode cX12_count 96 = .ok (.iconst 2, 1) := by decide +kernel
theorem dX12_count_97 : decode cX12_count 97 = .ok (.iaload, 1) := by decide +kernel
theorem dX12_count_98 : decode cX12_count 98 = .ok (.ireturn, 1) := by decide +kernel
theorem dX12_count_99 : decode cX12_count 99 = .ok (.aload_n 0, 1) := by decide +kernel
theorem dX12_count_100 : decode cX12_count 100 = .ok (.getfield 9, 3) := by decide +kernel
theorem dX12_count_103 : decode cX12_count 103 = .ok (.bipush 8, 2) := by decide +kernel
theorem dX12_count_105 : decode cX12_count 105 = .ok (.iaload, 1) := by decide +kernel
theorem dX12_count_106 : decode cX12_count 106 = .ok (.ireturn, 1) := by decide +kernel
theorem dX12_count_107 : decode cX12_count 107 = .ok (.aload_n 0, 1) := by decide +kernel
theorem dX12_count_108 : decode cX12_count 108 = .ok (.getfield 9, 3) := by decide +kernel
theorem dX12_count_111 : decode cX12_count 111 = .ok (.bipush 9, 2) := by decide +kernel
theorem dX12_count_113 : decode cX12_count 113 = .ok (.iaload, 1) := by decide +kernel
theorem dX12_count_114 : decode cX12_count 114 = .ok (.ireturn, 1) := by decide +kernel
theorem dX12_count_115 : decode cX12_count 115 = .ok (.aload_n 0, 1) := by decide +kernel
theorem dX12_count_116 : decode cX12_count 116 = .ok (.getfield 9, 3) := by decide +kernel
theorem dX12_count_119 : decode cX12_count 119 = .ok (.bipush 7, 2) := by decide +kernel
theorem dX12_count_121 : decode cX12_count 121 = .ok (.iaload, 1) := by decide +kernel
theorem dX12_count_122 : decode cX12_count 122 = .ok (.ireturn, 1) := by decide +kernel
theorem dX12_count_123 : decode cX12_count 123 = .ok (.aload_n 0, 1) := by decide +kernel
theorem dX12_count_124 : decode cX12_count 124 = .ok (.getfield 9, 3) := by decide +kernel
theorem dX12_count_127 : decode cX12_count 127 = .ok (.bipush 15, 2) := by decide +kernel
theorem dX12_count_129 : decode cX12_count 129 = .ok (.iaload, 1) := by decide +kernel
theorem dX12_count_130 : decode cX12_count 130 = .ok (.ireturn, 1) := by decide +kernel
theorem dX12_count_131 : decode cX12_count 131 = .ok (.aload_n 0, 1) := by decide +kernel
theorem dX12_count_132 : decode cX12_count 132 = .ok (.getfield 9, 3) := by decide +kernel
theorem dX12_count_135 : decode cX12_count 135 = .ok (.iconst 5, 1) := by decide +kernel
theorem dX12_count_136 : decode cX12_count 136 = .ok (.iaload, 1) := by decide +kernel
theorem dX12_count_137 : decode cX12_count 137 = .ok (.ireturn, 1) := by decide +kernel
theorem dX12_count_138 : decode cX12_count 138 = .ok (.aload_n 0, 1) := by decide +kernel
theorem dX12_count_139 : decode cX12_count 139 = .ok (.getfield 9, 3) := by decide +kernel
theorem dX12_count_142 : decode cX12_count 142 = .ok (.sipush 3624, 3) := by decide +kernel
theorem dX12_count_145 : decode cX12_count 145 = .ok (.iaload, 1) := by decide +kernel
theorem dX12_count_146 : decode cX12_count 146 = .ok (.ireturn, 1) := by decide +kernel
theorem dX12_count_147 : decode cX12_count 147 = .ok (.iconst (-1), 1) := by decide +kernel
theorem dX12_count_148 : decode cX12_count 148 = .ok (.ireturn, 1) := by decide +kernel
set_option maxRecDepth 100000 in
set_option maxHeartbeats 4000000 in
theorem rX12_count (l : Launch) (D : va_G) (Y : Nat → ClassId) (h0 : Nat) (h1 : Nat) (h2 : Nat) (h3 : Nat) (h4 : Nat) (h5 : Nat) (h6 : Nat) (p2 : Int32) (k5 : Nat) (k6 : Nat) (p7 : Int32) (p8 : Int32) (p9 : Int32) (k10 : Nat) (p11 : Int32) (q12 : Int64) (k15 : Nat) (k16 : Nat) (f0 : Nat → Int32) (f1 : Nat → Int32) (f3 : Nat → Int32) (f4 : Nat → Int32) (f13 : Nat → Int32) (f14 : Nat → Int32) (HI : INV f0) (HL : k5 ≤ 1600) (HP : PLV f13) (s0 : Int32)  (sz : Nat) : Met l yX12_count (WSm yX12_count cX12_count 2 (some .int)) (mkR 0 0 0 0) (PreC D Y [.ref h0, .int s0] [(h0, oC 13 [.ref h1, .ref h2, .int p2, .ref h3, .ref h4, .int (nI k5), .int (nI k6), .int p7, .int p8, .int p9, .int (nI k10), .int p11, .long q12, .ref h5, .ref h6, .int (nI k15), .int (nI k16)]), (h1, aI Y 3640 f0), (h2, aZ Y 2 f1), (h3, aZ Y 80 f3), (h4, aB Y 1600 f4), (h5, aI Y 200 f13), (h6, aI Y 800 f14)] sz) (QI D (fun (r : Int32) (u : WU) => True) (fun (u : WU) => [(h0, oC 13 [.ref h1, .ref h2, .int (u.2.1 0), .ref h3, .ref h4, .int (nI k5), .int (nI k6), .int p7, .int p8, .int p9, .int (nI k10), .int p11, .long q12, .ref h5, .ref h6, .int (nI k15), .int (nI k16)]), (h1, aI Y 3640 f0), (h2, aZ Y 2 f1), (h3, aZ Y 80 f3), (h4, aB Y 1600 f4), (h5, aI Y 200 f13), (h6, aI Y 800 f14)]) (va_A [(h0, oC 13 [.ref h1, .ref h2, .int p2, .ref h3, .ref h4, .int (nI k5), .int (nI k6), .int p7, .int p8, .int p9, .int (nI k10), .int p11, .long q12, .ref h5, .ref h6, .int (nI k15), .int (nI k16)]), (h1, aI Y 3640 f0), (h2, aZ Y 2 f1), (h3, aZ Y 80 f3), (h4, aB Y 1600 f4), (h5, aI Y 200 f13), (h6, aI Y 800 f14)] sz)) 0 0 (va_A [(h0, oC 13 [.ref h1, .ref h2, .int p2, .ref h3, .ref h4, .int (nI k5), .int (nI k6), .int p7, .int p8, .int p9, .int (nI k10), .int p11, .long q12, .ref h5, .ref h6, .int (nI k15), .int (nI k16)]), (h1, aI Y 3640 f0), (h2, aZ Y 2 f1), (h3, aZ Y 80 f3), (h4, aB Y 1600 f4), (h5, aI Y 200 f13), (h6, aI Y 800 f14)] sz) :=
  met_of (by decide +kernel) (Nat.le_of_ble_eq_true rfl) (fun p e s m args below meth c B hin hsz => by
    have B : VB p s m args meth c D Y (va_A [(h0, oC 13 [.ref h1, .ref h2, .int p2, .ref h3, .ref h4, .int (nI k5), .int (nI k6), .int p7, .int p8, .int p9, .int (nI k10), .int p11, .long q12, .ref h5, .ref h6, .int (nI k15), .int (nI k16)]), (h1, aI Y 3640 f0), (h2, aZ Y 2 f1), (h3, aZ Y 80 f3), (h4, aB Y 1600 f4), (h5, aI Y 200 f13), (h6, aI Y 800 f14)] sz) cX12_count 2 RX12 (some .int) := B
    refine V_aload_n 0 B dX12_count_0 0 rfl ?_
    refine V_iconst 1 B (v := 0) dX12_count_1 (by decide +kernel) ?_
    refine V_put 2 B gp_RX12_38 0 rfl (Nat.le_of_ble_eq_true rfl) rfl rfl dX12_count_2 [(h0, oC 13 [.ref h1, .ref h2, .int 0, .ref h3, .ref h4, .int (nI k5), .int (nI k6), .int p7, .int p8, .int p9, .int (nI k10), .int p11, .long q12, .ref h5, .ref h6, .int (nI k15), .int (nI k16)]), (h1, aI Y 3640 f0), (h2, aZ Y 2 f1), (h3, aZ Y 80 f3), (h4, aB Y 1600 f4), (h5, aI Y 200 f13), (h6, aI Y 800 f14)] rfl ?_
    refine V_iload_n 5 B dX12_count_5 1 rfl ?_
    by_cases kk0 : s0 = 0
    ·
      refine V_eqi _ 0 kk0 ?_
      refine V_tableIn 6 B 64 dX12_count_6 (by decide +kernel) (by decide +kernel) (off := 58) (by decide +kernel) (by decide) ?_
      refine V_aload_n 64 B dX12_count_64 0 rfl ?_
      refine V_get 65 B gf_RX12_9 0 rfl rfl dX12_count_65 ?_
      refine V_iconst 68 B (v := 0) dX12_count_68 (by decide +kernel) ?_
      have x1 : (gN f0 0) ≤ 6 := gN_le HI (by omega) (show bd 0 = (0, ((6 : Nat) : Int)) by decide +kernel)
      refine V_iald 69 B (v := (nI (gN f0 0))) 1 rfl (vpin _ _ (by decide +kernel)) dX12_count_69 (by show f0 0 = _; exact gN_eq HI (by omega) (show bd 0 = (0, ((6 : Nat) : Int)) by decide +kernel)) ?_
      exact V_iret 70 B dX12_count_70 (mkW [] [0] [] [] [] []) trivial rfl
    ·
      by_cases kk2 : s0 = 1
      ·
        refine V_eqi _ 1 kk2 ?_
        refine V_tableIn 6 B 71 dX12_count_6 (by decide +kernel) (by decide +kernel) (off := 65) (by decide +kernel) (by decide) ?_
        refine V_aload_n 71 B dX12_count_71 0 rfl ?_
        refine V_get 72 B gf_RX12_9 0 rfl rfl dX12_count_72 ?_
        refine V_iconst 75 B (v := 4) dX12_count_75 (by decide +kernel) ?_
        have x3 : (gN f0 4) ≤ 4 := gN_le HI (by omega) (show bd 4 = (0, ((4 : Nat) : Int)) by decide +kernel)
        refine V_iald 76 B (v := (nI (gN f0 4))) 1 rfl (vpin _ _ (by decide +kernel)) dX12_count_76 (by show f0 4 = _; exact gN_eq HI (by omega) (show bd 4 = (0, ((4 : Nat) : Int)) by decide +kernel)) ?_
        exact V_iret 77 B dX12_count_77 (mkW [] [0] [] [] [] []) trivial rfl
      ·
        by_cases kk4 : s0 = 2
        ·
          refine V_eqi _ 2 kk4 ?_
          refine V_tableIn 6 B 78 dX12_count_6 (by decide +kernel) (by decide +kernel) (off := 72) (by decide +kernel) (by decide) ?_
          refine V_aload_n 78 B dX12_count_78 0 rfl ?_
          refine V_get 79 B gf_RX12_9 0 rfl rfl dX12_count_79 ?_
          refine V_iconst 82 B (v := 1) dX12_count_82 (by decide +kernel) ?_
          have x5 : (gN f0 1) ≤ 40 := gN_le HI (by omega) (show bd 1 = (0, ((40 : Nat) : Int)) by decide +kernel)
          refine V_iald 83 B (v := (nI (gN f0 1))) 1 rfl (vpin _ _ (by decide +kernel)) dX12_count_83 (by show f0 1 = _; exact gN_eq HI (by omega) (show bd 1 = (0, ((40 : Nat) : Int)) by decide +kernel)) ?_
          exact V_iret 84 B dX12_count_84 (mkW [] [0] [] [] [] []) trivial rfl
        ·
          by_cases kk6 : s0 = 3
          ·
            refine V_eqi _ 3 kk6 ?_
            refine V_tableIn 6 B 85 dX12_count_6 (by decide +kernel) (by decide +kernel) (off := 79) (by decide +kernel) (by decide) ?_
            refine V_aload_n 85 B dX12_count_85 0 rfl ?_
            refine V_get 86 B gf_RX12_9 0 rfl rfl dX12_count_86 ?_
            refine V_iconst 89 B (v := 3) dX12_count_89 (by decide +kernel) ?_
            have x7 : (gN f0 3) ≤ 80 := gN_le HI (by omega) (show bd 3 = (0, ((80 : Nat) : Int)) by decide +kernel)
            refine V_iald 90 B (v := (nI (gN f0 3))) 1 rfl (vpin _ _ (by decide +kernel)) dX12_count_90 (by show f0 3 = _; exact gN_eq HI (by omega) (show bd 3 = (0, ((80 : Nat) : Int)) by decide +kernel)) ?_
            exact V_iret 91 B dX12_count_91 (mkW [] [0] [] [] [] []) trivial rfl
          ·
            by_cases kk8 : s0 = 4
            ·
              refine V_eqi _ 4 kk8 ?_
              refine V_tableIn 6 B 92 dX12_count_6 (by decide +kernel) (by decide +kernel) (off := 86) (by decide +kernel) (by decide) ?_
              refine V_aload_n 92 B dX12_count_92 0 rfl ?_
              refine V_get 93 B gf_RX12_9 0 rfl rfl dX12_count_93 ?_
              refine V_iconst 96 B (v := 2) dX12_count_96 (by decide +kernel) ?_
              have x9 : (gN f0 2) ≤ 6 := gN_le HI (by omega) (show bd 2 = (0, ((6 : Nat) : Int)) by decide +kernel)
              refine V_iald 97 B (v := (nI (gN f0 2))) 1 rfl (vpin _ _ (by decide +kernel)) dX12_count_97 (by show f0 2 = _; exact gN_eq HI (by omega) (show bd 2 = (0, ((6 : Nat) : Int)) by decide +kernel)) ?_
              exact V_iret 98 B dX12_count_98 (mkW [] [0] [] [] [] []) trivial rfl
            ·
              by_cases kk10 : s0 = 5
              ·
                refine V_eqi _ 5 kk10 ?_
                refine V_tableIn 6 B 99 dX12_count_6 (by decide +kernel) (by decide +kernel) (off := 93) (by decide +kernel) (by decide) ?_
                refine V_aload_n 99 B dX12_count_99 0 rfl ?_
                refine V_get 100 B gf_RX12_9 0 rfl rfl dX12_count_100 ?_
                refine V_bipush 103 B (v := 8) dX12_count_103 (by decide +kernel) ?_
                have x11 : (gN f0 8) ≤ 3 := gN_le HI (by omega) (show bd 8 = (0, ((3 : Nat) : Int)) by decide +kernel)
                refine V_iald 105 B (v := (nI (gN f0 8))) 1 rfl (vpin _ _ (by decide +kernel)) dX12_count_105 (by show f0 8 = _; exact gN_eq HI (by omega) (show bd 8 = (0, ((3 : Nat) : Int)) by decide +kernel)) ?_
                exact V_iret 106 B dX12_count_106 (mkW [] [0] [] [] [] []) trivial rfl
              ·
                by_cases kk12 : s0 = 6
                ·
                  refine V_eqi _ 6 kk12 ?_
                  refine V_tableIn 6 B 107 dX12_count_6 (by decide +kernel) (by decide +kernel) (off := 101) (by decide +kernel) (by decide) ?_
                  refine V_aload_n 107 B dX12_count_107 0 rfl ?_
                  refine V_get 108 B gf_RX12_9 0 rfl rfl dX12_count_108 ?_
                  refine V_bipush 111 B (v := 9) dX12_count_111 (by decide +kernel) ?_
                  refine V_iald 113 B (v := f0 (9)) 1 rfl (vpin _ _ (by decide +kernel)) dX12_count_113 (by rfl) ?_
                  refine V_nmi (fun j13 e14 => ?_)
                  exact V_iret 114 B dX12_count_114 (mkW [] [0] [] [] [] []) trivial rfl
                ·
                  by_cases kk15 : s0 = 7
                  ·
                    refine V_eqi _ 7 kk15 ?_
                    refine V_tableIn 6 B 115 dX12_count_6 (by decide +kernel) (by decide +kernel) (off := 109) (by decide +kernel) (by decide) ?_
                    refine V_aload_n 115 B dX12_count_115 0 rfl ?_
                    refine V_get 116 B gf_RX12_9 0 rfl rfl dX12_count_116 ?_
                    refine V_bipush 119 B (v := 7) dX12_count_119 (by decide +kernel) ?_
                    have x16 : (gN f0 7) ≤ 8 := gN_le HI (by omega) (show bd 7 = (0, ((8 : Nat) : Int)) by decide +kernel)
                    refine V_iald 121 B (v := (nI (gN f0 7))) 1 rfl (vpin _ _ (by decide +kernel)) dX12_count_121 (by show f0 7 = _; exact gN_eq HI (by omega) (show bd 7 = (0, ((8 : Nat) : Int)) by decide +kernel)) ?_
                    exact V_iret 122 B dX12_count_122 (mkW [] [0] [] [] [] []) trivial rfl
                  ·
                    by_cases kk17 : s0 = 8
                    ·
                      refine V_eqi _ 8 kk17 ?_
                      refine V_tableIn 6 B 123 dX12_count_6 (by decide +kernel) (by decide +kernel) (off := 117) (by decide +kernel) (by decide) ?_
                      refine V_aload_n 123 B dX12_count_123 0 rfl ?_
                      refine V_get 124 B gf_RX12_9 0 rfl rfl dX12_count_124 ?_
                      refine V_bipush 127 B (v := 15) dX12_count_127 (by decide +kernel) ?_
                      have x18 : (gN f0 15) ≤ 10 := gN_le HI (by omega) (show bd 15 = (0, ((10 : Nat) : Int)) by decide +kernel)
                      refine V_iald 129 B (v := (nI (gN f0 15))) 1 rfl (vpin _ _ (by decide +kernel)) dX12_count_129 (by show f0 15 = _; exact gN_eq HI (by omega) (show bd 15 = (0, ((10 : Nat) : Int)) by decide +kernel)) ?_
                      exact V_iret 130 B dX12_count_130 (mkW [] [0] [] [] [] []) trivial rfl
                    ·
                      by_cases kk19 : s0 = 9
                      ·
                        refine V_eqi _ 9 kk19 ?_
                        refine V_tableIn 6 B 131 dX12_count_6 (by decide +kernel) (by decide +kernel) (off := 125) (by decide +kernel) (by decide) ?_
                        refine V_aload_n 131 B dX12_count_131 0 rfl ?_
                        refine V_get 132 B gf_RX12_9 0 rfl rfl dX12_count_132 ?_
                        refine V_iconst 135 B (v := 5) dX12_count_135 (by decide +kernel) ?_
                        refine V_iald 136 B (v := f0 (5)) 1 rfl (vpin _ _ (by decide +kernel)) dX12_count_136 (by rfl) ?_
                        refine V_nmi (fun j20 e21 => ?_)
                        exact V_iret 137 B dX12_count_137 (mkW [] [0] [] [] [] []) trivial rfl
                      ·
                        by_cases kk22 : s0 = 10
                        ·
                          refine V_eqi _ 10 kk22 ?_
                          refine V_tableIn 6 B 138 dX12_count_6 (by decide +kernel) (by decide +kernel) (off := 132) (by decide +kernel) (by decide) ?_
                          refine V_aload_n 138 B dX12_count_138 0 rfl ?_
                          refine V_get 139 B gf_RX12_9 0 rfl rfl dX12_count_139 ?_
                          refine V_sipush 142 B (v := 3624) dX12_count_142 (by decide +kernel) ?_
                          have x23 : (gN f0 3624) ≤ 4 := gN_le HI (by omega) (show bd 3624 = (0, ((4 : Nat) : Int)) by decide +kernel)
                          refine V_iald 145 B (v := (nI (gN f0 3624))) 1 rfl (vpin _ _ (by decide +kernel)) dX12_count_145 (by show f0 3624 = _; exact gN_eq HI (by omega) (show bd 3624 = (0, ((4 : Nat) : Int)) by decide +kernel)) ?_
                          exact V_iret 146 B dX12_count_146 (mkW [] [0] [] [] [] []) trivial rfl
                        ·
                          refine V_tableOut 6 B 147 dX12_count_6 (sw_out_0_10 kk0 kk2 kk4 kk6 kk8 kk10 kk12 kk15 kk17 kk19 kk22) (by decide) ?_
                          refine V_iconst 147 B (v := (-1)) dX12_count_147 (by decide +kernel) ?_
                          exact V_iret 148 B dX12_count_148 (mkW [] [0] [] [] [] []) trivial rfl)
theorem dX12_addMode_0 : decode cX12_addMode 0 = .ok (.aload_n 0, 1) := by decide +kernel
theorem dX12_addMode_1 : decode cX12_addMode 1 = .ok (.iconst 0, 1) := by decide +kernel
theorem dX12_addMode_2 : decode cX12_addMode 2 = .ok (.putfield 38, 3) := by decide +kernel
theorem dX12_addMode_5 : decode cX12_addMode 5 = .ok (.aload_n 0, 1) := by decide +kernel
theorem dX12_addMode_6 : decode cX12_addMode 6 = .ok (.aload_n 0, 1) := by decide +kernel
theorem dX12_addMode_7 : decode cX12_addMode 7 = .ok (.iload_n 1, 1) := by decide +kernel
theorem dX12_addMode_8 : decode cX12_addMode 8 = .ok (.invokevirtual 91, 3) := by decide +kernel
theorem glV_RX12_91 : GLV RX12 91 yX12_isMode RX12 cX12_isMode 2 (some .boolean) 1 := ⟨⟨(mT8 29 rfl rfl), (mT8 31 rfl rfl), (mTs 34 rfl rfl), (mT1 13 rfl rfl), (mT8 32 rfl rfl)⟩, by decide +kernel⟩
theorem dX12_addMode_11 : decode cX12_addMode 11 = .ok (.ifCond .ne 7, 3) := by decide +kernel
theorem dX12_addMode_14 : decode cX12_addMode 14 = .ok (.iconst 1, 1) := by decide +kernel
theorem dX12_addMode_15 : decode cX12_addMode 15 = .ok (.goto 4, 3) := by decide +kernel
theorem dX12_addMode_19 : decode cX12_addMode 19 = .ok (.iconst 1, 1) := by decide +kernel
theorem dX12_addMode_20 : decode cX12_addMode 20 = .ok (.invokevirtual 69, 3) := by decide +kernel
theorem dX12_addMode_23 : decode cX12_addMode 23 = .ok (.ifCond .eq 5, 3) := by decide +kernel
theorem dX12_addMode_26 : decode cX12_addMode 26 = .ok (.iconst 0, 1) := by decide +kernel
theorem dX12_addMode_27 : decode cX12_addMode 27 = .ok (.ireturn, 1) := by decide +kernel
theorem dX12_addMode_18 : decode cX12_addMode 18 = .ok (.iconst 0, 1) := by decide +kernel
theorem dX12_addMode_28 : decode cX12_addMode 28 = .ok (.aload_n 0, 1) := by decide +kernel
theorem dX12_addMode_29 : decode cX12_addMode 29 = .ok (.getfield 9, 3) := by decide +kernel
theorem dX12_addMode_32 : decode cX12_addMode 32 = .ok (.iconst 0, 1) := by decide +kernel
theorem dX12_addMode_33 : decode cX12_addMode 33 = .ok (.iaload, 1) := by decide +kernel
theorem dX12_addMode_34 : decode cX12_addMode 34 = .ok (.bipush 6, 2) := by decide +kernel
theorem dX12_addMode_36 : decode cX12_addMode 36 = .ok (.if_icmp .ne 6, 3) := by decide +kernel
theorem dX12_addMode_42 : decode cX12_addMode 42 = .ok (.aload_n 0, 1) := by decide +kernel
theorem dX12_addMode_43 : decode cX12_addMode 43 = .ok (.getfield 9, 3) := by decide +kernel
theorem dX12_addMode_46 : decode cX12_addMode 46 = .ok (.bipush 16, 2) := by decide +kernel
theorem dX12_addMode_48 : decode cX12_addMode 48 = .ok (.aload_n 0, 1) := by decide +kernel
theorem dX12_addMode_49 : decode cX12_addMode 49 = .ok (.getfield 9, 3) := by decide +kernel
theorem dX12_addMode_52 : decode cX12_addMode 52 = .ok (.iconst 0, 1) := by decide +kernel
theorem dX12_addMode_53 : decode cX12_addMode 53 = .ok (.iaload, 1) := by decide +kernel
theorem dX12_addMode_54 : decode cX12_addMode 54 = .ok (.iadd, 1) := by decide +kernel
theorem dX12_addMode_55 : decode cX12_addMode 55 = .ok (.iload_n 1, 1) := by decide +kernel
theorem dX12_addMode_56 : decode cX12_addMode 56 = .ok (.iastore, 1) := by decide +kernel
theorem rl6 : ∀ z0, z0 < 6 → bd (16 + z0) = (-1, (z0 : Int) - 1) := by decide +kernel
theorem dX12_addMode_57 : decode cX12_addMode 57 = .ok (.aload_n 0, 1) := by decide +kernel
theorem dX12_addMode_58 : decode cX12_addMode 58 = .ok (.getfield 9, 3) := by decide +kernel
theorem dX12_addMode_61 : decode cX12_addMode 61 = .ok (.iconst 0, 1) := by decide +kernel
theorem dX12_addMode_62 : decode cX12_addMode 62 = .ok (.dup2, 1) := by decide +kernel
theorem dX12_addMode_63 : decode cX12_addMode 63 = .ok (.iaload, 1) := by decide +kernel
theorem dX12_addMode_64 : decode cX12_addMode 64 = .ok (.iconst 1, 1) := by decide +kernel
theorem dX12_addMode_65 : decode cX12_addMode 65 = .ok (.iadd, 1) := by decide +kernel
theorem dX12_addMode_66 : decode cX12_addMode 66 = .ok (.iastore, 1) := by decide +kernel
theorem dX12_addMode_67 : decode cX12_addMode 67 = .ok (.aload_n 0, 1) := by decide +kernel
theorem dX12_addMode_68 : decode cX12_addMode 68 = .ok (.getfield 9, 3) := by decide +kernel
theorem dX12_addMode_71 : decode cX12_addMode 71 = .ok (.iconst 0, 1) := by decide +kernel
theorem dX12_addMode_72 : decode cX12_addMode 72 = .ok (.iaload, 1) := by decide +kernel
theorem dX12_addMode_73 : decode cX12_addMode 73 = .ok (.iconst 1, 1) := by decide +kernel
theorem dX12_addMode_74 : decode cX12_addMode 74 = .ok (.isub, 1) := by decide +kernel
theorem dX12_addMode_75 : decode cX12_addMode 75 = .ok (.ireturn, 1) := by decide +kernel
theorem dX12_addMode_39 : decode cX12_addMode 39 = .ok (.bipush (-2), 2) := by decide +kernel
theorem dX12_addMode_41 : decode cX12_addMode 41 = .ok (.ireturn, 1) := by decide +kernel
set_option maxRecDepth 100000 in
set_option maxHeartbeats 4000000 in
theorem rX12_addMode (l : Launch) (D : va_G) (Y : Nat → ClassId) (h0 : Nat) (h1 : Nat) (h2 : Nat) (h3 : Nat) (h4 : Nat) (h5 : Nat) (h6 : Nat) (p2 : Int32) (k5 : Nat) (k6 : Nat) (p7 : Int32) (p8 : Int32) (p9 : Int32) (k10 : Nat) (p11 : Int32) (q12 : Int64) (k15 : Nat) (k16 : Nat) (f0 : Nat → Int32) (f1 : Nat → Int32) (f3 : Nat → Int32) (f4 : Nat → Int32) (f13 : Nat → Int32) (f14 : Nat → Int32) (HI : INV f0) (HL : k5 ≤ 1600) (HP : PLV f13) (s0 : Int32)  (sz : Nat) : Met l yX12_addMode (WSm yX12_addMode cX12_addMode 2 (some .int)) (mkR 2 0 0 46) (PreC D Y [.ref h0, .int s0] [(h0, oC 13 [.ref h1, .ref h2, .int p2, .ref h3, .ref h4, .int (nI k5), .int (nI k6), .int p7, .int p8, .int p9, .int (nI k10), .int p11, .long q12, .ref h5, .ref h6, .int (nI k15), .int (nI k16)]), (h1, aI Y 3640 f0), (h2, aZ Y 2 f1), (h3, aZ Y 80 f3), (h4, aB Y 1600 f4), (h5, aI Y 200 f13), (h6, aI Y 800 f14)] sz) (QI D (fun (r : Int32) (u : WU) => INV (u.2.2.2.1 0)) (fun (u : WU) => [(h0, oC 13 [.ref h1, .ref h2, .int (u.2.1 0), .ref h3, .ref h4, .int (nI k5), .int (nI k6), .int p7, .int p8, .int p9, .int (nI k10), .int p11, .long q12, .ref h5, .ref h6, .int (nI k15), .int (nI k16)]), (h1, aI Y 3640 (u.2.2.2.1 0)), (h2, aZ Y 2 f1), (h3, aZ Y 80 f3), (h4, aB Y 1600 f4), (h5, aI Y 200 f13), (h6, aI Y 800 f14)]) (va_A [(h0, oC 13 [.ref h1, .ref h2, .int p2, .ref h3, .ref h4, .int (nI k5), .int (nI k6), .int p7, .int p8, .int p9, .int (nI k10), .int p11, .long q12, .ref h5, .ref h6, .int (nI k15), .int (nI k16)]), (h1, aI Y 3640 f0), (h2, aZ Y 2 f1), (h3, aZ Y 80 f3), (h4, aB Y 1600 f4), (h5, aI Y 200 f13), (h6, aI Y 800 f14)] sz)) 0 0 (va_A [(h0, oC 13 [.ref h1, .ref h2, .int p2, .ref h3, .ref h4, .int (nI k5), .int (nI k6), .int p7, .int p8, .int p9, .int (nI k10), .int p11, .long q12, .ref h5, .ref h6, .int (nI k15), .int (nI k16)]), (h1, aI Y 3640 f0), (h2, aZ Y 2 f1), (h3, aZ Y 80 f3), (h4, aB Y 1600 f4), (h5, aI Y 200 f13), (h6, aI Y 800 f14)] sz) :=
  met_of (by decide +kernel) (Nat.le_of_ble_eq_true rfl) (fun p e s m args below meth c B hin hsz => by
    have B : VB p s m args meth c D Y (va_A [(h0, oC 13 [.ref h1, .ref h2, .int p2, .ref h3, .ref h4, .int (nI k5), .int (nI k6), .int p7, .int p8, .int p9, .int (nI k10), .int p11, .long q12, .ref h5, .ref h6, .int (nI k15), .int (nI k16)]), (h1, aI Y 3640 f0), (h2, aZ Y 2 f1), (h3, aZ Y 80 f3), (h4, aB Y 1600 f4), (h5, aI Y 200 f13), (h6, aI Y 800 f14)] sz) cX12_addMode 2 RX12 (some .int) := B
    refine V_aload_n 0 B dX12_addMode_0 0 rfl ?_
    refine V_iconst 1 B (v := 0) dX12_addMode_1 (by decide +kernel) ?_
    refine V_put 2 B gp_RX12_38 0 rfl (Nat.le_of_ble_eq_true rfl) rfl rfl dX12_addMode_2 [(h0, oC 13 [.ref h1, .ref h2, .int 0, .ref h3, .ref h4, .int (nI k5), .int (nI k6), .int p7, .int p8, .int p9, .int (nI k10), .int p11, .long q12, .ref h5, .ref h6, .int (nI k15), .int (nI k16)]), (h1, aI Y 3640 f0), (h2, aZ Y 2 f1), (h3, aZ Y 80 f3), (h4, aB Y 1600 f4), (h5, aI Y 200 f13), (h6, aI Y 800 f14)] rfl ?_
    refine V_aload_n 5 B dX12_addMode_5 0 rfl ?_
    refine V_aload_n 6 B dX12_addMode_6 0 rfl ?_
    refine V_iload_n 7 B dX12_addMode_7 1 rfl ?_
    refine V_cvi 8 B (st := [.ref h0]) (As := [.int s0]) (fun sz => rX12_isMode l D Y h0 h1 h2 h3 h4 h5 h6 0 k5 k6 p7 p8 p9 k10 p11 q12 k15 k16 f0 f1 f3 f4 f13 f14 HI (by omega) HP s0 sz) glV_RX12_91 ⟨rfl, rfl⟩ ⟨(Nat.le_of_ble_eq_true rfl), (Nat.le_of_ble_eq_true rfl)⟩ ⟨(Nat.le_of_ble_eq_true rfl), (Nat.le_of_ble_eq_true rfl)⟩ [0, 0, 0, 0, 0, 0, 0] rfl 13 0 rfl rfl rfl rfl (Nat.le_of_ble_eq_true rfl) rfl (fun _ _ _ => rfl) dX12_addMode_8 (fun j0 u1 w2 => ?_)
    refine V_ws [(h0, oC 13 [.ref h1, .ref h2, .int 0, .ref h3, .ref h4, .int (nI k5), .int (nI k6), .int p7, .int p8, .int p9, .int (nI k10), .int p11, .long q12, .ref h5, .ref h6, .int (nI k15), .int (nI k16)]), (h1, aI Y 3640 f0), (h2, aZ Y 2 f1), (h3, aZ Y 80 f3), (h4, aB Y 1600 f4), (h5, aI Y 200 f13), (h6, aI Y 800 f14)] rfl ?_
    have x3 := w2
    have x7 : (gN f0 0) ≤ 6 := gN_le HI (by omega) (show bd 0 = (0, ((6 : Nat) : Int)) by decide +kernel)
    rcases x3 with rfl | ⟨rfl, n4, rfl, x6⟩
    ·
      refine V_if_ne_f 11 B 18 dX12_addMode_11 (by decide) (by decide +kernel) ?_
      refine V_iconst 14 B (v := 1) dX12_addMode_14 (by decide +kernel) ?_
      refine V_goto 15 B 19 dX12_addMode_15 (by decide) ?_
      refine V_iconst 19 B (v := 1) dX12_addMode_19 (by decide +kernel) ?_
      refine V_cvi 20 B (st := []) (As := [.int 1, .int 1]) (fun sz => rX12_throwsIf_1 l D Y h0 h1 h2 h3 h4 h5 h6 0 k5 k6 p7 p8 p9 k10 p11 q12 k15 k16 f0 f1 f3 f4 f13 f14 HI (by omega) HP 1 sz) glV_RX12_69 ⟨rfl, rfl⟩ ⟨(Nat.le_of_ble_eq_true rfl), (Nat.le_of_ble_eq_true rfl)⟩ ⟨(Nat.le_of_ble_eq_true rfl), (Nat.le_of_ble_eq_true rfl)⟩ [0, 0, 0, 0, 0, 0, 0] rfl 13 0 rfl rfl rfl rfl (Nat.le_of_ble_eq_true rfl) rfl (fun _ _ _ => rfl) dX12_addMode_20 (fun j8 u9 w10 => ?_)
      refine V_ws [(h0, oC 13 [.ref h1, .ref h2, .int (u9.2.1 0), .ref h3, .ref h4, .int (nI k5), .int (nI k6), .int p7, .int p8, .int p9, .int (nI k10), .int p11, .long q12, .ref h5, .ref h6, .int (nI k15), .int (nI k16)]), (h1, aI Y 3640 f0), (h2, aZ Y 2 f1), (h3, aZ Y 80 f3), (h4, aB Y 1600 f4), (h5, aI Y 200 f13), (h6, aI Y 800 f14)] rfl ?_
      have x11 := w10
      obtain rfl := x11
      refine V_if_eq_f 23 B 28 dX12_addMode_23 (by decide) (by decide +kernel) ?_
      refine V_iconst 26 B (v := 0) dX12_addMode_26 (by decide +kernel) ?_
      exact V_iret 27 B dX12_addMode_27 (mkW [] [(u9.2.1 0)] [] [f0] [] []) HI rfl
    ·
      have e12 := nI_toInt (show n4 < 2 ^ 31 by omega)
      have x13 : (gN f0 0) ≤ 6 := gN_le HI (by omega) (show bd 0 = (0, ((6 : Nat) : Int)) by decide +kernel)
      refine V_if_ne_t 11 B 18 dX12_addMode_11 (by decide) (by decide +kernel) ?_
      refine V_iconst 18 B (v := 0) dX12_addMode_18 (by decide +kernel) ?_
      refine V_iconst 19 B (v := 1) dX12_addMode_19 (by decide +kernel) ?_
      refine V_cvi 20 B (st := []) (As := [.int 0, .int 1]) (fun sz => rX12_throwsIf_0 l D Y h0 h1 h2 h3 h4 h5 h6 0 k5 k6 p7 p8 p9 k10 p11 q12 k15 k16 f0 f1 f3 f4 f13 f14 HI (by omega) HP 1 sz) glV_RX12_69 ⟨rfl, rfl⟩ ⟨(Nat.le_of_ble_eq_true rfl), (Nat.le_of_ble_eq_true rfl)⟩ ⟨(Nat.le_of_ble_eq_true rfl), (Nat.le_of_ble_eq_true rfl)⟩ [0, 0, 0, 0, 0, 0, 0] rfl 13 0 rfl rfl rfl rfl (Nat.le_of_ble_eq_true rfl) rfl (fun _ _ _ => rfl) dX12_addMode_20 (fun j14 u15 w16 => ?_)
      refine V_ws [(h0, oC 13 [.ref h1, .ref h2, .int (u15.2.1 0), .ref h3, .ref h4, .int (nI k5), .int (nI k6), .int p7, .int p8, .int p9, .int (nI k10), .int p11, .long q12, .ref h5, .ref h6, .int (nI k15), .int (nI k16)]), (h1, aI Y 3640 f0), (h2, aZ Y 2 f1), (h3, aZ Y 80 f3), (h4, aB Y 1600 f4), (h5, aI Y 200 f13), (h6, aI Y 800 f14)] rfl ?_
      have x17 := w16
      obtain rfl := x17
      refine V_if_eq_t 23 B 28 dX12_addMode_23 (by decide) (by decide +kernel) ?_
      refine V_aload_n 28 B dX12_addMode_28 0 rfl ?_
      refine V_get 29 B gf_RX12_9 0 rfl rfl dX12_addMode_29 ?_
      refine V_iconst 32 B (v := 0) dX12_addMode_32 (by decide +kernel) ?_
      have x18 : (gN f0 0) ≤ 6 := gN_le HI (by omega) (show bd 0 = (0, ((6 : Nat) : Int)) by decide +kernel)
      refine V_iald 33 B (v := (nI (gN f0 0))) 1 rfl (vpin _ _ (by decide +kernel)) dX12_addMode_33 (by show f0 0 = _; exact gN_eq HI (by omega) (show bd 0 = (0, ((6 : Nat) : Int)) by decide +kernel)) ?_
      refine V_bipush 34 B (v := 6) dX12_addMode_34 (by decide +kernel) ?_
      refine V_icmp_ne 36 B 42 dX12_addMode_36 (by decide) (fun kk19 => ?_) (fun kk19 => ?_)
      ·
        have x20 := n_ne (a := (gN f0 0)) (b := 6) kk19
        refine V_aload_n 42 B dX12_addMode_42 0 rfl ?_
        refine V_get 43 B gf_RX12_9 0 rfl rfl dX12_addMode_43 ?_
        refine V_bipush 46 B (v := 16) dX12_addMode_46 (by decide +kernel) ?_
        refine V_aload_n 48 B dX12_addMode_48 0 rfl ?_
        refine V_get 49 B gf_RX12_9 0 rfl rfl dX12_addMode_49 ?_
        refine V_iconst 52 B (v := 0) dX12_addMode_52 (by decide +kernel) ?_
        have x21 : (gN f0 0) ≤ 6 := gN_le HI (by omega) (show bd 0 = (0, ((6 : Nat) : Int)) by decide +kernel)
        refine V_iald 53 B (v := (nI (gN f0 0))) 1 rfl (vpin _ _ (by decide +kernel)) dX12_addMode_53 (by show f0 0 = _; exact gN_eq HI (by omega) (show bd 0 = (0, ((6 : Nat) : Int)) by decide +kernel)) ?_
        refine V_iadd 54 B (v := (nI (16 + (gN f0 0)))) dX12_addMode_54 (nI_addE (a := 16) (b := (gN f0 0)) (by omega)) ?_
        refine V_iload_n 55 B dX12_addMode_55 1 rfl ?_
        have hv22 : INV (upd f0 (16 + (gN f0 0)) (nI n4)) := INV_upd HI (rl6 (gN f0 0) (by omega)) (by rw [nI_toInt (by omega)]; omega) (by rw [nI_toInt (by omega)]; omega)
        refine V_iast 56 B 1 rfl (vp_in_nI (n := 16 + (gN f0 0)) (by omega) (by decide)) dX12_addMode_56 [(h0, oC 13 [.ref h1, .ref h2, .int (u15.2.1 0), .ref h3, .ref h4, .int (nI k5), .int (nI k6), .int p7, .int p8, .int p9, .int (nI k10), .int p11, .long q12, .ref h5, .ref h6, .int (nI k15), .int (nI k16)]), (h1, aI Y 3640 (upd f0 (16 + (gN f0 0)) (nI n4))), (h2, aZ Y 2 f1), (h3, aZ Y 80 f3), (h4, aB Y 1600 f4), (h5, aI Y 200 f13), (h6, aI Y 800 f14)] (by rw [nI_clamp (show 16 + (gN f0 0) < 2 ^ 31 by omega)]; rfl) ?_
        refine V_aload_n 57 B dX12_addMode_57 0 rfl ?_
        refine V_get 58 B gf_RX12_9 0 rfl rfl dX12_addMode_58 ?_
        refine V_iconst 61 B (v := 0) dX12_addMode_61 (by decide +kernel) ?_
        refine V_dup2_11 62 B dX12_addMode_62 rfl rfl ?_
        have x23 : (gN f0 0) ≤ 6 := gN_le HI (by omega) (show bd 0 = (0, ((6 : Nat) : Int)) by decide +kernel)
        refine V_iald 63 B (v := (nI (gN f0 0))) 1 rfl (vpin _ _ (by decide +kernel)) dX12_addMode_63 (by show (upd f0 (16 + (gN f0 0)) (nI n4)) 0 = _; rw [upd_ne (by omega)]; exact gN_eq HI (by omega) (show bd 0 = (0, ((6 : Nat) : Int)) by decide +kernel)) ?_
        refine V_iconst 64 B (v := 1) dX12_addMode_64 (by decide +kernel) ?_
        refine V_iadd 65 B (v := (nI (1 + (gN f0 0)))) dX12_addMode_65 (nI_addE (a := (gN f0 0)) (b := 1) (by omega)) ?_
        have hv24 : INV (upd (upd f0 (16 + (gN f0 0)) (nI n4)) 0 (nI (1 + (gN f0 0)))) := INV_nat (v := 1 + (gN f0 0)) hv22 (show bd 0 = (0, ((6 : Nat) : Int)) by decide +kernel) (by omega) (by decide)
        refine V_iast 66 B 1 rfl (vpin _ _ (by decide +kernel)) dX12_addMode_66 [(h0, oC 13 [.ref h1, .ref h2, .int (u15.2.1 0), .ref h3, .ref h4, .int (nI k5), .int (nI k6), .int p7, .int p8, .int p9, .int (nI k10), .int p11, .long q12, .ref h5, .ref h6, .int (nI k15), .int (nI k16)]), (h1, aI Y 3640 (upd (upd f0 (16 + (gN f0 0)) (nI n4)) 0 (nI (1 + (gN f0 0))))), (h2, aZ Y 2 f1), (h3, aZ Y 80 f3), (h4, aB Y 1600 f4), (h5, aI Y 200 f13), (h6, aI Y 800 f14)] rfl ?_
        refine V_aload_n 67 B dX12_addMode_67 0 rfl ?_
        refine V_get 68 B gf_RX12_9 0 rfl rfl dX12_addMode_68 ?_
        refine V_iconst 71 B (v := 0) dX12_addMode_71 (by decide +kernel) ?_
        refine V_iald 72 B (v := (nI (1 + (gN f0 0)))) 1 rfl (vpin _ _ (by decide +kernel)) dX12_addMode_72 (by show (upd (upd f0 (16 + (gN f0 0)) (nI n4)) 0 (nI (1 + (gN f0 0)))) 0 = _; exact upd_at) ?_
        refine V_iconst 73 B (v := 1) dX12_addMode_73 (by decide +kernel) ?_
        refine V_isub 74 B (v := (nI (gN f0 0))) dX12_addMode_74 (nI_subE (a := 1 + (gN f0 0)) (b := 1) (by omega)) ?_
        exact V_iret 75 B dX12_addMode_75 (mkW [] [(u15.2.1 0)] [] [(upd (upd f0 (16 + (gN f0 0)) (nI n4)) 0 (nI (1 + (gN f0 0))))] [] []) hv24 rfl
      ·
        have x25 := n_eq (a := (gN f0 0)) (b := 6) kk19 (by omega) (by omega)
        refine V_bipush 39 B (v := (-2)) dX12_addMode_39 (by decide +kernel) ?_
        exact V_iret 41 B dX12_addMode_41 (mkW [] [(u15.2.1 0)] [] [f0] [] []) HI rfl)
theorem dX12_parentOf_0 : decode cX12_parentOf 0 = .ok (.aload_n 0, 1) := by decide +kernel
theorem dX12_parentOf_1 : decode cX12_parentOf 1 = .ok (.iconst 0, 1) := by decide +kernel
theorem dX12_parentOf_2 : decode cX12_parentOf 2 = .ok (.putfield 38, 3) := by decide +kernel
theorem dX12_parentOf_5 : decode cX12_parentOf 5 = .ok (.aload_n 0, 1) := by decide +kernel
theorem dX12_parentOf_6 : decode cX12_parentOf 6 = .ok (.aload_n 0, 1) := by decide +kernel
theorem dX12_parentOf_7 : decode cX12_parentOf 7 = .ok (.iload_n 1, 1) := by decide +kernel
theorem dX12_parentOf_8 : decode cX12_parentOf 8 = .ok (.invokevirtual 91, 3) := by decide +kernel
theorem dX12_parentOf_11 : decode cX12_parentOf 11 = .ok (.ifCond .ne 7, 3) := by decide +kernel
theorem dX12_parentOf_14 : decode cX12_parentOf 14 = .ok (.iconst 1, 1) := by decide +kernel
theorem dX12_parentOf_15 : decode cX12_parentOf 15 = .ok (.goto 4, 3) := by decide +kernel
theorem dX12_parentOf_19 : decode cX12_parentOf 19 = .ok (.iconst 1, 1) := by decide +kernel
theorem dX12_parentOf_20 : decode cX12_parentOf 20 = .ok (.invokevirtual 69, 3) := by decide +kernel
theorem dX12_parentOf_23 : decode cX12_parentOf 23 = .ok (.ifCond .eq 7, 3) := by decide +kernel
theorem dX12_parentOf_26 : decode cX12_parentOf 26 = .ok (.iconst 0, 1) := by decide +kernel
theorem dX12_parentOf_27 : decode cX12_parentOf 27 = .ok (.goto 12, 3) := by decide +kernel
theorem dX12_parentOf_39 : decode cX12_parentOf 39 = .ok (.ireturn, 1) := by decide +kernel
theorem dX12_parentOf_18 : decode cX12_parentOf 18 = .ok (.iconst 0, 1) := by decide +kernel
theorem dX12_parentOf_30 : decode cX12_parentOf 30 = .ok (.aload_n 0, 1) := by decide +kernel
theorem dX12_parentOf_31 : decode cX12_parentOf 31 = .ok (.getfield 9, 3) := by decide +kernel
theorem dX12_parentOf_34 : decode cX12_parentOf 34 = .ok (.bipush 16, 2) := by decide +kernel
theorem dX12_parentOf_36 : decode cX12_parentOf 36 = .ok (.iload_n 1, 1) := by decide +kernel
theorem dX12_parentOf_37 : decode cX12_parentOf 37 = .ok (.iadd, 1) := by decide +kernel
theorem dX12_parentOf_38 : decode cX12_parentOf 38 = .ok (.iaload, 1) := by decide +kernel
set_option maxRecDepth 100000 in
set_option maxHeartbeats 4000000 in
theorem rX12_parentOf (l : Launch) (D : va_G) (Y : Nat → ClassId) (h0 : Nat) (h1 : Nat) (h2 : Nat) (h3 : Nat) (h4 : Nat) (h5 : Nat) (h6 : Nat) (p2 : Int32) (k5 : Nat) (k6 : Nat) (p7 : Int32) (p8 : Int32) (p9 : Int32) (k10 : Nat) (p11 : Int32) (q12 : Int64) (k15 : Nat) (k16 : Nat) (f0 : Nat → Int32) (f1 : Nat → Int32) (f3 : Nat → Int32) (f4 : Nat → Int32) (f13 : Nat → Int32) (f14 : Nat → Int32) (HI : INV f0) (HL : k5 ≤ 1600) (HP : PLV f13) (s0 : Int32)  (sz : Nat) : Met l yX12_parentOf (WSm yX12_parentOf cX12_parentOf 2 (some .int)) (mkR 2 0 0 46) (PreC D Y [.ref h0, .int s0] [(h0, oC 13 [.ref h1, .ref h2, .int p2, .ref h3, .ref h4, .int (nI k5), .int (nI k6), .int p7, .int p8, .int p9, .int (nI k10), .int p11, .long q12, .ref h5, .ref h6, .int (nI k15), .int (nI k16)]), (h1, aI Y 3640 f0), (h2, aZ Y 2 f1), (h3, aZ Y 80 f3), (h4, aB Y 1600 f4), (h5, aI Y 200 f13), (h6, aI Y 800 f14)] sz) (QI D (fun (r : Int32) (u : WU) => True) (fun (u : WU) => [(h0, oC 13 [.ref h1, .ref h2, .int (u.2.1 0), .ref h3, .ref h4, .int (nI k5), .int (nI k6), .int p7, .int p8, .int p9, .int (nI k10), .int p11, .long q12, .ref h5, .ref h6, .int (nI k15), .int (nI k16)]), (h1, aI Y 3640 f0), (h2, aZ Y 2 f1), (h3, aZ Y 80 f3), (h4, aB Y 1600 f4), (h5, aI Y 200 f13), (h6, aI Y 800 f14)]) (va_A [(h0, oC 13 [.ref h1, .ref h2, .int p2, .ref h3, .ref h4, .int (nI k5), .int (nI k6), .int p7, .int p8, .int p9, .int (nI k10), .int p11, .long q12, .ref h5, .ref h6, .int (nI k15), .int (nI k16)]), (h1, aI Y 3640 f0), (h2, aZ Y 2 f1), (h3, aZ Y 80 f3), (h4, aB Y 1600 f4), (h5, aI Y 200 f13), (h6, aI Y 800 f14)] sz)) 0 0 (va_A [(h0, oC 13 [.ref h1, .ref h2, .int p2, .ref h3, .ref h4, .int (nI k5), .int (nI k6), .int p7, .int p8, .int p9, .int (nI k10), .int p11, .long q12, .ref h5, .ref h6, .int (nI k15), .int (nI k16)]), (h1, aI Y 3640 f0), (h2, aZ Y 2 f1), (h3, aZ Y 80 f3), (h4, aB Y 1600 f4), (h5, aI Y 200 f13), (h6, aI Y 800 f14)] sz) :=
  met_of (by decide +kernel) (Nat.le_of_ble_eq_true rfl) (fun p e s m args below meth c B hin hsz => by
    have B : VB p s m args meth c D Y (va_A [(h0, oC 13 [.ref h1, .ref h2, .int p2, .ref h3, .ref h4, .int (nI k5), .int (nI k6), .int p7, .int p8, .int p9, .int (nI k10), .int p11, .long q12, .ref h5, .ref h6, .int (nI k15), .int (nI k16)]), (h1, aI Y 3640 f0), (h2, aZ Y 2 f1), (h3, aZ Y 80 f3), (h4, aB Y 1600 f4), (h5, aI Y 200 f13), (h6, aI Y 800 f14)] sz) cX12_parentOf 2 RX12 (some .int) := B
    refine V_aload_n 0 B dX12_parentOf_0 0 rfl ?_
    refine V_iconst 1 B (v := 0) dX12_parentOf_1 (by decide +kernel) ?_
    refine V_put 2 B gp_RX12_38 0 rfl (Nat.le_of_ble_eq_true rfl) rfl rfl dX12_parentOf_2 [(h0, oC 13 [.ref h1, .ref h2, .int 0, .ref h3, .ref h4, .int (nI k5), .int (nI k6), .int p7, .int p8, .int p9, .int (nI k10), .int p11, .long q12, .ref h5, .ref h6, .int (nI k15), .int (nI k16)]), (h1, aI Y 3640 f0), (h2, aZ Y 2 f1), (h3, aZ Y 80 f3), (h4, aB Y 1600 f4), (h5, aI Y 200 f13), (h6, aI Y 800 f14)] rfl ?_
    refine V_aload_n 5 B dX12_parentOf_5 0 rfl ?_
    refine V_aload_n 6 B dX12_parentOf_6 0 rfl ?_
    refine V_iload_n 7 B dX12_parentOf_7 1 rfl ?_
    refine V_cvi 8 B (st := [.ref h0]) (As := [.int s0]) (fun sz => rX12_isMode l D Y h0 h1 h2 h3 h4 h5 h6 0 k5 k6 p7 p8 p9 k10 p11 q12 k15 k16 f0 f1 f3 f4 f13 f14 HI (by omega) HP s0 sz) glV_RX12_91 ⟨rfl, rfl⟩ ⟨(Nat.le_of_ble_eq_true rfl), (Nat.le_of_ble_eq_true rfl)⟩ ⟨(Nat.le_of_ble_eq_true rfl), (Nat.le_of_ble_eq_true rfl)⟩ [0, 0, 0, 0, 0, 0, 0] rfl 13 0 rfl rfl rfl rfl (Nat.le_of_ble_eq_true rfl) rfl (fun _ _ _ => rfl) dX12_parentOf_8 (fun j0 u1 w2 => ?_)
    refine V_ws [(h0, oC 13 [.ref h1, .ref h2, .int 0, .ref h3, .ref h4, .int (nI k5), .int (nI k6), .int p7, .int p8, .int p9, .int (nI k10), .int p11, .long q12, .ref h5, .ref h6, .int (nI k15), .int (nI k16)]), (h1, aI Y 3640 f0), (h2, aZ Y 2 f1), (h3, aZ Y 80 f3), (h4, aB Y 1600 f4), (h5, aI Y 200 f13), (h6, aI Y 800 f14)] rfl ?_
    have x3 := w2
    have x7 : (gN f0 0) ≤ 6 := gN_le HI (by omega) (show bd 0 = (0, ((6 : Nat) : Int)) by decide +kernel)
    rcases x3 with rfl | ⟨rfl, n4, rfl, x6⟩
    ·
      refine V_if_ne_f 11 B 18 dX12_parentOf_11 (by decide) (by decide +kernel) ?_
      refine V_iconst 14 B (v := 1) dX12_parentOf_14 (by decide +kernel) ?_
      refine V_goto 15 B 19 dX12_parentOf_15 (by decide) ?_
      refine V_iconst 19 B (v := 1) dX12_parentOf_19 (by decide +kernel) ?_
      refine V_cvi 20 B (st := []) (As := [.int 1, .int 1]) (fun sz => rX12_throwsIf_1 l D Y h0 h1 h2 h3 h4 h5 h6 0 k5 k6 p7 p8 p9 k10 p11 q12 k15 k16 f0 f1 f3 f4 f13 f14 HI (by omega) HP 1 sz) glV_RX12_69 ⟨rfl, rfl⟩ ⟨(Nat.le_of_ble_eq_true rfl), (Nat.le_of_ble_eq_true rfl)⟩ ⟨(Nat.le_of_ble_eq_true rfl), (Nat.le_of_ble_eq_true rfl)⟩ [0, 0, 0, 0, 0, 0, 0] rfl 13 0 rfl rfl rfl rfl (Nat.le_of_ble_eq_true rfl) rfl (fun _ _ _ => rfl) dX12_parentOf_20 (fun j8 u9 w10 => ?_)
      refine V_ws [(h0, oC 13 [.ref h1, .ref h2, .int (u9.2.1 0), .ref h3, .ref h4, .int (nI k5), .int (nI k6), .int p7, .int p8, .int p9, .int (nI k10), .int p11, .long q12, .ref h5, .ref h6, .int (nI k15), .int (nI k16)]), (h1, aI Y 3640 f0), (h2, aZ Y 2 f1), (h3, aZ Y 80 f3), (h4, aB Y 1600 f4), (h5, aI Y 200 f13), (h6, aI Y 800 f14)] rfl ?_
      have x11 := w10
      obtain rfl := x11
      refine V_if_eq_f 23 B 30 dX12_parentOf_23 (by decide) (by decide +kernel) ?_
      refine V_iconst 26 B (v := 0) dX12_parentOf_26 (by decide +kernel) ?_
      refine V_goto 27 B 39 dX12_parentOf_27 (by decide) ?_
      exact V_iret 39 B dX12_parentOf_39 (mkW [] [(u9.2.1 0)] [] [] [] []) trivial rfl
    ·
      have e12 := nI_toInt (show n4 < 2 ^ 31 by omega)
      have x13 : (gN f0 0) ≤ 6 := gN_le HI (by omega) (show bd 0 = (0, ((6 : Nat) : Int)) by decide +kernel)
      refine V_if_ne_t 11 B 18 dX12_parentOf_11 (by decide) (by decide +kernel) ?_
      refine V_iconst 18 B (v := 0) dX12_parentOf_18 (by decide +kernel) ?_
      refine V_iconst 19 B (v := 1) dX12_parentOf_19 (by decide +kernel) ?_
      refine V_cvi 20 B (st := []) (As := [.int 0, .int 1]) (fun sz => rX12_throwsIf_0 l D Y h0 h1 h2 h3 h4 h5 h6 0 k5 k6 p7 p8 p9 k10 p11 q12 k15 k16 f0 f1 f3 f4 f13 f14 HI (by omega) HP 1 sz) glV_RX12_69 ⟨rfl, rfl⟩ ⟨(Nat.le_of_ble_eq_true rfl), (Nat.le_of_ble_eq_true rfl)⟩ ⟨(Nat.le_of_ble_eq_true rfl), (Nat.le_of_ble_eq_true rfl)⟩ [0, 0, 0, 0, 0, 0, 0] rfl 13 0 rfl rfl rfl rfl (Nat.le_of_ble_eq_true rfl) rfl (fun _ _ _ => rfl) dX12_parentOf_20 (fun j14 u15 w16 => ?_)
      refine V_ws [(h0, oC 13 [.ref h1, .ref h2, .int (u15.2.1 0), .ref h3, .ref h4, .int (nI k5), .int (nI k6), .int p7, .int p8, .int p9, .int (nI k10), .int p11, .long q12, .ref h5, .ref h6, .int (nI k15), .int (nI k16)]), (h1, aI Y 3640 f0), (h2, aZ Y 2 f1), (h3, aZ Y 80 f3), (h4, aB Y 1600 f4), (h5, aI Y 200 f13), (h6, aI Y 800 f14)] rfl ?_
      have x17 := w16
      obtain rfl := x17
      refine V_if_eq_t 23 B 30 dX12_parentOf_23 (by decide) (by decide +kernel) ?_
      refine V_aload_n 30 B dX12_parentOf_30 0 rfl ?_
      refine V_get 31 B gf_RX12_9 0 rfl rfl dX12_parentOf_31 ?_
      refine V_bipush 34 B (v := 16) dX12_parentOf_34 (by decide +kernel) ?_
      refine V_iload_n 36 B dX12_parentOf_36 1 rfl ?_
      refine V_iadd 37 B (v := (nI (16 + n4))) dX12_parentOf_37 (nI_addE (a := 16) (b := n4) (by omega)) ?_
      refine V_iald 38 B (v := f0 (16 + n4)) 1 rfl (vp_in_nI (n := 16 + n4) (by omega) (by decide)) dX12_parentOf_38 (by rw [nI_clamp (show 16 + n4 < 2 ^ 31 by omega)]) ?_
      refine V_nmi (fun j18 e19 => ?_)
      have x20 : (-1) ≤ j18.toInt ∧ j18.toInt ≤ (((n4 : Nat) : Int) - 1) := by rw [e19]; exact ⟨INV_lo HI (by omega) (rl6 n4 (by omega)), INV_hi HI (by omega) (rl6 n4 (by omega))⟩
      exact V_iret 39 B dX12_parentOf_39 (mkW [] [(u15.2.1 0)] [] [] [] []) trivial rfl)
